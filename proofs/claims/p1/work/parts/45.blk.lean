/-! 196: StrikeWhatCancels$Net.<init>()V -/
set_option maxRecDepth 100000 in
theorem b196_0 {d : Nat} {w : vW} {x0 : Int} {Q : Int → vW → Prop} : VW d 196 0 [(2, x0)] [] w Q ↔ (vkd w x0 ≠ 0) ∧ VW d 196 10 [(2, x0)] [(2, vnt w), (2, x0)] (vnw w 2 3000 (fun _ => 0) (3000 : Int).toNat) Q :=
  (VW_b 5 (F := fun n => if vkd w x0 ≠ 0 then vrun n d 196 10 [(2, x0)] [(2, vnt w), (2, x0)] (vnw w 2 3000 (fun _ => 0) (3000 : Int).toNat) else none) (fun _ => rfl)).trans (EX_if.trans (and_congr Iff.rfl (Iff.rfl)))
set_option maxRecDepth 100000 in
theorem b196_10 {d : Nat} {w : vW} {x0 y0 y1 : Int} {Q : Int → vW → Prop} : VW d 196 10 [(2, x0)] [(2, y1), (2, y0)] w Q ↔ (vkd w y0 = 15) ∧ VW d 196 13 [(2, x0)] [] (vsv w y0 0 y1) Q :=
  (VW_b 1 (F := fun n => if vkd w y0 = 15 then vrun n d 196 13 [(2, x0)] [] (vsv w y0 0 y1) else none) (fun _ => rfl)).trans (EX_if.trans (and_congr Iff.rfl (Iff.rfl)))
set_option maxRecDepth 100000 in
theorem b196_13 {d : Nat} {w : vW} {x0 : Int} {Q : Int → vW → Prop} : VW d 196 13 [(2, x0)] [] w Q ↔ VW d 196 19 [(2, x0)] [(2, vnt w), (2, x0)] (vnw w 1 3000 (fun _ => 0) (3000 : Int).toNat) Q :=
  (VW_b 3 (F := fun n => vrun n d 196 19 [(2, x0)] [(2, vnt w), (2, x0)] (vnw w 1 3000 (fun _ => 0) (3000 : Int).toNat)) (fun _ => rfl)).trans (Iff.rfl)
set_option maxRecDepth 100000 in
theorem b196_19 {d : Nat} {w : vW} {x0 y0 y1 : Int} {Q : Int → vW → Prop} : VW d 196 19 [(2, x0)] [(2, y1), (2, y0)] w Q ↔ (vkd w y0 = 15) ∧ VW d 196 22 [(2, x0)] [] (vsv w y0 1 y1) Q :=
  (VW_b 1 (F := fun n => if vkd w y0 = 15 then vrun n d 196 22 [(2, x0)] [] (vsv w y0 1 y1) else none) (fun _ => rfl)).trans (EX_if.trans (and_congr Iff.rfl (Iff.rfl)))
set_option maxRecDepth 100000 in
theorem b196_22 {d : Nat} {w : vW} {x0 : Int} {Q : Int → vW → Prop} : VW d 196 22 [(2, x0)] [] w Q ↔ VW d 196 28 [(2, x0)] [(2, vnt w), (2, x0)] (vnw w 1 3000 (fun _ => 0) (3000 : Int).toNat) Q :=
  (VW_b 3 (F := fun n => vrun n d 196 28 [(2, x0)] [(2, vnt w), (2, x0)] (vnw w 1 3000 (fun _ => 0) (3000 : Int).toNat)) (fun _ => rfl)).trans (Iff.rfl)
set_option maxRecDepth 100000 in
theorem b196_28 {d : Nat} {w : vW} {x0 y0 y1 : Int} {Q : Int → vW → Prop} : VW d 196 28 [(2, x0)] [(2, y1), (2, y0)] w Q ↔ (vkd w y0 = 15) ∧ VW d 196 31 [(2, x0)] [] (vsv w y0 2 y1) Q :=
  (VW_b 1 (F := fun n => if vkd w y0 = 15 then vrun n d 196 31 [(2, x0)] [] (vsv w y0 2 y1) else none) (fun _ => rfl)).trans (EX_if.trans (and_congr Iff.rfl (Iff.rfl)))
set_option maxRecDepth 100000 in
theorem b196_31 {d : Nat} {w : vW} {x0 : Int} {Q : Int → vW → Prop} : VW d 196 31 [(2, x0)] [] w Q ↔ VW d 196 37 [(2, x0)] [(2, vnt w), (2, x0)] (vnw w 1 3000 (fun _ => 0) (3000 : Int).toNat) Q :=
  (VW_b 3 (F := fun n => vrun n d 196 37 [(2, x0)] [(2, vnt w), (2, x0)] (vnw w 1 3000 (fun _ => 0) (3000 : Int).toNat)) (fun _ => rfl)).trans (Iff.rfl)
set_option maxRecDepth 100000 in
theorem b196_37 {d : Nat} {w : vW} {x0 y0 y1 : Int} {Q : Int → vW → Prop} : VW d 196 37 [(2, x0)] [(2, y1), (2, y0)] w Q ↔ (vkd w y0 = 15) ∧ VW d 196 40 [(2, x0)] [] (vsv w y0 3 y1) Q :=
  (VW_b 1 (F := fun n => if vkd w y0 = 15 then vrun n d 196 40 [(2, x0)] [] (vsv w y0 3 y1) else none) (fun _ => rfl)).trans (EX_if.trans (and_congr Iff.rfl (Iff.rfl)))
set_option maxRecDepth 100000 in
theorem b196_40 {d : Nat} {w : vW} {x0 : Int} {Q : Int → vW → Prop} : VW d 196 40 [(2, x0)] [] w Q ↔ VW d 196 46 [(2, x0)] [(2, vnt w), (2, x0)] (vnw w 3 3000 (fun _ => 0) (3000 : Int).toNat) Q :=
  (VW_b 3 (F := fun n => vrun n d 196 46 [(2, x0)] [(2, vnt w), (2, x0)] (vnw w 3 3000 (fun _ => 0) (3000 : Int).toNat)) (fun _ => rfl)).trans (Iff.rfl)
set_option maxRecDepth 100000 in
theorem b196_46 {d : Nat} {w : vW} {x0 y0 y1 : Int} {Q : Int → vW → Prop} : VW d 196 46 [(2, x0)] [(2, y1), (2, y0)] w Q ↔ (vkd w y0 = 15) ∧ VW d 196 49 [(2, x0)] [] (vsv w y0 4 y1) Q :=
  (VW_b 1 (F := fun n => if vkd w y0 = 15 then vrun n d 196 49 [(2, x0)] [] (vsv w y0 4 y1) else none) (fun _ => rfl)).trans (EX_if.trans (and_congr Iff.rfl (Iff.rfl)))
set_option maxRecDepth 100000 in
theorem b196_49 {d : Nat} {w : vW} {x0 : Int} {Q : Int → vW → Prop} : VW d 196 49 [(2, x0)] [] w Q ↔ VW d 196 55 [(2, x0)] [(2, vnt w), (2, x0)] (vnw w 2 3000 (fun _ => 0) (3000 : Int).toNat) Q :=
  (VW_b 3 (F := fun n => vrun n d 196 55 [(2, x0)] [(2, vnt w), (2, x0)] (vnw w 2 3000 (fun _ => 0) (3000 : Int).toNat)) (fun _ => rfl)).trans (Iff.rfl)
set_option maxRecDepth 100000 in
theorem b196_55 {d : Nat} {w : vW} {x0 y0 y1 : Int} {Q : Int → vW → Prop} : VW d 196 55 [(2, x0)] [(2, y1), (2, y0)] w Q ↔ (vkd w y0 = 15) ∧ VW d 196 58 [(2, x0)] [] (vsv w y0 5 y1) Q :=
  (VW_b 1 (F := fun n => if vkd w y0 = 15 then vrun n d 196 58 [(2, x0)] [] (vsv w y0 5 y1) else none) (fun _ => rfl)).trans (EX_if.trans (and_congr Iff.rfl (Iff.rfl)))
set_option maxRecDepth 100000 in
theorem b196_58 {d : Nat} {w : vW} {x0 : Int} {Q : Int → vW → Prop} : VW d 196 58 [(2, x0)] [] w Q ↔ VW d 196 64 [(2, x0)] [(2, vnt w), (2, x0)] (vnw w 2 3000 (fun _ => 0) (3000 : Int).toNat) Q :=
  (VW_b 3 (F := fun n => vrun n d 196 64 [(2, x0)] [(2, vnt w), (2, x0)] (vnw w 2 3000 (fun _ => 0) (3000 : Int).toNat)) (fun _ => rfl)).trans (Iff.rfl)
set_option maxRecDepth 100000 in
theorem b196_64 {d : Nat} {w : vW} {x0 y0 y1 : Int} {Q : Int → vW → Prop} : VW d 196 64 [(2, x0)] [(2, y1), (2, y0)] w Q ↔ (vkd w y0 = 15) ∧ VW d 196 67 [(2, x0)] [] (vsv w y0 6 y1) Q :=
  (VW_b 1 (F := fun n => if vkd w y0 = 15 then vrun n d 196 67 [(2, x0)] [] (vsv w y0 6 y1) else none) (fun _ => rfl)).trans (EX_if.trans (and_congr Iff.rfl (Iff.rfl)))
set_option maxRecDepth 100000 in
theorem b196_67 {d : Nat} {w : vW} {x0 : Int} {Q : Int → vW → Prop} : VW d 196 67 [(2, x0)] [] w Q ↔ VW d 196 73 [(2, x0)] [(2, vnt w), (2, x0)] (vnw w 1 8192 (fun _ => 0) (8192 : Int).toNat) Q :=
  (VW_b 3 (F := fun n => vrun n d 196 73 [(2, x0)] [(2, vnt w), (2, x0)] (vnw w 1 8192 (fun _ => 0) (8192 : Int).toNat)) (fun _ => rfl)).trans (Iff.rfl)
set_option maxRecDepth 100000 in
theorem b196_73 {d : Nat} {w : vW} {x0 y0 y1 : Int} {Q : Int → vW → Prop} : VW d 196 73 [(2, x0)] [(2, y1), (2, y0)] w Q ↔ (vkd w y0 = 15) ∧ VW d 196 76 [(2, x0)] [] (vsv w y0 7 y1) Q :=
  (VW_b 1 (F := fun n => if vkd w y0 = 15 then vrun n d 196 76 [(2, x0)] [] (vsv w y0 7 y1) else none) (fun _ => rfl)).trans (EX_if.trans (and_congr Iff.rfl (Iff.rfl)))
set_option maxRecDepth 100000 in
theorem b196_76 {d : Nat} {w : vW} {x0 : Int} {Q : Int → vW → Prop} : VW d 196 76 [(2, x0)] [] w Q ↔ (vkd w x0 = 15) ∧ VW d 196 81 [(2, x0)] [] (vsv w x0 8 1) Q :=
  (VW_b 3 (F := fun n => if vkd w x0 = 15 then vrun n d 196 81 [(2, x0)] [] (vsv w x0 8 1) else none) (fun _ => rfl)).trans (EX_if.trans (and_congr Iff.rfl (Iff.rfl)))
set_option maxRecDepth 100000 in
theorem b196_81 {d : Nat} {w : vW} {x0 : Int} {Q : Int → vW → Prop} : VW d 196 81 [(2, x0)] [] w Q ↔ VW d 196 87 [(2, x0)] [(2, vnt w), (2, x0)] (vnw w 2 256 (fun _ => 0) (256 : Int).toNat) Q :=
  (VW_b 3 (F := fun n => vrun n d 196 87 [(2, x0)] [(2, vnt w), (2, x0)] (vnw w 2 256 (fun _ => 0) (256 : Int).toNat)) (fun _ => rfl)).trans (Iff.rfl)
set_option maxRecDepth 100000 in
theorem b196_87 {d : Nat} {w : vW} {x0 y0 y1 : Int} {Q : Int → vW → Prop} : VW d 196 87 [(2, x0)] [(2, y1), (2, y0)] w Q ↔ (vkd w y0 = 15) ∧ VW d 196 90 [(2, x0)] [] (vsv w y0 9 y1) Q :=
  (VW_b 1 (F := fun n => if vkd w y0 = 15 then vrun n d 196 90 [(2, x0)] [] (vsv w y0 9 y1) else none) (fun _ => rfl)).trans (EX_if.trans (and_congr Iff.rfl (Iff.rfl)))
set_option maxRecDepth 100000 in
theorem b196_90 {d : Nat} {w : vW} {x0 : Int} {Q : Int → vW → Prop} : VW d 196 90 [(2, x0)] [] w Q ↔ VW d 196 96 [(2, x0)] [(2, vnt w), (2, x0)] (vnw w 1 256 (fun _ => 0) (256 : Int).toNat) Q :=
  (VW_b 3 (F := fun n => vrun n d 196 96 [(2, x0)] [(2, vnt w), (2, x0)] (vnw w 1 256 (fun _ => 0) (256 : Int).toNat)) (fun _ => rfl)).trans (Iff.rfl)
set_option maxRecDepth 100000 in
theorem b196_96 {d : Nat} {w : vW} {x0 y0 y1 : Int} {Q : Int → vW → Prop} : VW d 196 96 [(2, x0)] [(2, y1), (2, y0)] w Q ↔ (vkd w y0 = 15) ∧ VW d 196 99 [(2, x0)] [] (vsv w y0 10 y1) Q :=
  (VW_b 1 (F := fun n => if vkd w y0 = 15 then vrun n d 196 99 [(2, x0)] [] (vsv w y0 10 y1) else none) (fun _ => rfl)).trans (EX_if.trans (and_congr Iff.rfl (Iff.rfl)))
set_option maxRecDepth 100000 in
theorem b196_99 {d : Nat} {w : vW} {x0 : Int} {Q : Int → vW → Prop} : VW d 196 99 [(2, x0)] [] w Q ↔ (vkd w x0 = 15) ∧ VW d 196 104 [(2, x0)] [] (vsv w x0 11 0) Q :=
  (VW_b 3 (F := fun n => if vkd w x0 = 15 then vrun n d 196 104 [(2, x0)] [] (vsv w x0 11 0) else none) (fun _ => rfl)).trans (EX_if.trans (and_congr Iff.rfl (Iff.rfl)))
set_option maxRecDepth 100000 in
theorem b196_104 {d : Nat} {w : vW} {x0 : Int} {Q : Int → vW → Prop} : VW d 196 104 [(2, x0)] [] w Q ↔ ((0 : Int) ≤ 0 ∧ 0 ≤ 1) ∧ (vkd w x0 = 15) ∧ VW d 196 109 [(2, x0)] [] (vsv w x0 12 0) Q :=
  (VW_b 3 (F := fun n => if (0 : Int) ≤ 0 ∧ 0 ≤ 1 then if vkd w x0 = 15 then vrun n d 196 109 [(2, x0)] [] (vsv w x0 12 0) else none else none) (fun _ => rfl)).trans (EX_if.trans (and_congr Iff.rfl (EX_if.trans (and_congr Iff.rfl (Iff.rfl)))))
set_option maxRecDepth 100000 in
theorem b196_109 {d : Nat} {w : vW} {x0 : Int} {Q : Int → vW → Prop} : VW d 196 109 [(2, x0)] [] w Q ↔ ((0 : Int) ≤ 0 ∧ 0 ≤ 1) ∧ (vkd w x0 = 15) ∧ VW d 196 114 [(2, x0)] [] (vsv w x0 13 0) Q :=
  (VW_b 3 (F := fun n => if (0 : Int) ≤ 0 ∧ 0 ≤ 1 then if vkd w x0 = 15 then vrun n d 196 114 [(2, x0)] [] (vsv w x0 13 0) else none else none) (fun _ => rfl)).trans (EX_if.trans (and_congr Iff.rfl (EX_if.trans (and_congr Iff.rfl (Iff.rfl)))))
set_option maxRecDepth 100000 in
theorem b196_114 {d : Nat} {w : vW} {x0 : Int} {Q : Int → vW → Prop} : VW d 196 114 [(2, x0)] [] w Q ↔ (vkd w x0 = 15) ∧ VW d 196 119 [(2, x0)] [] (vsv w x0 14 (-1)) Q :=
  (VW_b 3 (F := fun n => if vkd w x0 = 15 then vrun n d 196 119 [(2, x0)] [] (vsv w x0 14 (-1)) else none) (fun _ => rfl)).trans (EX_if.trans (and_congr Iff.rfl (Iff.rfl)))
set_option maxRecDepth 100000 in
theorem b196_119 {d : Nat} {w : vW} {x0 : Int} {Q : Int → vW → Prop} : VW d 196 119 [(2, x0)] [] w Q ↔ (vkd w x0 = 15) ∧ VW d 196 126 [(2, x0)] [] (vsv w x0 15 (-1)) Q :=
  (VW_b 3 (F := fun n => if vkd w x0 = 15 then vrun n d 196 126 [(2, x0)] [] (vsv w x0 15 (-1)) else none) (fun _ => rfl)).trans (EX_if.trans (and_congr Iff.rfl (Iff.rfl)))
set_option maxRecDepth 100000 in
theorem b196_126 {d : Nat} {w : vW} {x0 : Int} {Q : Int → vW → Prop} : VW d 196 126 [(2, x0)] [] w Q ↔ (vkd w x0 = 15) ∧ VW d 196 131 [(2, x0)] [] (vsv w x0 16 (-1)) Q :=
  (VW_b 3 (F := fun n => if vkd w x0 = 15 then vrun n d 196 131 [(2, x0)] [] (vsv w x0 16 (-1)) else none) (fun _ => rfl)).trans (EX_if.trans (and_congr Iff.rfl (Iff.rfl)))
set_option maxRecDepth 100000 in
theorem b196_131 {d : Nat} {w : vW} {x0 : Int} {Q : Int → vW → Prop} : VW d 196 131 [(2, x0)] [] w Q ↔ (vkd w x0 = 15) ∧ VW d 196 136 [(2, x0)] [] (vsv w x0 17 0) Q :=
  (VW_b 3 (F := fun n => if vkd w x0 = 15 then vrun n d 196 136 [(2, x0)] [] (vsv w x0 17 0) else none) (fun _ => rfl)).trans (EX_if.trans (and_congr Iff.rfl (Iff.rfl)))
set_option maxRecDepth 100000 in
theorem b196_136 {d : Nat} {w : vW} {x0 : Int} {Q : Int → vW → Prop} : VW d 196 136 [(2, x0)] [] w Q ↔ Q 0 w :=
  (VW_b 1 (F := fun n => some (0, 0, w)) (fun _ => rfl)).trans (EX_ret0)
/-! 197: StrikeWhatCancels$Net.begin(J)V -/
set_option maxRecDepth 100000 in
theorem b197_0 {d : Nat} {w : vW} {x0 x1 : Int} {Q : Int → vW → Prop} : VW d 197 0 [(2, x0), (1, x1), (9, 0), (9, 0)] [] w Q ↔ (vkd w x0 = 15) ∧ (vkd w x0 = 15) ∧ VW d 197 12 [(2, x0), (1, x1), (9, 0), (9, 0)] [] (vsv w x0 8 (w32 ((vct w x0 8) + 3000))) Q :=
  (VW_b 6 (F := fun n => if vkd w x0 = 15 then if vkd w x0 = 15 then vrun n d 197 12 [(2, x0), (1, x1), (9, 0), (9, 0)] [] (vsv w x0 8 (w32 ((vct w x0 8) + 3000))) else none else none) (fun _ => rfl)).trans (EX_if.trans (and_congr Iff.rfl (EX_if.trans (and_congr Iff.rfl (Iff.rfl)))))
set_option maxRecDepth 100000 in
theorem b197_12 {d : Nat} {w : vW} {x0 x1 : Int} {Q : Int → vW → Prop} : VW d 197 12 [(2, x0), (1, x1), (9, 0), (9, 0)] [] w Q ↔ (vkd w x0 = 15) ∧ ((2147477647 < (vct w x0 8) → VW d 197 21 [(2, x0), (1, x1), (9, 0), (9, 0)] [] w Q) ∧ (¬ (2147477647 < (vct w x0 8)) → VW d 197 57 [(2, x0), (1, x1), (9, 0), (9, 0)] [] w Q)) :=
  (VW_b 4 (F := fun n => if vkd w x0 = 15 then (if 2147477647 < (vct w x0 8) then vrun n d 197 21 [(2, x0), (1, x1), (9, 0), (9, 0)] [] w else vrun n d 197 57 [(2, x0), (1, x1), (9, 0), (9, 0)] [] w) else none) (fun _ => rfl)).trans (EX_if.trans (and_congr Iff.rfl (EX_br.trans (and_congr (imp_congr Iff.rfl Iff.rfl) (imp_congr Iff.rfl Iff.rfl)))))
set_option maxRecDepth 100000 in
theorem b197_21 {d : Nat} {w : vW} {x0 x1 : Int} {Q : Int → vW → Prop} : VW d 197 21 [(2, x0), (1, x1), (9, 0), (9, 0)] [] w Q ↔ VW d 197 23 [(2, x0), (1, x1), (9, 0), (0, 0)] [] w Q :=
  (VW_b 2 (F := fun n => vrun n d 197 23 [(2, x0), (1, x1), (9, 0), (0, 0)] [] w) (fun _ => rfl)).trans (Iff.rfl)
set_option maxRecDepth 100000 in
theorem b197_23 {d : Nat} {w : vW} {x0 x1 x3 : Int} {Q : Int → vW → Prop} : VW d 197 23 [(2, x0), (1, x1), (9, 0), (0, x3)] [] w Q ↔ ((x3 < 8192 → VW d 197 30 [(2, x0), (1, x1), (9, 0), (0, x3)] [] w Q) ∧ (¬ (x3 < 8192) → VW d 197 52 [(2, x0), (1, x1), (9, 0), (0, x3)] [] w Q)) :=
  (VW_b 3 (F := fun n => (if x3 < 8192 then vrun n d 197 30 [(2, x0), (1, x1), (9, 0), (0, x3)] [] w else vrun n d 197 52 [(2, x0), (1, x1), (9, 0), (0, x3)] [] w)) (fun _ => rfl)).trans (EX_br.trans (and_congr (imp_congr Iff.rfl Iff.rfl) (imp_congr Iff.rfl Iff.rfl)))
set_option maxRecDepth 100000 in
theorem b197_30 {d : Nat} {w : vW} {x0 x1 x3 : Int} {Q : Int → vW → Prop} : VW d 197 30 [(2, x0), (1, x1), (9, 0), (0, x3)] [] w Q ↔ (vkd w x0 = 15) ∧ (vkd w (vct w x0 7) = 1) ∧ ((x3 < (vln w (vct w x0 7)) → VW d 197 39 [(2, x0), (1, x1), (9, 0), (0, x3)] [] w Q) ∧ (¬ (x3 < (vln w (vct w x0 7))) → VW d 197 52 [(2, x0), (1, x1), (9, 0), (0, x3)] [] w Q)) :=
  (VW_b 5 (F := fun n => if vkd w x0 = 15 then if vkd w (vct w x0 7) = 1 then (if x3 < (vln w (vct w x0 7)) then vrun n d 197 39 [(2, x0), (1, x1), (9, 0), (0, x3)] [] w else vrun n d 197 52 [(2, x0), (1, x1), (9, 0), (0, x3)] [] w) else none else none) (fun _ => rfl)).trans (EX_if.trans (and_congr Iff.rfl (EX_if.trans (and_congr Iff.rfl (EX_br.trans (and_congr (imp_congr Iff.rfl Iff.rfl) (imp_congr Iff.rfl Iff.rfl)))))))
set_option maxRecDepth 100000 in
theorem b197_39 {d : Nat} {w : vW} {x0 x1 x3 : Int} {Q : Int → vW → Prop} : VW d 197 39 [(2, x0), (1, x1), (9, 0), (0, x3)] [] w Q ↔ (vkd w x0 = 15) ∧ (vkd w (vct w x0 7) = 1 ∧ (0 : Int) ≤ x3 ∧ x3 < vln w (vct w x0 7)) ∧ VW d 197 46 [(2, x0), (1, x1), (9, 0), (0, x3)] [] (vsv w (vct w x0 7) x3 0) Q :=
  (VW_b 5 (F := fun n => if vkd w x0 = 15 then if vkd w (vct w x0 7) = 1 ∧ (0 : Int) ≤ x3 ∧ x3 < vln w (vct w x0 7) then vrun n d 197 46 [(2, x0), (1, x1), (9, 0), (0, x3)] [] (vsv w (vct w x0 7) x3 0) else none else none) (fun _ => rfl)).trans (EX_if.trans (and_congr Iff.rfl (EX_if.trans (and_congr Iff.rfl (Iff.rfl)))))
set_option maxRecDepth 100000 in
theorem b197_46 {d : Nat} {w : vW} {x0 x1 x3 : Int} {Q : Int → vW → Prop} : VW d 197 46 [(2, x0), (1, x1), (9, 0), (0, x3)] [] w Q ↔ VW d 197 23 [(2, x0), (1, x1), (9, 0), (0, w32 (x3 + 1))] [] w Q :=
  (VW_b 2 (F := fun n => vrun n d 197 23 [(2, x0), (1, x1), (9, 0), (0, w32 (x3 + 1))] [] w) (fun _ => rfl)).trans (Iff.rfl)
set_option maxRecDepth 100000 in
theorem b197_52 {d : Nat} {w : vW} {x0 x1 x3 : Int} {Q : Int → vW → Prop} : VW d 197 52 [(2, x0), (1, x1), (9, 0), (0, x3)] [] w Q ↔ (vkd w x0 = 15) ∧ VW d 197 57 [(2, x0), (1, x1), (9, 0), (0, x3)] [] (vsv w x0 8 1) Q :=
  (VW_b 3 (F := fun n => if vkd w x0 = 15 then vrun n d 197 57 [(2, x0), (1, x1), (9, 0), (0, x3)] [] (vsv w x0 8 1) else none) (fun _ => rfl)).trans (EX_if.trans (and_congr Iff.rfl (Iff.rfl)))
set_option maxRecDepth 100000 in
theorem b197_57 {d : Nat} {w : vW} {x0 x1 : Int} {v3 : vV} {Q : Int → vW → Prop} : VW d 197 57 [(2, x0), (1, x1), (9, 0), v3] [] w Q ↔ (vkd w x0 = 15) ∧ VW d 197 62 [(2, x0), (1, x1), (9, 0), v3] [] (vsv w x0 17 0) Q :=
  (VW_b 3 (F := fun n => if vkd w x0 = 15 then vrun n d 197 62 [(2, x0), (1, x1), (9, 0), v3] [] (vsv w x0 17 0) else none) (fun _ => rfl)).trans (EX_if.trans (and_congr Iff.rfl (Iff.rfl)))
set_option maxRecDepth 100000 in
theorem b197_62 {d : Nat} {w : vW} {x0 x1 : Int} {v3 : vV} {Q : Int → vW → Prop} : VW d 197 62 [(2, x0), (1, x1), (9, 0), v3] [] w Q ↔ ((0 : Int) ≤ 0 ∧ 0 ≤ 1) ∧ (vkd w x0 = 15) ∧ VW d 197 67 [(2, x0), (1, x1), (9, 0), v3] [] (vsv w x0 12 0) Q :=
  (VW_b 3 (F := fun n => if (0 : Int) ≤ 0 ∧ 0 ≤ 1 then if vkd w x0 = 15 then vrun n d 197 67 [(2, x0), (1, x1), (9, 0), v3] [] (vsv w x0 12 0) else none else none) (fun _ => rfl)).trans (EX_if.trans (and_congr Iff.rfl (EX_if.trans (and_congr Iff.rfl (Iff.rfl)))))
set_option maxRecDepth 100000 in
theorem b197_67 {d : Nat} {w : vW} {x0 x1 : Int} {v3 : vV} {Q : Int → vW → Prop} : VW d 197 67 [(2, x0), (1, x1), (9, 0), v3] [] w Q ↔ ((0 : Int) ≤ 0 ∧ 0 ≤ 1) ∧ (vkd w x0 = 15) ∧ VW d 197 72 [(2, x0), (1, x1), (9, 0), v3] [] (vsv w x0 13 0) Q :=
  (VW_b 3 (F := fun n => if (0 : Int) ≤ 0 ∧ 0 ≤ 1 then if vkd w x0 = 15 then vrun n d 197 72 [(2, x0), (1, x1), (9, 0), v3] [] (vsv w x0 13 0) else none else none) (fun _ => rfl)).trans (EX_if.trans (and_congr Iff.rfl (EX_if.trans (and_congr Iff.rfl (Iff.rfl)))))
set_option maxRecDepth 100000 in
theorem b197_72 {d : Nat} {w : vW} {x0 x1 : Int} {v3 : vV} {Q : Int → vW → Prop} : VW d 197 72 [(2, x0), (1, x1), (9, 0), v3] [] w Q ↔ (vkd w x0 = 15) ∧ VW d 197 77 [(2, x0), (1, x1), (9, 0), v3] [] (vsv w x0 15 x1) Q :=
  (VW_b 3 (F := fun n => if vkd w x0 = 15 then vrun n d 197 77 [(2, x0), (1, x1), (9, 0), v3] [] (vsv w x0 15 x1) else none) (fun _ => rfl)).trans (EX_if.trans (and_congr Iff.rfl (Iff.rfl)))
set_option maxRecDepth 100000 in
theorem b197_77 {d : Nat} {w : vW} {x0 x1 : Int} {v3 : vV} {Q : Int → vW → Prop} : VW d 197 77 [(2, x0), (1, x1), (9, 0), v3] [] w Q ↔ (vkd w x0 = 15) ∧ VC d 200 [(2, x0), (1, x1), (0, (-1)), (0, 0)] w (fun _ w1 => VW d 197 84 [(2, x0), (1, x1), (9, 0), v3] [] w1 Q) :=
  (VW_b 5 (F := fun n => if vkd w x0 = 15 then vclr (vrun n) d 197 84 200 4 9 [(2, x0), (1, x1), (9, 0), v3] [(0, 0), (0, (-1)), (1, x1), (2, x0)] w else none) (fun _ => rfl)).trans (EX_if.trans (and_congr Iff.rfl (EX_call rfl)))
set_option maxRecDepth 100000 in
theorem b197_84 {d : Nat} {w : vW} {x0 x1 : Int} {v3 : vV} {Q : Int → vW → Prop} : VW d 197 84 [(2, x0), (1, x1), (9, 0), v3] [] w Q ↔ Q 0 w :=
  (VW_b 1 (F := fun n => some (0, 0, w)) (fun _ => rfl)).trans (EX_ret0)
/-! 198: StrikeWhatCancels$Net.slotOf(J)I -/
set_option maxRecDepth 100000 in
theorem b198_0 {d : Nat} {w : vW} {x0 x1 : Int} {Q : Int → vW → Prop} : VW d 198 0 [(2, x0), (1, x1), (9, 0), (9, 0), (9, 0), (9, 0), (9, 0)] [] w Q ↔ VW d 198 18 [(2, x0), (1, x1), (9, 0), (0, w32 (l_ushr (w64 ((l_xor x1 (l_ushr x1 31)) * (-7046029254386353131))) 51)), (0, 0), (9, 0), (9, 0)] [] w Q :=
  (VW_b 13 (F := fun n => vrun n d 198 18 [(2, x0), (1, x1), (9, 0), (0, w32 (l_ushr (w64 ((l_xor x1 (l_ushr x1 31)) * (-7046029254386353131))) 51)), (0, 0), (9, 0), (9, 0)] [] w) (fun _ => rfl)).trans (Iff.rfl)
set_option maxRecDepth 100000 in
theorem b198_18 {d : Nat} {w : vW} {x0 x1 x3 x4 : Int} {v5 v6 : vV} {Q : Int → vW → Prop} : VW d 198 18 [(2, x0), (1, x1), (9, 0), (0, x3), (0, x4), v5, v6] [] w Q ↔ ((x4 < 8192 → VW d 198 26 [(2, x0), (1, x1), (9, 0), (0, x3), (0, x4), v5, v6] [] w Q) ∧ (¬ (x4 < 8192) → VW d 198 100 [(2, x0), (1, x1), (9, 0), (0, x3), (0, x4), v5, v6] [] w Q)) :=
  (VW_b 3 (F := fun n => (if x4 < 8192 then vrun n d 198 26 [(2, x0), (1, x1), (9, 0), (0, x3), (0, x4), v5, v6] [] w else vrun n d 198 100 [(2, x0), (1, x1), (9, 0), (0, x3), (0, x4), v5, v6] [] w)) (fun _ => rfl)).trans (EX_br.trans (and_congr (imp_congr Iff.rfl Iff.rfl) (imp_congr Iff.rfl Iff.rfl)))
set_option maxRecDepth 100000 in
theorem b198_26 {d : Nat} {w : vW} {x0 x1 x3 x4 : Int} {v5 v6 : vV} {Q : Int → vW → Prop} : VW d 198 26 [(2, x0), (1, x1), (9, 0), (0, x3), (0, x4), v5, v6] [] w Q ↔ VW d 198 36 [(2, x0), (1, x1), (9, 0), (0, x3), (0, x4), (0, i_and (w32 (x3 + x4)) 8191), v6] [] w Q :=
  (VW_b 6 (F := fun n => vrun n d 198 36 [(2, x0), (1, x1), (9, 0), (0, x3), (0, x4), (0, i_and (w32 (x3 + x4)) 8191), v6] [] w) (fun _ => rfl)).trans (Iff.rfl)
set_option maxRecDepth 100000 in
theorem b198_36 {d : Nat} {w : vW} {x0 x1 x3 x4 x5 : Int} {v6 : vV} {Q : Int → vW → Prop} : VW d 198 36 [(2, x0), (1, x1), (9, 0), (0, x3), (0, x4), (0, x5), v6] [] w Q ↔ (vkd w x0 = 15) ∧ (vkd w (vct w x0 7) = 1) ∧ ((x5 < (vln w (vct w x0 7)) → VW d 198 46 [(2, x0), (1, x1), (9, 0), (0, x3), (0, x4), (0, x5), v6] [] w Q) ∧ (¬ (x5 < (vln w (vct w x0 7))) → VW d 198 61 [(2, x0), (1, x1), (9, 0), (0, x3), (0, x4), (0, x5), v6] [] w Q)) :=
  (VW_b 5 (F := fun n => if vkd w x0 = 15 then if vkd w (vct w x0 7) = 1 then (if x5 < (vln w (vct w x0 7)) then vrun n d 198 46 [(2, x0), (1, x1), (9, 0), (0, x3), (0, x4), (0, x5), v6] [] w else vrun n d 198 61 [(2, x0), (1, x1), (9, 0), (0, x3), (0, x4), (0, x5), v6] [] w) else none else none) (fun _ => rfl)).trans (EX_if.trans (and_congr Iff.rfl (EX_if.trans (and_congr Iff.rfl (EX_br.trans (and_congr (imp_congr Iff.rfl Iff.rfl) (imp_congr Iff.rfl Iff.rfl)))))))
set_option maxRecDepth 100000 in
theorem b198_46 {d : Nat} {w : vW} {x0 x1 x3 x4 x5 : Int} {v6 : vV} {Q : Int → vW → Prop} : VW d 198 46 [(2, x0), (1, x1), (9, 0), (0, x3), (0, x4), (0, x5), v6] [] w Q ↔ (vkd w x0 = 15) ∧ (vkd w (vct w x0 7) = 1 ∧ (0 : Int) ≤ x5 ∧ x5 < vln w (vct w x0 7)) ∧ (vkd w x0 = 15) ∧ VW d 198 62 [(2, x0), (1, x1), (9, 0), (0, x3), (0, x4), (0, x5), v6] [(0, w32 ((vct w (vct w x0 7) x5) - (vct w x0 8)))] w Q :=
  (VW_b 8 (F := fun n => if vkd w x0 = 15 then if vkd w (vct w x0 7) = 1 ∧ (0 : Int) ≤ x5 ∧ x5 < vln w (vct w x0 7) then if vkd w x0 = 15 then vrun n d 198 62 [(2, x0), (1, x1), (9, 0), (0, x3), (0, x4), (0, x5), v6] [(0, w32 ((vct w (vct w x0 7) x5) - (vct w x0 8)))] w else none else none else none) (fun _ => rfl)).trans (EX_if.trans (and_congr Iff.rfl (EX_if.trans (and_congr Iff.rfl (EX_if.trans (and_congr Iff.rfl (Iff.rfl)))))))
set_option maxRecDepth 100000 in
theorem b198_61 {d : Nat} {w : vW} {x0 x1 x3 x4 x5 : Int} {v6 : vV} {Q : Int → vW → Prop} : VW d 198 61 [(2, x0), (1, x1), (9, 0), (0, x3), (0, x4), (0, x5), v6] [] w Q ↔ VW d 198 62 [(2, x0), (1, x1), (9, 0), (0, x3), (0, x4), (0, x5), v6] [(0, (-1))] w Q :=
  (VW_b 1 (F := fun n => vrun n d 198 62 [(2, x0), (1, x1), (9, 0), (0, x3), (0, x4), (0, x5), v6] [(0, (-1))] w) (fun _ => rfl)).trans (Iff.rfl)
set_option maxRecDepth 100000 in
theorem b198_62 {d : Nat} {w : vW} {x0 x1 x3 x4 x5 y0 : Int} {v6 : vV} {Q : Int → vW → Prop} : VW d 198 62 [(2, x0), (1, x1), (9, 0), (0, x3), (0, x4), (0, x5), v6] [(0, y0)] w Q ↔ ((y0 < 0 → VW d 198 91 [(2, x0), (1, x1), (9, 0), (0, x3), (0, x4), (0, x5), (0, y0)] [] w Q) ∧ (¬ (y0 < 0) → VW d 198 69 [(2, x0), (1, x1), (9, 0), (0, x3), (0, x4), (0, x5), (0, y0)] [] w Q)) :=
  (VW_b 3 (F := fun n => (if y0 < 0 then vrun n d 198 91 [(2, x0), (1, x1), (9, 0), (0, x3), (0, x4), (0, x5), (0, y0)] [] w else vrun n d 198 69 [(2, x0), (1, x1), (9, 0), (0, x3), (0, x4), (0, x5), (0, y0)] [] w)) (fun _ => rfl)).trans (EX_br.trans (and_congr (imp_congr Iff.rfl Iff.rfl) (imp_congr Iff.rfl Iff.rfl)))
set_option maxRecDepth 100000 in
theorem b198_69 {d : Nat} {w : vW} {x0 x1 x3 x4 x5 x6 : Int} {Q : Int → vW → Prop} : VW d 198 69 [(2, x0), (1, x1), (9, 0), (0, x3), (0, x4), (0, x5), (0, x6)] [] w Q ↔ (vkd w x0 = 15) ∧ (vkd w (vct w x0 0) = 2) ∧ ((x6 < (vln w (vct w x0 0)) → VW d 198 79 [(2, x0), (1, x1), (9, 0), (0, x3), (0, x4), (0, x5), (0, x6)] [] w Q) ∧ (¬ (x6 < (vln w (vct w x0 0))) → VW d 198 94 [(2, x0), (1, x1), (9, 0), (0, x3), (0, x4), (0, x5), (0, x6)] [] w Q)) :=
  (VW_b 5 (F := fun n => if vkd w x0 = 15 then if vkd w (vct w x0 0) = 2 then (if x6 < (vln w (vct w x0 0)) then vrun n d 198 79 [(2, x0), (1, x1), (9, 0), (0, x3), (0, x4), (0, x5), (0, x6)] [] w else vrun n d 198 94 [(2, x0), (1, x1), (9, 0), (0, x3), (0, x4), (0, x5), (0, x6)] [] w) else none else none) (fun _ => rfl)).trans (EX_if.trans (and_congr Iff.rfl (EX_if.trans (and_congr Iff.rfl (EX_br.trans (and_congr (imp_congr Iff.rfl Iff.rfl) (imp_congr Iff.rfl Iff.rfl)))))))
set_option maxRecDepth 100000 in
theorem b198_79 {d : Nat} {w : vW} {x0 x1 x3 x4 x5 x6 : Int} {Q : Int → vW → Prop} : VW d 198 79 [(2, x0), (1, x1), (9, 0), (0, x3), (0, x4), (0, x5), (0, x6)] [] w Q ↔ (vkd w x0 = 15) ∧ (vkd w (vct w x0 0) = 2 ∧ (0 : Int) ≤ x6 ∧ x6 < vln w (vct w x0 0)) ∧ (((vlc (vct w (vct w x0 0) x6) x1) = 0 → VW d 198 91 [(2, x0), (1, x1), (9, 0), (0, x3), (0, x4), (0, x5), (0, x6)] [] w Q) ∧ (¬ ((vlc (vct w (vct w x0 0) x6) x1) = 0) → VW d 198 94 [(2, x0), (1, x1), (9, 0), (0, x3), (0, x4), (0, x5), (0, x6)] [] w Q)) :=
  (VW_b 7 (F := fun n => if vkd w x0 = 15 then if vkd w (vct w x0 0) = 2 ∧ (0 : Int) ≤ x6 ∧ x6 < vln w (vct w x0 0) then (if (vlc (vct w (vct w x0 0) x6) x1) = 0 then vrun n d 198 91 [(2, x0), (1, x1), (9, 0), (0, x3), (0, x4), (0, x5), (0, x6)] [] w else vrun n d 198 94 [(2, x0), (1, x1), (9, 0), (0, x3), (0, x4), (0, x5), (0, x6)] [] w) else none else none) (fun _ => rfl)).trans (EX_if.trans (and_congr Iff.rfl (EX_if.trans (and_congr Iff.rfl (EX_br.trans (and_congr (imp_congr Iff.rfl Iff.rfl) (imp_congr Iff.rfl Iff.rfl)))))))
set_option maxRecDepth 100000 in
theorem b198_91 {d : Nat} {w : vW} {x0 x1 x3 x4 x5 x6 : Int} {Q : Int → vW → Prop} : VW d 198 91 [(2, x0), (1, x1), (9, 0), (0, x3), (0, x4), (0, x5), (0, x6)] [] w Q ↔ Q x5 w :=
  (VW_b 2 (F := fun n => some (0, x5, w)) (fun _ => rfl)).trans (EX_ret0)
set_option maxRecDepth 100000 in
theorem b198_94 {d : Nat} {w : vW} {x0 x1 x3 x4 x5 x6 : Int} {Q : Int → vW → Prop} : VW d 198 94 [(2, x0), (1, x1), (9, 0), (0, x3), (0, x4), (0, x5), (0, x6)] [] w Q ↔ VW d 198 18 [(2, x0), (1, x1), (9, 0), (0, x3), (0, w32 (x4 + 1)), (0, x5), (0, x6)] [] w Q :=
  (VW_b 2 (F := fun n => vrun n d 198 18 [(2, x0), (1, x1), (9, 0), (0, x3), (0, w32 (x4 + 1)), (0, x5), (0, x6)] [] w) (fun _ => rfl)).trans (Iff.rfl)
set_option maxRecDepth 100000 in
theorem b198_100 {d : Nat} {w : vW} {x0 x1 x3 x4 : Int} {v5 v6 : vV} {Q : Int → vW → Prop} : VW d 198 100 [(2, x0), (1, x1), (9, 0), (0, x3), (0, x4), v5, v6] [] w Q ↔ Q 0 w :=
  (VW_b 2 (F := fun n => some (0, 0, w)) (fun _ => rfl)).trans (EX_ret0)
/-! 199: StrikeWhatCancels$Net.find(J)I -/
set_option maxRecDepth 100000 in
theorem b199_0 {d : Nat} {w : vW} {x0 x1 : Int} {Q : Int → vW → Prop} : VW d 199 0 [(2, x0), (1, x1), (9, 0), (9, 0), (9, 0)] [] w Q ↔ (vkd w x0 = 15) ∧ VC d 198 [(2, x0), (1, x1)] w (fun r w1 => VW d 199 5 [(2, x0), (1, x1), (9, 0), (9, 0), (9, 0)] [(0, r)] w1 Q) :=
  (VW_b 3 (F := fun n => if vkd w x0 = 15 then vclr (vrun n) d 199 5 198 2 0 [(2, x0), (1, x1), (9, 0), (9, 0), (9, 0)] [(1, x1), (2, x0)] w else none) (fun _ => rfl)).trans (EX_if.trans (and_congr Iff.rfl (EX_call rfl)))
set_option maxRecDepth 100000 in
theorem b199_5 {d : Nat} {w : vW} {x0 x1 y0 : Int} {Q : Int → vW → Prop} : VW d 199 5 [(2, x0), (1, x1), (9, 0), (9, 0), (9, 0)] [(0, y0)] w Q ↔ ((y0 < 0 → VW d 199 33 [(2, x0), (1, x1), (9, 0), (0, y0), (9, 0)] [] w Q) ∧ (¬ (y0 < 0) → VW d 199 10 [(2, x0), (1, x1), (9, 0), (0, y0), (9, 0)] [] w Q)) :=
  (VW_b 3 (F := fun n => (if y0 < 0 then vrun n d 199 33 [(2, x0), (1, x1), (9, 0), (0, y0), (9, 0)] [] w else vrun n d 199 10 [(2, x0), (1, x1), (9, 0), (0, y0), (9, 0)] [] w)) (fun _ => rfl)).trans (EX_br.trans (and_congr (imp_congr Iff.rfl Iff.rfl) (imp_congr Iff.rfl Iff.rfl)))
set_option maxRecDepth 100000 in
theorem b199_10 {d : Nat} {w : vW} {x0 x1 x3 : Int} {Q : Int → vW → Prop} : VW d 199 10 [(2, x0), (1, x1), (9, 0), (0, x3), (9, 0)] [] w Q ↔ (vkd w x0 = 15) ∧ (vkd w (vct w x0 7) = 1) ∧ ((x3 < (vln w (vct w x0 7)) → VW d 199 19 [(2, x0), (1, x1), (9, 0), (0, x3), (9, 0)] [] w Q) ∧ (¬ (x3 < (vln w (vct w x0 7))) → VW d 199 33 [(2, x0), (1, x1), (9, 0), (0, x3), (9, 0)] [] w Q)) :=
  (VW_b 5 (F := fun n => if vkd w x0 = 15 then if vkd w (vct w x0 7) = 1 then (if x3 < (vln w (vct w x0 7)) then vrun n d 199 19 [(2, x0), (1, x1), (9, 0), (0, x3), (9, 0)] [] w else vrun n d 199 33 [(2, x0), (1, x1), (9, 0), (0, x3), (9, 0)] [] w) else none else none) (fun _ => rfl)).trans (EX_if.trans (and_congr Iff.rfl (EX_if.trans (and_congr Iff.rfl (EX_br.trans (and_congr (imp_congr Iff.rfl Iff.rfl) (imp_congr Iff.rfl Iff.rfl)))))))
set_option maxRecDepth 100000 in
theorem b199_19 {d : Nat} {w : vW} {x0 x1 x3 : Int} {Q : Int → vW → Prop} : VW d 199 19 [(2, x0), (1, x1), (9, 0), (0, x3), (9, 0)] [] w Q ↔ (vkd w x0 = 15) ∧ (vkd w (vct w x0 7) = 1 ∧ (0 : Int) ≤ x3 ∧ x3 < vln w (vct w x0 7)) ∧ (vkd w x0 = 15) ∧ VW d 199 34 [(2, x0), (1, x1), (9, 0), (0, x3), (9, 0)] [(0, w32 ((vct w (vct w x0 7) x3) - (vct w x0 8)))] w Q :=
  (VW_b 8 (F := fun n => if vkd w x0 = 15 then if vkd w (vct w x0 7) = 1 ∧ (0 : Int) ≤ x3 ∧ x3 < vln w (vct w x0 7) then if vkd w x0 = 15 then vrun n d 199 34 [(2, x0), (1, x1), (9, 0), (0, x3), (9, 0)] [(0, w32 ((vct w (vct w x0 7) x3) - (vct w x0 8)))] w else none else none else none) (fun _ => rfl)).trans (EX_if.trans (and_congr Iff.rfl (EX_if.trans (and_congr Iff.rfl (EX_if.trans (and_congr Iff.rfl (Iff.rfl)))))))
set_option maxRecDepth 100000 in
theorem b199_33 {d : Nat} {w : vW} {x0 x1 x3 : Int} {Q : Int → vW → Prop} : VW d 199 33 [(2, x0), (1, x1), (9, 0), (0, x3), (9, 0)] [] w Q ↔ VW d 199 34 [(2, x0), (1, x1), (9, 0), (0, x3), (9, 0)] [(0, (-1))] w Q :=
  (VW_b 1 (F := fun n => vrun n d 199 34 [(2, x0), (1, x1), (9, 0), (0, x3), (9, 0)] [(0, (-1))] w) (fun _ => rfl)).trans (Iff.rfl)
set_option maxRecDepth 100000 in
theorem b199_34 {d : Nat} {w : vW} {x0 x1 x3 y0 : Int} {Q : Int → vW → Prop} : VW d 199 34 [(2, x0), (1, x1), (9, 0), (0, x3), (9, 0)] [(0, y0)] w Q ↔ ((y0 < 0 → VW d 199 41 [(2, x0), (1, x1), (9, 0), (0, x3), (0, y0)] [] w Q) ∧ (¬ (y0 < 0) → VW d 199 45 [(2, x0), (1, x1), (9, 0), (0, x3), (0, y0)] [] w Q)) :=
  (VW_b 3 (F := fun n => (if y0 < 0 then vrun n d 199 41 [(2, x0), (1, x1), (9, 0), (0, x3), (0, y0)] [] w else vrun n d 199 45 [(2, x0), (1, x1), (9, 0), (0, x3), (0, y0)] [] w)) (fun _ => rfl)).trans (EX_br.trans (and_congr (imp_congr Iff.rfl Iff.rfl) (imp_congr Iff.rfl Iff.rfl)))
set_option maxRecDepth 100000 in
theorem b199_41 {d : Nat} {w : vW} {x0 x1 x3 x4 : Int} {Q : Int → vW → Prop} : VW d 199 41 [(2, x0), (1, x1), (9, 0), (0, x3), (0, x4)] [] w Q ↔ VW d 199 47 [(2, x0), (1, x1), (9, 0), (0, x3), (0, x4)] [(0, (-1))] w Q :=
  (VW_b 2 (F := fun n => vrun n d 199 47 [(2, x0), (1, x1), (9, 0), (0, x3), (0, x4)] [(0, (-1))] w) (fun _ => rfl)).trans (Iff.rfl)
set_option maxRecDepth 100000 in
theorem b199_45 {d : Nat} {w : vW} {x0 x1 x3 x4 : Int} {Q : Int → vW → Prop} : VW d 199 45 [(2, x0), (1, x1), (9, 0), (0, x3), (0, x4)] [] w Q ↔ VW d 199 47 [(2, x0), (1, x1), (9, 0), (0, x3), (0, x4)] [(0, x4)] w Q :=
  (VW_b 1 (F := fun n => vrun n d 199 47 [(2, x0), (1, x1), (9, 0), (0, x3), (0, x4)] [(0, x4)] w) (fun _ => rfl)).trans (Iff.rfl)
set_option maxRecDepth 100000 in
theorem b199_47 {d : Nat} {w : vW} {x0 x1 x3 x4 y0 : Int} {Q : Int → vW → Prop} : VW d 199 47 [(2, x0), (1, x1), (9, 0), (0, x3), (0, x4)] [(0, y0)] w Q ↔ Q y0 w :=
  (VW_b 1 (F := fun n => some (0, y0, w)) (fun _ => rfl)).trans (EX_ret0)
/-! 200: StrikeWhatCancels$Net.add(JII)V -/
set_option maxRecDepth 100000 in
theorem b200_0 {d : Nat} {w : vW} {x0 x1 x3 x4 : Int} {Q : Int → vW → Prop} : VW d 200 0 [(2, x0), (1, x1), (9, 0), (0, x3), (0, x4), (9, 0)] [] w Q ↔ (vkd w x0 = 15) ∧ VC d 198 [(2, x0), (1, x1)] w (fun r w1 => VW d 200 5 [(2, x0), (1, x1), (9, 0), (0, x3), (0, x4), (9, 0)] [(0, r)] w1 Q) :=
  (VW_b 3 (F := fun n => if vkd w x0 = 15 then vclr (vrun n) d 200 5 198 2 0 [(2, x0), (1, x1), (9, 0), (0, x3), (0, x4), (9, 0)] [(1, x1), (2, x0)] w else none) (fun _ => rfl)).trans (EX_if.trans (and_congr Iff.rfl (EX_call rfl)))
set_option maxRecDepth 100000 in
theorem b200_5 {d : Nat} {w : vW} {x0 x1 x3 x4 y0 : Int} {Q : Int → vW → Prop} : VW d 200 5 [(2, x0), (1, x1), (9, 0), (0, x3), (0, x4), (9, 0)] [(0, y0)] w Q ↔ ((y0 < 0 → VW d 200 36 [(2, x0), (1, x1), (9, 0), (0, x3), (0, x4), (0, y0)] [] w Q) ∧ (¬ (y0 < 0) → VW d 200 12 [(2, x0), (1, x1), (9, 0), (0, x3), (0, x4), (0, y0)] [] w Q)) :=
  (VW_b 3 (F := fun n => (if y0 < 0 then vrun n d 200 36 [(2, x0), (1, x1), (9, 0), (0, x3), (0, x4), (0, y0)] [] w else vrun n d 200 12 [(2, x0), (1, x1), (9, 0), (0, x3), (0, x4), (0, y0)] [] w)) (fun _ => rfl)).trans (EX_br.trans (and_congr (imp_congr Iff.rfl Iff.rfl) (imp_congr Iff.rfl Iff.rfl)))
set_option maxRecDepth 100000 in
theorem b200_12 {d : Nat} {w : vW} {x0 x1 x3 x4 x5 : Int} {Q : Int → vW → Prop} : VW d 200 12 [(2, x0), (1, x1), (9, 0), (0, x3), (0, x4), (0, x5)] [] w Q ↔ (vkd w x0 = 15) ∧ (vkd w (vct w x0 7) = 1) ∧ ((x5 < (vln w (vct w x0 7)) → VW d 200 22 [(2, x0), (1, x1), (9, 0), (0, x3), (0, x4), (0, x5)] [] w Q) ∧ (¬ (x5 < (vln w (vct w x0 7))) → VW d 200 36 [(2, x0), (1, x1), (9, 0), (0, x3), (0, x4), (0, x5)] [] w Q)) :=
  (VW_b 5 (F := fun n => if vkd w x0 = 15 then if vkd w (vct w x0 7) = 1 then (if x5 < (vln w (vct w x0 7)) then vrun n d 200 22 [(2, x0), (1, x1), (9, 0), (0, x3), (0, x4), (0, x5)] [] w else vrun n d 200 36 [(2, x0), (1, x1), (9, 0), (0, x3), (0, x4), (0, x5)] [] w) else none else none) (fun _ => rfl)).trans (EX_if.trans (and_congr Iff.rfl (EX_if.trans (and_congr Iff.rfl (EX_br.trans (and_congr (imp_congr Iff.rfl Iff.rfl) (imp_congr Iff.rfl Iff.rfl)))))))
set_option maxRecDepth 100000 in
theorem b200_22 {d : Nat} {w : vW} {x0 x1 x3 x4 x5 : Int} {Q : Int → vW → Prop} : VW d 200 22 [(2, x0), (1, x1), (9, 0), (0, x3), (0, x4), (0, x5)] [] w Q ↔ (vkd w x0 = 15) ∧ (vkd w (vct w x0 7) = 1 ∧ (0 : Int) ≤ x5 ∧ x5 < vln w (vct w x0 7)) ∧ (vkd w x0 = 15) ∧ (((vct w (vct w x0 7) x5) < (vct w x0 8) → VW d 200 37 [(2, x0), (1, x1), (9, 0), (0, x3), (0, x4), (0, x5)] [] w Q) ∧ (¬ ((vct w (vct w x0 7) x5) < (vct w x0 8)) → VW d 200 36 [(2, x0), (1, x1), (9, 0), (0, x3), (0, x4), (0, x5)] [] w Q)) :=
  (VW_b 7 (F := fun n => if vkd w x0 = 15 then if vkd w (vct w x0 7) = 1 ∧ (0 : Int) ≤ x5 ∧ x5 < vln w (vct w x0 7) then if vkd w x0 = 15 then (if (vct w (vct w x0 7) x5) < (vct w x0 8) then vrun n d 200 37 [(2, x0), (1, x1), (9, 0), (0, x3), (0, x4), (0, x5)] [] w else vrun n d 200 36 [(2, x0), (1, x1), (9, 0), (0, x3), (0, x4), (0, x5)] [] w) else none else none else none) (fun _ => rfl)).trans (EX_if.trans (and_congr Iff.rfl (EX_if.trans (and_congr Iff.rfl (EX_if.trans (and_congr Iff.rfl (EX_br.trans (and_congr (imp_congr Iff.rfl Iff.rfl) (imp_congr Iff.rfl Iff.rfl)))))))))
set_option maxRecDepth 100000 in
theorem b200_36 {d : Nat} {w : vW} {x0 x1 x3 x4 x5 : Int} {Q : Int → vW → Prop} : VW d 200 36 [(2, x0), (1, x1), (9, 0), (0, x3), (0, x4), (0, x5)] [] w Q ↔ Q 0 w :=
  (VW_b 1 (F := fun n => some (0, 0, w)) (fun _ => rfl)).trans (EX_ret0)
set_option maxRecDepth 100000 in
theorem b200_37 {d : Nat} {w : vW} {x0 x1 x3 x4 x5 : Int} {Q : Int → vW → Prop} : VW d 200 37 [(2, x0), (1, x1), (9, 0), (0, x3), (0, x4), (0, x5)] [] w Q ↔ (vkd w x0 = 15) ∧ (((vct w x0 17) < 0 → VW d 200 54 [(2, x0), (1, x1), (9, 0), (0, x3), (0, x4), (0, x5)] [] w Q) ∧ (¬ ((vct w x0 17) < 0) → VW d 200 44 [(2, x0), (1, x1), (9, 0), (0, x3), (0, x4), (0, x5)] [] w Q)) :=
  (VW_b 3 (F := fun n => if vkd w x0 = 15 then (if (vct w x0 17) < 0 then vrun n d 200 54 [(2, x0), (1, x1), (9, 0), (0, x3), (0, x4), (0, x5)] [] w else vrun n d 200 44 [(2, x0), (1, x1), (9, 0), (0, x3), (0, x4), (0, x5)] [] w) else none) (fun _ => rfl)).trans (EX_if.trans (and_congr Iff.rfl (EX_br.trans (and_congr (imp_congr Iff.rfl Iff.rfl) (imp_congr Iff.rfl Iff.rfl)))))
set_option maxRecDepth 100000 in
theorem b200_44 {d : Nat} {w : vW} {x0 x1 x3 x4 x5 : Int} {Q : Int → vW → Prop} : VW d 200 44 [(2, x0), (1, x1), (9, 0), (0, x3), (0, x4), (0, x5)] [] w Q ↔ (vkd w x0 = 15) ∧ (((vct w x0 17) < 3000 → VW d 200 60 [(2, x0), (1, x1), (9, 0), (0, x3), (0, x4), (0, x5)] [] w Q) ∧ (¬ ((vct w x0 17) < 3000) → VW d 200 54 [(2, x0), (1, x1), (9, 0), (0, x3), (0, x4), (0, x5)] [] w Q)) :=
  (VW_b 4 (F := fun n => if vkd w x0 = 15 then (if (vct w x0 17) < 3000 then vrun n d 200 60 [(2, x0), (1, x1), (9, 0), (0, x3), (0, x4), (0, x5)] [] w else vrun n d 200 54 [(2, x0), (1, x1), (9, 0), (0, x3), (0, x4), (0, x5)] [] w) else none) (fun _ => rfl)).trans (EX_if.trans (and_congr Iff.rfl (EX_br.trans (and_congr (imp_congr Iff.rfl Iff.rfl) (imp_congr Iff.rfl Iff.rfl)))))
set_option maxRecDepth 100000 in
theorem b200_54 {d : Nat} {w : vW} {x0 x1 x3 x4 x5 : Int} {Q : Int → vW → Prop} : VW d 200 54 [(2, x0), (1, x1), (9, 0), (0, x3), (0, x4), (0, x5)] [] w Q ↔ ((0 : Int) ≤ 1 ∧ 1 ≤ 1) ∧ (vkd w x0 = 15) ∧ VW d 200 59 [(2, x0), (1, x1), (9, 0), (0, x3), (0, x4), (0, x5)] [] (vsv w x0 12 1) Q :=
  (VW_b 3 (F := fun n => if (0 : Int) ≤ 1 ∧ 1 ≤ 1 then if vkd w x0 = 15 then vrun n d 200 59 [(2, x0), (1, x1), (9, 0), (0, x3), (0, x4), (0, x5)] [] (vsv w x0 12 1) else none else none) (fun _ => rfl)).trans (EX_if.trans (and_congr Iff.rfl (EX_if.trans (and_congr Iff.rfl (Iff.rfl)))))
set_option maxRecDepth 100000 in
theorem b200_59 {d : Nat} {w : vW} {x0 x1 x3 x4 x5 : Int} {Q : Int → vW → Prop} : VW d 200 59 [(2, x0), (1, x1), (9, 0), (0, x3), (0, x4), (0, x5)] [] w Q ↔ Q 0 w :=
  (VW_b 1 (F := fun n => some (0, 0, w)) (fun _ => rfl)).trans (EX_ret0)
set_option maxRecDepth 100000 in
theorem b200_60 {d : Nat} {w : vW} {x0 x1 x3 x4 x5 : Int} {Q : Int → vW → Prop} : VW d 200 60 [(2, x0), (1, x1), (9, 0), (0, x3), (0, x4), (0, x5)] [] w Q ↔ (vkd w x0 = 15) ∧ (vkd w x0 = 15) ∧ (vkd w (vct w x0 0) = 2 ∧ (0 : Int) ≤ (vct w x0 17) ∧ (vct w x0 17) < vln w (vct w x0 0)) ∧ VW d 200 70 [(2, x0), (1, x1), (9, 0), (0, x3), (0, x4), (0, x5)] [] (vsv w (vct w x0 0) (vct w x0 17) x1) Q :=
  (VW_b 6 (F := fun n => if vkd w x0 = 15 then if vkd w x0 = 15 then if vkd w (vct w x0 0) = 2 ∧ (0 : Int) ≤ (vct w x0 17) ∧ (vct w x0 17) < vln w (vct w x0 0) then vrun n d 200 70 [(2, x0), (1, x1), (9, 0), (0, x3), (0, x4), (0, x5)] [] (vsv w (vct w x0 0) (vct w x0 17) x1) else none else none else none) (fun _ => rfl)).trans (EX_if.trans (and_congr Iff.rfl (EX_if.trans (and_congr Iff.rfl (EX_if.trans (and_congr Iff.rfl (Iff.rfl)))))))
set_option maxRecDepth 100000 in
theorem b200_70 {d : Nat} {w : vW} {x0 x1 x3 x4 x5 : Int} {Q : Int → vW → Prop} : VW d 200 70 [(2, x0), (1, x1), (9, 0), (0, x3), (0, x4), (0, x5)] [] w Q ↔ (vkd w x0 = 15) ∧ (vkd w x0 = 15) ∧ (vkd w (vct w x0 1) = 1 ∧ (0 : Int) ≤ (vct w x0 17) ∧ (vct w x0 17) < vln w (vct w x0 1)) ∧ VW d 200 80 [(2, x0), (1, x1), (9, 0), (0, x3), (0, x4), (0, x5)] [] (vsv w (vct w x0 1) (vct w x0 17) x3) Q :=
  (VW_b 6 (F := fun n => if vkd w x0 = 15 then if vkd w x0 = 15 then if vkd w (vct w x0 1) = 1 ∧ (0 : Int) ≤ (vct w x0 17) ∧ (vct w x0 17) < vln w (vct w x0 1) then vrun n d 200 80 [(2, x0), (1, x1), (9, 0), (0, x3), (0, x4), (0, x5)] [] (vsv w (vct w x0 1) (vct w x0 17) x3) else none else none else none) (fun _ => rfl)).trans (EX_if.trans (and_congr Iff.rfl (EX_if.trans (and_congr Iff.rfl (EX_if.trans (and_congr Iff.rfl (Iff.rfl)))))))
set_option maxRecDepth 100000 in
theorem b200_80 {d : Nat} {w : vW} {x0 x1 x3 x4 x5 : Int} {Q : Int → vW → Prop} : VW d 200 80 [(2, x0), (1, x1), (9, 0), (0, x3), (0, x4), (0, x5)] [] w Q ↔ (vkd w x0 = 15) ∧ (vkd w x0 = 15) ∧ (vkd w (vct w x0 2) = 1 ∧ (0 : Int) ≤ (vct w x0 17) ∧ (vct w x0 17) < vln w (vct w x0 2)) ∧ VW d 200 91 [(2, x0), (1, x1), (9, 0), (0, x3), (0, x4), (0, x5)] [] (vsv w (vct w x0 2) (vct w x0 17) x4) Q :=
  (VW_b 6 (F := fun n => if vkd w x0 = 15 then if vkd w x0 = 15 then if vkd w (vct w x0 2) = 1 ∧ (0 : Int) ≤ (vct w x0 17) ∧ (vct w x0 17) < vln w (vct w x0 2) then vrun n d 200 91 [(2, x0), (1, x1), (9, 0), (0, x3), (0, x4), (0, x5)] [] (vsv w (vct w x0 2) (vct w x0 17) x4) else none else none else none) (fun _ => rfl)).trans (EX_if.trans (and_congr Iff.rfl (EX_if.trans (and_congr Iff.rfl (EX_if.trans (and_congr Iff.rfl (Iff.rfl)))))))
set_option maxRecDepth 100000 in
theorem b200_91 {d : Nat} {w : vW} {x0 x1 x3 x4 x5 : Int} {Q : Int → vW → Prop} : VW d 200 91 [(2, x0), (1, x1), (9, 0), (0, x3), (0, x4), (0, x5)] [] w Q ↔ (vkd w x0 = 15) ∧ (vkd w x0 = 15) ∧ ((x3 < 0 → VW d 200 103 [(2, x0), (1, x1), (9, 0), (0, x3), (0, x4), (0, x5)] [(0, vct w x0 17), (2, vct w x0 3)] w Q) ∧ (¬ (x3 < 0) → VW d 200 107 [(2, x0), (1, x1), (9, 0), (0, x3), (0, x4), (0, x5)] [(0, vct w x0 17), (2, vct w x0 3)] w Q)) :=
  (VW_b 6 (F := fun n => if vkd w x0 = 15 then if vkd w x0 = 15 then (if x3 < 0 then vrun n d 200 103 [(2, x0), (1, x1), (9, 0), (0, x3), (0, x4), (0, x5)] [(0, vct w x0 17), (2, vct w x0 3)] w else vrun n d 200 107 [(2, x0), (1, x1), (9, 0), (0, x3), (0, x4), (0, x5)] [(0, vct w x0 17), (2, vct w x0 3)] w) else none else none) (fun _ => rfl)).trans (EX_if.trans (and_congr Iff.rfl (EX_if.trans (and_congr Iff.rfl (EX_br.trans (and_congr (imp_congr Iff.rfl Iff.rfl) (imp_congr Iff.rfl Iff.rfl)))))))
set_option maxRecDepth 100000 in
theorem b200_103 {d : Nat} {w : vW} {x0 x1 x3 x4 x5 y0 y1 : Int} {Q : Int → vW → Prop} : VW d 200 103 [(2, x0), (1, x1), (9, 0), (0, x3), (0, x4), (0, x5)] [(0, y1), (2, y0)] w Q ↔ VW d 200 114 [(2, x0), (1, x1), (9, 0), (0, x3), (0, x4), (0, x5)] [(0, 0), (0, y1), (2, y0)] w Q :=
  (VW_b 2 (F := fun n => vrun n d 200 114 [(2, x0), (1, x1), (9, 0), (0, x3), (0, x4), (0, x5)] [(0, 0), (0, y1), (2, y0)] w) (fun _ => rfl)).trans (Iff.rfl)
set_option maxRecDepth 100000 in
theorem b200_107 {d : Nat} {w : vW} {x0 x1 x3 x4 x5 y0 y1 : Int} {Q : Int → vW → Prop} : VW d 200 107 [(2, x0), (1, x1), (9, 0), (0, x3), (0, x4), (0, x5)] [(0, y1), (2, y0)] w Q ↔ (vkd w x0 = 15) ∧ VC d 222 [(2, x0), (0, x3)] w (fun r w1 => VW d 200 112 [(2, x0), (1, x1), (9, 0), (0, x3), (0, x4), (0, x5)] [(0, r), (0, y1), (2, y0)] w1 Q) :=
  (VW_b 3 (F := fun n => if vkd w x0 = 15 then vclr (vrun n) d 200 112 222 2 0 [(2, x0), (1, x1), (9, 0), (0, x3), (0, x4), (0, x5)] [(0, x3), (2, x0), (0, y1), (2, y0)] w else none) (fun _ => rfl)).trans (EX_if.trans (and_congr Iff.rfl (EX_call rfl)))
set_option maxRecDepth 100000 in
theorem b200_112 {d : Nat} {w : vW} {x0 x1 x3 x4 x5 y0 y1 y2 : Int} {Q : Int → vW → Prop} : VW d 200 112 [(2, x0), (1, x1), (9, 0), (0, x3), (0, x4), (0, x5)] [(0, y2), (0, y1), (2, y0)] w Q ↔ VW d 200 114 [(2, x0), (1, x1), (9, 0), (0, x3), (0, x4), (0, x5)] [(0, w32 (y2 + 1)), (0, y1), (2, y0)] w Q :=
  (VW_b 2 (F := fun n => vrun n d 200 114 [(2, x0), (1, x1), (9, 0), (0, x3), (0, x4), (0, x5)] [(0, w32 (y2 + 1)), (0, y1), (2, y0)] w) (fun _ => rfl)).trans (Iff.rfl)
set_option maxRecDepth 100000 in
theorem b200_114 {d : Nat} {w : vW} {x0 x1 x3 x4 x5 y0 y1 y2 : Int} {Q : Int → vW → Prop} : VW d 200 114 [(2, x0), (1, x1), (9, 0), (0, x3), (0, x4), (0, x5)] [(0, y2), (0, y1), (2, y0)] w Q ↔ (vkd w y0 = 1 ∧ (0 : Int) ≤ y1 ∧ y1 < vln w y0) ∧ VW d 200 115 [(2, x0), (1, x1), (9, 0), (0, x3), (0, x4), (0, x5)] [] (vsv w y0 y1 y2) Q :=
  (VW_b 1 (F := fun n => if vkd w y0 = 1 ∧ (0 : Int) ≤ y1 ∧ y1 < vln w y0 then vrun n d 200 115 [(2, x0), (1, x1), (9, 0), (0, x3), (0, x4), (0, x5)] [] (vsv w y0 y1 y2) else none) (fun _ => rfl)).trans (EX_if.trans (and_congr Iff.rfl (Iff.rfl)))
set_option maxRecDepth 100000 in
theorem b200_115 {d : Nat} {w : vW} {x0 x1 x3 x4 x5 : Int} {Q : Int → vW → Prop} : VW d 200 115 [(2, x0), (1, x1), (9, 0), (0, x3), (0, x4), (0, x5)] [] w Q ↔ (vkd w x0 = 15) ∧ (vkd w x0 = 15) ∧ ((0 : Int) ≤ 0 ∧ 0 ≤ 1) ∧ (vkd w (vct w x0 4) = 3 ∧ (0 : Int) ≤ (vct w x0 17) ∧ (vct w x0 17) < vln w (vct w x0 4)) ∧ VW d 200 125 [(2, x0), (1, x1), (9, 0), (0, x3), (0, x4), (0, x5)] [] (vsv w (vct w x0 4) (vct w x0 17) 0) Q :=
  (VW_b 6 (F := fun n => if vkd w x0 = 15 then if vkd w x0 = 15 then if (0 : Int) ≤ 0 ∧ 0 ≤ 1 then if vkd w (vct w x0 4) = 3 ∧ (0 : Int) ≤ (vct w x0 17) ∧ (vct w x0 17) < vln w (vct w x0 4) then vrun n d 200 125 [(2, x0), (1, x1), (9, 0), (0, x3), (0, x4), (0, x5)] [] (vsv w (vct w x0 4) (vct w x0 17) 0) else none else none else none else none) (fun _ => rfl)).trans (EX_if.trans (and_congr Iff.rfl (EX_if.trans (and_congr Iff.rfl (EX_if.trans (and_congr Iff.rfl (EX_if.trans (and_congr Iff.rfl (Iff.rfl)))))))))
set_option maxRecDepth 100000 in
theorem b200_125 {d : Nat} {w : vW} {x0 x1 x3 x4 x5 : Int} {Q : Int → vW → Prop} : VW d 200 125 [(2, x0), (1, x1), (9, 0), (0, x3), (0, x4), (0, x5)] [] w Q ↔ (vkd w x0 = 15) ∧ (vkd w x0 = 15) ∧ (vkd w x0 = 15) ∧ (vkd w (vct w x0 7) = 1 ∧ (0 : Int) ≤ x5 ∧ x5 < vln w (vct w x0 7)) ∧ VW d 200 141 [(2, x0), (1, x1), (9, 0), (0, x3), (0, x4), (0, x5)] [] (vsv w (vct w x0 7) x5 (w32 ((vct w x0 8) + (vct w x0 17)))) Q :=
  (VW_b 9 (F := fun n => if vkd w x0 = 15 then if vkd w x0 = 15 then if vkd w x0 = 15 then if vkd w (vct w x0 7) = 1 ∧ (0 : Int) ≤ x5 ∧ x5 < vln w (vct w x0 7) then vrun n d 200 141 [(2, x0), (1, x1), (9, 0), (0, x3), (0, x4), (0, x5)] [] (vsv w (vct w x0 7) x5 (w32 ((vct w x0 8) + (vct w x0 17)))) else none else none else none else none) (fun _ => rfl)).trans (EX_if.trans (and_congr Iff.rfl (EX_if.trans (and_congr Iff.rfl (EX_if.trans (and_congr Iff.rfl (EX_if.trans (and_congr Iff.rfl (Iff.rfl)))))))))
set_option maxRecDepth 100000 in
theorem b200_141 {d : Nat} {w : vW} {x0 x1 x3 x4 x5 : Int} {Q : Int → vW → Prop} : VW d 200 141 [(2, x0), (1, x1), (9, 0), (0, x3), (0, x4), (0, x5)] [] w Q ↔ (vkd w x0 = 15) ∧ (vkd w x0 = 15) ∧ VW d 200 151 [(2, x0), (1, x1), (9, 0), (0, x3), (0, x4), (0, x5)] [] (vsv w x0 17 (w32 ((vct w x0 17) + 1))) Q :=
  (VW_b 6 (F := fun n => if vkd w x0 = 15 then if vkd w x0 = 15 then vrun n d 200 151 [(2, x0), (1, x1), (9, 0), (0, x3), (0, x4), (0, x5)] [] (vsv w x0 17 (w32 ((vct w x0 17) + 1))) else none else none) (fun _ => rfl)).trans (EX_if.trans (and_congr Iff.rfl (EX_if.trans (and_congr Iff.rfl (Iff.rfl)))))
set_option maxRecDepth 100000 in
theorem b200_151 {d : Nat} {w : vW} {x0 x1 x3 x4 x5 : Int} {Q : Int → vW → Prop} : VW d 200 151 [(2, x0), (1, x1), (9, 0), (0, x3), (0, x4), (0, x5)] [] w Q ↔ Q 0 w :=
  (VW_b 1 (F := fun n => some (0, 0, w)) (fun _ => rfl)).trans (EX_ret0)
/-! 201: StrikeWhatCancels$Net.search(LStrikeWhatCancels$Rules;JI)Z -/
set_option maxRecDepth 100000 in
theorem b201_0 {d : Nat} {w : vW} {x0 x1 x2 x4 : Int} {Q : Int → vW → Prop} : VW d 201 0 [(2, x0), (2, x1), (1, x2), (9, 0), (0, x4), (9, 0), (9, 0)] [] w Q ↔ (vkd w x0 = 15) ∧ (vkd w x1 = 18) ∧ (((vct w x0 14) = (vct w x1 4) → VW d 201 11 [(2, x0), (2, x1), (1, x2), (9, 0), (0, x4), (9, 0), (9, 0)] [] w Q) ∧ (¬ ((vct w x0 14) = (vct w x1 4)) → VW d 201 42 [(2, x0), (2, x1), (1, x2), (9, 0), (0, x4), (9, 0), (9, 0)] [] w Q)) :=
  (VW_b 5 (F := fun n => if vkd w x0 = 15 then if vkd w x1 = 18 then (if (vct w x0 14) = (vct w x1 4) then vrun n d 201 11 [(2, x0), (2, x1), (1, x2), (9, 0), (0, x4), (9, 0), (9, 0)] [] w else vrun n d 201 42 [(2, x0), (2, x1), (1, x2), (9, 0), (0, x4), (9, 0), (9, 0)] [] w) else none else none) (fun _ => rfl)).trans (EX_if.trans (and_congr Iff.rfl (EX_if.trans (and_congr Iff.rfl (EX_br.trans (and_congr (imp_congr Iff.rfl Iff.rfl) (imp_congr Iff.rfl Iff.rfl)))))))
set_option maxRecDepth 100000 in
theorem b201_11 {d : Nat} {w : vW} {x0 x1 x2 x4 : Int} {Q : Int → vW → Prop} : VW d 201 11 [(2, x0), (2, x1), (1, x2), (9, 0), (0, x4), (9, 0), (9, 0)] [] w Q ↔ (vkd w x0 = 15) ∧ (((vlc (vct w x0 15) x2) = 0 → VW d 201 20 [(2, x0), (2, x1), (1, x2), (9, 0), (0, x4), (9, 0), (9, 0)] [] w Q) ∧ (¬ ((vlc (vct w x0 15) x2) = 0) → VW d 201 42 [(2, x0), (2, x1), (1, x2), (9, 0), (0, x4), (9, 0), (9, 0)] [] w Q)) :=
  (VW_b 5 (F := fun n => if vkd w x0 = 15 then (if (vlc (vct w x0 15) x2) = 0 then vrun n d 201 20 [(2, x0), (2, x1), (1, x2), (9, 0), (0, x4), (9, 0), (9, 0)] [] w else vrun n d 201 42 [(2, x0), (2, x1), (1, x2), (9, 0), (0, x4), (9, 0), (9, 0)] [] w) else none) (fun _ => rfl)).trans (EX_if.trans (and_congr Iff.rfl (EX_br.trans (and_congr (imp_congr Iff.rfl Iff.rfl) (imp_congr Iff.rfl Iff.rfl)))))
set_option maxRecDepth 100000 in
theorem b201_20 {d : Nat} {w : vW} {x0 x1 x2 x4 : Int} {Q : Int → vW → Prop} : VW d 201 20 [(2, x0), (2, x1), (1, x2), (9, 0), (0, x4), (9, 0), (9, 0)] [] w Q ↔ (vkd w x0 = 15) ∧ (((vct w x0 16) = x4 → VW d 201 29 [(2, x0), (2, x1), (1, x2), (9, 0), (0, x4), (9, 0), (9, 0)] [] w Q) ∧ (¬ ((vct w x0 16) = x4) → VW d 201 42 [(2, x0), (2, x1), (1, x2), (9, 0), (0, x4), (9, 0), (9, 0)] [] w Q)) :=
  (VW_b 4 (F := fun n => if vkd w x0 = 15 then (if (vct w x0 16) = x4 then vrun n d 201 29 [(2, x0), (2, x1), (1, x2), (9, 0), (0, x4), (9, 0), (9, 0)] [] w else vrun n d 201 42 [(2, x0), (2, x1), (1, x2), (9, 0), (0, x4), (9, 0), (9, 0)] [] w) else none) (fun _ => rfl)).trans (EX_if.trans (and_congr Iff.rfl (EX_br.trans (and_congr (imp_congr Iff.rfl Iff.rfl) (imp_congr Iff.rfl Iff.rfl)))))
set_option maxRecDepth 100000 in
theorem b201_29 {d : Nat} {w : vW} {x0 x1 x2 x4 : Int} {Q : Int → vW → Prop} : VW d 201 29 [(2, x0), (2, x1), (1, x2), (9, 0), (0, x4), (9, 0), (9, 0)] [] w Q ↔ (vkd w x0 = 15) ∧ (((vct w x0 12) = 0 → VW d 201 36 [(2, x0), (2, x1), (1, x2), (9, 0), (0, x4), (9, 0), (9, 0)] [] w Q) ∧ (¬ ((vct w x0 12) = 0) → VW d 201 40 [(2, x0), (2, x1), (1, x2), (9, 0), (0, x4), (9, 0), (9, 0)] [] w Q)) :=
  (VW_b 3 (F := fun n => if vkd w x0 = 15 then (if (vct w x0 12) = 0 then vrun n d 201 36 [(2, x0), (2, x1), (1, x2), (9, 0), (0, x4), (9, 0), (9, 0)] [] w else vrun n d 201 40 [(2, x0), (2, x1), (1, x2), (9, 0), (0, x4), (9, 0), (9, 0)] [] w) else none) (fun _ => rfl)).trans (EX_if.trans (and_congr Iff.rfl (EX_br.trans (and_congr (imp_congr Iff.rfl Iff.rfl) (imp_congr Iff.rfl Iff.rfl)))))
set_option maxRecDepth 100000 in
theorem b201_36 {d : Nat} {w : vW} {x0 x1 x2 x4 : Int} {Q : Int → vW → Prop} : VW d 201 36 [(2, x0), (2, x1), (1, x2), (9, 0), (0, x4), (9, 0), (9, 0)] [] w Q ↔ VW d 201 41 [(2, x0), (2, x1), (1, x2), (9, 0), (0, x4), (9, 0), (9, 0)] [(0, 1)] w Q :=
  (VW_b 2 (F := fun n => vrun n d 201 41 [(2, x0), (2, x1), (1, x2), (9, 0), (0, x4), (9, 0), (9, 0)] [(0, 1)] w) (fun _ => rfl)).trans (Iff.rfl)
set_option maxRecDepth 100000 in
theorem b201_40 {d : Nat} {w : vW} {x0 x1 x2 x4 : Int} {Q : Int → vW → Prop} : VW d 201 40 [(2, x0), (2, x1), (1, x2), (9, 0), (0, x4), (9, 0), (9, 0)] [] w Q ↔ VW d 201 41 [(2, x0), (2, x1), (1, x2), (9, 0), (0, x4), (9, 0), (9, 0)] [(0, 0)] w Q :=
  (VW_b 1 (F := fun n => vrun n d 201 41 [(2, x0), (2, x1), (1, x2), (9, 0), (0, x4), (9, 0), (9, 0)] [(0, 0)] w) (fun _ => rfl)).trans (Iff.rfl)
set_option maxRecDepth 100000 in
theorem b201_41 {d : Nat} {w : vW} {x0 x1 x2 x4 y0 : Int} {Q : Int → vW → Prop} : VW d 201 41 [(2, x0), (2, x1), (1, x2), (9, 0), (0, x4), (9, 0), (9, 0)] [(0, y0)] w Q ↔ ((0 : Int) ≤ y0 ∧ y0 ≤ 1) ∧ Q y0 w :=
  (VW_b 1 (F := fun n => if (0 : Int) ≤ y0 ∧ y0 ≤ 1 then some (0, y0, w) else none) (fun _ => rfl)).trans (EX_if.trans (and_congr Iff.rfl (EX_ret0)))
set_option maxRecDepth 100000 in
theorem b201_42 {d : Nat} {w : vW} {x0 x1 x2 x4 : Int} {Q : Int → vW → Prop} : VW d 201 42 [(2, x0), (2, x1), (1, x2), (9, 0), (0, x4), (9, 0), (9, 0)] [] w Q ↔ (vkd w x0 = 15) ∧ VC d 197 [(2, x0), (1, x2)] w (fun _ w1 => VW d 201 47 [(2, x0), (2, x1), (1, x2), (9, 0), (0, x4), (9, 0), (9, 0)] [] w1 Q) :=
  (VW_b 3 (F := fun n => if vkd w x0 = 15 then vclr (vrun n) d 201 47 197 2 9 [(2, x0), (2, x1), (1, x2), (9, 0), (0, x4), (9, 0), (9, 0)] [(1, x2), (2, x0)] w else none) (fun _ => rfl)).trans (EX_if.trans (and_congr Iff.rfl (EX_call rfl)))
set_option maxRecDepth 100000 in
theorem b201_47 {d : Nat} {w : vW} {x0 x1 x2 x4 : Int} {Q : Int → vW → Prop} : VW d 201 47 [(2, x0), (2, x1), (1, x2), (9, 0), (0, x4), (9, 0), (9, 0)] [] w Q ↔ (vkd w x1 = 18) ∧ (vkd w x0 = 15) ∧ VW d 201 55 [(2, x0), (2, x1), (1, x2), (9, 0), (0, x4), (9, 0), (9, 0)] [] (vsv w x0 14 (vct w x1 4)) Q :=
  (VW_b 4 (F := fun n => if vkd w x1 = 18 then if vkd w x0 = 15 then vrun n d 201 55 [(2, x0), (2, x1), (1, x2), (9, 0), (0, x4), (9, 0), (9, 0)] [] (vsv w x0 14 (vct w x1 4)) else none else none) (fun _ => rfl)).trans (EX_if.trans (and_congr Iff.rfl (EX_if.trans (and_congr Iff.rfl (Iff.rfl)))))
set_option maxRecDepth 100000 in
theorem b201_55 {d : Nat} {w : vW} {x0 x1 x2 x4 : Int} {Q : Int → vW → Prop} : VW d 201 55 [(2, x0), (2, x1), (1, x2), (9, 0), (0, x4), (9, 0), (9, 0)] [] w Q ↔ (vkd w x0 = 15) ∧ VW d 201 61 [(2, x0), (2, x1), (1, x2), (9, 0), (0, x4), (9, 0), (9, 0)] [] (vsv w x0 16 x4) Q :=
  (VW_b 3 (F := fun n => if vkd w x0 = 15 then vrun n d 201 61 [(2, x0), (2, x1), (1, x2), (9, 0), (0, x4), (9, 0), (9, 0)] [] (vsv w x0 16 x4) else none) (fun _ => rfl)).trans (EX_if.trans (and_congr Iff.rfl (Iff.rfl)))
set_option maxRecDepth 100000 in
theorem b201_61 {d : Nat} {w : vW} {x0 x1 x2 x4 : Int} {Q : Int → vW → Prop} : VW d 201 61 [(2, x0), (2, x1), (1, x2), (9, 0), (0, x4), (9, 0), (9, 0)] [] w Q ↔ VW d 201 64 [(2, x0), (2, x1), (1, x2), (9, 0), (0, x4), (0, 0), (9, 0)] [] w Q :=
  (VW_b 2 (F := fun n => vrun n d 201 64 [(2, x0), (2, x1), (1, x2), (9, 0), (0, x4), (0, 0), (9, 0)] [] w) (fun _ => rfl)).trans (Iff.rfl)
set_option maxRecDepth 100000 in
theorem b201_64 {d : Nat} {w : vW} {x0 x1 x2 x4 x5 : Int} {v6 : vV} {Q : Int → vW → Prop} : VW d 201 64 [(2, x0), (2, x1), (1, x2), (9, 0), (0, x4), (0, x5), v6] [] w Q ↔ (vkd w x0 = 15) ∧ ((x5 < (vct w x0 17) → VW d 201 73 [(2, x0), (2, x1), (1, x2), (9, 0), (0, x4), (0, x5), v6] [] w Q) ∧ (¬ (x5 < (vct w x0 17)) → VW d 201 161 [(2, x0), (2, x1), (1, x2), (9, 0), (0, x4), (0, x5), v6] [] w Q)) :=
  (VW_b 4 (F := fun n => if vkd w x0 = 15 then (if x5 < (vct w x0 17) then vrun n d 201 73 [(2, x0), (2, x1), (1, x2), (9, 0), (0, x4), (0, x5), v6] [] w else vrun n d 201 161 [(2, x0), (2, x1), (1, x2), (9, 0), (0, x4), (0, x5), v6] [] w) else none) (fun _ => rfl)).trans (EX_if.trans (and_congr Iff.rfl (EX_br.trans (and_congr (imp_congr Iff.rfl Iff.rfl) (imp_congr Iff.rfl Iff.rfl)))))
set_option maxRecDepth 100000 in
theorem b201_73 {d : Nat} {w : vW} {x0 x1 x2 x4 x5 : Int} {v6 : vV} {Q : Int → vW → Prop} : VW d 201 73 [(2, x0), (2, x1), (1, x2), (9, 0), (0, x4), (0, x5), v6] [] w Q ↔ ((x5 < 3000 → VW d 201 81 [(2, x0), (2, x1), (1, x2), (9, 0), (0, x4), (0, x5), v6] [] w Q) ∧ (¬ (x5 < 3000) → VW d 201 161 [(2, x0), (2, x1), (1, x2), (9, 0), (0, x4), (0, x5), v6] [] w Q)) :=
  (VW_b 3 (F := fun n => (if x5 < 3000 then vrun n d 201 81 [(2, x0), (2, x1), (1, x2), (9, 0), (0, x4), (0, x5), v6] [] w else vrun n d 201 161 [(2, x0), (2, x1), (1, x2), (9, 0), (0, x4), (0, x5), v6] [] w)) (fun _ => rfl)).trans (EX_br.trans (and_congr (imp_congr Iff.rfl Iff.rfl) (imp_congr Iff.rfl Iff.rfl)))
set_option maxRecDepth 100000 in
theorem b201_81 {d : Nat} {w : vW} {x0 x1 x2 x4 x5 : Int} {v6 : vV} {Q : Int → vW → Prop} : VW d 201 81 [(2, x0), (2, x1), (1, x2), (9, 0), (0, x4), (0, x5), v6] [] w Q ↔ (vkd w x0 = 15) ∧ (((vct w x0 12) = 0 → VW d 201 88 [(2, x0), (2, x1), (1, x2), (9, 0), (0, x4), (0, x5), v6] [] w Q) ∧ (¬ ((vct w x0 12) = 0) → VW d 201 161 [(2, x0), (2, x1), (1, x2), (9, 0), (0, x4), (0, x5), v6] [] w Q)) :=
  (VW_b 3 (F := fun n => if vkd w x0 = 15 then (if (vct w x0 12) = 0 then vrun n d 201 88 [(2, x0), (2, x1), (1, x2), (9, 0), (0, x4), (0, x5), v6] [] w else vrun n d 201 161 [(2, x0), (2, x1), (1, x2), (9, 0), (0, x4), (0, x5), v6] [] w) else none) (fun _ => rfl)).trans (EX_if.trans (and_congr Iff.rfl (EX_br.trans (and_congr (imp_congr Iff.rfl Iff.rfl) (imp_congr Iff.rfl Iff.rfl)))))
set_option maxRecDepth 100000 in
theorem b201_88 {d : Nat} {w : vW} {x0 x1 x2 x4 x5 : Int} {v6 : vV} {Q : Int → vW → Prop} : VW d 201 88 [(2, x0), (2, x1), (1, x2), (9, 0), (0, x4), (0, x5), v6] [] w Q ↔ (vkd w x0 = 15) ∧ (vkd w (vct w x0 0) = 2 ∧ (0 : Int) ≤ x5 ∧ x5 < vln w (vct w x0 0)) ∧ (vkd w x0 = 15) ∧ VC d 204 [(2, x0), (2, x1), (1, vct w (vct w x0 0) x5)] w (fun _ w1 => VW d 201 100 [(2, x0), (2, x1), (1, x2), (9, 0), (0, x4), (0, x5), v6] [] w1 Q) :=
  (VW_b 7 (F := fun n => if vkd w x0 = 15 then if vkd w (vct w x0 0) = 2 ∧ (0 : Int) ≤ x5 ∧ x5 < vln w (vct w x0 0) then if vkd w x0 = 15 then vclr (vrun n) d 201 100 204 3 9 [(2, x0), (2, x1), (1, x2), (9, 0), (0, x4), (0, x5), v6] [(1, vct w (vct w x0 0) x5), (2, x1), (2, x0)] w else none else none else none) (fun _ => rfl)).trans (EX_if.trans (and_congr Iff.rfl (EX_if.trans (and_congr Iff.rfl (EX_if.trans (and_congr Iff.rfl (EX_call rfl)))))))
set_option maxRecDepth 100000 in
theorem b201_100 {d : Nat} {w : vW} {x0 x1 x2 x4 x5 : Int} {v6 : vV} {Q : Int → vW → Prop} : VW d 201 100 [(2, x0), (2, x1), (1, x2), (9, 0), (0, x4), (0, x5), v6] [] w Q ↔ (vkd w x0 = 15) ∧ (vkd w x0 = 15) ∧ (((vct w x0 11) = 0 → VW d 201 113 [(2, x0), (2, x1), (1, x2), (9, 0), (0, x4), (0, x5), v6] [(0, x5), (2, vct w x0 4)] w Q) ∧ (¬ ((vct w x0 11) = 0) → VW d 201 117 [(2, x0), (2, x1), (1, x2), (9, 0), (0, x4), (0, x5), v6] [(0, x5), (2, vct w x0 4)] w Q)) :=
  (VW_b 6 (F := fun n => if vkd w x0 = 15 then if vkd w x0 = 15 then (if (vct w x0 11) = 0 then vrun n d 201 113 [(2, x0), (2, x1), (1, x2), (9, 0), (0, x4), (0, x5), v6] [(0, x5), (2, vct w x0 4)] w else vrun n d 201 117 [(2, x0), (2, x1), (1, x2), (9, 0), (0, x4), (0, x5), v6] [(0, x5), (2, vct w x0 4)] w) else none else none) (fun _ => rfl)).trans (EX_if.trans (and_congr Iff.rfl (EX_if.trans (and_congr Iff.rfl (EX_br.trans (and_congr (imp_congr Iff.rfl Iff.rfl) (imp_congr Iff.rfl Iff.rfl)))))))
set_option maxRecDepth 100000 in
theorem b201_113 {d : Nat} {w : vW} {x0 x1 x2 x4 x5 y0 y1 : Int} {v6 : vV} {Q : Int → vW → Prop} : VW d 201 113 [(2, x0), (2, x1), (1, x2), (9, 0), (0, x4), (0, x5), v6] [(0, y1), (2, y0)] w Q ↔ VW d 201 118 [(2, x0), (2, x1), (1, x2), (9, 0), (0, x4), (0, x5), v6] [(0, 1), (0, y1), (2, y0)] w Q :=
  (VW_b 2 (F := fun n => vrun n d 201 118 [(2, x0), (2, x1), (1, x2), (9, 0), (0, x4), (0, x5), v6] [(0, 1), (0, y1), (2, y0)] w) (fun _ => rfl)).trans (Iff.rfl)
set_option maxRecDepth 100000 in
theorem b201_117 {d : Nat} {w : vW} {x0 x1 x2 x4 x5 y0 y1 : Int} {v6 : vV} {Q : Int → vW → Prop} : VW d 201 117 [(2, x0), (2, x1), (1, x2), (9, 0), (0, x4), (0, x5), v6] [(0, y1), (2, y0)] w Q ↔ VW d 201 118 [(2, x0), (2, x1), (1, x2), (9, 0), (0, x4), (0, x5), v6] [(0, 0), (0, y1), (2, y0)] w Q :=
  (VW_b 1 (F := fun n => vrun n d 201 118 [(2, x0), (2, x1), (1, x2), (9, 0), (0, x4), (0, x5), v6] [(0, 0), (0, y1), (2, y0)] w) (fun _ => rfl)).trans (Iff.rfl)
set_option maxRecDepth 100000 in
theorem b201_118 {d : Nat} {w : vW} {x0 x1 x2 x4 x5 y0 y1 y2 : Int} {v6 : vV} {Q : Int → vW → Prop} : VW d 201 118 [(2, x0), (2, x1), (1, x2), (9, 0), (0, x4), (0, x5), v6] [(0, y2), (0, y1), (2, y0)] w Q ↔ ((0 : Int) ≤ y2 ∧ y2 ≤ 1) ∧ (vkd w y0 = 3 ∧ (0 : Int) ≤ y1 ∧ y1 < vln w y0) ∧ VW d 201 119 [(2, x0), (2, x1), (1, x2), (9, 0), (0, x4), (0, x5), v6] [] (vsv w y0 y1 y2) Q :=
  (VW_b 1 (F := fun n => if (0 : Int) ≤ y2 ∧ y2 ≤ 1 then if vkd w y0 = 3 ∧ (0 : Int) ≤ y1 ∧ y1 < vln w y0 then vrun n d 201 119 [(2, x0), (2, x1), (1, x2), (9, 0), (0, x4), (0, x5), v6] [] (vsv w y0 y1 y2) else none else none) (fun _ => rfl)).trans (EX_if.trans (and_congr Iff.rfl (EX_if.trans (and_congr Iff.rfl (Iff.rfl)))))
set_option maxRecDepth 100000 in
theorem b201_119 {d : Nat} {w : vW} {x0 x1 x2 x4 x5 : Int} {v6 : vV} {Q : Int → vW → Prop} : VW d 201 119 [(2, x0), (2, x1), (1, x2), (9, 0), (0, x4), (0, x5), v6] [] w Q ↔ VW d 201 122 [(2, x0), (2, x1), (1, x2), (9, 0), (0, x4), (0, x5), (0, 0)] [] w Q :=
  (VW_b 2 (F := fun n => vrun n d 201 122 [(2, x0), (2, x1), (1, x2), (9, 0), (0, x4), (0, x5), (0, 0)] [] w) (fun _ => rfl)).trans (Iff.rfl)
set_option maxRecDepth 100000 in
theorem b201_122 {d : Nat} {w : vW} {x0 x1 x2 x4 x5 x6 : Int} {Q : Int → vW → Prop} : VW d 201 122 [(2, x0), (2, x1), (1, x2), (9, 0), (0, x4), (0, x5), (0, x6)] [] w Q ↔ (vkd w x0 = 15) ∧ ((x6 < (vct w x0 11) → VW d 201 131 [(2, x0), (2, x1), (1, x2), (9, 0), (0, x4), (0, x5), (0, x6)] [] w Q) ∧ (¬ (x6 < (vct w x0 11)) → VW d 201 155 [(2, x0), (2, x1), (1, x2), (9, 0), (0, x4), (0, x5), (0, x6)] [] w Q)) :=
  (VW_b 4 (F := fun n => if vkd w x0 = 15 then (if x6 < (vct w x0 11) then vrun n d 201 131 [(2, x0), (2, x1), (1, x2), (9, 0), (0, x4), (0, x5), (0, x6)] [] w else vrun n d 201 155 [(2, x0), (2, x1), (1, x2), (9, 0), (0, x4), (0, x5), (0, x6)] [] w) else none) (fun _ => rfl)).trans (EX_if.trans (and_congr Iff.rfl (EX_br.trans (and_congr (imp_congr Iff.rfl Iff.rfl) (imp_congr Iff.rfl Iff.rfl)))))
set_option maxRecDepth 100000 in
theorem b201_131 {d : Nat} {w : vW} {x0 x1 x2 x4 x5 x6 : Int} {Q : Int → vW → Prop} : VW d 201 131 [(2, x0), (2, x1), (1, x2), (9, 0), (0, x4), (0, x5), (0, x6)] [] w Q ↔ (vkd w x0 = 15) ∧ VC d 208 [(2, x0), (0, x6)] w (fun r w1 => VW d 201 138 [(2, x0), (2, x1), (1, x2), (9, 0), (0, x4), (0, x5), (0, x6)] [(1, r), (2, x0)] w1 Q) :=
  (VW_b 4 (F := fun n => if vkd w x0 = 15 then vclr (vrun n) d 201 138 208 2 1 [(2, x0), (2, x1), (1, x2), (9, 0), (0, x4), (0, x5), (0, x6)] [(0, x6), (2, x0), (2, x0)] w else none) (fun _ => rfl)).trans (EX_if.trans (and_congr Iff.rfl (EX_call rfl)))
set_option maxRecDepth 100000 in
theorem b201_138 {d : Nat} {w : vW} {x0 x1 x2 x4 x5 x6 y0 y1 : Int} {Q : Int → vW → Prop} : VW d 201 138 [(2, x0), (2, x1), (1, x2), (9, 0), (0, x4), (0, x5), (0, x6)] [(1, y1), (2, y0)] w Q ↔ (vkd w x0 = 15) ∧ VC d 209 [(2, x0), (0, x6)] w (fun r w1 => VW d 201 146 [(2, x0), (2, x1), (1, x2), (9, 0), (0, x4), (0, x5), (0, x6)] [(0, r), (0, x5), (1, y1), (2, y0)] w1 Q) :=
  (VW_b 4 (F := fun n => if vkd w x0 = 15 then vclr (vrun n) d 201 146 209 2 0 [(2, x0), (2, x1), (1, x2), (9, 0), (0, x4), (0, x5), (0, x6)] [(0, x6), (2, x0), (0, x5), (1, y1), (2, y0)] w else none) (fun _ => rfl)).trans (EX_if.trans (and_congr Iff.rfl (EX_call rfl)))
set_option maxRecDepth 100000 in
theorem b201_146 {d : Nat} {w : vW} {x0 x1 x2 x4 x5 x6 y0 y1 y2 y3 : Int} {Q : Int → vW → Prop} : VW d 201 146 [(2, x0), (2, x1), (1, x2), (9, 0), (0, x4), (0, x5), (0, x6)] [(0, y3), (0, y2), (1, y1), (2, y0)] w Q ↔ (vkd w y0 = 15) ∧ VC d 200 [(2, y0), (1, y1), (0, y2), (0, y3)] w (fun _ w1 => VW d 201 149 [(2, x0), (2, x1), (1, x2), (9, 0), (0, x4), (0, x5), (0, x6)] [] w1 Q) :=
  (VW_b 1 (F := fun n => if vkd w y0 = 15 then vclr (vrun n) d 201 149 200 4 9 [(2, x0), (2, x1), (1, x2), (9, 0), (0, x4), (0, x5), (0, x6)] [(0, y3), (0, y2), (1, y1), (2, y0)] w else none) (fun _ => rfl)).trans (EX_if.trans (and_congr Iff.rfl (EX_call rfl)))
set_option maxRecDepth 100000 in
theorem b201_149 {d : Nat} {w : vW} {x0 x1 x2 x4 x5 x6 : Int} {Q : Int → vW → Prop} : VW d 201 149 [(2, x0), (2, x1), (1, x2), (9, 0), (0, x4), (0, x5), (0, x6)] [] w Q ↔ VW d 201 122 [(2, x0), (2, x1), (1, x2), (9, 0), (0, x4), (0, x5), (0, w32 (x6 + 1))] [] w Q :=
  (VW_b 2 (F := fun n => vrun n d 201 122 [(2, x0), (2, x1), (1, x2), (9, 0), (0, x4), (0, x5), (0, w32 (x6 + 1))] [] w) (fun _ => rfl)).trans (Iff.rfl)
set_option maxRecDepth 100000 in
theorem b201_155 {d : Nat} {w : vW} {x0 x1 x2 x4 x5 x6 : Int} {Q : Int → vW → Prop} : VW d 201 155 [(2, x0), (2, x1), (1, x2), (9, 0), (0, x4), (0, x5), (0, x6)] [] w Q ↔ VW d 201 64 [(2, x0), (2, x1), (1, x2), (9, 0), (0, x4), (0, w32 (x5 + 1)), (0, x6)] [] w Q :=
  (VW_b 2 (F := fun n => vrun n d 201 64 [(2, x0), (2, x1), (1, x2), (9, 0), (0, x4), (0, w32 (x5 + 1)), (0, x6)] [] w) (fun _ => rfl)).trans (Iff.rfl)
set_option maxRecDepth 100000 in
theorem b201_161 {d : Nat} {w : vW} {x0 x1 x2 x4 x5 : Int} {v6 : vV} {Q : Int → vW → Prop} : VW d 201 161 [(2, x0), (2, x1), (1, x2), (9, 0), (0, x4), (0, x5), v6] [] w Q ↔ (vkd w x0 = 15) ∧ (((vct w x0 12) = 0 → VW d 201 168 [(2, x0), (2, x1), (1, x2), (9, 0), (0, x4), (0, x5), v6] [] w Q) ∧ (¬ ((vct w x0 12) = 0) → VW d 201 172 [(2, x0), (2, x1), (1, x2), (9, 0), (0, x4), (0, x5), v6] [] w Q)) :=
  (VW_b 3 (F := fun n => if vkd w x0 = 15 then (if (vct w x0 12) = 0 then vrun n d 201 168 [(2, x0), (2, x1), (1, x2), (9, 0), (0, x4), (0, x5), v6] [] w else vrun n d 201 172 [(2, x0), (2, x1), (1, x2), (9, 0), (0, x4), (0, x5), v6] [] w) else none) (fun _ => rfl)).trans (EX_if.trans (and_congr Iff.rfl (EX_br.trans (and_congr (imp_congr Iff.rfl Iff.rfl) (imp_congr Iff.rfl Iff.rfl)))))
set_option maxRecDepth 100000 in
theorem b201_168 {d : Nat} {w : vW} {x0 x1 x2 x4 x5 : Int} {v6 : vV} {Q : Int → vW → Prop} : VW d 201 168 [(2, x0), (2, x1), (1, x2), (9, 0), (0, x4), (0, x5), v6] [] w Q ↔ VW d 201 173 [(2, x0), (2, x1), (1, x2), (9, 0), (0, x4), (0, x5), v6] [(0, 1)] w Q :=
  (VW_b 2 (F := fun n => vrun n d 201 173 [(2, x0), (2, x1), (1, x2), (9, 0), (0, x4), (0, x5), v6] [(0, 1)] w) (fun _ => rfl)).trans (Iff.rfl)
set_option maxRecDepth 100000 in
theorem b201_172 {d : Nat} {w : vW} {x0 x1 x2 x4 x5 : Int} {v6 : vV} {Q : Int → vW → Prop} : VW d 201 172 [(2, x0), (2, x1), (1, x2), (9, 0), (0, x4), (0, x5), v6] [] w Q ↔ VW d 201 173 [(2, x0), (2, x1), (1, x2), (9, 0), (0, x4), (0, x5), v6] [(0, 0)] w Q :=
  (VW_b 1 (F := fun n => vrun n d 201 173 [(2, x0), (2, x1), (1, x2), (9, 0), (0, x4), (0, x5), v6] [(0, 0)] w) (fun _ => rfl)).trans (Iff.rfl)
set_option maxRecDepth 100000 in
theorem b201_173 {d : Nat} {w : vW} {x0 x1 x2 x4 x5 y0 : Int} {v6 : vV} {Q : Int → vW → Prop} : VW d 201 173 [(2, x0), (2, x1), (1, x2), (9, 0), (0, x4), (0, x5), v6] [(0, y0)] w Q ↔ ((0 : Int) ≤ y0 ∧ y0 ≤ 1) ∧ Q y0 w :=
  (VW_b 1 (F := fun n => if (0 : Int) ≤ y0 ∧ y0 ≤ 1 then some (0, y0, w) else none) (fun _ => rfl)).trans (EX_if.trans (and_congr Iff.rfl (EX_ret0)))
/-! 202: StrikeWhatCancels$Net.spread(LStrikeWhatCancels$Rules;JJI)I -/
set_option maxRecDepth 100000 in
theorem b202_0 {d : Nat} {w : vW} {x0 x1 x2 x4 x6 : Int} {Q : Int → vW → Prop} : VW d 202 0 [(2, x0), (2, x1), (1, x2), (9, 0), (1, x4), (9, 0), (0, x6), (9, 0), (9, 0)] [] w Q ↔ (vkd w x0 = 15) ∧ VC d 197 [(2, x0), (1, x2)] w (fun _ w1 => VW d 202 5 [(2, x0), (2, x1), (1, x2), (9, 0), (1, x4), (9, 0), (0, x6), (9, 0), (9, 0)] [] w1 Q) :=
  (VW_b 3 (F := fun n => if vkd w x0 = 15 then vclr (vrun n) d 202 5 197 2 9 [(2, x0), (2, x1), (1, x2), (9, 0), (1, x4), (9, 0), (0, x6), (9, 0), (9, 0)] [(1, x2), (2, x0)] w else none) (fun _ => rfl)).trans (EX_if.trans (and_congr Iff.rfl (EX_call rfl)))
set_option maxRecDepth 100000 in
theorem b202_5 {d : Nat} {w : vW} {x0 x1 x2 x4 x6 : Int} {Q : Int → vW → Prop} : VW d 202 5 [(2, x0), (2, x1), (1, x2), (9, 0), (1, x4), (9, 0), (0, x6), (9, 0), (9, 0)] [] w Q ↔ (vkd w x0 = 15) ∧ VW d 202 10 [(2, x0), (2, x1), (1, x2), (9, 0), (1, x4), (9, 0), (0, x6), (9, 0), (9, 0)] [] (vsv w x0 14 (-1)) Q :=
  (VW_b 3 (F := fun n => if vkd w x0 = 15 then vrun n d 202 10 [(2, x0), (2, x1), (1, x2), (9, 0), (1, x4), (9, 0), (0, x6), (9, 0), (9, 0)] [] (vsv w x0 14 (-1)) else none) (fun _ => rfl)).trans (EX_if.trans (and_congr Iff.rfl (Iff.rfl)))
set_option maxRecDepth 100000 in
theorem b202_10 {d : Nat} {w : vW} {x0 x1 x2 x4 x6 : Int} {Q : Int → vW → Prop} : VW d 202 10 [(2, x0), (2, x1), (1, x2), (9, 0), (1, x4), (9, 0), (0, x6), (9, 0), (9, 0)] [] w Q ↔ (vkd w x0 = 15) ∧ VW d 202 19 [(2, x0), (2, x1), (1, x2), (9, 0), (1, x4), (9, 0), (0, x6), (0, vct w x0 17), (0, 0)] [] w Q :=
  (VW_b 5 (F := fun n => if vkd w x0 = 15 then vrun n d 202 19 [(2, x0), (2, x1), (1, x2), (9, 0), (1, x4), (9, 0), (0, x6), (0, vct w x0 17), (0, 0)] [] w else none) (fun _ => rfl)).trans (EX_if.trans (and_congr Iff.rfl (Iff.rfl)))
set_option maxRecDepth 100000 in
theorem b202_19 {d : Nat} {w : vW} {x0 x1 x2 x4 x6 x7 x8 : Int} {Q : Int → vW → Prop} : VW d 202 19 [(2, x0), (2, x1), (1, x2), (9, 0), (1, x4), (9, 0), (0, x6), (0, x7), (0, x8)] [] w Q ↔ (vkd w x0 = 15) ∧ ((x8 < (vct w x0 17) → VW d 202 28 [(2, x0), (2, x1), (1, x2), (9, 0), (1, x4), (9, 0), (0, x6), (0, x7), (0, x8)] [] w Q) ∧ (¬ (x8 < (vct w x0 17)) → VW d 202 105 [(2, x0), (2, x1), (1, x2), (9, 0), (1, x4), (9, 0), (0, x6), (0, x7), (0, x8)] [] w Q)) :=
  (VW_b 4 (F := fun n => if vkd w x0 = 15 then (if x8 < (vct w x0 17) then vrun n d 202 28 [(2, x0), (2, x1), (1, x2), (9, 0), (1, x4), (9, 0), (0, x6), (0, x7), (0, x8)] [] w else vrun n d 202 105 [(2, x0), (2, x1), (1, x2), (9, 0), (1, x4), (9, 0), (0, x6), (0, x7), (0, x8)] [] w) else none) (fun _ => rfl)).trans (EX_if.trans (and_congr Iff.rfl (EX_br.trans (and_congr (imp_congr Iff.rfl Iff.rfl) (imp_congr Iff.rfl Iff.rfl)))))
set_option maxRecDepth 100000 in
theorem b202_28 {d : Nat} {w : vW} {x0 x1 x2 x4 x6 x7 x8 : Int} {Q : Int → vW → Prop} : VW d 202 28 [(2, x0), (2, x1), (1, x2), (9, 0), (1, x4), (9, 0), (0, x6), (0, x7), (0, x8)] [] w Q ↔ ((x8 < 3000 → VW d 202 36 [(2, x0), (2, x1), (1, x2), (9, 0), (1, x4), (9, 0), (0, x6), (0, x7), (0, x8)] [] w Q) ∧ (¬ (x8 < 3000) → VW d 202 105 [(2, x0), (2, x1), (1, x2), (9, 0), (1, x4), (9, 0), (0, x6), (0, x7), (0, x8)] [] w Q)) :=
  (VW_b 3 (F := fun n => (if x8 < 3000 then vrun n d 202 36 [(2, x0), (2, x1), (1, x2), (9, 0), (1, x4), (9, 0), (0, x6), (0, x7), (0, x8)] [] w else vrun n d 202 105 [(2, x0), (2, x1), (1, x2), (9, 0), (1, x4), (9, 0), (0, x6), (0, x7), (0, x8)] [] w)) (fun _ => rfl)).trans (EX_br.trans (and_congr (imp_congr Iff.rfl Iff.rfl) (imp_congr Iff.rfl Iff.rfl)))
set_option maxRecDepth 100000 in
theorem b202_36 {d : Nat} {w : vW} {x0 x1 x2 x4 x6 x7 x8 : Int} {Q : Int → vW → Prop} : VW d 202 36 [(2, x0), (2, x1), (1, x2), (9, 0), (1, x4), (9, 0), (0, x6), (0, x7), (0, x8)] [] w Q ↔ ((x8 = x7 → VW d 202 43 [(2, x0), (2, x1), (1, x2), (9, 0), (1, x4), (9, 0), (0, x6), (0, x7), (0, x8)] [] w Q) ∧ (¬ (x8 = x7) → VW d 202 53 [(2, x0), (2, x1), (1, x2), (9, 0), (1, x4), (9, 0), (0, x6), (0, x7), (0, x8)] [] w Q)) :=
  (VW_b 3 (F := fun n => (if x8 = x7 then vrun n d 202 43 [(2, x0), (2, x1), (1, x2), (9, 0), (1, x4), (9, 0), (0, x6), (0, x7), (0, x8)] [] w else vrun n d 202 53 [(2, x0), (2, x1), (1, x2), (9, 0), (1, x4), (9, 0), (0, x6), (0, x7), (0, x8)] [] w)) (fun _ => rfl)).trans (EX_br.trans (and_congr (imp_congr Iff.rfl Iff.rfl) (imp_congr Iff.rfl Iff.rfl)))
set_option maxRecDepth 100000 in
theorem b202_43 {d : Nat} {w : vW} {x0 x1 x2 x4 x6 x7 x8 : Int} {Q : Int → vW → Prop} : VW d 202 43 [(2, x0), (2, x1), (1, x2), (9, 0), (1, x4), (9, 0), (0, x6), (0, x7), (0, x8)] [] w Q ↔ (vkd w x0 = 15) ∧ (((vct w x0 12) = 0 → VW d 202 53 [(2, x0), (2, x1), (1, x2), (9, 0), (1, x4), (9, 0), (0, x6), (0, x7), (0, x8)] [] w Q) ∧ (¬ ((vct w x0 12) = 0) → VW d 202 50 [(2, x0), (2, x1), (1, x2), (9, 0), (1, x4), (9, 0), (0, x6), (0, x7), (0, x8)] [] w Q)) :=
  (VW_b 3 (F := fun n => if vkd w x0 = 15 then (if (vct w x0 12) = 0 then vrun n d 202 53 [(2, x0), (2, x1), (1, x2), (9, 0), (1, x4), (9, 0), (0, x6), (0, x7), (0, x8)] [] w else vrun n d 202 50 [(2, x0), (2, x1), (1, x2), (9, 0), (1, x4), (9, 0), (0, x6), (0, x7), (0, x8)] [] w) else none) (fun _ => rfl)).trans (EX_if.trans (and_congr Iff.rfl (EX_br.trans (and_congr (imp_congr Iff.rfl Iff.rfl) (imp_congr Iff.rfl Iff.rfl)))))
set_option maxRecDepth 100000 in
theorem b202_50 {d : Nat} {w : vW} {x0 x1 x2 x4 x6 x7 x8 : Int} {Q : Int → vW → Prop} : VW d 202 50 [(2, x0), (2, x1), (1, x2), (9, 0), (1, x4), (9, 0), (0, x6), (0, x7), (0, x8)] [] w Q ↔ Q (-3) w :=
  (VW_b 2 (F := fun n => some (0, (-3), w)) (fun _ => rfl)).trans (EX_ret0)
set_option maxRecDepth 100000 in
theorem b202_53 {d : Nat} {w : vW} {x0 x1 x2 x4 x6 x7 x8 : Int} {Q : Int → vW → Prop} : VW d 202 53 [(2, x0), (2, x1), (1, x2), (9, 0), (1, x4), (9, 0), (0, x6), (0, x7), (0, x8)] [] w Q ↔ ((x8 = x7 → VW d 202 60 [(2, x0), (2, x1), (1, x2), (9, 0), (1, x4), (9, 0), (0, x6), (0, x7), (0, x8)] [] w Q) ∧ (¬ (x8 = x7) → VW d 202 67 [(2, x0), (2, x1), (1, x2), (9, 0), (1, x4), (9, 0), (0, x6), (0, x7), (0, x8)] [] w Q)) :=
  (VW_b 3 (F := fun n => (if x8 = x7 then vrun n d 202 60 [(2, x0), (2, x1), (1, x2), (9, 0), (1, x4), (9, 0), (0, x6), (0, x7), (0, x8)] [] w else vrun n d 202 67 [(2, x0), (2, x1), (1, x2), (9, 0), (1, x4), (9, 0), (0, x6), (0, x7), (0, x8)] [] w)) (fun _ => rfl)).trans (EX_br.trans (and_congr (imp_congr Iff.rfl Iff.rfl) (imp_congr Iff.rfl Iff.rfl)))
set_option maxRecDepth 100000 in
theorem b202_60 {d : Nat} {w : vW} {x0 x1 x2 x4 x6 x7 x8 : Int} {Q : Int → vW → Prop} : VW d 202 60 [(2, x0), (2, x1), (1, x2), (9, 0), (1, x4), (9, 0), (0, x6), (0, x7), (0, x8)] [] w Q ↔ (vkd w x0 = 15) ∧ VW d 202 69 [(2, x0), (2, x1), (1, x2), (9, 0), (1, x4), (9, 0), (0, x6), (0, x7), (0, x8)] [(0, vct w x0 17)] w Q :=
  (VW_b 3 (F := fun n => if vkd w x0 = 15 then vrun n d 202 69 [(2, x0), (2, x1), (1, x2), (9, 0), (1, x4), (9, 0), (0, x6), (0, x7), (0, x8)] [(0, vct w x0 17)] w else none) (fun _ => rfl)).trans (EX_if.trans (and_congr Iff.rfl (Iff.rfl)))
set_option maxRecDepth 100000 in
theorem b202_67 {d : Nat} {w : vW} {x0 x1 x2 x4 x6 x7 x8 : Int} {Q : Int → vW → Prop} : VW d 202 67 [(2, x0), (2, x1), (1, x2), (9, 0), (1, x4), (9, 0), (0, x6), (0, x7), (0, x8)] [] w Q ↔ VW d 202 69 [(2, x0), (2, x1), (1, x2), (9, 0), (1, x4), (9, 0), (0, x6), (0, x7), (0, x8)] [(0, x7)] w Q :=
  (VW_b 1 (F := fun n => vrun n d 202 69 [(2, x0), (2, x1), (1, x2), (9, 0), (1, x4), (9, 0), (0, x6), (0, x7), (0, x8)] [(0, x7)] w) (fun _ => rfl)).trans (Iff.rfl)
set_option maxRecDepth 100000 in
theorem b202_69 {d : Nat} {w : vW} {x0 x1 x2 x4 x6 x7 x8 y0 : Int} {Q : Int → vW → Prop} : VW d 202 69 [(2, x0), (2, x1), (1, x2), (9, 0), (1, x4), (9, 0), (0, x6), (0, x7), (0, x8)] [(0, y0)] w Q ↔ (vkd w x0 = 15) ∧ (vkd w (vct w x0 0) = 2 ∧ (0 : Int) ≤ x8 ∧ x8 < vln w (vct w x0 0)) ∧ (vkd w x0 = 15) ∧ VC d 205 [(2, x0), (2, x1), (1, vct w (vct w x0 0) x8), (0, x6)] w (fun _ w1 => VW d 202 85 [(2, x0), (2, x1), (1, x2), (9, 0), (1, x4), (9, 0), (0, x6), (0, y0), (0, x8)] [] w1 Q) :=
  (VW_b 9 (F := fun n => if vkd w x0 = 15 then if vkd w (vct w x0 0) = 2 ∧ (0 : Int) ≤ x8 ∧ x8 < vln w (vct w x0 0) then if vkd w x0 = 15 then vclr (vrun n) d 202 85 205 4 9 [(2, x0), (2, x1), (1, x2), (9, 0), (1, x4), (9, 0), (0, x6), (0, y0), (0, x8)] [(0, x6), (1, vct w (vct w x0 0) x8), (2, x1), (2, x0)] w else none else none else none) (fun _ => rfl)).trans (EX_if.trans (and_congr Iff.rfl (EX_if.trans (and_congr Iff.rfl (EX_if.trans (and_congr Iff.rfl (EX_call rfl)))))))
set_option maxRecDepth 100000 in
theorem b202_85 {d : Nat} {w : vW} {x0 x1 x2 x4 x6 x7 x8 : Int} {Q : Int → vW → Prop} : VW d 202 85 [(2, x0), (2, x1), (1, x2), (9, 0), (1, x4), (9, 0), (0, x6), (0, x7), (0, x8)] [] w Q ↔ (vkd w x0 = 15) ∧ VC d 203 [(2, x0), (0, x8), (1, x4)] w (fun r w1 => VW d 202 93 [(2, x0), (2, x1), (1, x2), (9, 0), (1, x4), (9, 0), (0, x6), (0, x7), (0, x8)] [(0, r)] w1 Q) :=
  (VW_b 4 (F := fun n => if vkd w x0 = 15 then vclr (vrun n) d 202 93 203 3 0 [(2, x0), (2, x1), (1, x2), (9, 0), (1, x4), (9, 0), (0, x6), (0, x7), (0, x8)] [(1, x4), (0, x8), (2, x0)] w else none) (fun _ => rfl)).trans (EX_if.trans (and_congr Iff.rfl (EX_call rfl)))
set_option maxRecDepth 100000 in
theorem b202_93 {d : Nat} {w : vW} {x0 x1 x2 x4 x6 x7 x8 y0 : Int} {Q : Int → vW → Prop} : VW d 202 93 [(2, x0), (2, x1), (1, x2), (9, 0), (1, x4), (9, 0), (0, x6), (0, x7), (0, x8)] [(0, y0)] w Q ↔ ((y0 = 0 → VW d 202 99 [(2, x0), (2, x1), (1, x2), (9, 0), (1, x4), (9, 0), (0, x6), (0, x7), (0, x8)] [] w Q) ∧ (¬ (y0 = 0) → VW d 202 96 [(2, x0), (2, x1), (1, x2), (9, 0), (1, x4), (9, 0), (0, x6), (0, x7), (0, x8)] [] w Q)) :=
  (VW_b 1 (F := fun n => (if y0 = 0 then vrun n d 202 99 [(2, x0), (2, x1), (1, x2), (9, 0), (1, x4), (9, 0), (0, x6), (0, x7), (0, x8)] [] w else vrun n d 202 96 [(2, x0), (2, x1), (1, x2), (9, 0), (1, x4), (9, 0), (0, x6), (0, x7), (0, x8)] [] w)) (fun _ => rfl)).trans (EX_br.trans (and_congr (imp_congr Iff.rfl Iff.rfl) (imp_congr Iff.rfl Iff.rfl)))
set_option maxRecDepth 100000 in
theorem b202_96 {d : Nat} {w : vW} {x0 x1 x2 x4 x6 x7 x8 : Int} {Q : Int → vW → Prop} : VW d 202 96 [(2, x0), (2, x1), (1, x2), (9, 0), (1, x4), (9, 0), (0, x6), (0, x7), (0, x8)] [] w Q ↔ Q x8 w :=
  (VW_b 2 (F := fun n => some (0, x8, w)) (fun _ => rfl)).trans (EX_ret0)
set_option maxRecDepth 100000 in
theorem b202_99 {d : Nat} {w : vW} {x0 x1 x2 x4 x6 x7 x8 : Int} {Q : Int → vW → Prop} : VW d 202 99 [(2, x0), (2, x1), (1, x2), (9, 0), (1, x4), (9, 0), (0, x6), (0, x7), (0, x8)] [] w Q ↔ VW d 202 19 [(2, x0), (2, x1), (1, x2), (9, 0), (1, x4), (9, 0), (0, x6), (0, x7), (0, w32 (x8 + 1))] [] w Q :=
  (VW_b 2 (F := fun n => vrun n d 202 19 [(2, x0), (2, x1), (1, x2), (9, 0), (1, x4), (9, 0), (0, x6), (0, x7), (0, w32 (x8 + 1))] [] w) (fun _ => rfl)).trans (Iff.rfl)
set_option maxRecDepth 100000 in
theorem b202_105 {d : Nat} {w : vW} {x0 x1 x2 x4 x6 x7 x8 : Int} {Q : Int → vW → Prop} : VW d 202 105 [(2, x0), (2, x1), (1, x2), (9, 0), (1, x4), (9, 0), (0, x6), (0, x7), (0, x8)] [] w Q ↔ (vkd w x0 = 15) ∧ (((vct w x0 12) = 0 → VW d 202 117 [(2, x0), (2, x1), (1, x2), (9, 0), (1, x4), (9, 0), (0, x6), (0, x7), (0, x8)] [] w Q) ∧ (¬ ((vct w x0 12) = 0) → VW d 202 112 [(2, x0), (2, x1), (1, x2), (9, 0), (1, x4), (9, 0), (0, x6), (0, x7), (0, x8)] [] w Q)) :=
  (VW_b 3 (F := fun n => if vkd w x0 = 15 then (if (vct w x0 12) = 0 then vrun n d 202 117 [(2, x0), (2, x1), (1, x2), (9, 0), (1, x4), (9, 0), (0, x6), (0, x7), (0, x8)] [] w else vrun n d 202 112 [(2, x0), (2, x1), (1, x2), (9, 0), (1, x4), (9, 0), (0, x6), (0, x7), (0, x8)] [] w) else none) (fun _ => rfl)).trans (EX_if.trans (and_congr Iff.rfl (EX_br.trans (and_congr (imp_congr Iff.rfl Iff.rfl) (imp_congr Iff.rfl Iff.rfl)))))
set_option maxRecDepth 100000 in
theorem b202_112 {d : Nat} {w : vW} {x0 x1 x2 x4 x6 x7 x8 : Int} {Q : Int → vW → Prop} : VW d 202 112 [(2, x0), (2, x1), (1, x2), (9, 0), (1, x4), (9, 0), (0, x6), (0, x7), (0, x8)] [] w Q ↔ VW d 202 119 [(2, x0), (2, x1), (1, x2), (9, 0), (1, x4), (9, 0), (0, x6), (0, x7), (0, x8)] [(0, (-3))] w Q :=
  (VW_b 2 (F := fun n => vrun n d 202 119 [(2, x0), (2, x1), (1, x2), (9, 0), (1, x4), (9, 0), (0, x6), (0, x7), (0, x8)] [(0, (-3))] w) (fun _ => rfl)).trans (Iff.rfl)
set_option maxRecDepth 100000 in
theorem b202_117 {d : Nat} {w : vW} {x0 x1 x2 x4 x6 x7 x8 : Int} {Q : Int → vW → Prop} : VW d 202 117 [(2, x0), (2, x1), (1, x2), (9, 0), (1, x4), (9, 0), (0, x6), (0, x7), (0, x8)] [] w Q ↔ VW d 202 119 [(2, x0), (2, x1), (1, x2), (9, 0), (1, x4), (9, 0), (0, x6), (0, x7), (0, x8)] [(0, (-2))] w Q :=
  (VW_b 1 (F := fun n => vrun n d 202 119 [(2, x0), (2, x1), (1, x2), (9, 0), (1, x4), (9, 0), (0, x6), (0, x7), (0, x8)] [(0, (-2))] w) (fun _ => rfl)).trans (Iff.rfl)
set_option maxRecDepth 100000 in
theorem b202_119 {d : Nat} {w : vW} {x0 x1 x2 x4 x6 x7 x8 y0 : Int} {Q : Int → vW → Prop} : VW d 202 119 [(2, x0), (2, x1), (1, x2), (9, 0), (1, x4), (9, 0), (0, x6), (0, x7), (0, x8)] [(0, y0)] w Q ↔ Q y0 w :=
  (VW_b 1 (F := fun n => some (0, y0, w)) (fun _ => rfl)).trans (EX_ret0)
/-! 203: StrikeWhatCancels$Net.catches(IJ)Z -/
set_option maxRecDepth 100000 in
theorem b203_0 {d : Nat} {w : vW} {x0 x1 x2 : Int} {Q : Int → vW → Prop} : VW d 203 0 [(2, x0), (0, x1), (1, x2), (9, 0), (9, 0)] [] w Q ↔ VW d 203 3 [(2, x0), (0, x1), (1, x2), (9, 0), (0, 0)] [] w Q :=
  (VW_b 2 (F := fun n => vrun n d 203 3 [(2, x0), (0, x1), (1, x2), (9, 0), (0, 0)] [] w) (fun _ => rfl)).trans (Iff.rfl)
set_option maxRecDepth 100000 in
theorem b203_3 {d : Nat} {w : vW} {x0 x1 x2 x4 : Int} {Q : Int → vW → Prop} : VW d 203 3 [(2, x0), (0, x1), (1, x2), (9, 0), (0, x4)] [] w Q ↔ (vkd w x0 = 15) ∧ ((x4 < (vct w x0 11) → VW d 203 12 [(2, x0), (0, x1), (1, x2), (9, 0), (0, x4)] [] w Q) ∧ (¬ (x4 < (vct w x0 11)) → VW d 203 43 [(2, x0), (0, x1), (1, x2), (9, 0), (0, x4)] [] w Q)) :=
  (VW_b 4 (F := fun n => if vkd w x0 = 15 then (if x4 < (vct w x0 11) then vrun n d 203 12 [(2, x0), (0, x1), (1, x2), (9, 0), (0, x4)] [] w else vrun n d 203 43 [(2, x0), (0, x1), (1, x2), (9, 0), (0, x4)] [] w) else none) (fun _ => rfl)).trans (EX_if.trans (and_congr Iff.rfl (EX_br.trans (and_congr (imp_congr Iff.rfl Iff.rfl) (imp_congr Iff.rfl Iff.rfl)))))
set_option maxRecDepth 100000 in
theorem b203_12 {d : Nat} {w : vW} {x0 x1 x2 x4 : Int} {Q : Int → vW → Prop} : VW d 203 12 [(2, x0), (0, x1), (1, x2), (9, 0), (0, x4)] [] w Q ↔ (vkd w x0 = 15) ∧ VC d 208 [(2, x0), (0, x4)] w (fun r w1 => VW d 203 18 [(2, x0), (0, x1), (1, x2), (9, 0), (0, x4)] [(1, r)] w1 Q) :=
  (VW_b 3 (F := fun n => if vkd w x0 = 15 then vclr (vrun n) d 203 18 208 2 1 [(2, x0), (0, x1), (1, x2), (9, 0), (0, x4)] [(0, x4), (2, x0)] w else none) (fun _ => rfl)).trans (EX_if.trans (and_congr Iff.rfl (EX_call rfl)))
set_option maxRecDepth 100000 in
theorem b203_18 {d : Nat} {w : vW} {x0 x1 x2 x4 y0 : Int} {Q : Int → vW → Prop} : VW d 203 18 [(2, x0), (0, x1), (1, x2), (9, 0), (0, x4)] [(1, y0)] w Q ↔ (((vlc y0 x2) = 0 → VW d 203 23 [(2, x0), (0, x1), (1, x2), (9, 0), (0, x4)] [] w Q) ∧ (¬ ((vlc y0 x2) = 0) → VW d 203 25 [(2, x0), (0, x1), (1, x2), (9, 0), (0, x4)] [] w Q)) :=
  (VW_b 3 (F := fun n => (if (vlc y0 x2) = 0 then vrun n d 203 23 [(2, x0), (0, x1), (1, x2), (9, 0), (0, x4)] [] w else vrun n d 203 25 [(2, x0), (0, x1), (1, x2), (9, 0), (0, x4)] [] w)) (fun _ => rfl)).trans (EX_br.trans (and_congr (imp_congr Iff.rfl Iff.rfl) (imp_congr Iff.rfl Iff.rfl)))
set_option maxRecDepth 100000 in
theorem b203_23 {d : Nat} {w : vW} {x0 x1 x2 x4 : Int} {Q : Int → vW → Prop} : VW d 203 23 [(2, x0), (0, x1), (1, x2), (9, 0), (0, x4)] [] w Q ↔ Q 1 w :=
  (VW_b 2 (F := fun n => some (0, 1, w)) (fun _ => rfl)).trans (EX_ret0)
set_option maxRecDepth 100000 in
theorem b203_25 {d : Nat} {w : vW} {x0 x1 x2 x4 : Int} {Q : Int → vW → Prop} : VW d 203 25 [(2, x0), (0, x1), (1, x2), (9, 0), (0, x4)] [] w Q ↔ (vkd w x0 = 15) ∧ VC d 208 [(2, x0), (0, x4)] w (fun r w1 => VW d 203 32 [(2, x0), (0, x1), (1, x2), (9, 0), (0, x4)] [(1, r), (2, x0)] w1 Q) :=
  (VW_b 4 (F := fun n => if vkd w x0 = 15 then vclr (vrun n) d 203 32 208 2 1 [(2, x0), (0, x1), (1, x2), (9, 0), (0, x4)] [(0, x4), (2, x0), (2, x0)] w else none) (fun _ => rfl)).trans (EX_if.trans (and_congr Iff.rfl (EX_call rfl)))
set_option maxRecDepth 100000 in
theorem b203_32 {d : Nat} {w : vW} {x0 x1 x2 x4 y0 y1 : Int} {Q : Int → vW → Prop} : VW d 203 32 [(2, x0), (0, x1), (1, x2), (9, 0), (0, x4)] [(1, y1), (2, y0)] w Q ↔ (vkd w y0 = 15) ∧ VC d 200 [(2, y0), (1, y1), (0, x1), (0, 0)] w (fun _ w1 => VW d 203 37 [(2, x0), (0, x1), (1, x2), (9, 0), (0, x4)] [] w1 Q) :=
  (VW_b 3 (F := fun n => if vkd w y0 = 15 then vclr (vrun n) d 203 37 200 4 9 [(2, x0), (0, x1), (1, x2), (9, 0), (0, x4)] [(0, 0), (0, x1), (1, y1), (2, y0)] w else none) (fun _ => rfl)).trans (EX_if.trans (and_congr Iff.rfl (EX_call rfl)))
set_option maxRecDepth 100000 in
theorem b203_37 {d : Nat} {w : vW} {x0 x1 x2 x4 : Int} {Q : Int → vW → Prop} : VW d 203 37 [(2, x0), (0, x1), (1, x2), (9, 0), (0, x4)] [] w Q ↔ VW d 203 3 [(2, x0), (0, x1), (1, x2), (9, 0), (0, w32 (x4 + 1))] [] w Q :=
  (VW_b 2 (F := fun n => vrun n d 203 3 [(2, x0), (0, x1), (1, x2), (9, 0), (0, w32 (x4 + 1))] [] w) (fun _ => rfl)).trans (Iff.rfl)
set_option maxRecDepth 100000 in
theorem b203_43 {d : Nat} {w : vW} {x0 x1 x2 x4 : Int} {Q : Int → vW → Prop} : VW d 203 43 [(2, x0), (0, x1), (1, x2), (9, 0), (0, x4)] [] w Q ↔ Q 0 w :=
  (VW_b 2 (F := fun n => some (0, 0, w)) (fun _ => rfl)).trans (EX_ret0)
/-! 204: StrikeWhatCancels$Net.step(LStrikeWhatCancels$Rules;J)V -/
set_option maxRecDepth 100000 in
theorem b204_0 {d : Nat} {w : vW} {x0 x1 x2 : Int} {Q : Int → vW → Prop} : VW d 204 0 [(2, x0), (2, x1), (1, x2), (9, 0), (9, 0), (9, 0), (9, 0)] [] w Q ↔ (vkd w x0 = 15) ∧ VW d 204 5 [(2, x0), (2, x1), (1, x2), (9, 0), (9, 0), (9, 0), (9, 0)] [] (vsv w x0 11 0) Q :=
  (VW_b 3 (F := fun n => if vkd w x0 = 15 then vrun n d 204 5 [(2, x0), (2, x1), (1, x2), (9, 0), (9, 0), (9, 0), (9, 0)] [] (vsv w x0 11 0) else none) (fun _ => rfl)).trans (EX_if.trans (and_congr Iff.rfl (Iff.rfl)))
set_option maxRecDepth 100000 in
theorem b204_5 {d : Nat} {w : vW} {x0 x1 x2 : Int} {Q : Int → vW → Prop} : VW d 204 5 [(2, x0), (2, x1), (1, x2), (9, 0), (9, 0), (9, 0), (9, 0)] [] w Q ↔ VW d 204 8 [(2, x0), (2, x1), (1, x2), (9, 0), (0, 0), (9, 0), (9, 0)] [] w Q :=
  (VW_b 2 (F := fun n => vrun n d 204 8 [(2, x0), (2, x1), (1, x2), (9, 0), (0, 0), (9, 0), (9, 0)] [] w) (fun _ => rfl)).trans (Iff.rfl)
set_option maxRecDepth 100000 in
theorem b204_8 {d : Nat} {w : vW} {x0 x1 x2 x4 : Int} {v5 v6 : vV} {Q : Int → vW → Prop} : VW d 204 8 [(2, x0), (2, x1), (1, x2), (9, 0), (0, x4), v5, v6] [] w Q ↔ (vkd w x1 = 18) ∧ ((x4 < (vct w x1 3) → VW d 204 17 [(2, x0), (2, x1), (1, x2), (9, 0), (0, x4), v5, v6] [] w Q) ∧ (¬ (x4 < (vct w x1 3)) → VW d 204 153 [(2, x0), (2, x1), (1, x2), (9, 0), (0, x4), v5, v6] [] w Q)) :=
  (VW_b 4 (F := fun n => if vkd w x1 = 18 then (if x4 < (vct w x1 3) then vrun n d 204 17 [(2, x0), (2, x1), (1, x2), (9, 0), (0, x4), v5, v6] [] w else vrun n d 204 153 [(2, x0), (2, x1), (1, x2), (9, 0), (0, x4), v5, v6] [] w) else none) (fun _ => rfl)).trans (EX_if.trans (and_congr Iff.rfl (EX_br.trans (and_congr (imp_congr Iff.rfl Iff.rfl) (imp_congr Iff.rfl Iff.rfl)))))
set_option maxRecDepth 100000 in
theorem b204_17 {d : Nat} {w : vW} {x0 x1 x2 x4 : Int} {v5 v6 : vV} {Q : Int → vW → Prop} : VW d 204 17 [(2, x0), (2, x1), (1, x2), (9, 0), (0, x4), v5, v6] [] w Q ↔ (vkd w x0 = 15) ∧ ((x4 = (vct w x0 16) → VW d 204 26 [(2, x0), (2, x1), (1, x2), (9, 0), (0, x4), v5, v6] [] w Q) ∧ (¬ (x4 = (vct w x0 16)) → VW d 204 30 [(2, x0), (2, x1), (1, x2), (9, 0), (0, x4), v5, v6] [] w Q)) :=
  (VW_b 4 (F := fun n => if vkd w x0 = 15 then (if x4 = (vct w x0 16) then vrun n d 204 26 [(2, x0), (2, x1), (1, x2), (9, 0), (0, x4), v5, v6] [] w else vrun n d 204 30 [(2, x0), (2, x1), (1, x2), (9, 0), (0, x4), v5, v6] [] w) else none) (fun _ => rfl)).trans (EX_if.trans (and_congr Iff.rfl (EX_br.trans (and_congr (imp_congr Iff.rfl Iff.rfl) (imp_congr Iff.rfl Iff.rfl)))))
set_option maxRecDepth 100000 in
theorem b204_26 {d : Nat} {w : vW} {x0 x1 x2 x4 : Int} {v5 v6 : vV} {Q : Int → vW → Prop} : VW d 204 26 [(2, x0), (2, x1), (1, x2), (9, 0), (0, x4), v5, v6] [] w Q ↔ VW d 204 44 [(2, x0), (2, x1), (1, x2), (9, 0), (0, x4), v5, v6] [(0, (-1))] w Q :=
  (VW_b 2 (F := fun n => vrun n d 204 44 [(2, x0), (2, x1), (1, x2), (9, 0), (0, x4), v5, v6] [(0, (-1))] w) (fun _ => rfl)).trans (Iff.rfl)
set_option maxRecDepth 100000 in
theorem b204_30 {d : Nat} {w : vW} {x0 x1 x2 x4 : Int} {v5 v6 : vV} {Q : Int → vW → Prop} : VW d 204 30 [(2, x0), (2, x1), (1, x2), (9, 0), (0, x4), v5, v6] [] w Q ↔ VC d 273 [(1, x2)] w (fun r w1 => VW d 204 34 [(2, x0), (2, x1), (1, x2), (9, 0), (0, x4), v5, v6] [(0, r)] w1 Q) :=
  (VW_b 2 (F := fun n => vclr (vrun n) d 204 34 273 1 0 [(2, x0), (2, x1), (1, x2), (9, 0), (0, x4), v5, v6] [(1, x2)] w) (fun _ => rfl)).trans (EX_call rfl)
set_option maxRecDepth 100000 in
theorem b204_34 {d : Nat} {w : vW} {x0 x1 x2 x4 y0 : Int} {v5 v6 : vV} {Q : Int → vW → Prop} : VW d 204 34 [(2, x0), (2, x1), (1, x2), (9, 0), (0, x4), v5, v6] [(0, y0)] w Q ↔ (vkd w x1 = 18) ∧ VC d 252 [(2, x1), (0, x4)] w (fun r w1 => VW d 204 40 [(2, x0), (2, x1), (1, x2), (9, 0), (0, x4), v5, v6] [(1, r), (0, y0)] w1 Q) :=
  (VW_b 3 (F := fun n => if vkd w x1 = 18 then vclr (vrun n) d 204 40 252 2 1 [(2, x0), (2, x1), (1, x2), (9, 0), (0, x4), v5, v6] [(0, x4), (2, x1), (0, y0)] w else none) (fun _ => rfl)).trans (EX_if.trans (and_congr Iff.rfl (EX_call rfl)))
set_option maxRecDepth 100000 in
theorem b204_40 {d : Nat} {w : vW} {x0 x1 x2 x4 y0 y1 : Int} {v5 v6 : vV} {Q : Int → vW → Prop} : VW d 204 40 [(2, x0), (2, x1), (1, x2), (9, 0), (0, x4), v5, v6] [(1, y1), (0, y0)] w Q ↔ VC d 273 [(1, y1)] w (fun r w1 => VW d 204 43 [(2, x0), (2, x1), (1, x2), (9, 0), (0, x4), v5, v6] [(0, r), (0, y0)] w1 Q) :=
  (VW_b 1 (F := fun n => vclr (vrun n) d 204 43 273 1 0 [(2, x0), (2, x1), (1, x2), (9, 0), (0, x4), v5, v6] [(1, y1), (0, y0)] w) (fun _ => rfl)).trans (EX_call rfl)
set_option maxRecDepth 100000 in
theorem b204_43 {d : Nat} {w : vW} {x0 x1 x2 x4 y0 y1 : Int} {v5 v6 : vV} {Q : Int → vW → Prop} : VW d 204 43 [(2, x0), (2, x1), (1, x2), (9, 0), (0, x4), v5, v6] [(0, y1), (0, y0)] w Q ↔ VW d 204 44 [(2, x0), (2, x1), (1, x2), (9, 0), (0, x4), v5, v6] [(0, w32 (y0 - y1))] w Q :=
  (VW_b 1 (F := fun n => vrun n d 204 44 [(2, x0), (2, x1), (1, x2), (9, 0), (0, x4), v5, v6] [(0, w32 (y0 - y1))] w) (fun _ => rfl)).trans (Iff.rfl)
set_option maxRecDepth 100000 in
theorem b204_44 {d : Nat} {w : vW} {x0 x1 x2 x4 y0 : Int} {v5 v6 : vV} {Q : Int → vW → Prop} : VW d 204 44 [(2, x0), (2, x1), (1, x2), (9, 0), (0, x4), v5, v6] [(0, y0)] w Q ↔ VW d 204 49 [(2, x0), (2, x1), (1, x2), (9, 0), (0, x4), (0, y0), (0, 0)] [] w Q :=
  (VW_b 3 (F := fun n => vrun n d 204 49 [(2, x0), (2, x1), (1, x2), (9, 0), (0, x4), (0, y0), (0, 0)] [] w) (fun _ => rfl)).trans (Iff.rfl)
set_option maxRecDepth 100000 in
theorem b204_49 {d : Nat} {w : vW} {x0 x1 x2 x4 x5 x6 : Int} {Q : Int → vW → Prop} : VW d 204 49 [(2, x0), (2, x1), (1, x2), (9, 0), (0, x4), (0, x5), (0, x6)] [] w Q ↔ ((x5 < x6 → VW d 204 147 [(2, x0), (2, x1), (1, x2), (9, 0), (0, x4), (0, x5), (0, x6)] [] w Q) ∧ (¬ (x5 < x6) → VW d 204 56 [(2, x0), (2, x1), (1, x2), (9, 0), (0, x4), (0, x5), (0, x6)] [] w Q)) :=
  (VW_b 3 (F := fun n => (if x5 < x6 then vrun n d 204 147 [(2, x0), (2, x1), (1, x2), (9, 0), (0, x4), (0, x5), (0, x6)] [] w else vrun n d 204 56 [(2, x0), (2, x1), (1, x2), (9, 0), (0, x4), (0, x5), (0, x6)] [] w)) (fun _ => rfl)).trans (EX_br.trans (and_congr (imp_congr Iff.rfl Iff.rfl) (imp_congr Iff.rfl Iff.rfl)))
set_option maxRecDepth 100000 in
theorem b204_56 {d : Nat} {w : vW} {x0 x1 x2 x4 x5 x6 : Int} {Q : Int → vW → Prop} : VW d 204 56 [(2, x0), (2, x1), (1, x2), (9, 0), (0, x4), (0, x5), (0, x6)] [] w Q ↔ (vkd w x1 = 18) ∧ VC d 260 [(2, x1), (0, x4), (1, x2), (0, x6)] w (fun r w1 => VW d 204 65 [(2, x0), (2, x1), (1, x2), (9, 0), (0, x4), (0, x5), (0, x6)] [(0, r)] w1 Q) :=
  (VW_b 5 (F := fun n => if vkd w x1 = 18 then vclr (vrun n) d 204 65 260 4 0 [(2, x0), (2, x1), (1, x2), (9, 0), (0, x4), (0, x5), (0, x6)] [(0, x6), (1, x2), (0, x4), (2, x1)] w else none) (fun _ => rfl)).trans (EX_if.trans (and_congr Iff.rfl (EX_call rfl)))
set_option maxRecDepth 100000 in
theorem b204_65 {d : Nat} {w : vW} {x0 x1 x2 x4 x5 x6 y0 : Int} {Q : Int → vW → Prop} : VW d 204 65 [(2, x0), (2, x1), (1, x2), (9, 0), (0, x4), (0, x5), (0, x6)] [(0, y0)] w Q ↔ ((y0 = 0 → VW d 204 141 [(2, x0), (2, x1), (1, x2), (9, 0), (0, x4), (0, x5), (0, x6)] [] w Q) ∧ (¬ (y0 = 0) → VW d 204 68 [(2, x0), (2, x1), (1, x2), (9, 0), (0, x4), (0, x5), (0, x6)] [] w Q)) :=
  (VW_b 1 (F := fun n => (if y0 = 0 then vrun n d 204 141 [(2, x0), (2, x1), (1, x2), (9, 0), (0, x4), (0, x5), (0, x6)] [] w else vrun n d 204 68 [(2, x0), (2, x1), (1, x2), (9, 0), (0, x4), (0, x5), (0, x6)] [] w)) (fun _ => rfl)).trans (EX_br.trans (and_congr (imp_congr Iff.rfl Iff.rfl) (imp_congr Iff.rfl Iff.rfl)))
set_option maxRecDepth 100000 in
theorem b204_68 {d : Nat} {w : vW} {x0 x1 x2 x4 x5 x6 : Int} {Q : Int → vW → Prop} : VW d 204 68 [(2, x0), (2, x1), (1, x2), (9, 0), (0, x4), (0, x5), (0, x6)] [] w Q ↔ (vkd w x0 = 15) ∧ (vkd w x0 = 15) ∧ (vkd w (vct w x0 9) = 2) ∧ (((vct w x0 11) < (vln w (vct w x0 9)) → VW d 204 80 [(2, x0), (2, x1), (1, x2), (9, 0), (0, x4), (0, x5), (0, x6)] [] w Q) ∧ (¬ ((vct w x0 11) < (vln w (vct w x0 9))) → VW d 204 141 [(2, x0), (2, x1), (1, x2), (9, 0), (0, x4), (0, x5), (0, x6)] [] w Q)) :=
  (VW_b 6 (F := fun n => if vkd w x0 = 15 then if vkd w x0 = 15 then if vkd w (vct w x0 9) = 2 then (if (vct w x0 11) < (vln w (vct w x0 9)) then vrun n d 204 80 [(2, x0), (2, x1), (1, x2), (9, 0), (0, x4), (0, x5), (0, x6)] [] w else vrun n d 204 141 [(2, x0), (2, x1), (1, x2), (9, 0), (0, x4), (0, x5), (0, x6)] [] w) else none else none else none) (fun _ => rfl)).trans (EX_if.trans (and_congr Iff.rfl (EX_if.trans (and_congr Iff.rfl (EX_if.trans (and_congr Iff.rfl (EX_br.trans (and_congr (imp_congr Iff.rfl Iff.rfl) (imp_congr Iff.rfl Iff.rfl)))))))))
set_option maxRecDepth 100000 in
theorem b204_80 {d : Nat} {w : vW} {x0 x1 x2 x4 x5 x6 : Int} {Q : Int → vW → Prop} : VW d 204 80 [(2, x0), (2, x1), (1, x2), (9, 0), (0, x4), (0, x5), (0, x6)] [] w Q ↔ (vkd w x0 = 15) ∧ (vkd w x0 = 15) ∧ (vkd w (vct w x0 10) = 1) ∧ (((vct w x0 11) < (vln w (vct w x0 10)) → VW d 204 92 [(2, x0), (2, x1), (1, x2), (9, 0), (0, x4), (0, x5), (0, x6)] [] w Q) ∧ (¬ ((vct w x0 11) < (vln w (vct w x0 10))) → VW d 204 141 [(2, x0), (2, x1), (1, x2), (9, 0), (0, x4), (0, x5), (0, x6)] [] w Q)) :=
  (VW_b 6 (F := fun n => if vkd w x0 = 15 then if vkd w x0 = 15 then if vkd w (vct w x0 10) = 1 then (if (vct w x0 11) < (vln w (vct w x0 10)) then vrun n d 204 92 [(2, x0), (2, x1), (1, x2), (9, 0), (0, x4), (0, x5), (0, x6)] [] w else vrun n d 204 141 [(2, x0), (2, x1), (1, x2), (9, 0), (0, x4), (0, x5), (0, x6)] [] w) else none else none else none) (fun _ => rfl)).trans (EX_if.trans (and_congr Iff.rfl (EX_if.trans (and_congr Iff.rfl (EX_if.trans (and_congr Iff.rfl (EX_br.trans (and_congr (imp_congr Iff.rfl Iff.rfl) (imp_congr Iff.rfl Iff.rfl)))))))))
set_option maxRecDepth 100000 in
theorem b204_92 {d : Nat} {w : vW} {x0 x1 x2 x4 x5 x6 : Int} {Q : Int → vW → Prop} : VW d 204 92 [(2, x0), (2, x1), (1, x2), (9, 0), (0, x4), (0, x5), (0, x6)] [] w Q ↔ (vkd w x0 = 15) ∧ (vkd w x0 = 15) ∧ VC d 249 [(0, x4), (0, x6)] w (fun r w1 => VW d 204 107 [(2, x0), (2, x1), (1, x2), (9, 0), (0, x4), (0, x5), (0, x6)] [(0, r), (0, vct w x0 11), (2, vct w x0 10)] w1 Q) :=
  (VW_b 7 (F := fun n => if vkd w x0 = 15 then if vkd w x0 = 15 then vclr (vrun n) d 204 107 249 2 0 [(2, x0), (2, x1), (1, x2), (9, 0), (0, x4), (0, x5), (0, x6)] [(0, x6), (0, x4), (0, vct w x0 11), (2, vct w x0 10)] w else none else none) (fun _ => rfl)).trans (EX_if.trans (and_congr Iff.rfl (EX_if.trans (and_congr Iff.rfl (EX_call rfl)))))
set_option maxRecDepth 100000 in
theorem b204_107 {d : Nat} {w : vW} {x0 x1 x2 x4 x5 x6 y0 y1 y2 : Int} {Q : Int → vW → Prop} : VW d 204 107 [(2, x0), (2, x1), (1, x2), (9, 0), (0, x4), (0, x5), (0, x6)] [(0, y2), (0, y1), (2, y0)] w Q ↔ (vkd w y0 = 1 ∧ (0 : Int) ≤ y1 ∧ y1 < vln w y0) ∧ VW d 204 108 [(2, x0), (2, x1), (1, x2), (9, 0), (0, x4), (0, x5), (0, x6)] [] (vsv w y0 y1 y2) Q :=
  (VW_b 1 (F := fun n => if vkd w y0 = 1 ∧ (0 : Int) ≤ y1 ∧ y1 < vln w y0 then vrun n d 204 108 [(2, x0), (2, x1), (1, x2), (9, 0), (0, x4), (0, x5), (0, x6)] [] (vsv w y0 y1 y2) else none) (fun _ => rfl)).trans (EX_if.trans (and_congr Iff.rfl (Iff.rfl)))
set_option maxRecDepth 100000 in
theorem b204_108 {d : Nat} {w : vW} {x0 x1 x2 x4 x5 x6 : Int} {Q : Int → vW → Prop} : VW d 204 108 [(2, x0), (2, x1), (1, x2), (9, 0), (0, x4), (0, x5), (0, x6)] [] w Q ↔ (vkd w x0 = 15) ∧ (vkd w x0 = 15) ∧ (vkd w x0 = 15) ∧ (vkd w x0 = 15) ∧ (vkd w (vct w x0 10) = 1 ∧ (0 : Int) ≤ (vct w x0 11) ∧ (vct w x0 11) < vln w (vct w x0 10)) ∧ (vkd w x1 = 18) ∧ VC d 261 [(2, x1), (1, x2), (0, vct w (vct w x0 10) (vct w x0 11))] w (fun r w1 => VW d 204 130 [(2, x0), (2, x1), (1, x2), (9, 0), (0, x4), (0, x5), (0, x6)] [(1, r), (0, vct w x0 11), (2, vct w x0 9)] w1 Q) :=
  (VW_b 12 (F := fun n => if vkd w x0 = 15 then if vkd w x0 = 15 then if vkd w x0 = 15 then if vkd w x0 = 15 then if vkd w (vct w x0 10) = 1 ∧ (0 : Int) ≤ (vct w x0 11) ∧ (vct w x0 11) < vln w (vct w x0 10) then if vkd w x1 = 18 then vclr (vrun n) d 204 130 261 3 1 [(2, x0), (2, x1), (1, x2), (9, 0), (0, x4), (0, x5), (0, x6)] [(0, vct w (vct w x0 10) (vct w x0 11)), (1, x2), (2, x1), (0, vct w x0 11), (2, vct w x0 9)] w else none else none else none else none else none else none) (fun _ => rfl)).trans (EX_if.trans (and_congr Iff.rfl (EX_if.trans (and_congr Iff.rfl (EX_if.trans (and_congr Iff.rfl (EX_if.trans (and_congr Iff.rfl (EX_if.trans (and_congr Iff.rfl (EX_if.trans (and_congr Iff.rfl (EX_call rfl)))))))))))))
set_option maxRecDepth 100000 in
theorem b204_130 {d : Nat} {w : vW} {x0 x1 x2 x4 x5 x6 y0 y1 y2 : Int} {Q : Int → vW → Prop} : VW d 204 130 [(2, x0), (2, x1), (1, x2), (9, 0), (0, x4), (0, x5), (0, x6)] [(1, y2), (0, y1), (2, y0)] w Q ↔ (vkd w y0 = 2 ∧ (0 : Int) ≤ y1 ∧ y1 < vln w y0) ∧ VW d 204 131 [(2, x0), (2, x1), (1, x2), (9, 0), (0, x4), (0, x5), (0, x6)] [] (vsv w y0 y1 y2) Q :=
  (VW_b 1 (F := fun n => if vkd w y0 = 2 ∧ (0 : Int) ≤ y1 ∧ y1 < vln w y0 then vrun n d 204 131 [(2, x0), (2, x1), (1, x2), (9, 0), (0, x4), (0, x5), (0, x6)] [] (vsv w y0 y1 y2) else none) (fun _ => rfl)).trans (EX_if.trans (and_congr Iff.rfl (Iff.rfl)))
set_option maxRecDepth 100000 in
theorem b204_131 {d : Nat} {w : vW} {x0 x1 x2 x4 x5 x6 : Int} {Q : Int → vW → Prop} : VW d 204 131 [(2, x0), (2, x1), (1, x2), (9, 0), (0, x4), (0, x5), (0, x6)] [] w Q ↔ (vkd w x0 = 15) ∧ (vkd w x0 = 15) ∧ VW d 204 141 [(2, x0), (2, x1), (1, x2), (9, 0), (0, x4), (0, x5), (0, x6)] [] (vsv w x0 11 (w32 ((vct w x0 11) + 1))) Q :=
  (VW_b 6 (F := fun n => if vkd w x0 = 15 then if vkd w x0 = 15 then vrun n d 204 141 [(2, x0), (2, x1), (1, x2), (9, 0), (0, x4), (0, x5), (0, x6)] [] (vsv w x0 11 (w32 ((vct w x0 11) + 1))) else none else none) (fun _ => rfl)).trans (EX_if.trans (and_congr Iff.rfl (EX_if.trans (and_congr Iff.rfl (Iff.rfl)))))
set_option maxRecDepth 100000 in
theorem b204_141 {d : Nat} {w : vW} {x0 x1 x2 x4 x5 x6 : Int} {Q : Int → vW → Prop} : VW d 204 141 [(2, x0), (2, x1), (1, x2), (9, 0), (0, x4), (0, x5), (0, x6)] [] w Q ↔ VW d 204 49 [(2, x0), (2, x1), (1, x2), (9, 0), (0, x4), (0, x5), (0, w32 (x6 + 1))] [] w Q :=
  (VW_b 2 (F := fun n => vrun n d 204 49 [(2, x0), (2, x1), (1, x2), (9, 0), (0, x4), (0, x5), (0, w32 (x6 + 1))] [] w) (fun _ => rfl)).trans (Iff.rfl)
set_option maxRecDepth 100000 in
theorem b204_147 {d : Nat} {w : vW} {x0 x1 x2 x4 x5 x6 : Int} {Q : Int → vW → Prop} : VW d 204 147 [(2, x0), (2, x1), (1, x2), (9, 0), (0, x4), (0, x5), (0, x6)] [] w Q ↔ VW d 204 8 [(2, x0), (2, x1), (1, x2), (9, 0), (0, w32 (x4 + 1)), (0, x5), (0, x6)] [] w Q :=
  (VW_b 2 (F := fun n => vrun n d 204 8 [(2, x0), (2, x1), (1, x2), (9, 0), (0, w32 (x4 + 1)), (0, x5), (0, x6)] [] w) (fun _ => rfl)).trans (Iff.rfl)
set_option maxRecDepth 100000 in
theorem b204_153 {d : Nat} {w : vW} {x0 x1 x2 x4 : Int} {v5 v6 : vV} {Q : Int → vW → Prop} : VW d 204 153 [(2, x0), (2, x1), (1, x2), (9, 0), (0, x4), v5, v6] [] w Q ↔ Q 0 w :=
  (VW_b 1 (F := fun n => some (0, 0, w)) (fun _ => rfl)).trans (EX_ret0)
/-! 205: StrikeWhatCancels$Net.stepAround(LStrikeWhatCancels$Rules;JI)V -/
set_option maxRecDepth 100000 in
theorem b205_0 {d : Nat} {w : vW} {x0 x1 x2 x4 : Int} {Q : Int → vW → Prop} : VW d 205 0 [(2, x0), (2, x1), (1, x2), (9, 0), (0, x4), (9, 0)] [] w Q ↔ (vkd w x0 = 15) ∧ VW d 205 5 [(2, x0), (2, x1), (1, x2), (9, 0), (0, x4), (9, 0)] [] (vsv w x0 11 0) Q :=
  (VW_b 3 (F := fun n => if vkd w x0 = 15 then vrun n d 205 5 [(2, x0), (2, x1), (1, x2), (9, 0), (0, x4), (9, 0)] [] (vsv w x0 11 0) else none) (fun _ => rfl)).trans (EX_if.trans (and_congr Iff.rfl (Iff.rfl)))
set_option maxRecDepth 100000 in
theorem b205_5 {d : Nat} {w : vW} {x0 x1 x2 x4 : Int} {Q : Int → vW → Prop} : VW d 205 5 [(2, x0), (2, x1), (1, x2), (9, 0), (0, x4), (9, 0)] [] w Q ↔ VW d 205 8 [(2, x0), (2, x1), (1, x2), (9, 0), (0, x4), (0, 0)] [] w Q :=
  (VW_b 2 (F := fun n => vrun n d 205 8 [(2, x0), (2, x1), (1, x2), (9, 0), (0, x4), (0, 0)] [] w) (fun _ => rfl)).trans (Iff.rfl)
set_option maxRecDepth 100000 in
theorem b205_8 {d : Nat} {w : vW} {x0 x1 x2 x4 x5 : Int} {Q : Int → vW → Prop} : VW d 205 8 [(2, x0), (2, x1), (1, x2), (9, 0), (0, x4), (0, x5)] [] w Q ↔ (vkd w x1 = 18) ∧ ((x5 < (vct w x1 3) → VW d 205 17 [(2, x0), (2, x1), (1, x2), (9, 0), (0, x4), (0, x5)] [] w Q) ∧ (¬ (x5 < (vct w x1 3)) → VW d 205 61 [(2, x0), (2, x1), (1, x2), (9, 0), (0, x4), (0, x5)] [] w Q)) :=
  (VW_b 4 (F := fun n => if vkd w x1 = 18 then (if x5 < (vct w x1 3) then vrun n d 205 17 [(2, x0), (2, x1), (1, x2), (9, 0), (0, x4), (0, x5)] [] w else vrun n d 205 61 [(2, x0), (2, x1), (1, x2), (9, 0), (0, x4), (0, x5)] [] w) else none) (fun _ => rfl)).trans (EX_if.trans (and_congr Iff.rfl (EX_br.trans (and_congr (imp_congr Iff.rfl Iff.rfl) (imp_congr Iff.rfl Iff.rfl)))))
set_option maxRecDepth 100000 in
theorem b205_17 {d : Nat} {w : vW} {x0 x1 x2 x4 x5 : Int} {Q : Int → vW → Prop} : VW d 205 17 [(2, x0), (2, x1), (1, x2), (9, 0), (0, x4), (0, x5)] [] w Q ↔ (vkd w x1 = 18) ∧ VC d 252 [(2, x1), (0, x5)] w (fun r w1 => VW d 205 25 [(2, x0), (2, x1), (1, x2), (9, 0), (0, x4), (0, x5)] [(1, r), (1, x2), (2, x0)] w1 Q) :=
  (VW_b 5 (F := fun n => if vkd w x1 = 18 then vclr (vrun n) d 205 25 252 2 1 [(2, x0), (2, x1), (1, x2), (9, 0), (0, x4), (0, x5)] [(0, x5), (2, x1), (1, x2), (2, x0)] w else none) (fun _ => rfl)).trans (EX_if.trans (and_congr Iff.rfl (EX_call rfl)))
set_option maxRecDepth 100000 in
theorem b205_25 {d : Nat} {w : vW} {x0 x1 x2 x4 x5 y0 y1 y2 : Int} {Q : Int → vW → Prop} : VW d 205 25 [(2, x0), (2, x1), (1, x2), (9, 0), (0, x4), (0, x5)] [(1, y2), (1, y1), (2, y0)] w Q ↔ (vkd w x1 = 18) ∧ VC d 253 [(2, x1), (0, x5)] w (fun r w1 => VW d 205 31 [(2, x0), (2, x1), (1, x2), (9, 0), (0, x4), (0, x5)] [(1, r), (1, y2), (1, y1), (2, y0)] w1 Q) :=
  (VW_b 3 (F := fun n => if vkd w x1 = 18 then vclr (vrun n) d 205 31 253 2 1 [(2, x0), (2, x1), (1, x2), (9, 0), (0, x4), (0, x5)] [(0, x5), (2, x1), (1, y2), (1, y1), (2, y0)] w else none) (fun _ => rfl)).trans (EX_if.trans (and_congr Iff.rfl (EX_call rfl)))
set_option maxRecDepth 100000 in
theorem b205_31 {d : Nat} {w : vW} {x0 x1 x2 x4 x5 y0 y1 y2 y3 : Int} {Q : Int → vW → Prop} : VW d 205 31 [(2, x0), (2, x1), (1, x2), (9, 0), (0, x4), (0, x5)] [(1, y3), (1, y2), (1, y1), (2, y0)] w Q ↔ (vkd w y0 = 15) ∧ VC d 206 [(2, y0), (1, y1), (1, y2), (1, y3), (0, x4)] w (fun _ w1 => VW d 205 36 [(2, x0), (2, x1), (1, x2), (9, 0), (0, x4), (0, x5)] [] w1 Q) :=
  (VW_b 2 (F := fun n => if vkd w y0 = 15 then vclr (vrun n) d 205 36 206 5 9 [(2, x0), (2, x1), (1, x2), (9, 0), (0, x4), (0, x5)] [(0, x4), (1, y3), (1, y2), (1, y1), (2, y0)] w else none) (fun _ => rfl)).trans (EX_if.trans (and_congr Iff.rfl (EX_call rfl)))
set_option maxRecDepth 100000 in
theorem b205_36 {d : Nat} {w : vW} {x0 x1 x2 x4 x5 : Int} {Q : Int → vW → Prop} : VW d 205 36 [(2, x0), (2, x1), (1, x2), (9, 0), (0, x4), (0, x5)] [] w Q ↔ (vkd w x1 = 18) ∧ VC d 253 [(2, x1), (0, x5)] w (fun r w1 => VW d 205 44 [(2, x0), (2, x1), (1, x2), (9, 0), (0, x4), (0, x5)] [(1, r), (1, x2), (2, x0)] w1 Q) :=
  (VW_b 5 (F := fun n => if vkd w x1 = 18 then vclr (vrun n) d 205 44 253 2 1 [(2, x0), (2, x1), (1, x2), (9, 0), (0, x4), (0, x5)] [(0, x5), (2, x1), (1, x2), (2, x0)] w else none) (fun _ => rfl)).trans (EX_if.trans (and_congr Iff.rfl (EX_call rfl)))
set_option maxRecDepth 100000 in
theorem b205_44 {d : Nat} {w : vW} {x0 x1 x2 x4 x5 y0 y1 y2 : Int} {Q : Int → vW → Prop} : VW d 205 44 [(2, x0), (2, x1), (1, x2), (9, 0), (0, x4), (0, x5)] [(1, y2), (1, y1), (2, y0)] w Q ↔ (vkd w x1 = 18) ∧ VC d 252 [(2, x1), (0, x5)] w (fun r w1 => VW d 205 50 [(2, x0), (2, x1), (1, x2), (9, 0), (0, x4), (0, x5)] [(1, r), (1, y2), (1, y1), (2, y0)] w1 Q) :=
  (VW_b 3 (F := fun n => if vkd w x1 = 18 then vclr (vrun n) d 205 50 252 2 1 [(2, x0), (2, x1), (1, x2), (9, 0), (0, x4), (0, x5)] [(0, x5), (2, x1), (1, y2), (1, y1), (2, y0)] w else none) (fun _ => rfl)).trans (EX_if.trans (and_congr Iff.rfl (EX_call rfl)))
set_option maxRecDepth 100000 in
theorem b205_50 {d : Nat} {w : vW} {x0 x1 x2 x4 x5 y0 y1 y2 y3 : Int} {Q : Int → vW → Prop} : VW d 205 50 [(2, x0), (2, x1), (1, x2), (9, 0), (0, x4), (0, x5)] [(1, y3), (1, y2), (1, y1), (2, y0)] w Q ↔ (vkd w y0 = 15) ∧ VC d 206 [(2, y0), (1, y1), (1, y2), (1, y3), (0, x4)] w (fun _ w1 => VW d 205 55 [(2, x0), (2, x1), (1, x2), (9, 0), (0, x4), (0, x5)] [] w1 Q) :=
  (VW_b 2 (F := fun n => if vkd w y0 = 15 then vclr (vrun n) d 205 55 206 5 9 [(2, x0), (2, x1), (1, x2), (9, 0), (0, x4), (0, x5)] [(0, x4), (1, y3), (1, y2), (1, y1), (2, y0)] w else none) (fun _ => rfl)).trans (EX_if.trans (and_congr Iff.rfl (EX_call rfl)))
set_option maxRecDepth 100000 in
theorem b205_55 {d : Nat} {w : vW} {x0 x1 x2 x4 x5 : Int} {Q : Int → vW → Prop} : VW d 205 55 [(2, x0), (2, x1), (1, x2), (9, 0), (0, x4), (0, x5)] [] w Q ↔ VW d 205 8 [(2, x0), (2, x1), (1, x2), (9, 0), (0, x4), (0, w32 (x5 + 1))] [] w Q :=
  (VW_b 2 (F := fun n => vrun n d 205 8 [(2, x0), (2, x1), (1, x2), (9, 0), (0, x4), (0, w32 (x5 + 1))] [] w) (fun _ => rfl)).trans (Iff.rfl)
set_option maxRecDepth 100000 in
theorem b205_61 {d : Nat} {w : vW} {x0 x1 x2 x4 x5 : Int} {Q : Int → vW → Prop} : VW d 205 61 [(2, x0), (2, x1), (1, x2), (9, 0), (0, x4), (0, x5)] [] w Q ↔ Q 0 w :=
  (VW_b 1 (F := fun n => some (0, 0, w)) (fun _ => rfl)).trans (EX_ret0)
/-! 206: StrikeWhatCancels$Net.exchange(JJJI)V -/
set_option maxRecDepth 100000 in
theorem b206_0 {d : Nat} {w : vW} {x0 x1 x3 x5 x7 : Int} {Q : Int → vW → Prop} : VW d 206 0 [(2, x0), (1, x1), (9, 0), (1, x3), (9, 0), (1, x5), (9, 0), (0, x7), (9, 0), (9, 0), (9, 0)] [] w Q ↔ VC d 273 [(1, x1)] w (fun r w1 => VW d 206 4 [(2, x0), (1, x1), (9, 0), (1, x3), (9, 0), (1, x5), (9, 0), (0, x7), (9, 0), (9, 0), (9, 0)] [(0, r)] w1 Q) :=
  (VW_b 2 (F := fun n => vclr (vrun n) d 206 4 273 1 0 [(2, x0), (1, x1), (9, 0), (1, x3), (9, 0), (1, x5), (9, 0), (0, x7), (9, 0), (9, 0), (9, 0)] [(1, x1)] w) (fun _ => rfl)).trans (EX_call rfl)
set_option maxRecDepth 100000 in
theorem b206_4 {d : Nat} {w : vW} {x0 x1 x3 x5 x7 y0 : Int} {Q : Int → vW → Prop} : VW d 206 4 [(2, x0), (1, x1), (9, 0), (1, x3), (9, 0), (1, x5), (9, 0), (0, x7), (9, 0), (9, 0), (9, 0)] [(0, y0)] w Q ↔ VC d 273 [(1, x3)] w (fun r w1 => VW d 206 8 [(2, x0), (1, x1), (9, 0), (1, x3), (9, 0), (1, x5), (9, 0), (0, x7), (9, 0), (9, 0), (9, 0)] [(0, r), (0, y0)] w1 Q) :=
  (VW_b 2 (F := fun n => vclr (vrun n) d 206 8 273 1 0 [(2, x0), (1, x1), (9, 0), (1, x3), (9, 0), (1, x5), (9, 0), (0, x7), (9, 0), (9, 0), (9, 0)] [(1, x3), (0, y0)] w) (fun _ => rfl)).trans (EX_call rfl)
set_option maxRecDepth 100000 in
theorem b206_8 {d : Nat} {w : vW} {x0 x1 x3 x5 x7 y0 y1 : Int} {Q : Int → vW → Prop} : VW d 206 8 [(2, x0), (1, x1), (9, 0), (1, x3), (9, 0), (1, x5), (9, 0), (0, x7), (9, 0), (9, 0), (9, 0)] [(0, y1), (0, y0)] w Q ↔ VC d 273 [(1, x5)] w (fun r w1 => VW d 206 18 [(2, x0), (1, x1), (9, 0), (1, x3), (9, 0), (1, x5), (9, 0), (0, x7), (0, w32 (y0 - y1)), (9, 0), (9, 0)] [(0, r), (0, w32 (y0 - y1))] w1 Q) :=
  (VW_b 5 (F := fun n => vclr (vrun n) d 206 18 273 1 0 [(2, x0), (1, x1), (9, 0), (1, x3), (9, 0), (1, x5), (9, 0), (0, x7), (0, w32 (y0 - y1)), (9, 0), (9, 0)] [(1, x5), (0, w32 (y0 - y1))] w) (fun _ => rfl)).trans (EX_call rfl)
set_option maxRecDepth 100000 in
theorem b206_18 {d : Nat} {w : vW} {x0 x1 x3 x5 x7 x8 y0 y1 : Int} {Q : Int → vW → Prop} : VW d 206 18 [(2, x0), (1, x1), (9, 0), (1, x3), (9, 0), (1, x5), (9, 0), (0, x7), (0, x8), (9, 0), (9, 0)] [(0, y1), (0, y0)] w Q ↔ ((x7 < (w32 (y0 + y1)) → VW d 206 28 [(2, x0), (1, x1), (9, 0), (1, x3), (9, 0), (1, x5), (9, 0), (0, x7), (0, x8), (9, 0), (9, 0)] [] w Q) ∧ (¬ (x7 < (w32 (y0 + y1))) → VW d 206 24 [(2, x0), (1, x1), (9, 0), (1, x3), (9, 0), (1, x5), (9, 0), (0, x7), (0, x8), (9, 0), (9, 0)] [] w Q)) :=
  (VW_b 3 (F := fun n => (if x7 < (w32 (y0 + y1)) then vrun n d 206 28 [(2, x0), (1, x1), (9, 0), (1, x3), (9, 0), (1, x5), (9, 0), (0, x7), (0, x8), (9, 0), (9, 0)] [] w else vrun n d 206 24 [(2, x0), (1, x1), (9, 0), (1, x3), (9, 0), (1, x5), (9, 0), (0, x7), (0, x8), (9, 0), (9, 0)] [] w)) (fun _ => rfl)).trans (EX_br.trans (and_congr (imp_congr Iff.rfl Iff.rfl) (imp_congr Iff.rfl Iff.rfl)))
set_option maxRecDepth 100000 in
theorem b206_24 {d : Nat} {w : vW} {x0 x1 x3 x5 x7 x8 : Int} {Q : Int → vW → Prop} : VW d 206 24 [(2, x0), (1, x1), (9, 0), (1, x3), (9, 0), (1, x5), (9, 0), (0, x7), (0, x8), (9, 0), (9, 0)] [] w Q ↔ VW d 206 29 [(2, x0), (1, x1), (9, 0), (1, x3), (9, 0), (1, x5), (9, 0), (0, x7), (0, x8), (9, 0), (9, 0)] [(0, 1)] w Q :=
  (VW_b 2 (F := fun n => vrun n d 206 29 [(2, x0), (1, x1), (9, 0), (1, x3), (9, 0), (1, x5), (9, 0), (0, x7), (0, x8), (9, 0), (9, 0)] [(0, 1)] w) (fun _ => rfl)).trans (Iff.rfl)
set_option maxRecDepth 100000 in
theorem b206_28 {d : Nat} {w : vW} {x0 x1 x3 x5 x7 x8 : Int} {Q : Int → vW → Prop} : VW d 206 28 [(2, x0), (1, x1), (9, 0), (1, x3), (9, 0), (1, x5), (9, 0), (0, x7), (0, x8), (9, 0), (9, 0)] [] w Q ↔ VW d 206 29 [(2, x0), (1, x1), (9, 0), (1, x3), (9, 0), (1, x5), (9, 0), (0, x7), (0, x8), (9, 0), (9, 0)] [(0, 0)] w Q :=
  (VW_b 1 (F := fun n => vrun n d 206 29 [(2, x0), (1, x1), (9, 0), (1, x3), (9, 0), (1, x5), (9, 0), (0, x7), (0, x8), (9, 0), (9, 0)] [(0, 0)] w) (fun _ => rfl)).trans (Iff.rfl)
set_option maxRecDepth 100000 in
theorem b206_29 {d : Nat} {w : vW} {x0 x1 x3 x5 x7 x8 y0 : Int} {Q : Int → vW → Prop} : VW d 206 29 [(2, x0), (1, x1), (9, 0), (1, x3), (9, 0), (1, x5), (9, 0), (0, x7), (0, x8), (9, 0), (9, 0)] [(0, y0)] w Q ↔ VW d 206 34 [(2, x0), (1, x1), (9, 0), (1, x3), (9, 0), (1, x5), (9, 0), (0, x7), (0, x8), (0, y0), (0, 0)] [] w Q :=
  (VW_b 3 (F := fun n => vrun n d 206 34 [(2, x0), (1, x1), (9, 0), (1, x3), (9, 0), (1, x5), (9, 0), (0, x7), (0, x8), (0, y0), (0, 0)] [] w) (fun _ => rfl)).trans (Iff.rfl)
set_option maxRecDepth 100000 in
theorem b206_34 {d : Nat} {w : vW} {x0 x1 x3 x5 x7 x8 x9 x10 : Int} {Q : Int → vW → Prop} : VW d 206 34 [(2, x0), (1, x1), (9, 0), (1, x3), (9, 0), (1, x5), (9, 0), (0, x7), (0, x8), (0, x9), (0, x10)] [] w Q ↔ ((x9 = 0 → VW d 206 78 [(2, x0), (1, x1), (9, 0), (1, x3), (9, 0), (1, x5), (9, 0), (0, x7), (0, x8), (0, x9), (0, x10)] [] w Q) ∧ (¬ (x9 = 0) → VW d 206 39 [(2, x0), (1, x1), (9, 0), (1, x3), (9, 0), (1, x5), (9, 0), (0, x7), (0, x8), (0, x9), (0, x10)] [] w Q)) :=
  (VW_b 2 (F := fun n => (if x9 = 0 then vrun n d 206 78 [(2, x0), (1, x1), (9, 0), (1, x3), (9, 0), (1, x5), (9, 0), (0, x7), (0, x8), (0, x9), (0, x10)] [] w else vrun n d 206 39 [(2, x0), (1, x1), (9, 0), (1, x3), (9, 0), (1, x5), (9, 0), (0, x7), (0, x8), (0, x9), (0, x10)] [] w)) (fun _ => rfl)).trans (EX_br.trans (and_congr (imp_congr Iff.rfl Iff.rfl) (imp_congr Iff.rfl Iff.rfl)))
set_option maxRecDepth 100000 in
theorem b206_39 {d : Nat} {w : vW} {x0 x1 x3 x5 x7 x8 x9 x10 : Int} {Q : Int → vW → Prop} : VW d 206 39 [(2, x0), (1, x1), (9, 0), (1, x3), (9, 0), (1, x5), (9, 0), (0, x7), (0, x8), (0, x9), (0, x10)] [] w Q ↔ ((x8 < x10 → VW d 206 78 [(2, x0), (1, x1), (9, 0), (1, x3), (9, 0), (1, x5), (9, 0), (0, x7), (0, x8), (0, x9), (0, x10)] [] w Q) ∧ (¬ (x8 < x10) → VW d 206 46 [(2, x0), (1, x1), (9, 0), (1, x3), (9, 0), (1, x5), (9, 0), (0, x7), (0, x8), (0, x9), (0, x10)] [] w Q)) :=
  (VW_b 3 (F := fun n => (if x8 < x10 then vrun n d 206 78 [(2, x0), (1, x1), (9, 0), (1, x3), (9, 0), (1, x5), (9, 0), (0, x7), (0, x8), (0, x9), (0, x10)] [] w else vrun n d 206 46 [(2, x0), (1, x1), (9, 0), (1, x3), (9, 0), (1, x5), (9, 0), (0, x7), (0, x8), (0, x9), (0, x10)] [] w)) (fun _ => rfl)).trans (EX_br.trans (and_congr (imp_congr Iff.rfl Iff.rfl) (imp_congr Iff.rfl Iff.rfl)))
set_option maxRecDepth 100000 in
theorem b206_46 {d : Nat} {w : vW} {x0 x1 x3 x5 x7 x8 x9 x10 : Int} {Q : Int → vW → Prop} : VW d 206 46 [(2, x0), (1, x1), (9, 0), (1, x3), (9, 0), (1, x5), (9, 0), (0, x7), (0, x8), (0, x9), (0, x10)] [] w Q ↔ VC d 279 [(1, x1), (0, x10), (1, x3)] w (fun r w1 => VW d 206 53 [(2, x0), (1, x1), (9, 0), (1, x3), (9, 0), (1, x5), (9, 0), (0, x7), (0, x8), (0, x9), (0, x10)] [(0, r)] w1 Q) :=
  (VW_b 4 (F := fun n => vclr (vrun n) d 206 53 279 3 0 [(2, x0), (1, x1), (9, 0), (1, x3), (9, 0), (1, x5), (9, 0), (0, x7), (0, x8), (0, x9), (0, x10)] [(1, x3), (0, x10), (1, x1)] w) (fun _ => rfl)).trans (EX_call rfl)
set_option maxRecDepth 100000 in
theorem b206_53 {d : Nat} {w : vW} {x0 x1 x3 x5 x7 x8 x9 x10 y0 : Int} {Q : Int → vW → Prop} : VW d 206 53 [(2, x0), (1, x1), (9, 0), (1, x3), (9, 0), (1, x5), (9, 0), (0, x7), (0, x8), (0, x9), (0, x10)] [(0, y0)] w Q ↔ ((y0 = 0 → VW d 206 72 [(2, x0), (1, x1), (9, 0), (1, x3), (9, 0), (1, x5), (9, 0), (0, x7), (0, x8), (0, x9), (0, x10)] [] w Q) ∧ (¬ (y0 = 0) → VW d 206 56 [(2, x0), (1, x1), (9, 0), (1, x3), (9, 0), (1, x5), (9, 0), (0, x7), (0, x8), (0, x9), (0, x10)] [] w Q)) :=
  (VW_b 1 (F := fun n => (if y0 = 0 then vrun n d 206 72 [(2, x0), (1, x1), (9, 0), (1, x3), (9, 0), (1, x5), (9, 0), (0, x7), (0, x8), (0, x9), (0, x10)] [] w else vrun n d 206 56 [(2, x0), (1, x1), (9, 0), (1, x3), (9, 0), (1, x5), (9, 0), (0, x7), (0, x8), (0, x9), (0, x10)] [] w)) (fun _ => rfl)).trans (EX_br.trans (and_congr (imp_congr Iff.rfl Iff.rfl) (imp_congr Iff.rfl Iff.rfl)))
set_option maxRecDepth 100000 in
theorem b206_56 {d : Nat} {w : vW} {x0 x1 x3 x5 x7 x8 x9 x10 : Int} {Q : Int → vW → Prop} : VW d 206 56 [(2, x0), (1, x1), (9, 0), (1, x3), (9, 0), (1, x5), (9, 0), (0, x7), (0, x8), (0, x9), (0, x10)] [] w Q ↔ VC d 273 [(1, x3)] w (fun r w1 => VW d 206 64 [(2, x0), (1, x1), (9, 0), (1, x3), (9, 0), (1, x5), (9, 0), (0, x7), (0, x8), (0, x9), (0, x10)] [(0, r), (0, x10), (1, x1), (2, x0)] w1 Q) :=
  (VW_b 5 (F := fun n => vclr (vrun n) d 206 64 273 1 0 [(2, x0), (1, x1), (9, 0), (1, x3), (9, 0), (1, x5), (9, 0), (0, x7), (0, x8), (0, x9), (0, x10)] [(1, x3), (0, x10), (1, x1), (2, x0)] w) (fun _ => rfl)).trans (EX_call rfl)
set_option maxRecDepth 100000 in
theorem b206_64 {d : Nat} {w : vW} {x0 x1 x3 x5 x7 x8 x9 x10 y0 y1 y2 y3 : Int} {Q : Int → vW → Prop} : VW d 206 64 [(2, x0), (1, x1), (9, 0), (1, x3), (9, 0), (1, x5), (9, 0), (0, x7), (0, x8), (0, x9), (0, x10)] [(0, y3), (0, y2), (1, y1), (2, y0)] w Q ↔ VC d 278 [(1, y1), (0, y2), (0, y3), (1, x5)] w (fun r w1 => VW d 206 69 [(2, x0), (1, x1), (9, 0), (1, x3), (9, 0), (1, x5), (9, 0), (0, x7), (0, x8), (0, x9), (0, x10)] [(1, r), (2, y0)] w1 Q) :=
  (VW_b 2 (F := fun n => vclr (vrun n) d 206 69 278 4 1 [(2, x0), (1, x1), (9, 0), (1, x3), (9, 0), (1, x5), (9, 0), (0, x7), (0, x8), (0, x9), (0, x10)] [(1, x5), (0, y3), (0, y2), (1, y1), (2, y0)] w) (fun _ => rfl)).trans (EX_call rfl)
set_option maxRecDepth 100000 in
theorem b206_69 {d : Nat} {w : vW} {x0 x1 x3 x5 x7 x8 x9 x10 y0 y1 : Int} {Q : Int → vW → Prop} : VW d 206 69 [(2, x0), (1, x1), (9, 0), (1, x3), (9, 0), (1, x5), (9, 0), (0, x7), (0, x8), (0, x9), (0, x10)] [(1, y1), (2, y0)] w Q ↔ (vkd w y0 = 15) ∧ VC d 207 [(2, y0), (1, y1)] w (fun _ w1 => VW d 206 72 [(2, x0), (1, x1), (9, 0), (1, x3), (9, 0), (1, x5), (9, 0), (0, x7), (0, x8), (0, x9), (0, x10)] [] w1 Q) :=
  (VW_b 1 (F := fun n => if vkd w y0 = 15 then vclr (vrun n) d 206 72 207 2 9 [(2, x0), (1, x1), (9, 0), (1, x3), (9, 0), (1, x5), (9, 0), (0, x7), (0, x8), (0, x9), (0, x10)] [(1, y1), (2, y0)] w else none) (fun _ => rfl)).trans (EX_if.trans (and_congr Iff.rfl (EX_call rfl)))
set_option maxRecDepth 100000 in
theorem b206_72 {d : Nat} {w : vW} {x0 x1 x3 x5 x7 x8 x9 x10 : Int} {Q : Int → vW → Prop} : VW d 206 72 [(2, x0), (1, x1), (9, 0), (1, x3), (9, 0), (1, x5), (9, 0), (0, x7), (0, x8), (0, x9), (0, x10)] [] w Q ↔ VW d 206 34 [(2, x0), (1, x1), (9, 0), (1, x3), (9, 0), (1, x5), (9, 0), (0, x7), (0, x8), (0, x9), (0, w32 (x10 + 1))] [] w Q :=
  (VW_b 2 (F := fun n => vrun n d 206 34 [(2, x0), (1, x1), (9, 0), (1, x3), (9, 0), (1, x5), (9, 0), (0, x7), (0, x8), (0, x9), (0, w32 (x10 + 1))] [] w) (fun _ => rfl)).trans (Iff.rfl)
set_option maxRecDepth 100000 in
theorem b206_78 {d : Nat} {w : vW} {x0 x1 x3 x5 x7 x8 x9 x10 : Int} {Q : Int → vW → Prop} : VW d 206 78 [(2, x0), (1, x1), (9, 0), (1, x3), (9, 0), (1, x5), (9, 0), (0, x7), (0, x8), (0, x9), (0, x10)] [] w Q ↔ Q 0 w :=
  (VW_b 1 (F := fun n => some (0, 0, w)) (fun _ => rfl)).trans (EX_ret0)
/-! 207: StrikeWhatCancels$Net.insert(J)V -/
set_option maxRecDepth 100000 in
theorem b207_0 {d : Nat} {w : vW} {x0 x1 : Int} {Q : Int → vW → Prop} : VW d 207 0 [(2, x0), (1, x1), (9, 0), (9, 0), (9, 0)] [] w Q ↔ (vkd w x0 = 15) ∧ VW d 207 5 [(2, x0), (1, x1), (9, 0), (0, vct w x0 11), (9, 0)] [] w Q :=
  (VW_b 3 (F := fun n => if vkd w x0 = 15 then vrun n d 207 5 [(2, x0), (1, x1), (9, 0), (0, vct w x0 11), (9, 0)] [] w else none) (fun _ => rfl)).trans (EX_if.trans (and_congr Iff.rfl (Iff.rfl)))
set_option maxRecDepth 100000 in
theorem b207_5 {d : Nat} {w : vW} {x0 x1 x3 : Int} {Q : Int → vW → Prop} : VW d 207 5 [(2, x0), (1, x1), (9, 0), (0, x3), (9, 0)] [] w Q ↔ ((0 < x3 → VW d 207 9 [(2, x0), (1, x1), (9, 0), (0, x3), (9, 0)] [] w Q) ∧ (¬ (0 < x3) → VW d 207 37 [(2, x0), (1, x1), (9, 0), (0, x3), (9, 0)] [] w Q)) :=
  (VW_b 2 (F := fun n => (if 0 < x3 then vrun n d 207 9 [(2, x0), (1, x1), (9, 0), (0, x3), (9, 0)] [] w else vrun n d 207 37 [(2, x0), (1, x1), (9, 0), (0, x3), (9, 0)] [] w)) (fun _ => rfl)).trans (EX_br.trans (and_congr (imp_congr Iff.rfl Iff.rfl) (imp_congr Iff.rfl Iff.rfl)))
set_option maxRecDepth 100000 in
theorem b207_9 {d : Nat} {w : vW} {x0 x1 x3 : Int} {Q : Int → vW → Prop} : VW d 207 9 [(2, x0), (1, x1), (9, 0), (0, x3), (9, 0)] [] w Q ↔ (vkd w x0 = 15) ∧ (vkd w (vct w x0 9) = 2) ∧ (((vln w (vct w x0 9)) < x3 → VW d 207 37 [(2, x0), (1, x1), (9, 0), (0, x3), (9, 0)] [] w Q) ∧ (¬ ((vln w (vct w x0 9)) < x3) → VW d 207 18 [(2, x0), (1, x1), (9, 0), (0, x3), (9, 0)] [] w Q)) :=
  (VW_b 5 (F := fun n => if vkd w x0 = 15 then if vkd w (vct w x0 9) = 2 then (if (vln w (vct w x0 9)) < x3 then vrun n d 207 37 [(2, x0), (1, x1), (9, 0), (0, x3), (9, 0)] [] w else vrun n d 207 18 [(2, x0), (1, x1), (9, 0), (0, x3), (9, 0)] [] w) else none else none) (fun _ => rfl)).trans (EX_if.trans (and_congr Iff.rfl (EX_if.trans (and_congr Iff.rfl (EX_br.trans (and_congr (imp_congr Iff.rfl Iff.rfl) (imp_congr Iff.rfl Iff.rfl)))))))
set_option maxRecDepth 100000 in
theorem b207_18 {d : Nat} {w : vW} {x0 x1 x3 : Int} {Q : Int → vW → Prop} : VW d 207 18 [(2, x0), (1, x1), (9, 0), (0, x3), (9, 0)] [] w Q ↔ (vkd w x0 = 15) ∧ (vkd w (vct w x0 9) = 2 ∧ (0 : Int) ≤ (w32 (x3 - 1)) ∧ (w32 (x3 - 1)) < vln w (vct w x0 9)) ∧ (((vlc (vct w (vct w x0 9) (w32 (x3 - 1))) x1) < 0 → VW d 207 37 [(2, x0), (1, x1), (9, 0), (0, x3), (9, 0)] [] w Q) ∧ (¬ ((vlc (vct w (vct w x0 9) (w32 (x3 - 1))) x1) < 0) → VW d 207 31 [(2, x0), (1, x1), (9, 0), (0, x3), (9, 0)] [] w Q)) :=
  (VW_b 9 (F := fun n => if vkd w x0 = 15 then if vkd w (vct w x0 9) = 2 ∧ (0 : Int) ≤ (w32 (x3 - 1)) ∧ (w32 (x3 - 1)) < vln w (vct w x0 9) then (if (vlc (vct w (vct w x0 9) (w32 (x3 - 1))) x1) < 0 then vrun n d 207 37 [(2, x0), (1, x1), (9, 0), (0, x3), (9, 0)] [] w else vrun n d 207 31 [(2, x0), (1, x1), (9, 0), (0, x3), (9, 0)] [] w) else none else none) (fun _ => rfl)).trans (EX_if.trans (and_congr Iff.rfl (EX_if.trans (and_congr Iff.rfl (EX_br.trans (and_congr (imp_congr Iff.rfl Iff.rfl) (imp_congr Iff.rfl Iff.rfl)))))))
set_option maxRecDepth 100000 in
theorem b207_31 {d : Nat} {w : vW} {x0 x1 x3 : Int} {Q : Int → vW → Prop} : VW d 207 31 [(2, x0), (1, x1), (9, 0), (0, x3), (9, 0)] [] w Q ↔ VW d 207 5 [(2, x0), (1, x1), (9, 0), (0, w32 (x3 + (-1))), (9, 0)] [] w Q :=
  (VW_b 2 (F := fun n => vrun n d 207 5 [(2, x0), (1, x1), (9, 0), (0, w32 (x3 + (-1))), (9, 0)] [] w) (fun _ => rfl)).trans (Iff.rfl)
set_option maxRecDepth 100000 in
theorem b207_37 {d : Nat} {w : vW} {x0 x1 x3 : Int} {Q : Int → vW → Prop} : VW d 207 37 [(2, x0), (1, x1), (9, 0), (0, x3), (9, 0)] [] w Q ↔ (vkd w x0 = 15) ∧ (vkd w x0 = 15) ∧ (vkd w (vct w x0 9) = 2) ∧ (((vct w x0 11) < (vln w (vct w x0 9)) → VW d 207 49 [(2, x0), (1, x1), (9, 0), (0, x3), (9, 0)] [] w Q) ∧ (¬ ((vct w x0 11) < (vln w (vct w x0 9))) → VW d 207 68 [(2, x0), (1, x1), (9, 0), (0, x3), (9, 0)] [] w Q)) :=
  (VW_b 6 (F := fun n => if vkd w x0 = 15 then if vkd w x0 = 15 then if vkd w (vct w x0 9) = 2 then (if (vct w x0 11) < (vln w (vct w x0 9)) then vrun n d 207 49 [(2, x0), (1, x1), (9, 0), (0, x3), (9, 0)] [] w else vrun n d 207 68 [(2, x0), (1, x1), (9, 0), (0, x3), (9, 0)] [] w) else none else none else none) (fun _ => rfl)).trans (EX_if.trans (and_congr Iff.rfl (EX_if.trans (and_congr Iff.rfl (EX_if.trans (and_congr Iff.rfl (EX_br.trans (and_congr (imp_congr Iff.rfl Iff.rfl) (imp_congr Iff.rfl Iff.rfl)))))))))
set_option maxRecDepth 100000 in
theorem b207_49 {d : Nat} {w : vW} {x0 x1 x3 : Int} {Q : Int → vW → Prop} : VW d 207 49 [(2, x0), (1, x1), (9, 0), (0, x3), (9, 0)] [] w Q ↔ (vkd w x0 = 15) ∧ ((x3 < (vct w x0 11) → VW d 207 57 [(2, x0), (1, x1), (9, 0), (0, x3), (9, 0)] [] w Q) ∧ (¬ (x3 < (vct w x0 11)) → VW d 207 69 [(2, x0), (1, x1), (9, 0), (0, x3), (9, 0)] [] w Q)) :=
  (VW_b 4 (F := fun n => if vkd w x0 = 15 then (if x3 < (vct w x0 11) then vrun n d 207 57 [(2, x0), (1, x1), (9, 0), (0, x3), (9, 0)] [] w else vrun n d 207 69 [(2, x0), (1, x1), (9, 0), (0, x3), (9, 0)] [] w) else none) (fun _ => rfl)).trans (EX_if.trans (and_congr Iff.rfl (EX_br.trans (and_congr (imp_congr Iff.rfl Iff.rfl) (imp_congr Iff.rfl Iff.rfl)))))
set_option maxRecDepth 100000 in
theorem b207_57 {d : Nat} {w : vW} {x0 x1 x3 : Int} {Q : Int → vW → Prop} : VW d 207 57 [(2, x0), (1, x1), (9, 0), (0, x3), (9, 0)] [] w Q ↔ (vkd w x0 = 15) ∧ (vkd w (vct w x0 9) = 2 ∧ (0 : Int) ≤ x3 ∧ x3 < vln w (vct w x0 9)) ∧ (((vlc (vct w (vct w x0 9) x3) x1) = 0 → VW d 207 68 [(2, x0), (1, x1), (9, 0), (0, x3), (9, 0)] [] w Q) ∧ (¬ ((vlc (vct w (vct w x0 9) x3) x1) = 0) → VW d 207 69 [(2, x0), (1, x1), (9, 0), (0, x3), (9, 0)] [] w Q)) :=
  (VW_b 7 (F := fun n => if vkd w x0 = 15 then if vkd w (vct w x0 9) = 2 ∧ (0 : Int) ≤ x3 ∧ x3 < vln w (vct w x0 9) then (if (vlc (vct w (vct w x0 9) x3) x1) = 0 then vrun n d 207 68 [(2, x0), (1, x1), (9, 0), (0, x3), (9, 0)] [] w else vrun n d 207 69 [(2, x0), (1, x1), (9, 0), (0, x3), (9, 0)] [] w) else none else none) (fun _ => rfl)).trans (EX_if.trans (and_congr Iff.rfl (EX_if.trans (and_congr Iff.rfl (EX_br.trans (and_congr (imp_congr Iff.rfl Iff.rfl) (imp_congr Iff.rfl Iff.rfl)))))))
set_option maxRecDepth 100000 in
theorem b207_68 {d : Nat} {w : vW} {x0 x1 x3 : Int} {Q : Int → vW → Prop} : VW d 207 68 [(2, x0), (1, x1), (9, 0), (0, x3), (9, 0)] [] w Q ↔ Q 0 w :=
  (VW_b 1 (F := fun n => some (0, 0, w)) (fun _ => rfl)).trans (EX_ret0)
set_option maxRecDepth 100000 in
theorem b207_69 {d : Nat} {w : vW} {x0 x1 x3 : Int} {Q : Int → vW → Prop} : VW d 207 69 [(2, x0), (1, x1), (9, 0), (0, x3), (9, 0)] [] w Q ↔ (vkd w x0 = 15) ∧ VW d 207 75 [(2, x0), (1, x1), (9, 0), (0, x3), (0, vct w x0 11)] [] w Q :=
  (VW_b 3 (F := fun n => if vkd w x0 = 15 then vrun n d 207 75 [(2, x0), (1, x1), (9, 0), (0, x3), (0, vct w x0 11)] [] w else none) (fun _ => rfl)).trans (EX_if.trans (and_congr Iff.rfl (Iff.rfl)))
set_option maxRecDepth 100000 in
theorem b207_75 {d : Nat} {w : vW} {x0 x1 x3 x4 : Int} {Q : Int → vW → Prop} : VW d 207 75 [(2, x0), (1, x1), (9, 0), (0, x3), (0, x4)] [] w Q ↔ ((x3 < x4 → VW d 207 81 [(2, x0), (1, x1), (9, 0), (0, x3), (0, x4)] [] w Q) ∧ (¬ (x3 < x4) → VW d 207 103 [(2, x0), (1, x1), (9, 0), (0, x3), (0, x4)] [] w Q)) :=
  (VW_b 3 (F := fun n => (if x3 < x4 then vrun n d 207 81 [(2, x0), (1, x1), (9, 0), (0, x3), (0, x4)] [] w else vrun n d 207 103 [(2, x0), (1, x1), (9, 0), (0, x3), (0, x4)] [] w)) (fun _ => rfl)).trans (EX_br.trans (and_congr (imp_congr Iff.rfl Iff.rfl) (imp_congr Iff.rfl Iff.rfl)))
set_option maxRecDepth 100000 in
theorem b207_81 {d : Nat} {w : vW} {x0 x1 x3 x4 : Int} {Q : Int → vW → Prop} : VW d 207 81 [(2, x0), (1, x1), (9, 0), (0, x3), (0, x4)] [] w Q ↔ (vkd w x0 = 15) ∧ (vkd w x0 = 15) ∧ (vkd w (vct w x0 9) = 2 ∧ (0 : Int) ≤ (w32 (x4 - 1)) ∧ (w32 (x4 - 1)) < vln w (vct w x0 9)) ∧ (vkd w (vct w x0 9) = 2 ∧ (0 : Int) ≤ x4 ∧ x4 < vln w (vct w x0 9)) ∧ VW d 207 97 [(2, x0), (1, x1), (9, 0), (0, x3), (0, x4)] [] (vsv w (vct w x0 9) x4 (vct w (vct w x0 9) (w32 (x4 - 1)))) Q :=
  (VW_b 10 (F := fun n => if vkd w x0 = 15 then if vkd w x0 = 15 then if vkd w (vct w x0 9) = 2 ∧ (0 : Int) ≤ (w32 (x4 - 1)) ∧ (w32 (x4 - 1)) < vln w (vct w x0 9) then if vkd w (vct w x0 9) = 2 ∧ (0 : Int) ≤ x4 ∧ x4 < vln w (vct w x0 9) then vrun n d 207 97 [(2, x0), (1, x1), (9, 0), (0, x3), (0, x4)] [] (vsv w (vct w x0 9) x4 (vct w (vct w x0 9) (w32 (x4 - 1)))) else none else none else none else none) (fun _ => rfl)).trans (EX_if.trans (and_congr Iff.rfl (EX_if.trans (and_congr Iff.rfl (EX_if.trans (and_congr Iff.rfl (EX_if.trans (and_congr Iff.rfl (Iff.rfl)))))))))
set_option maxRecDepth 100000 in
theorem b207_97 {d : Nat} {w : vW} {x0 x1 x3 x4 : Int} {Q : Int → vW → Prop} : VW d 207 97 [(2, x0), (1, x1), (9, 0), (0, x3), (0, x4)] [] w Q ↔ VW d 207 75 [(2, x0), (1, x1), (9, 0), (0, x3), (0, w32 (x4 + (-1)))] [] w Q :=
  (VW_b 2 (F := fun n => vrun n d 207 75 [(2, x0), (1, x1), (9, 0), (0, x3), (0, w32 (x4 + (-1)))] [] w) (fun _ => rfl)).trans (Iff.rfl)
set_option maxRecDepth 100000 in
theorem b207_103 {d : Nat} {w : vW} {x0 x1 x3 x4 : Int} {Q : Int → vW → Prop} : VW d 207 103 [(2, x0), (1, x1), (9, 0), (0, x3), (0, x4)] [] w Q ↔ (vkd w x0 = 15) ∧ (vkd w (vct w x0 9) = 2 ∧ (0 : Int) ≤ x3 ∧ x3 < vln w (vct w x0 9)) ∧ VW d 207 110 [(2, x0), (1, x1), (9, 0), (0, x3), (0, x4)] [] (vsv w (vct w x0 9) x3 x1) Q :=
  (VW_b 5 (F := fun n => if vkd w x0 = 15 then if vkd w (vct w x0 9) = 2 ∧ (0 : Int) ≤ x3 ∧ x3 < vln w (vct w x0 9) then vrun n d 207 110 [(2, x0), (1, x1), (9, 0), (0, x3), (0, x4)] [] (vsv w (vct w x0 9) x3 x1) else none else none) (fun _ => rfl)).trans (EX_if.trans (and_congr Iff.rfl (EX_if.trans (and_congr Iff.rfl (Iff.rfl)))))
set_option maxRecDepth 100000 in
theorem b207_110 {d : Nat} {w : vW} {x0 x1 x3 x4 : Int} {Q : Int → vW → Prop} : VW d 207 110 [(2, x0), (1, x1), (9, 0), (0, x3), (0, x4)] [] w Q ↔ (vkd w x0 = 15) ∧ (vkd w x0 = 15) ∧ VW d 207 120 [(2, x0), (1, x1), (9, 0), (0, x3), (0, x4)] [] (vsv w x0 11 (w32 ((vct w x0 11) + 1))) Q :=
  (VW_b 6 (F := fun n => if vkd w x0 = 15 then if vkd w x0 = 15 then vrun n d 207 120 [(2, x0), (1, x1), (9, 0), (0, x3), (0, x4)] [] (vsv w x0 11 (w32 ((vct w x0 11) + 1))) else none else none) (fun _ => rfl)).trans (EX_if.trans (and_congr Iff.rfl (EX_if.trans (and_congr Iff.rfl (Iff.rfl)))))
set_option maxRecDepth 100000 in
theorem b207_120 {d : Nat} {w : vW} {x0 x1 x3 x4 : Int} {Q : Int → vW → Prop} : VW d 207 120 [(2, x0), (1, x1), (9, 0), (0, x3), (0, x4)] [] w Q ↔ Q 0 w :=
  (VW_b 1 (F := fun n => some (0, 0, w)) (fun _ => rfl)).trans (EX_ret0)
/-! 208: StrikeWhatCancels$Net.toOf(I)J -/
set_option maxRecDepth 100000 in
theorem b208_0 {d : Nat} {w : vW} {x0 x1 : Int} {Q : Int → vW → Prop} : VW d 208 0 [(2, x0), (0, x1)] [] w Q ↔ ((x1 < 0 → VW d 208 30 [(2, x0), (0, x1)] [] w Q) ∧ (¬ (x1 < 0) → VW d 208 4 [(2, x0), (0, x1)] [] w Q)) :=
  (VW_b 2 (F := fun n => (if x1 < 0 then vrun n d 208 30 [(2, x0), (0, x1)] [] w else vrun n d 208 4 [(2, x0), (0, x1)] [] w)) (fun _ => rfl)).trans (EX_br.trans (and_congr (imp_congr Iff.rfl Iff.rfl) (imp_congr Iff.rfl Iff.rfl)))
set_option maxRecDepth 100000 in
theorem b208_4 {d : Nat} {w : vW} {x0 x1 : Int} {Q : Int → vW → Prop} : VW d 208 4 [(2, x0), (0, x1)] [] w Q ↔ (vkd w x0 = 15) ∧ ((x1 < (vct w x0 11) → VW d 208 12 [(2, x0), (0, x1)] [] w Q) ∧ (¬ (x1 < (vct w x0 11)) → VW d 208 30 [(2, x0), (0, x1)] [] w Q)) :=
  (VW_b 4 (F := fun n => if vkd w x0 = 15 then (if x1 < (vct w x0 11) then vrun n d 208 12 [(2, x0), (0, x1)] [] w else vrun n d 208 30 [(2, x0), (0, x1)] [] w) else none) (fun _ => rfl)).trans (EX_if.trans (and_congr Iff.rfl (EX_br.trans (and_congr (imp_congr Iff.rfl Iff.rfl) (imp_congr Iff.rfl Iff.rfl)))))
set_option maxRecDepth 100000 in
theorem b208_12 {d : Nat} {w : vW} {x0 x1 : Int} {Q : Int → vW → Prop} : VW d 208 12 [(2, x0), (0, x1)] [] w Q ↔ (vkd w x0 = 15) ∧ (vkd w (vct w x0 9) = 2) ∧ ((x1 < (vln w (vct w x0 9)) → VW d 208 21 [(2, x0), (0, x1)] [] w Q) ∧ (¬ (x1 < (vln w (vct w x0 9))) → VW d 208 30 [(2, x0), (0, x1)] [] w Q)) :=
  (VW_b 5 (F := fun n => if vkd w x0 = 15 then if vkd w (vct w x0 9) = 2 then (if x1 < (vln w (vct w x0 9)) then vrun n d 208 21 [(2, x0), (0, x1)] [] w else vrun n d 208 30 [(2, x0), (0, x1)] [] w) else none else none) (fun _ => rfl)).trans (EX_if.trans (and_congr Iff.rfl (EX_if.trans (and_congr Iff.rfl (EX_br.trans (and_congr (imp_congr Iff.rfl Iff.rfl) (imp_congr Iff.rfl Iff.rfl)))))))
set_option maxRecDepth 100000 in
theorem b208_21 {d : Nat} {w : vW} {x0 x1 : Int} {Q : Int → vW → Prop} : VW d 208 21 [(2, x0), (0, x1)] [] w Q ↔ (vkd w x0 = 15) ∧ (vkd w (vct w x0 9) = 2 ∧ (0 : Int) ≤ x1 ∧ x1 < vln w (vct w x0 9)) ∧ VW d 208 31 [(2, x0), (0, x1)] [(1, vct w (vct w x0 9) x1)] w Q :=
  (VW_b 5 (F := fun n => if vkd w x0 = 15 then if vkd w (vct w x0 9) = 2 ∧ (0 : Int) ≤ x1 ∧ x1 < vln w (vct w x0 9) then vrun n d 208 31 [(2, x0), (0, x1)] [(1, vct w (vct w x0 9) x1)] w else none else none) (fun _ => rfl)).trans (EX_if.trans (and_congr Iff.rfl (EX_if.trans (and_congr Iff.rfl (Iff.rfl)))))
set_option maxRecDepth 100000 in
theorem b208_30 {d : Nat} {w : vW} {x0 x1 : Int} {Q : Int → vW → Prop} : VW d 208 30 [(2, x0), (0, x1)] [] w Q ↔ VW d 208 31 [(2, x0), (0, x1)] [(1, 0)] w Q :=
  (VW_b 1 (F := fun n => vrun n d 208 31 [(2, x0), (0, x1)] [(1, 0)] w) (fun _ => rfl)).trans (Iff.rfl)
set_option maxRecDepth 100000 in
theorem b208_31 {d : Nat} {w : vW} {x0 x1 y0 : Int} {Q : Int → vW → Prop} : VW d 208 31 [(2, x0), (0, x1)] [(1, y0)] w Q ↔ Q y0 w :=
  (VW_b 1 (F := fun n => some (0, y0, w)) (fun _ => rfl)).trans (EX_ret0)
/-! 209: StrikeWhatCancels$Net.byOf(I)I -/
set_option maxRecDepth 100000 in
theorem b209_0 {d : Nat} {w : vW} {x0 x1 : Int} {Q : Int → vW → Prop} : VW d 209 0 [(2, x0), (0, x1)] [] w Q ↔ ((x1 < 0 → VW d 209 30 [(2, x0), (0, x1)] [] w Q) ∧ (¬ (x1 < 0) → VW d 209 4 [(2, x0), (0, x1)] [] w Q)) :=
  (VW_b 2 (F := fun n => (if x1 < 0 then vrun n d 209 30 [(2, x0), (0, x1)] [] w else vrun n d 209 4 [(2, x0), (0, x1)] [] w)) (fun _ => rfl)).trans (EX_br.trans (and_congr (imp_congr Iff.rfl Iff.rfl) (imp_congr Iff.rfl Iff.rfl)))
set_option maxRecDepth 100000 in
theorem b209_4 {d : Nat} {w : vW} {x0 x1 : Int} {Q : Int → vW → Prop} : VW d 209 4 [(2, x0), (0, x1)] [] w Q ↔ (vkd w x0 = 15) ∧ ((x1 < (vct w x0 11) → VW d 209 12 [(2, x0), (0, x1)] [] w Q) ∧ (¬ (x1 < (vct w x0 11)) → VW d 209 30 [(2, x0), (0, x1)] [] w Q)) :=
  (VW_b 4 (F := fun n => if vkd w x0 = 15 then (if x1 < (vct w x0 11) then vrun n d 209 12 [(2, x0), (0, x1)] [] w else vrun n d 209 30 [(2, x0), (0, x1)] [] w) else none) (fun _ => rfl)).trans (EX_if.trans (and_congr Iff.rfl (EX_br.trans (and_congr (imp_congr Iff.rfl Iff.rfl) (imp_congr Iff.rfl Iff.rfl)))))
set_option maxRecDepth 100000 in
theorem b209_12 {d : Nat} {w : vW} {x0 x1 : Int} {Q : Int → vW → Prop} : VW d 209 12 [(2, x0), (0, x1)] [] w Q ↔ (vkd w x0 = 15) ∧ (vkd w (vct w x0 10) = 1) ∧ ((x1 < (vln w (vct w x0 10)) → VW d 209 21 [(2, x0), (0, x1)] [] w Q) ∧ (¬ (x1 < (vln w (vct w x0 10))) → VW d 209 30 [(2, x0), (0, x1)] [] w Q)) :=
  (VW_b 5 (F := fun n => if vkd w x0 = 15 then if vkd w (vct w x0 10) = 1 then (if x1 < (vln w (vct w x0 10)) then vrun n d 209 21 [(2, x0), (0, x1)] [] w else vrun n d 209 30 [(2, x0), (0, x1)] [] w) else none else none) (fun _ => rfl)).trans (EX_if.trans (and_congr Iff.rfl (EX_if.trans (and_congr Iff.rfl (EX_br.trans (and_congr (imp_congr Iff.rfl Iff.rfl) (imp_congr Iff.rfl Iff.rfl)))))))
set_option maxRecDepth 100000 in
theorem b209_21 {d : Nat} {w : vW} {x0 x1 : Int} {Q : Int → vW → Prop} : VW d 209 21 [(2, x0), (0, x1)] [] w Q ↔ (vkd w x0 = 15) ∧ (vkd w (vct w x0 10) = 1 ∧ (0 : Int) ≤ x1 ∧ x1 < vln w (vct w x0 10)) ∧ VW d 209 31 [(2, x0), (0, x1)] [(0, vct w (vct w x0 10) x1)] w Q :=
  (VW_b 5 (F := fun n => if vkd w x0 = 15 then if vkd w (vct w x0 10) = 1 ∧ (0 : Int) ≤ x1 ∧ x1 < vln w (vct w x0 10) then vrun n d 209 31 [(2, x0), (0, x1)] [(0, vct w (vct w x0 10) x1)] w else none else none) (fun _ => rfl)).trans (EX_if.trans (and_congr Iff.rfl (EX_if.trans (and_congr Iff.rfl (Iff.rfl)))))
set_option maxRecDepth 100000 in
theorem b209_30 {d : Nat} {w : vW} {x0 x1 : Int} {Q : Int → vW → Prop} : VW d 209 30 [(2, x0), (0, x1)] [] w Q ↔ VW d 209 31 [(2, x0), (0, x1)] [(0, 0)] w Q :=
  (VW_b 1 (F := fun n => vrun n d 209 31 [(2, x0), (0, x1)] [(0, 0)] w) (fun _ => rfl)).trans (Iff.rfl)
set_option maxRecDepth 100000 in
theorem b209_31 {d : Nat} {w : vW} {x0 x1 y0 : Int} {Q : Int → vW → Prop} : VW d 209 31 [(2, x0), (0, x1)] [(0, y0)] w Q ↔ Q y0 w :=
  (VW_b 1 (F := fun n => some (0, y0, w)) (fun _ => rfl)).trans (EX_ret0)
/-! 210: StrikeWhatCancels$Net.rank()V -/
set_option maxRecDepth 100000 in
theorem b210_0 {d : Nat} {w : vW} {x0 : Int} {Q : Int → vW → Prop} : VW d 210 0 [(2, x0)] [] w Q ↔ (vkd w x0 = 15) ∧ (((vct w x0 13) = 0 → VW d 210 7 [(2, x0)] [] w Q) ∧ (¬ ((vct w x0 13) = 0) → VW d 210 39 [(2, x0)] [] w Q)) :=
  (VW_b 3 (F := fun n => if vkd w x0 = 15 then (if (vct w x0 13) = 0 then vrun n d 210 7 [(2, x0)] [] w else vrun n d 210 39 [(2, x0)] [] w) else none) (fun _ => rfl)).trans (EX_if.trans (and_congr Iff.rfl (EX_br.trans (and_congr (imp_congr Iff.rfl Iff.rfl) (imp_congr Iff.rfl Iff.rfl)))))
set_option maxRecDepth 100000 in
theorem b210_7 {d : Nat} {w : vW} {x0 : Int} {Q : Int → vW → Prop} : VW d 210 7 [(2, x0)] [] w Q ↔ (vkd w x0 = 15) ∧ (vkd w x0 = 15) ∧ (vkd w (vct w x0 0) = 2 ∧ vkd w (vct w x0 6) = 2 ∧ (vct w x0 0) ≠ (vct w x0 6) ∧ (0 : Int) ≤ 0 ∧ (0 : Int) ≤ 0 ∧ (0 : Int) ≤ 3000 ∧ 0 + 3000 ≤ vln w (vct w x0 0) ∧ 0 + 3000 ≤ vln w (vct w x0 6)) ∧ VW d 210 23 [(2, x0)] [] (vcpw w (vct w x0 0) 0 (vct w x0 6) 0 3000) Q :=
  (VW_b 8 (F := fun n => if vkd w x0 = 15 then if vkd w x0 = 15 then if vkd w (vct w x0 0) = 2 ∧ vkd w (vct w x0 6) = 2 ∧ (vct w x0 0) ≠ (vct w x0 6) ∧ (0 : Int) ≤ 0 ∧ (0 : Int) ≤ 0 ∧ (0 : Int) ≤ 3000 ∧ 0 + 3000 ≤ vln w (vct w x0 0) ∧ 0 + 3000 ≤ vln w (vct w x0 6) then vrun n d 210 23 [(2, x0)] [] (vcpw w (vct w x0 0) 0 (vct w x0 6) 0 3000) else none else none else none) (fun _ => rfl)).trans (EX_if.trans (and_congr Iff.rfl (EX_if.trans (and_congr Iff.rfl (EX_if.trans (and_congr Iff.rfl (Iff.rfl)))))))
set_option maxRecDepth 100000 in
theorem b210_23 {d : Nat} {w : vW} {x0 : Int} {Q : Int → vW → Prop} : VW d 210 23 [(2, x0)] [] w Q ↔ (vkd w x0 = 15) ∧ (vkd w x0 = 15) ∧ VC d 282 [(2, vct w x0 6), (0, vct w x0 17)] w (fun _ w1 => VW d 210 34 [(2, x0)] [] w1 Q) :=
  (VW_b 5 (F := fun n => if vkd w x0 = 15 then if vkd w x0 = 15 then vclr (vrun n) d 210 34 282 2 9 [(2, x0)] [(0, vct w x0 17), (2, vct w x0 6)] w else none else none) (fun _ => rfl)).trans (EX_if.trans (and_congr Iff.rfl (EX_if.trans (and_congr Iff.rfl (EX_call rfl)))))
set_option maxRecDepth 100000 in
theorem b210_34 {d : Nat} {w : vW} {x0 : Int} {Q : Int → vW → Prop} : VW d 210 34 [(2, x0)] [] w Q ↔ ((0 : Int) ≤ 1 ∧ 1 ≤ 1) ∧ (vkd w x0 = 15) ∧ VW d 210 39 [(2, x0)] [] (vsv w x0 13 1) Q :=
  (VW_b 3 (F := fun n => if (0 : Int) ≤ 1 ∧ 1 ≤ 1 then if vkd w x0 = 15 then vrun n d 210 39 [(2, x0)] [] (vsv w x0 13 1) else none else none) (fun _ => rfl)).trans (EX_if.trans (and_congr Iff.rfl (EX_if.trans (and_congr Iff.rfl (Iff.rfl)))))
set_option maxRecDepth 100000 in
theorem b210_39 {d : Nat} {w : vW} {x0 : Int} {Q : Int → vW → Prop} : VW d 210 39 [(2, x0)] [] w Q ↔ Q 0 w :=
  (VW_b 1 (F := fun n => some (0, 0, w)) (fun _ => rfl)).trans (EX_ret0)
/-! 211: StrikeWhatCancels$Net.gather(LStrikeWhatCancels$Rules;Z)V -/
set_option maxRecDepth 100000 in
theorem b211_0 {d : Nat} {w : vW} {x0 x1 x2 : Int} {Q : Int → vW → Prop} : VW d 211 0 [(2, x0), (2, x1), (0, x2), (9, 0)] [] w Q ↔ (vkd w x0 = 15) ∧ VC d 210 [(2, x0)] w (fun _ w1 => VW d 211 4 [(2, x0), (2, x1), (0, x2), (9, 0)] [] w1 Q) :=
  (VW_b 2 (F := fun n => if vkd w x0 = 15 then vclr (vrun n) d 211 4 210 1 9 [(2, x0), (2, x1), (0, x2), (9, 0)] [(2, x0)] w else none) (fun _ => rfl)).trans (EX_if.trans (and_congr Iff.rfl (EX_call rfl)))
set_option maxRecDepth 100000 in
theorem b211_4 {d : Nat} {w : vW} {x0 x1 x2 : Int} {Q : Int → vW → Prop} : VW d 211 4 [(2, x0), (2, x1), (0, x2), (9, 0)] [] w Q ↔ VW d 211 6 [(2, x0), (2, x1), (0, x2), (0, 0)] [] w Q :=
  (VW_b 2 (F := fun n => vrun n d 211 6 [(2, x0), (2, x1), (0, x2), (0, 0)] [] w) (fun _ => rfl)).trans (Iff.rfl)
set_option maxRecDepth 100000 in
theorem b211_6 {d : Nat} {w : vW} {x0 x1 x2 x3 : Int} {Q : Int → vW → Prop} : VW d 211 6 [(2, x0), (2, x1), (0, x2), (0, x3)] [] w Q ↔ (vkd w x0 = 15) ∧ ((x3 < (vct w x0 17) → VW d 211 14 [(2, x0), (2, x1), (0, x2), (0, x3)] [] w Q) ∧ (¬ (x3 < (vct w x0 17)) → VW d 211 34 [(2, x0), (2, x1), (0, x2), (0, x3)] [] w Q)) :=
  (VW_b 4 (F := fun n => if vkd w x0 = 15 then (if x3 < (vct w x0 17) then vrun n d 211 14 [(2, x0), (2, x1), (0, x2), (0, x3)] [] w else vrun n d 211 34 [(2, x0), (2, x1), (0, x2), (0, x3)] [] w) else none) (fun _ => rfl)).trans (EX_if.trans (and_congr Iff.rfl (EX_br.trans (and_congr (imp_congr Iff.rfl Iff.rfl) (imp_congr Iff.rfl Iff.rfl)))))
set_option maxRecDepth 100000 in
theorem b211_14 {d : Nat} {w : vW} {x0 x1 x2 x3 : Int} {Q : Int → vW → Prop} : VW d 211 14 [(2, x0), (2, x1), (0, x2), (0, x3)] [] w Q ↔ ((x3 < 3000 → VW d 211 21 [(2, x0), (2, x1), (0, x2), (0, x3)] [] w Q) ∧ (¬ (x3 < 3000) → VW d 211 34 [(2, x0), (2, x1), (0, x2), (0, x3)] [] w Q)) :=
  (VW_b 3 (F := fun n => (if x3 < 3000 then vrun n d 211 21 [(2, x0), (2, x1), (0, x2), (0, x3)] [] w else vrun n d 211 34 [(2, x0), (2, x1), (0, x2), (0, x3)] [] w)) (fun _ => rfl)).trans (EX_br.trans (and_congr (imp_congr Iff.rfl Iff.rfl) (imp_congr Iff.rfl Iff.rfl)))
set_option maxRecDepth 100000 in
theorem b211_21 {d : Nat} {w : vW} {x0 x1 x2 x3 : Int} {Q : Int → vW → Prop} : VW d 211 21 [(2, x0), (2, x1), (0, x2), (0, x3)] [] w Q ↔ (vkd w x0 = 15) ∧ (vkd w (vct w x0 5) = 2 ∧ (0 : Int) ≤ x3 ∧ x3 < vln w (vct w x0 5)) ∧ VW d 211 28 [(2, x0), (2, x1), (0, x2), (0, x3)] [] (vsv w (vct w x0 5) x3 0) Q :=
  (VW_b 5 (F := fun n => if vkd w x0 = 15 then if vkd w (vct w x0 5) = 2 ∧ (0 : Int) ≤ x3 ∧ x3 < vln w (vct w x0 5) then vrun n d 211 28 [(2, x0), (2, x1), (0, x2), (0, x3)] [] (vsv w (vct w x0 5) x3 0) else none else none) (fun _ => rfl)).trans (EX_if.trans (and_congr Iff.rfl (EX_if.trans (and_congr Iff.rfl (Iff.rfl)))))
set_option maxRecDepth 100000 in
theorem b211_28 {d : Nat} {w : vW} {x0 x1 x2 x3 : Int} {Q : Int → vW → Prop} : VW d 211 28 [(2, x0), (2, x1), (0, x2), (0, x3)] [] w Q ↔ VW d 211 6 [(2, x0), (2, x1), (0, x2), (0, w32 (x3 + 1))] [] w Q :=
  (VW_b 2 (F := fun n => vrun n d 211 6 [(2, x0), (2, x1), (0, x2), (0, w32 (x3 + 1))] [] w) (fun _ => rfl)).trans (Iff.rfl)
set_option maxRecDepth 100000 in
theorem b211_34 {d : Nat} {w : vW} {x0 x1 x2 x3 : Int} {Q : Int → vW → Prop} : VW d 211 34 [(2, x0), (2, x1), (0, x2), (0, x3)] [] w Q ↔ (vkd w x0 = 15) ∧ ((x2 = 0 → VW d 211 47 [(2, x0), (2, x1), (0, x2), (0, x3)] [(0, 0), (2, vct w x0 5)] w Q) ∧ (¬ (x2 = 0) → VW d 211 43 [(2, x0), (2, x1), (0, x2), (0, x3)] [(0, 0), (2, vct w x0 5)] w Q)) :=
  (VW_b 5 (F := fun n => if vkd w x0 = 15 then (if x2 = 0 then vrun n d 211 47 [(2, x0), (2, x1), (0, x2), (0, x3)] [(0, 0), (2, vct w x0 5)] w else vrun n d 211 43 [(2, x0), (2, x1), (0, x2), (0, x3)] [(0, 0), (2, vct w x0 5)] w) else none) (fun _ => rfl)).trans (EX_if.trans (and_congr Iff.rfl (EX_br.trans (and_congr (imp_congr Iff.rfl Iff.rfl) (imp_congr Iff.rfl Iff.rfl)))))
set_option maxRecDepth 100000 in
theorem b211_43 {d : Nat} {w : vW} {x0 x1 x2 x3 y0 y1 : Int} {Q : Int → vW → Prop} : VW d 211 43 [(2, x0), (2, x1), (0, x2), (0, x3)] [(0, y1), (2, y0)] w Q ↔ VW d 211 48 [(2, x0), (2, x1), (0, x2), (0, x3)] [(1, 1), (0, y1), (2, y0)] w Q :=
  (VW_b 2 (F := fun n => vrun n d 211 48 [(2, x0), (2, x1), (0, x2), (0, x3)] [(1, 1), (0, y1), (2, y0)] w) (fun _ => rfl)).trans (Iff.rfl)
set_option maxRecDepth 100000 in
theorem b211_47 {d : Nat} {w : vW} {x0 x1 x2 x3 y0 y1 : Int} {Q : Int → vW → Prop} : VW d 211 47 [(2, x0), (2, x1), (0, x2), (0, x3)] [(0, y1), (2, y0)] w Q ↔ VW d 211 48 [(2, x0), (2, x1), (0, x2), (0, x3)] [(1, 0), (0, y1), (2, y0)] w Q :=
  (VW_b 1 (F := fun n => vrun n d 211 48 [(2, x0), (2, x1), (0, x2), (0, x3)] [(1, 0), (0, y1), (2, y0)] w) (fun _ => rfl)).trans (Iff.rfl)
set_option maxRecDepth 100000 in
theorem b211_48 {d : Nat} {w : vW} {x0 x1 x2 x3 y0 y1 y2 : Int} {Q : Int → vW → Prop} : VW d 211 48 [(2, x0), (2, x1), (0, x2), (0, x3)] [(1, y2), (0, y1), (2, y0)] w Q ↔ (vkd w y0 = 2 ∧ (0 : Int) ≤ y1 ∧ y1 < vln w y0) ∧ VW d 211 49 [(2, x0), (2, x1), (0, x2), (0, x3)] [] (vsv w y0 y1 y2) Q :=
  (VW_b 1 (F := fun n => if vkd w y0 = 2 ∧ (0 : Int) ≤ y1 ∧ y1 < vln w y0 then vrun n d 211 49 [(2, x0), (2, x1), (0, x2), (0, x3)] [] (vsv w y0 y1 y2) else none) (fun _ => rfl)).trans (EX_if.trans (and_congr Iff.rfl (Iff.rfl)))
set_option maxRecDepth 100000 in
theorem b211_49 {d : Nat} {w : vW} {x0 x1 x2 x3 : Int} {Q : Int → vW → Prop} : VW d 211 49 [(2, x0), (2, x1), (0, x2), (0, x3)] [] w Q ↔ (vkd w x0 = 15) ∧ VW d 211 62 [(2, x0), (2, x1), (0, x2), (0, w32 ((min (vct w x0 17) 3000) - 1))] [] w Q :=
  (VW_b 7 (F := fun n => if vkd w x0 = 15 then vrun n d 211 62 [(2, x0), (2, x1), (0, x2), (0, w32 ((min (vct w x0 17) 3000) - 1))] [] w else none) (fun _ => rfl)).trans (EX_if.trans (and_congr Iff.rfl (Iff.rfl)))
set_option maxRecDepth 100000 in
theorem b211_62 {d : Nat} {w : vW} {x0 x1 x2 x3 : Int} {Q : Int → vW → Prop} : VW d 211 62 [(2, x0), (2, x1), (0, x2), (0, x3)] [] w Q ↔ ((x3 < 0 → VW d 211 102 [(2, x0), (2, x1), (0, x2), (0, x3)] [] w Q) ∧ (¬ (x3 < 0) → VW d 211 66 [(2, x0), (2, x1), (0, x2), (0, x3)] [] w Q)) :=
  (VW_b 2 (F := fun n => (if x3 < 0 then vrun n d 211 102 [(2, x0), (2, x1), (0, x2), (0, x3)] [] w else vrun n d 211 66 [(2, x0), (2, x1), (0, x2), (0, x3)] [] w)) (fun _ => rfl)).trans (EX_br.trans (and_congr (imp_congr Iff.rfl Iff.rfl) (imp_congr Iff.rfl Iff.rfl)))
set_option maxRecDepth 100000 in
theorem b211_66 {d : Nat} {w : vW} {x0 x1 x2 x3 : Int} {Q : Int → vW → Prop} : VW d 211 66 [(2, x0), (2, x1), (0, x2), (0, x3)] [] w Q ↔ (vkd w x0 = 15) ∧ (vkd w (vct w x0 6) = 2 ∧ (0 : Int) ≤ x3 ∧ x3 < vln w (vct w x0 6)) ∧ (vkd w x0 = 15) ∧ VC d 204 [(2, x0), (2, x1), (1, vct w (vct w x0 6) x3)] w (fun _ w1 => VW d 211 77 [(2, x0), (2, x1), (0, x2), (0, x3)] [] w1 Q) :=
  (VW_b 7 (F := fun n => if vkd w x0 = 15 then if vkd w (vct w x0 6) = 2 ∧ (0 : Int) ≤ x3 ∧ x3 < vln w (vct w x0 6) then if vkd w x0 = 15 then vclr (vrun n) d 211 77 204 3 9 [(2, x0), (2, x1), (0, x2), (0, x3)] [(1, vct w (vct w x0 6) x3), (2, x1), (2, x0)] w else none else none else none) (fun _ => rfl)).trans (EX_if.trans (and_congr Iff.rfl (EX_if.trans (and_congr Iff.rfl (EX_if.trans (and_congr Iff.rfl (EX_call rfl)))))))
set_option maxRecDepth 100000 in
theorem b211_77 {d : Nat} {w : vW} {x0 x1 x2 x3 : Int} {Q : Int → vW → Prop} : VW d 211 77 [(2, x0), (2, x1), (0, x2), (0, x3)] [] w Q ↔ (vkd w x0 = 15) ∧ (vkd w (vct w x0 6) = 2 ∧ (0 : Int) ≤ x3 ∧ x3 < vln w (vct w x0 6)) ∧ (vkd w x0 = 15) ∧ VC d 199 [(2, x0), (1, vct w (vct w x0 6) x3)] w (fun r w1 => VW d 211 89 [(2, x0), (2, x1), (0, x2), (0, x3)] [(0, r), (2, x0), (2, x0)] w1 Q) :=
  (VW_b 8 (F := fun n => if vkd w x0 = 15 then if vkd w (vct w x0 6) = 2 ∧ (0 : Int) ≤ x3 ∧ x3 < vln w (vct w x0 6) then if vkd w x0 = 15 then vclr (vrun n) d 211 89 199 2 0 [(2, x0), (2, x1), (0, x2), (0, x3)] [(1, vct w (vct w x0 6) x3), (2, x0), (2, x0), (2, x0)] w else none else none else none) (fun _ => rfl)).trans (EX_if.trans (and_congr Iff.rfl (EX_if.trans (and_congr Iff.rfl (EX_if.trans (and_congr Iff.rfl (EX_call rfl)))))))
set_option maxRecDepth 100000 in
theorem b211_89 {d : Nat} {w : vW} {x0 x1 x2 x3 y0 y1 y2 : Int} {Q : Int → vW → Prop} : VW d 211 89 [(2, x0), (2, x1), (0, x2), (0, x3)] [(0, y2), (2, y1), (2, y0)] w Q ↔ (vkd w y1 = 15) ∧ VC d 221 [(2, y1), (0, y2)] w (fun r w1 => VW d 211 92 [(2, x0), (2, x1), (0, x2), (0, x3)] [(1, r), (2, y0)] w1 Q) :=
  (VW_b 1 (F := fun n => if vkd w y1 = 15 then vclr (vrun n) d 211 92 221 2 1 [(2, x0), (2, x1), (0, x2), (0, x3)] [(0, y2), (2, y1), (2, y0)] w else none) (fun _ => rfl)).trans (EX_if.trans (and_congr Iff.rfl (EX_call rfl)))
set_option maxRecDepth 100000 in
theorem b211_92 {d : Nat} {w : vW} {x0 x1 x2 x3 y0 y1 : Int} {Q : Int → vW → Prop} : VW d 211 92 [(2, x0), (2, x1), (0, x2), (0, x3)] [(1, y1), (2, y0)] w Q ↔ (vkd w y0 = 15) ∧ VC d 212 [(2, y0), (1, y1), (0, x2)] w (fun _ w1 => VW d 211 96 [(2, x0), (2, x1), (0, x2), (0, x3)] [] w1 Q) :=
  (VW_b 2 (F := fun n => if vkd w y0 = 15 then vclr (vrun n) d 211 96 212 3 9 [(2, x0), (2, x1), (0, x2), (0, x3)] [(0, x2), (1, y1), (2, y0)] w else none) (fun _ => rfl)).trans (EX_if.trans (and_congr Iff.rfl (EX_call rfl)))
set_option maxRecDepth 100000 in
theorem b211_96 {d : Nat} {w : vW} {x0 x1 x2 x3 : Int} {Q : Int → vW → Prop} : VW d 211 96 [(2, x0), (2, x1), (0, x2), (0, x3)] [] w Q ↔ VW d 211 62 [(2, x0), (2, x1), (0, x2), (0, w32 (x3 + (-1)))] [] w Q :=
  (VW_b 2 (F := fun n => vrun n d 211 62 [(2, x0), (2, x1), (0, x2), (0, w32 (x3 + (-1)))] [] w) (fun _ => rfl)).trans (Iff.rfl)
set_option maxRecDepth 100000 in
theorem b211_102 {d : Nat} {w : vW} {x0 x1 x2 x3 : Int} {Q : Int → vW → Prop} : VW d 211 102 [(2, x0), (2, x1), (0, x2), (0, x3)] [] w Q ↔ Q 0 w :=
  (VW_b 1 (F := fun n => some (0, 0, w)) (fun _ => rfl)).trans (EX_ret0)
/-! 212: StrikeWhatCancels$Net.pass(JZ)V -/
set_option maxRecDepth 100000 in
theorem b212_0 {d : Nat} {w : vW} {x0 x1 x3 : Int} {Q : Int → vW → Prop} : VW d 212 0 [(2, x0), (1, x1), (9, 0), (0, x3), (9, 0), (9, 0)] [] w Q ↔ VW d 212 3 [(2, x0), (1, x1), (9, 0), (0, x3), (0, 0), (9, 0)] [] w Q :=
  (VW_b 2 (F := fun n => vrun n d 212 3 [(2, x0), (1, x1), (9, 0), (0, x3), (0, 0), (9, 0)] [] w) (fun _ => rfl)).trans (Iff.rfl)
set_option maxRecDepth 100000 in
theorem b212_3 {d : Nat} {w : vW} {x0 x1 x3 x4 : Int} {v5 : vV} {Q : Int → vW → Prop} : VW d 212 3 [(2, x0), (1, x1), (9, 0), (0, x3), (0, x4), v5] [] w Q ↔ (vkd w x0 = 15) ∧ ((x4 < (vct w x0 11) → VW d 212 12 [(2, x0), (1, x1), (9, 0), (0, x3), (0, x4), v5] [] w Q) ∧ (¬ (x4 < (vct w x0 11)) → VW d 212 81 [(2, x0), (1, x1), (9, 0), (0, x3), (0, x4), v5] [] w Q)) :=
  (VW_b 4 (F := fun n => if vkd w x0 = 15 then (if x4 < (vct w x0 11) then vrun n d 212 12 [(2, x0), (1, x1), (9, 0), (0, x3), (0, x4), v5] [] w else vrun n d 212 81 [(2, x0), (1, x1), (9, 0), (0, x3), (0, x4), v5] [] w) else none) (fun _ => rfl)).trans (EX_if.trans (and_congr Iff.rfl (EX_br.trans (and_congr (imp_congr Iff.rfl Iff.rfl) (imp_congr Iff.rfl Iff.rfl)))))
set_option maxRecDepth 100000 in
theorem b212_12 {d : Nat} {w : vW} {x0 x1 x3 x4 : Int} {v5 : vV} {Q : Int → vW → Prop} : VW d 212 12 [(2, x0), (1, x1), (9, 0), (0, x3), (0, x4), v5] [] w Q ↔ (vkd w x0 = 15) ∧ VC d 208 [(2, x0), (0, x4)] w (fun r w1 => VW d 212 19 [(2, x0), (1, x1), (9, 0), (0, x3), (0, x4), v5] [(1, r), (2, x0)] w1 Q) :=
  (VW_b 4 (F := fun n => if vkd w x0 = 15 then vclr (vrun n) d 212 19 208 2 1 [(2, x0), (1, x1), (9, 0), (0, x3), (0, x4), v5] [(0, x4), (2, x0), (2, x0)] w else none) (fun _ => rfl)).trans (EX_if.trans (and_congr Iff.rfl (EX_call rfl)))
set_option maxRecDepth 100000 in
theorem b212_19 {d : Nat} {w : vW} {x0 x1 x3 x4 y0 y1 : Int} {v5 : vV} {Q : Int → vW → Prop} : VW d 212 19 [(2, x0), (1, x1), (9, 0), (0, x3), (0, x4), v5] [(1, y1), (2, y0)] w Q ↔ (vkd w y0 = 15) ∧ VC d 199 [(2, y0), (1, y1)] w (fun r w1 => VW d 212 22 [(2, x0), (1, x1), (9, 0), (0, x3), (0, x4), v5] [(0, r)] w1 Q) :=
  (VW_b 1 (F := fun n => if vkd w y0 = 15 then vclr (vrun n) d 212 22 199 2 0 [(2, x0), (1, x1), (9, 0), (0, x3), (0, x4), v5] [(1, y1), (2, y0)] w else none) (fun _ => rfl)).trans (EX_if.trans (and_congr Iff.rfl (EX_call rfl)))
set_option maxRecDepth 100000 in
theorem b212_22 {d : Nat} {w : vW} {x0 x1 x3 x4 y0 : Int} {v5 : vV} {Q : Int → vW → Prop} : VW d 212 22 [(2, x0), (1, x1), (9, 0), (0, x3), (0, x4), v5] [(0, y0)] w Q ↔ ((y0 < 0 → VW d 212 75 [(2, x0), (1, x1), (9, 0), (0, x3), (0, x4), (0, y0)] [] w Q) ∧ (¬ (y0 < 0) → VW d 212 29 [(2, x0), (1, x1), (9, 0), (0, x3), (0, x4), (0, y0)] [] w Q)) :=
  (VW_b 3 (F := fun n => (if y0 < 0 then vrun n d 212 75 [(2, x0), (1, x1), (9, 0), (0, x3), (0, x4), (0, y0)] [] w else vrun n d 212 29 [(2, x0), (1, x1), (9, 0), (0, x3), (0, x4), (0, y0)] [] w)) (fun _ => rfl)).trans (EX_br.trans (and_congr (imp_congr Iff.rfl Iff.rfl) (imp_congr Iff.rfl Iff.rfl)))
set_option maxRecDepth 100000 in
theorem b212_29 {d : Nat} {w : vW} {x0 x1 x3 x4 x5 : Int} {Q : Int → vW → Prop} : VW d 212 29 [(2, x0), (1, x1), (9, 0), (0, x3), (0, x4), (0, x5)] [] w Q ↔ (vkd w x0 = 15) ∧ (vkd w (vct w x0 5) = 2) ∧ ((x5 < (vln w (vct w x0 5)) → VW d 212 39 [(2, x0), (1, x1), (9, 0), (0, x3), (0, x4), (0, x5)] [] w Q) ∧ (¬ (x5 < (vln w (vct w x0 5))) → VW d 212 75 [(2, x0), (1, x1), (9, 0), (0, x3), (0, x4), (0, x5)] [] w Q)) :=
  (VW_b 5 (F := fun n => if vkd w x0 = 15 then if vkd w (vct w x0 5) = 2 then (if x5 < (vln w (vct w x0 5)) then vrun n d 212 39 [(2, x0), (1, x1), (9, 0), (0, x3), (0, x4), (0, x5)] [] w else vrun n d 212 75 [(2, x0), (1, x1), (9, 0), (0, x3), (0, x4), (0, x5)] [] w) else none else none) (fun _ => rfl)).trans (EX_if.trans (and_congr Iff.rfl (EX_if.trans (and_congr Iff.rfl (EX_br.trans (and_congr (imp_congr Iff.rfl Iff.rfl) (imp_congr Iff.rfl Iff.rfl)))))))
set_option maxRecDepth 100000 in
theorem b212_39 {d : Nat} {w : vW} {x0 x1 x3 x4 x5 : Int} {Q : Int → vW → Prop} : VW d 212 39 [(2, x0), (1, x1), (9, 0), (0, x3), (0, x4), (0, x5)] [] w Q ↔ (vkd w x0 = 15) ∧ ((x3 = 0 → VW d 212 61 [(2, x0), (1, x1), (9, 0), (0, x3), (0, x4), (0, x5)] [(0, x5), (2, vct w x0 5)] w Q) ∧ (¬ (x3 = 0) → VW d 212 49 [(2, x0), (1, x1), (9, 0), (0, x3), (0, x4), (0, x5)] [(0, x5), (2, vct w x0 5)] w Q)) :=
  (VW_b 5 (F := fun n => if vkd w x0 = 15 then (if x3 = 0 then vrun n d 212 61 [(2, x0), (1, x1), (9, 0), (0, x3), (0, x4), (0, x5)] [(0, x5), (2, vct w x0 5)] w else vrun n d 212 49 [(2, x0), (1, x1), (9, 0), (0, x3), (0, x4), (0, x5)] [(0, x5), (2, vct w x0 5)] w) else none) (fun _ => rfl)).trans (EX_if.trans (and_congr Iff.rfl (EX_br.trans (and_congr (imp_congr Iff.rfl Iff.rfl) (imp_congr Iff.rfl Iff.rfl)))))
set_option maxRecDepth 100000 in
theorem b212_49 {d : Nat} {w : vW} {x0 x1 x3 x4 x5 y0 y1 : Int} {Q : Int → vW → Prop} : VW d 212 49 [(2, x0), (1, x1), (9, 0), (0, x3), (0, x4), (0, x5)] [(0, y1), (2, y0)] w Q ↔ (vkd w x0 = 15) ∧ (vkd w (vct w x0 5) = 2 ∧ (0 : Int) ≤ x5 ∧ x5 < vln w (vct w x0 5)) ∧ VW d 212 74 [(2, x0), (1, x1), (9, 0), (0, x3), (0, x4), (0, x5)] [(1, w64 ((vct w (vct w x0 5) x5) + x1)), (0, y1), (2, y0)] w Q :=
  (VW_b 7 (F := fun n => if vkd w x0 = 15 then if vkd w (vct w x0 5) = 2 ∧ (0 : Int) ≤ x5 ∧ x5 < vln w (vct w x0 5) then vrun n d 212 74 [(2, x0), (1, x1), (9, 0), (0, x3), (0, x4), (0, x5)] [(1, w64 ((vct w (vct w x0 5) x5) + x1)), (0, y1), (2, y0)] w else none else none) (fun _ => rfl)).trans (EX_if.trans (and_congr Iff.rfl (EX_if.trans (and_congr Iff.rfl (Iff.rfl)))))
set_option maxRecDepth 100000 in
theorem b212_61 {d : Nat} {w : vW} {x0 x1 x3 x4 x5 y0 y1 : Int} {Q : Int → vW → Prop} : VW d 212 61 [(2, x0), (1, x1), (9, 0), (0, x3), (0, x4), (0, x5)] [(0, y1), (2, y0)] w Q ↔ (vkd w x0 = 15) ∧ (vkd w (vct w x0 5) = 2 ∧ (0 : Int) ≤ x5 ∧ x5 < vln w (vct w x0 5)) ∧ VW d 212 74 [(2, x0), (1, x1), (9, 0), (0, x3), (0, x4), (0, x5)] [(1, max (vct w (vct w x0 5) x5) (w64 (x1 + 1))), (0, y1), (2, y0)] w Q :=
  (VW_b 8 (F := fun n => if vkd w x0 = 15 then if vkd w (vct w x0 5) = 2 ∧ (0 : Int) ≤ x5 ∧ x5 < vln w (vct w x0 5) then vrun n d 212 74 [(2, x0), (1, x1), (9, 0), (0, x3), (0, x4), (0, x5)] [(1, max (vct w (vct w x0 5) x5) (w64 (x1 + 1))), (0, y1), (2, y0)] w else none else none) (fun _ => rfl)).trans (EX_if.trans (and_congr Iff.rfl (EX_if.trans (and_congr Iff.rfl (Iff.rfl)))))
set_option maxRecDepth 100000 in
theorem b212_74 {d : Nat} {w : vW} {x0 x1 x3 x4 x5 y0 y1 y2 : Int} {Q : Int → vW → Prop} : VW d 212 74 [(2, x0), (1, x1), (9, 0), (0, x3), (0, x4), (0, x5)] [(1, y2), (0, y1), (2, y0)] w Q ↔ (vkd w y0 = 2 ∧ (0 : Int) ≤ y1 ∧ y1 < vln w y0) ∧ VW d 212 75 [(2, x0), (1, x1), (9, 0), (0, x3), (0, x4), (0, x5)] [] (vsv w y0 y1 y2) Q :=
  (VW_b 1 (F := fun n => if vkd w y0 = 2 ∧ (0 : Int) ≤ y1 ∧ y1 < vln w y0 then vrun n d 212 75 [(2, x0), (1, x1), (9, 0), (0, x3), (0, x4), (0, x5)] [] (vsv w y0 y1 y2) else none) (fun _ => rfl)).trans (EX_if.trans (and_congr Iff.rfl (Iff.rfl)))
set_option maxRecDepth 100000 in
theorem b212_75 {d : Nat} {w : vW} {x0 x1 x3 x4 x5 : Int} {Q : Int → vW → Prop} : VW d 212 75 [(2, x0), (1, x1), (9, 0), (0, x3), (0, x4), (0, x5)] [] w Q ↔ VW d 212 3 [(2, x0), (1, x1), (9, 0), (0, x3), (0, w32 (x4 + 1)), (0, x5)] [] w Q :=
  (VW_b 2 (F := fun n => vrun n d 212 3 [(2, x0), (1, x1), (9, 0), (0, x3), (0, w32 (x4 + 1)), (0, x5)] [] w) (fun _ => rfl)).trans (Iff.rfl)
set_option maxRecDepth 100000 in
theorem b212_81 {d : Nat} {w : vW} {x0 x1 x3 x4 : Int} {v5 : vV} {Q : Int → vW → Prop} : VW d 212 81 [(2, x0), (1, x1), (9, 0), (0, x3), (0, x4), v5] [] w Q ↔ Q 0 w :=
  (VW_b 1 (F := fun n => some (0, 0, w)) (fun _ => rfl)).trans (EX_ret0)
/-! 213: StrikeWhatCancels$Net.ends()I -/
set_option maxRecDepth 100000 in
theorem b213_0 {d : Nat} {w : vW} {x0 : Int} {Q : Int → vW → Prop} : VW d 213 0 [(2, x0), (9, 0), (9, 0)] [] w Q ↔ VW d 213 4 [(2, x0), (0, 0), (0, 0)] [] w Q :=
  (VW_b 4 (F := fun n => vrun n d 213 4 [(2, x0), (0, 0), (0, 0)] [] w) (fun _ => rfl)).trans (Iff.rfl)
set_option maxRecDepth 100000 in
theorem b213_4 {d : Nat} {w : vW} {x0 x1 x2 : Int} {Q : Int → vW → Prop} : VW d 213 4 [(2, x0), (0, x1), (0, x2)] [] w Q ↔ (vkd w x0 = 15) ∧ ((x2 < (vct w x0 17) → VW d 213 12 [(2, x0), (0, x1), (0, x2)] [] w Q) ∧ (¬ (x2 < (vct w x0 17)) → VW d 213 42 [(2, x0), (0, x1), (0, x2)] [] w Q)) :=
  (VW_b 4 (F := fun n => if vkd w x0 = 15 then (if x2 < (vct w x0 17) then vrun n d 213 12 [(2, x0), (0, x1), (0, x2)] [] w else vrun n d 213 42 [(2, x0), (0, x1), (0, x2)] [] w) else none) (fun _ => rfl)).trans (EX_if.trans (and_congr Iff.rfl (EX_br.trans (and_congr (imp_congr Iff.rfl Iff.rfl) (imp_congr Iff.rfl Iff.rfl)))))
set_option maxRecDepth 100000 in
theorem b213_12 {d : Nat} {w : vW} {x0 x1 x2 : Int} {Q : Int → vW → Prop} : VW d 213 12 [(2, x0), (0, x1), (0, x2)] [] w Q ↔ ((x2 < 3000 → VW d 213 19 [(2, x0), (0, x1), (0, x2)] [] w Q) ∧ (¬ (x2 < 3000) → VW d 213 42 [(2, x0), (0, x1), (0, x2)] [] w Q)) :=
  (VW_b 3 (F := fun n => (if x2 < 3000 then vrun n d 213 19 [(2, x0), (0, x1), (0, x2)] [] w else vrun n d 213 42 [(2, x0), (0, x1), (0, x2)] [] w)) (fun _ => rfl)).trans (EX_br.trans (and_congr (imp_congr Iff.rfl Iff.rfl) (imp_congr Iff.rfl Iff.rfl)))
set_option maxRecDepth 100000 in
theorem b213_19 {d : Nat} {w : vW} {x0 x1 x2 : Int} {Q : Int → vW → Prop} : VW d 213 19 [(2, x0), (0, x1), (0, x2)] [] w Q ↔ (vkd w x0 = 15) ∧ (vkd w (vct w x0 4) = 3 ∧ (0 : Int) ≤ x2 ∧ x2 < vln w (vct w x0 4)) ∧ (((vct w (vct w x0 4) x2) = 0 → VW d 213 33 [(2, x0), (0, x1), (0, x2)] [(0, x1)] w Q) ∧ (¬ ((vct w (vct w x0 4) x2) = 0) → VW d 213 29 [(2, x0), (0, x1), (0, x2)] [(0, x1)] w Q)) :=
  (VW_b 6 (F := fun n => if vkd w x0 = 15 then if vkd w (vct w x0 4) = 3 ∧ (0 : Int) ≤ x2 ∧ x2 < vln w (vct w x0 4) then (if (vct w (vct w x0 4) x2) = 0 then vrun n d 213 33 [(2, x0), (0, x1), (0, x2)] [(0, x1)] w else vrun n d 213 29 [(2, x0), (0, x1), (0, x2)] [(0, x1)] w) else none else none) (fun _ => rfl)).trans (EX_if.trans (and_congr Iff.rfl (EX_if.trans (and_congr Iff.rfl (EX_br.trans (and_congr (imp_congr Iff.rfl Iff.rfl) (imp_congr Iff.rfl Iff.rfl)))))))
set_option maxRecDepth 100000 in
theorem b213_29 {d : Nat} {w : vW} {x0 x1 x2 y0 : Int} {Q : Int → vW → Prop} : VW d 213 29 [(2, x0), (0, x1), (0, x2)] [(0, y0)] w Q ↔ VW d 213 34 [(2, x0), (0, x1), (0, x2)] [(0, 1), (0, y0)] w Q :=
  (VW_b 2 (F := fun n => vrun n d 213 34 [(2, x0), (0, x1), (0, x2)] [(0, 1), (0, y0)] w) (fun _ => rfl)).trans (Iff.rfl)
set_option maxRecDepth 100000 in
theorem b213_33 {d : Nat} {w : vW} {x0 x1 x2 y0 : Int} {Q : Int → vW → Prop} : VW d 213 33 [(2, x0), (0, x1), (0, x2)] [(0, y0)] w Q ↔ VW d 213 34 [(2, x0), (0, x1), (0, x2)] [(0, 0), (0, y0)] w Q :=
  (VW_b 1 (F := fun n => vrun n d 213 34 [(2, x0), (0, x1), (0, x2)] [(0, 0), (0, y0)] w) (fun _ => rfl)).trans (Iff.rfl)
set_option maxRecDepth 100000 in
theorem b213_34 {d : Nat} {w : vW} {x0 x1 x2 y0 y1 : Int} {Q : Int → vW → Prop} : VW d 213 34 [(2, x0), (0, x1), (0, x2)] [(0, y1), (0, y0)] w Q ↔ VW d 213 4 [(2, x0), (0, w32 (y0 + y1)), (0, w32 (x2 + 1))] [] w Q :=
  (VW_b 4 (F := fun n => vrun n d 213 4 [(2, x0), (0, w32 (y0 + y1)), (0, w32 (x2 + 1))] [] w) (fun _ => rfl)).trans (Iff.rfl)
set_option maxRecDepth 100000 in
theorem b213_42 {d : Nat} {w : vW} {x0 x1 x2 : Int} {Q : Int → vW → Prop} : VW d 213 42 [(2, x0), (0, x1), (0, x2)] [] w Q ↔ Q x1 w :=
  (VW_b 2 (F := fun n => some (0, x1, w)) (fun _ => rfl)).trans (EX_ret0)
/-! 214: StrikeWhatCancels$Net.mostTillDone()J -/
set_option maxRecDepth 100000 in
theorem b214_0 {d : Nat} {w : vW} {x0 : Int} {Q : Int → vW → Prop} : VW d 214 0 [(2, x0), (9, 0), (9, 0), (9, 0)] [] w Q ↔ VW d 214 4 [(2, x0), (1, 0), (9, 0), (0, 0)] [] w Q :=
  (VW_b 4 (F := fun n => vrun n d 214 4 [(2, x0), (1, 0), (9, 0), (0, 0)] [] w) (fun _ => rfl)).trans (Iff.rfl)
set_option maxRecDepth 100000 in
theorem b214_4 {d : Nat} {w : vW} {x0 x1 x3 : Int} {Q : Int → vW → Prop} : VW d 214 4 [(2, x0), (1, x1), (9, 0), (0, x3)] [] w Q ↔ (vkd w x0 = 15) ∧ ((x3 < (vct w x0 17) → VW d 214 12 [(2, x0), (1, x1), (9, 0), (0, x3)] [] w Q) ∧ (¬ (x3 < (vct w x0 17)) → VW d 214 49 [(2, x0), (1, x1), (9, 0), (0, x3)] [] w Q)) :=
  (VW_b 4 (F := fun n => if vkd w x0 = 15 then (if x3 < (vct w x0 17) then vrun n d 214 12 [(2, x0), (1, x1), (9, 0), (0, x3)] [] w else vrun n d 214 49 [(2, x0), (1, x1), (9, 0), (0, x3)] [] w) else none) (fun _ => rfl)).trans (EX_if.trans (and_congr Iff.rfl (EX_br.trans (and_congr (imp_congr Iff.rfl Iff.rfl) (imp_congr Iff.rfl Iff.rfl)))))
set_option maxRecDepth 100000 in
theorem b214_12 {d : Nat} {w : vW} {x0 x1 x3 : Int} {Q : Int → vW → Prop} : VW d 214 12 [(2, x0), (1, x1), (9, 0), (0, x3)] [] w Q ↔ ((x3 < 3000 → VW d 214 19 [(2, x0), (1, x1), (9, 0), (0, x3)] [] w Q) ∧ (¬ (x3 < 3000) → VW d 214 49 [(2, x0), (1, x1), (9, 0), (0, x3)] [] w Q)) :=
  (VW_b 3 (F := fun n => (if x3 < 3000 then vrun n d 214 19 [(2, x0), (1, x1), (9, 0), (0, x3)] [] w else vrun n d 214 49 [(2, x0), (1, x1), (9, 0), (0, x3)] [] w)) (fun _ => rfl)).trans (EX_br.trans (and_congr (imp_congr Iff.rfl Iff.rfl) (imp_congr Iff.rfl Iff.rfl)))
set_option maxRecDepth 100000 in
theorem b214_19 {d : Nat} {w : vW} {x0 x1 x3 : Int} {Q : Int → vW → Prop} : VW d 214 19 [(2, x0), (1, x1), (9, 0), (0, x3)] [] w Q ↔ (vkd w x0 = 15) ∧ (vkd w (vct w x0 4) = 3 ∧ (0 : Int) ≤ x3 ∧ x3 < vln w (vct w x0 4)) ∧ (((vct w (vct w x0 4) x3) = 0 → VW d 214 41 [(2, x0), (1, x1), (9, 0), (0, x3)] [] w Q) ∧ (¬ ((vct w (vct w x0 4) x3) = 0) → VW d 214 28 [(2, x0), (1, x1), (9, 0), (0, x3)] [] w Q)) :=
  (VW_b 5 (F := fun n => if vkd w x0 = 15 then if vkd w (vct w x0 4) = 3 ∧ (0 : Int) ≤ x3 ∧ x3 < vln w (vct w x0 4) then (if (vct w (vct w x0 4) x3) = 0 then vrun n d 214 41 [(2, x0), (1, x1), (9, 0), (0, x3)] [] w else vrun n d 214 28 [(2, x0), (1, x1), (9, 0), (0, x3)] [] w) else none else none) (fun _ => rfl)).trans (EX_if.trans (and_congr Iff.rfl (EX_if.trans (and_congr Iff.rfl (EX_br.trans (and_congr (imp_congr Iff.rfl Iff.rfl) (imp_congr Iff.rfl Iff.rfl)))))))
set_option maxRecDepth 100000 in
theorem b214_28 {d : Nat} {w : vW} {x0 x1 x3 : Int} {Q : Int → vW → Prop} : VW d 214 28 [(2, x0), (1, x1), (9, 0), (0, x3)] [] w Q ↔ (vkd w x0 = 15) ∧ (vkd w (vct w x0 5) = 2 ∧ (0 : Int) ≤ x3 ∧ x3 < vln w (vct w x0 5)) ∧ VW d 214 42 [(2, x0), (1, x1), (9, 0), (0, x3)] [(1, max x1 (vct w (vct w x0 5) x3))] w Q :=
  (VW_b 7 (F := fun n => if vkd w x0 = 15 then if vkd w (vct w x0 5) = 2 ∧ (0 : Int) ≤ x3 ∧ x3 < vln w (vct w x0 5) then vrun n d 214 42 [(2, x0), (1, x1), (9, 0), (0, x3)] [(1, max x1 (vct w (vct w x0 5) x3))] w else none else none) (fun _ => rfl)).trans (EX_if.trans (and_congr Iff.rfl (EX_if.trans (and_congr Iff.rfl (Iff.rfl)))))
set_option maxRecDepth 100000 in
theorem b214_41 {d : Nat} {w : vW} {x0 x1 x3 : Int} {Q : Int → vW → Prop} : VW d 214 41 [(2, x0), (1, x1), (9, 0), (0, x3)] [] w Q ↔ VW d 214 42 [(2, x0), (1, x1), (9, 0), (0, x3)] [(1, x1)] w Q :=
  (VW_b 1 (F := fun n => vrun n d 214 42 [(2, x0), (1, x1), (9, 0), (0, x3)] [(1, x1)] w) (fun _ => rfl)).trans (Iff.rfl)
set_option maxRecDepth 100000 in
theorem b214_42 {d : Nat} {w : vW} {x0 x1 x3 y0 : Int} {Q : Int → vW → Prop} : VW d 214 42 [(2, x0), (1, x1), (9, 0), (0, x3)] [(1, y0)] w Q ↔ VW d 214 4 [(2, x0), (1, y0), (9, 0), (0, w32 (x3 + 1))] [] w Q :=
  (VW_b 3 (F := fun n => vrun n d 214 4 [(2, x0), (1, y0), (9, 0), (0, w32 (x3 + 1))] [] w) (fun _ => rfl)).trans (Iff.rfl)
set_option maxRecDepth 100000 in
theorem b214_49 {d : Nat} {w : vW} {x0 x1 x3 : Int} {Q : Int → vW → Prop} : VW d 214 49 [(2, x0), (1, x1), (9, 0), (0, x3)] [] w Q ↔ Q x1 w :=
  (VW_b 2 (F := fun n => some (0, x1, w)) (fun _ => rfl)).trans (EX_ret0)
/-! 215: StrikeWhatCancels$Net.fewestTillDone()I -/
set_option maxRecDepth 100000 in
theorem b215_0 {d : Nat} {w : vW} {x0 : Int} {Q : Int → vW → Prop} : VW d 215 0 [(2, x0), (9, 0)] [] w Q ↔ VW d 215 2 [(2, x0), (0, 0)] [] w Q :=
  (VW_b 2 (F := fun n => vrun n d 215 2 [(2, x0), (0, 0)] [] w) (fun _ => rfl)).trans (Iff.rfl)
set_option maxRecDepth 100000 in
theorem b215_2 {d : Nat} {w : vW} {x0 x1 : Int} {Q : Int → vW → Prop} : VW d 215 2 [(2, x0), (0, x1)] [] w Q ↔ (vkd w x0 = 15) ∧ ((x1 < (vct w x0 17) → VW d 215 10 [(2, x0), (0, x1)] [] w Q) ∧ (¬ (x1 < (vct w x0 17)) → VW d 215 39 [(2, x0), (0, x1)] [] w Q)) :=
  (VW_b 4 (F := fun n => if vkd w x0 = 15 then (if x1 < (vct w x0 17) then vrun n d 215 10 [(2, x0), (0, x1)] [] w else vrun n d 215 39 [(2, x0), (0, x1)] [] w) else none) (fun _ => rfl)).trans (EX_if.trans (and_congr Iff.rfl (EX_br.trans (and_congr (imp_congr Iff.rfl Iff.rfl) (imp_congr Iff.rfl Iff.rfl)))))
set_option maxRecDepth 100000 in
theorem b215_10 {d : Nat} {w : vW} {x0 x1 : Int} {Q : Int → vW → Prop} : VW d 215 10 [(2, x0), (0, x1)] [] w Q ↔ ((x1 < 3000 → VW d 215 17 [(2, x0), (0, x1)] [] w Q) ∧ (¬ (x1 < 3000) → VW d 215 39 [(2, x0), (0, x1)] [] w Q)) :=
  (VW_b 3 (F := fun n => (if x1 < 3000 then vrun n d 215 17 [(2, x0), (0, x1)] [] w else vrun n d 215 39 [(2, x0), (0, x1)] [] w)) (fun _ => rfl)).trans (EX_br.trans (and_congr (imp_congr Iff.rfl Iff.rfl) (imp_congr Iff.rfl Iff.rfl)))
set_option maxRecDepth 100000 in
theorem b215_17 {d : Nat} {w : vW} {x0 x1 : Int} {Q : Int → vW → Prop} : VW d 215 17 [(2, x0), (0, x1)] [] w Q ↔ (vkd w x0 = 15) ∧ (vkd w (vct w x0 4) = 3 ∧ (0 : Int) ≤ x1 ∧ x1 < vln w (vct w x0 4)) ∧ (((vct w (vct w x0 4) x1) = 0 → VW d 215 33 [(2, x0), (0, x1)] [] w Q) ∧ (¬ ((vct w (vct w x0 4) x1) = 0) → VW d 215 26 [(2, x0), (0, x1)] [] w Q)) :=
  (VW_b 5 (F := fun n => if vkd w x0 = 15 then if vkd w (vct w x0 4) = 3 ∧ (0 : Int) ≤ x1 ∧ x1 < vln w (vct w x0 4) then (if (vct w (vct w x0 4) x1) = 0 then vrun n d 215 33 [(2, x0), (0, x1)] [] w else vrun n d 215 26 [(2, x0), (0, x1)] [] w) else none else none) (fun _ => rfl)).trans (EX_if.trans (and_congr Iff.rfl (EX_if.trans (and_congr Iff.rfl (EX_br.trans (and_congr (imp_congr Iff.rfl Iff.rfl) (imp_congr Iff.rfl Iff.rfl)))))))
set_option maxRecDepth 100000 in
theorem b215_26 {d : Nat} {w : vW} {x0 x1 : Int} {Q : Int → vW → Prop} : VW d 215 26 [(2, x0), (0, x1)] [] w Q ↔ (vkd w x0 = 15) ∧ (vkd w (vct w x0 3) = 1 ∧ (0 : Int) ≤ x1 ∧ x1 < vln w (vct w x0 3)) ∧ Q (vct w (vct w x0 3) x1) w :=
  (VW_b 5 (F := fun n => if vkd w x0 = 15 then if vkd w (vct w x0 3) = 1 ∧ (0 : Int) ≤ x1 ∧ x1 < vln w (vct w x0 3) then some (0, vct w (vct w x0 3) x1, w) else none else none) (fun _ => rfl)).trans (EX_if.trans (and_congr Iff.rfl (EX_if.trans (and_congr Iff.rfl (EX_ret0)))))
set_option maxRecDepth 100000 in
theorem b215_33 {d : Nat} {w : vW} {x0 x1 : Int} {Q : Int → vW → Prop} : VW d 215 33 [(2, x0), (0, x1)] [] w Q ↔ VW d 215 2 [(2, x0), (0, w32 (x1 + 1))] [] w Q :=
  (VW_b 2 (F := fun n => vrun n d 215 2 [(2, x0), (0, w32 (x1 + 1))] [] w) (fun _ => rfl)).trans (Iff.rfl)
set_option maxRecDepth 100000 in
theorem b215_39 {d : Nat} {w : vW} {x0 x1 : Int} {Q : Int → vW → Prop} : VW d 215 39 [(2, x0), (0, x1)] [] w Q ↔ Q 0 w :=
  (VW_b 2 (F := fun n => some (0, 0, w)) (fun _ => rfl)).trans (EX_ret0)
/-! 216: StrikeWhatCancels$Net.waysTillDone()J -/
set_option maxRecDepth 100000 in
theorem b216_0 {d : Nat} {w : vW} {x0 : Int} {Q : Int → vW → Prop} : VW d 216 0 [(2, x0), (9, 0), (9, 0), (9, 0)] [] w Q ↔ VW d 216 4 [(2, x0), (1, 0), (9, 0), (0, 0)] [] w Q :=
  (VW_b 4 (F := fun n => vrun n d 216 4 [(2, x0), (1, 0), (9, 0), (0, 0)] [] w) (fun _ => rfl)).trans (Iff.rfl)
set_option maxRecDepth 100000 in
theorem b216_4 {d : Nat} {w : vW} {x0 x1 x3 : Int} {Q : Int → vW → Prop} : VW d 216 4 [(2, x0), (1, x1), (9, 0), (0, x3)] [] w Q ↔ (vkd w x0 = 15) ∧ ((x3 < (vct w x0 17) → VW d 216 12 [(2, x0), (1, x1), (9, 0), (0, x3)] [] w Q) ∧ (¬ (x3 < (vct w x0 17)) → VW d 216 47 [(2, x0), (1, x1), (9, 0), (0, x3)] [] w Q)) :=
  (VW_b 4 (F := fun n => if vkd w x0 = 15 then (if x3 < (vct w x0 17) then vrun n d 216 12 [(2, x0), (1, x1), (9, 0), (0, x3)] [] w else vrun n d 216 47 [(2, x0), (1, x1), (9, 0), (0, x3)] [] w) else none) (fun _ => rfl)).trans (EX_if.trans (and_congr Iff.rfl (EX_br.trans (and_congr (imp_congr Iff.rfl Iff.rfl) (imp_congr Iff.rfl Iff.rfl)))))
set_option maxRecDepth 100000 in
theorem b216_12 {d : Nat} {w : vW} {x0 x1 x3 : Int} {Q : Int → vW → Prop} : VW d 216 12 [(2, x0), (1, x1), (9, 0), (0, x3)] [] w Q ↔ ((x3 < 3000 → VW d 216 19 [(2, x0), (1, x1), (9, 0), (0, x3)] [] w Q) ∧ (¬ (x3 < 3000) → VW d 216 47 [(2, x0), (1, x1), (9, 0), (0, x3)] [] w Q)) :=
  (VW_b 3 (F := fun n => (if x3 < 3000 then vrun n d 216 19 [(2, x0), (1, x1), (9, 0), (0, x3)] [] w else vrun n d 216 47 [(2, x0), (1, x1), (9, 0), (0, x3)] [] w)) (fun _ => rfl)).trans (EX_br.trans (and_congr (imp_congr Iff.rfl Iff.rfl) (imp_congr Iff.rfl Iff.rfl)))
set_option maxRecDepth 100000 in
theorem b216_19 {d : Nat} {w : vW} {x0 x1 x3 : Int} {Q : Int → vW → Prop} : VW d 216 19 [(2, x0), (1, x1), (9, 0), (0, x3)] [] w Q ↔ (vkd w x0 = 15) ∧ (vkd w (vct w x0 4) = 3 ∧ (0 : Int) ≤ x3 ∧ x3 < vln w (vct w x0 4)) ∧ (((vct w (vct w x0 4) x3) = 0 → VW d 216 38 [(2, x0), (1, x1), (9, 0), (0, x3)] [(1, x1)] w Q) ∧ (¬ ((vct w (vct w x0 4) x3) = 0) → VW d 216 29 [(2, x0), (1, x1), (9, 0), (0, x3)] [(1, x1)] w Q)) :=
  (VW_b 6 (F := fun n => if vkd w x0 = 15 then if vkd w (vct w x0 4) = 3 ∧ (0 : Int) ≤ x3 ∧ x3 < vln w (vct w x0 4) then (if (vct w (vct w x0 4) x3) = 0 then vrun n d 216 38 [(2, x0), (1, x1), (9, 0), (0, x3)] [(1, x1)] w else vrun n d 216 29 [(2, x0), (1, x1), (9, 0), (0, x3)] [(1, x1)] w) else none else none) (fun _ => rfl)).trans (EX_if.trans (and_congr Iff.rfl (EX_if.trans (and_congr Iff.rfl (EX_br.trans (and_congr (imp_congr Iff.rfl Iff.rfl) (imp_congr Iff.rfl Iff.rfl)))))))
set_option maxRecDepth 100000 in
theorem b216_29 {d : Nat} {w : vW} {x0 x1 x3 y0 : Int} {Q : Int → vW → Prop} : VW d 216 29 [(2, x0), (1, x1), (9, 0), (0, x3)] [(1, y0)] w Q ↔ (vkd w x0 = 15) ∧ (vkd w (vct w x0 5) = 2 ∧ (0 : Int) ≤ x3 ∧ x3 < vln w (vct w x0 5)) ∧ VW d 216 39 [(2, x0), (1, x1), (9, 0), (0, x3)] [(1, vct w (vct w x0 5) x3), (1, y0)] w Q :=
  (VW_b 5 (F := fun n => if vkd w x0 = 15 then if vkd w (vct w x0 5) = 2 ∧ (0 : Int) ≤ x3 ∧ x3 < vln w (vct w x0 5) then vrun n d 216 39 [(2, x0), (1, x1), (9, 0), (0, x3)] [(1, vct w (vct w x0 5) x3), (1, y0)] w else none else none) (fun _ => rfl)).trans (EX_if.trans (and_congr Iff.rfl (EX_if.trans (and_congr Iff.rfl (Iff.rfl)))))
set_option maxRecDepth 100000 in
theorem b216_38 {d : Nat} {w : vW} {x0 x1 x3 y0 : Int} {Q : Int → vW → Prop} : VW d 216 38 [(2, x0), (1, x1), (9, 0), (0, x3)] [(1, y0)] w Q ↔ VW d 216 39 [(2, x0), (1, x1), (9, 0), (0, x3)] [(1, 0), (1, y0)] w Q :=
  (VW_b 1 (F := fun n => vrun n d 216 39 [(2, x0), (1, x1), (9, 0), (0, x3)] [(1, 0), (1, y0)] w) (fun _ => rfl)).trans (Iff.rfl)
set_option maxRecDepth 100000 in
theorem b216_39 {d : Nat} {w : vW} {x0 x1 x3 y0 y1 : Int} {Q : Int → vW → Prop} : VW d 216 39 [(2, x0), (1, x1), (9, 0), (0, x3)] [(1, y1), (1, y0)] w Q ↔ VW d 216 41 [(2, x0), (1, w64 (y0 + y1)), (9, 0), (0, x3)] [] w Q :=
  (VW_b 2 (F := fun n => vrun n d 216 41 [(2, x0), (1, w64 (y0 + y1)), (9, 0), (0, x3)] [] w) (fun _ => rfl)).trans (Iff.rfl)
set_option maxRecDepth 100000 in
theorem b216_41 {d : Nat} {w : vW} {x0 x1 x3 : Int} {Q : Int → vW → Prop} : VW d 216 41 [(2, x0), (1, x1), (9, 0), (0, x3)] [] w Q ↔ VW d 216 4 [(2, x0), (1, x1), (9, 0), (0, w32 (x3 + 1))] [] w Q :=
  (VW_b 2 (F := fun n => vrun n d 216 4 [(2, x0), (1, x1), (9, 0), (0, w32 (x3 + 1))] [] w) (fun _ => rfl)).trans (Iff.rfl)
set_option maxRecDepth 100000 in
theorem b216_47 {d : Nat} {w : vW} {x0 x1 x3 : Int} {Q : Int → vW → Prop} : VW d 216 47 [(2, x0), (1, x1), (9, 0), (0, x3)] [] w Q ↔ Q x1 w :=
  (VW_b 2 (F := fun n => some (0, x1, w)) (fun _ => rfl)).trans (EX_ret0)
/-! 217: StrikeWhatCancels$Net.doneNumber(I)J -/
set_option maxRecDepth 100000 in
theorem b217_0 {d : Nat} {w : vW} {x0 x1 : Int} {Q : Int → vW → Prop} : VW d 217 0 [(2, x0), (0, x1), (9, 0), (9, 0)] [] w Q ↔ (vkd w x0 = 15) ∧ VC d 210 [(2, x0)] w (fun _ w1 => VW d 217 4 [(2, x0), (0, x1), (9, 0), (9, 0)] [] w1 Q) :=
  (VW_b 2 (F := fun n => if vkd w x0 = 15 then vclr (vrun n) d 217 4 210 1 9 [(2, x0), (0, x1), (9, 0), (9, 0)] [(2, x0)] w else none) (fun _ => rfl)).trans (EX_if.trans (and_congr Iff.rfl (EX_call rfl)))
set_option maxRecDepth 100000 in
theorem b217_4 {d : Nat} {w : vW} {x0 x1 : Int} {Q : Int → vW → Prop} : VW d 217 4 [(2, x0), (0, x1), (9, 0), (9, 0)] [] w Q ↔ VW d 217 8 [(2, x0), (0, x1), (0, 0), (0, 0)] [] w Q :=
  (VW_b 4 (F := fun n => vrun n d 217 8 [(2, x0), (0, x1), (0, 0), (0, 0)] [] w) (fun _ => rfl)).trans (Iff.rfl)
set_option maxRecDepth 100000 in
theorem b217_8 {d : Nat} {w : vW} {x0 x1 x2 x3 : Int} {Q : Int → vW → Prop} : VW d 217 8 [(2, x0), (0, x1), (0, x2), (0, x3)] [] w Q ↔ (vkd w x0 = 15) ∧ ((x3 < (vct w x0 17) → VW d 217 16 [(2, x0), (0, x1), (0, x2), (0, x3)] [] w Q) ∧ (¬ (x3 < (vct w x0 17)) → VW d 217 61 [(2, x0), (0, x1), (0, x2), (0, x3)] [] w Q)) :=
  (VW_b 4 (F := fun n => if vkd w x0 = 15 then (if x3 < (vct w x0 17) then vrun n d 217 16 [(2, x0), (0, x1), (0, x2), (0, x3)] [] w else vrun n d 217 61 [(2, x0), (0, x1), (0, x2), (0, x3)] [] w) else none) (fun _ => rfl)).trans (EX_if.trans (and_congr Iff.rfl (EX_br.trans (and_congr (imp_congr Iff.rfl Iff.rfl) (imp_congr Iff.rfl Iff.rfl)))))
set_option maxRecDepth 100000 in
theorem b217_16 {d : Nat} {w : vW} {x0 x1 x2 x3 : Int} {Q : Int → vW → Prop} : VW d 217 16 [(2, x0), (0, x1), (0, x2), (0, x3)] [] w Q ↔ ((x3 < 3000 → VW d 217 23 [(2, x0), (0, x1), (0, x2), (0, x3)] [] w Q) ∧ (¬ (x3 < 3000) → VW d 217 61 [(2, x0), (0, x1), (0, x2), (0, x3)] [] w Q)) :=
  (VW_b 3 (F := fun n => (if x3 < 3000 then vrun n d 217 23 [(2, x0), (0, x1), (0, x2), (0, x3)] [] w else vrun n d 217 61 [(2, x0), (0, x1), (0, x2), (0, x3)] [] w)) (fun _ => rfl)).trans (EX_br.trans (and_congr (imp_congr Iff.rfl Iff.rfl) (imp_congr Iff.rfl Iff.rfl)))
set_option maxRecDepth 100000 in
theorem b217_23 {d : Nat} {w : vW} {x0 x1 x2 x3 : Int} {Q : Int → vW → Prop} : VW d 217 23 [(2, x0), (0, x1), (0, x2), (0, x3)] [] w Q ↔ (vkd w x0 = 15) ∧ (vkd w (vct w x0 6) = 2 ∧ (0 : Int) ≤ x3 ∧ x3 < vln w (vct w x0 6)) ∧ (vkd w x0 = 15) ∧ VC d 199 [(2, x0), (1, vct w (vct w x0 6) x3)] w (fun r w1 => VW d 217 34 [(2, x0), (0, x1), (0, x2), (0, x3)] [(0, r), (2, x0)] w1 Q) :=
  (VW_b 7 (F := fun n => if vkd w x0 = 15 then if vkd w (vct w x0 6) = 2 ∧ (0 : Int) ≤ x3 ∧ x3 < vln w (vct w x0 6) then if vkd w x0 = 15 then vclr (vrun n) d 217 34 199 2 0 [(2, x0), (0, x1), (0, x2), (0, x3)] [(1, vct w (vct w x0 6) x3), (2, x0), (2, x0)] w else none else none else none) (fun _ => rfl)).trans (EX_if.trans (and_congr Iff.rfl (EX_if.trans (and_congr Iff.rfl (EX_if.trans (and_congr Iff.rfl (EX_call rfl)))))))
set_option maxRecDepth 100000 in
theorem b217_34 {d : Nat} {w : vW} {x0 x1 x2 x3 y0 y1 : Int} {Q : Int → vW → Prop} : VW d 217 34 [(2, x0), (0, x1), (0, x2), (0, x3)] [(0, y1), (2, y0)] w Q ↔ (vkd w y0 = 15) ∧ VC d 219 [(2, y0), (0, y1)] w (fun r w1 => VW d 217 37 [(2, x0), (0, x1), (0, x2), (0, x3)] [(0, r)] w1 Q) :=
  (VW_b 1 (F := fun n => if vkd w y0 = 15 then vclr (vrun n) d 217 37 219 2 0 [(2, x0), (0, x1), (0, x2), (0, x3)] [(0, y1), (2, y0)] w else none) (fun _ => rfl)).trans (EX_if.trans (and_congr Iff.rfl (EX_call rfl)))
set_option maxRecDepth 100000 in
theorem b217_37 {d : Nat} {w : vW} {x0 x1 x2 x3 y0 : Int} {Q : Int → vW → Prop} : VW d 217 37 [(2, x0), (0, x1), (0, x2), (0, x3)] [(0, y0)] w Q ↔ ((y0 = 0 → VW d 217 55 [(2, x0), (0, x1), (0, x2), (0, x3)] [] w Q) ∧ (¬ (y0 = 0) → VW d 217 40 [(2, x0), (0, x1), (0, x2), (0, x3)] [] w Q)) :=
  (VW_b 1 (F := fun n => (if y0 = 0 then vrun n d 217 55 [(2, x0), (0, x1), (0, x2), (0, x3)] [] w else vrun n d 217 40 [(2, x0), (0, x1), (0, x2), (0, x3)] [] w)) (fun _ => rfl)).trans (EX_br.trans (and_congr (imp_congr Iff.rfl Iff.rfl) (imp_congr Iff.rfl Iff.rfl)))
set_option maxRecDepth 100000 in
theorem b217_40 {d : Nat} {w : vW} {x0 x1 x2 x3 : Int} {Q : Int → vW → Prop} : VW d 217 40 [(2, x0), (0, x1), (0, x2), (0, x3)] [] w Q ↔ ((x2 = x1 → VW d 217 45 [(2, x0), (0, x1), (0, x2), (0, x3)] [] w Q) ∧ (¬ (x2 = x1) → VW d 217 52 [(2, x0), (0, x1), (0, x2), (0, x3)] [] w Q)) :=
  (VW_b 3 (F := fun n => (if x2 = x1 then vrun n d 217 45 [(2, x0), (0, x1), (0, x2), (0, x3)] [] w else vrun n d 217 52 [(2, x0), (0, x1), (0, x2), (0, x3)] [] w)) (fun _ => rfl)).trans (EX_br.trans (and_congr (imp_congr Iff.rfl Iff.rfl) (imp_congr Iff.rfl Iff.rfl)))
set_option maxRecDepth 100000 in
theorem b217_45 {d : Nat} {w : vW} {x0 x1 x2 x3 : Int} {Q : Int → vW → Prop} : VW d 217 45 [(2, x0), (0, x1), (0, x2), (0, x3)] [] w Q ↔ (vkd w x0 = 15) ∧ (vkd w (vct w x0 6) = 2 ∧ (0 : Int) ≤ x3 ∧ x3 < vln w (vct w x0 6)) ∧ Q (vct w (vct w x0 6) x3) w :=
  (VW_b 5 (F := fun n => if vkd w x0 = 15 then if vkd w (vct w x0 6) = 2 ∧ (0 : Int) ≤ x3 ∧ x3 < vln w (vct w x0 6) then some (0, vct w (vct w x0 6) x3, w) else none else none) (fun _ => rfl)).trans (EX_if.trans (and_congr Iff.rfl (EX_if.trans (and_congr Iff.rfl (EX_ret0)))))
set_option maxRecDepth 100000 in
theorem b217_52 {d : Nat} {w : vW} {x0 x1 x2 x3 : Int} {Q : Int → vW → Prop} : VW d 217 52 [(2, x0), (0, x1), (0, x2), (0, x3)] [] w Q ↔ VW d 217 55 [(2, x0), (0, x1), (0, w32 (x2 + 1)), (0, x3)] [] w Q :=
  (VW_b 1 (F := fun n => vrun n d 217 55 [(2, x0), (0, x1), (0, w32 (x2 + 1)), (0, x3)] [] w) (fun _ => rfl)).trans (Iff.rfl)
set_option maxRecDepth 100000 in
theorem b217_55 {d : Nat} {w : vW} {x0 x1 x2 x3 : Int} {Q : Int → vW → Prop} : VW d 217 55 [(2, x0), (0, x1), (0, x2), (0, x3)] [] w Q ↔ VW d 217 8 [(2, x0), (0, x1), (0, x2), (0, w32 (x3 + 1))] [] w Q :=
  (VW_b 2 (F := fun n => vrun n d 217 8 [(2, x0), (0, x1), (0, x2), (0, w32 (x3 + 1))] [] w) (fun _ => rfl)).trans (Iff.rfl)
set_option maxRecDepth 100000 in
theorem b217_61 {d : Nat} {w : vW} {x0 x1 x2 x3 : Int} {Q : Int → vW → Prop} : VW d 217 61 [(2, x0), (0, x1), (0, x2), (0, x3)] [] w Q ↔ Q (-1) w :=
  (VW_b 2 (F := fun n => some (0, (-1), w)) (fun _ => rfl)).trans (EX_ret0)
/-! 218: StrikeWhatCancels$Net.leastIn(LStrikeWhatCancels$Net;)J -/
set_option maxRecDepth 100000 in
theorem b218_0 {d : Nat} {w : vW} {x0 x1 : Int} {Q : Int → vW → Prop} : VW d 218 0 [(2, x0), (2, x1), (9, 0), (9, 0), (9, 0)] [] w Q ↔ VW d 218 7 [(2, x0), (2, x1), (1, (-1)), (9, 0), (0, 0)] [] w Q :=
  (VW_b 4 (F := fun n => vrun n d 218 7 [(2, x0), (2, x1), (1, (-1)), (9, 0), (0, 0)] [] w) (fun _ => rfl)).trans (Iff.rfl)
set_option maxRecDepth 100000 in
theorem b218_7 {d : Nat} {w : vW} {x0 x1 x2 x4 : Int} {Q : Int → vW → Prop} : VW d 218 7 [(2, x0), (2, x1), (1, x2), (9, 0), (0, x4)] [] w Q ↔ (vkd w x0 = 15) ∧ ((x4 < (vct w x0 17) → VW d 218 16 [(2, x0), (2, x1), (1, x2), (9, 0), (0, x4)] [] w Q) ∧ (¬ (x4 < (vct w x0 17)) → VW d 218 70 [(2, x0), (2, x1), (1, x2), (9, 0), (0, x4)] [] w Q)) :=
  (VW_b 4 (F := fun n => if vkd w x0 = 15 then (if x4 < (vct w x0 17) then vrun n d 218 16 [(2, x0), (2, x1), (1, x2), (9, 0), (0, x4)] [] w else vrun n d 218 70 [(2, x0), (2, x1), (1, x2), (9, 0), (0, x4)] [] w) else none) (fun _ => rfl)).trans (EX_if.trans (and_congr Iff.rfl (EX_br.trans (and_congr (imp_congr Iff.rfl Iff.rfl) (imp_congr Iff.rfl Iff.rfl)))))
set_option maxRecDepth 100000 in
theorem b218_16 {d : Nat} {w : vW} {x0 x1 x2 x4 : Int} {Q : Int → vW → Prop} : VW d 218 16 [(2, x0), (2, x1), (1, x2), (9, 0), (0, x4)] [] w Q ↔ ((x4 < 3000 → VW d 218 24 [(2, x0), (2, x1), (1, x2), (9, 0), (0, x4)] [] w Q) ∧ (¬ (x4 < 3000) → VW d 218 70 [(2, x0), (2, x1), (1, x2), (9, 0), (0, x4)] [] w Q)) :=
  (VW_b 3 (F := fun n => (if x4 < 3000 then vrun n d 218 24 [(2, x0), (2, x1), (1, x2), (9, 0), (0, x4)] [] w else vrun n d 218 70 [(2, x0), (2, x1), (1, x2), (9, 0), (0, x4)] [] w)) (fun _ => rfl)).trans (EX_br.trans (and_congr (imp_congr Iff.rfl Iff.rfl) (imp_congr Iff.rfl Iff.rfl)))
set_option maxRecDepth 100000 in
theorem b218_24 {d : Nat} {w : vW} {x0 x1 x2 x4 : Int} {Q : Int → vW → Prop} : VW d 218 24 [(2, x0), (2, x1), (1, x2), (9, 0), (0, x4)] [] w Q ↔ (((vlc x2 0) < 0 → VW d 218 42 [(2, x0), (2, x1), (1, x2), (9, 0), (0, x4)] [] w Q) ∧ (¬ ((vlc x2 0) < 0) → VW d 218 30 [(2, x0), (2, x1), (1, x2), (9, 0), (0, x4)] [] w Q)) :=
  (VW_b 4 (F := fun n => (if (vlc x2 0) < 0 then vrun n d 218 42 [(2, x0), (2, x1), (1, x2), (9, 0), (0, x4)] [] w else vrun n d 218 30 [(2, x0), (2, x1), (1, x2), (9, 0), (0, x4)] [] w)) (fun _ => rfl)).trans (EX_br.trans (and_congr (imp_congr Iff.rfl Iff.rfl) (imp_congr Iff.rfl Iff.rfl)))
set_option maxRecDepth 100000 in
theorem b218_30 {d : Nat} {w : vW} {x0 x1 x2 x4 : Int} {Q : Int → vW → Prop} : VW d 218 30 [(2, x0), (2, x1), (1, x2), (9, 0), (0, x4)] [] w Q ↔ (vkd w x0 = 15) ∧ (vkd w (vct w x0 0) = 2 ∧ (0 : Int) ≤ x4 ∧ x4 < vln w (vct w x0 0)) ∧ (((vlc (vct w (vct w x0 0) x4) x2) < 0 → VW d 218 42 [(2, x0), (2, x1), (1, x2), (9, 0), (0, x4)] [] w Q) ∧ (¬ ((vlc (vct w (vct w x0 0) x4) x2) < 0) → VW d 218 64 [(2, x0), (2, x1), (1, x2), (9, 0), (0, x4)] [] w Q)) :=
  (VW_b 7 (F := fun n => if vkd w x0 = 15 then if vkd w (vct w x0 0) = 2 ∧ (0 : Int) ≤ x4 ∧ x4 < vln w (vct w x0 0) then (if (vlc (vct w (vct w x0 0) x4) x2) < 0 then vrun n d 218 42 [(2, x0), (2, x1), (1, x2), (9, 0), (0, x4)] [] w else vrun n d 218 64 [(2, x0), (2, x1), (1, x2), (9, 0), (0, x4)] [] w) else none else none) (fun _ => rfl)).trans (EX_if.trans (and_congr Iff.rfl (EX_if.trans (and_congr Iff.rfl (EX_br.trans (and_congr (imp_congr Iff.rfl Iff.rfl) (imp_congr Iff.rfl Iff.rfl)))))))
set_option maxRecDepth 100000 in
theorem b218_42 {d : Nat} {w : vW} {x0 x1 x2 x4 : Int} {Q : Int → vW → Prop} : VW d 218 42 [(2, x0), (2, x1), (1, x2), (9, 0), (0, x4)] [] w Q ↔ (vkd w x0 = 15) ∧ (vkd w (vct w x0 0) = 2 ∧ (0 : Int) ≤ x4 ∧ x4 < vln w (vct w x0 0)) ∧ (vkd w x1 = 15) ∧ VC d 199 [(2, x1), (1, vct w (vct w x0 0) x4)] w (fun r w1 => VW d 218 53 [(2, x0), (2, x1), (1, x2), (9, 0), (0, x4)] [(0, r)] w1 Q) :=
  (VW_b 6 (F := fun n => if vkd w x0 = 15 then if vkd w (vct w x0 0) = 2 ∧ (0 : Int) ≤ x4 ∧ x4 < vln w (vct w x0 0) then if vkd w x1 = 15 then vclr (vrun n) d 218 53 199 2 0 [(2, x0), (2, x1), (1, x2), (9, 0), (0, x4)] [(1, vct w (vct w x0 0) x4), (2, x1)] w else none else none else none) (fun _ => rfl)).trans (EX_if.trans (and_congr Iff.rfl (EX_if.trans (and_congr Iff.rfl (EX_if.trans (and_congr Iff.rfl (EX_call rfl)))))))
set_option maxRecDepth 100000 in
theorem b218_53 {d : Nat} {w : vW} {x0 x1 x2 x4 y0 : Int} {Q : Int → vW → Prop} : VW d 218 53 [(2, x0), (2, x1), (1, x2), (9, 0), (0, x4)] [(0, y0)] w Q ↔ ((y0 < 0 → VW d 218 64 [(2, x0), (2, x1), (1, x2), (9, 0), (0, x4)] [] w Q) ∧ (¬ (y0 < 0) → VW d 218 56 [(2, x0), (2, x1), (1, x2), (9, 0), (0, x4)] [] w Q)) :=
  (VW_b 1 (F := fun n => (if y0 < 0 then vrun n d 218 64 [(2, x0), (2, x1), (1, x2), (9, 0), (0, x4)] [] w else vrun n d 218 56 [(2, x0), (2, x1), (1, x2), (9, 0), (0, x4)] [] w)) (fun _ => rfl)).trans (EX_br.trans (and_congr (imp_congr Iff.rfl Iff.rfl) (imp_congr Iff.rfl Iff.rfl)))
set_option maxRecDepth 100000 in
theorem b218_56 {d : Nat} {w : vW} {x0 x1 x2 x4 : Int} {Q : Int → vW → Prop} : VW d 218 56 [(2, x0), (2, x1), (1, x2), (9, 0), (0, x4)] [] w Q ↔ (vkd w x0 = 15) ∧ (vkd w (vct w x0 0) = 2 ∧ (0 : Int) ≤ x4 ∧ x4 < vln w (vct w x0 0)) ∧ VW d 218 64 [(2, x0), (2, x1), (1, vct w (vct w x0 0) x4), (9, 0), (0, x4)] [] w Q :=
  (VW_b 5 (F := fun n => if vkd w x0 = 15 then if vkd w (vct w x0 0) = 2 ∧ (0 : Int) ≤ x4 ∧ x4 < vln w (vct w x0 0) then vrun n d 218 64 [(2, x0), (2, x1), (1, vct w (vct w x0 0) x4), (9, 0), (0, x4)] [] w else none else none) (fun _ => rfl)).trans (EX_if.trans (and_congr Iff.rfl (EX_if.trans (and_congr Iff.rfl (Iff.rfl)))))
set_option maxRecDepth 100000 in
theorem b218_64 {d : Nat} {w : vW} {x0 x1 x2 x4 : Int} {Q : Int → vW → Prop} : VW d 218 64 [(2, x0), (2, x1), (1, x2), (9, 0), (0, x4)] [] w Q ↔ VW d 218 7 [(2, x0), (2, x1), (1, x2), (9, 0), (0, w32 (x4 + 1))] [] w Q :=
  (VW_b 2 (F := fun n => vrun n d 218 7 [(2, x0), (2, x1), (1, x2), (9, 0), (0, w32 (x4 + 1))] [] w) (fun _ => rfl)).trans (Iff.rfl)
set_option maxRecDepth 100000 in
theorem b218_70 {d : Nat} {w : vW} {x0 x1 x2 x4 : Int} {Q : Int → vW → Prop} : VW d 218 70 [(2, x0), (2, x1), (1, x2), (9, 0), (0, x4)] [] w Q ↔ Q x2 w :=
  (VW_b 2 (F := fun n => some (0, x2, w)) (fun _ => rfl)).trans (EX_ret0)
/-! 219: StrikeWhatCancels$Net.isFinished(I)Z -/
set_option maxRecDepth 100000 in
theorem b219_0 {d : Nat} {w : vW} {x0 x1 : Int} {Q : Int → vW → Prop} : VW d 219 0 [(2, x0), (0, x1)] [] w Q ↔ ((x1 < 0 → VW d 219 26 [(2, x0), (0, x1)] [] w Q) ∧ (¬ (x1 < 0) → VW d 219 4 [(2, x0), (0, x1)] [] w Q)) :=
  (VW_b 2 (F := fun n => (if x1 < 0 then vrun n d 219 26 [(2, x0), (0, x1)] [] w else vrun n d 219 4 [(2, x0), (0, x1)] [] w)) (fun _ => rfl)).trans (EX_br.trans (and_congr (imp_congr Iff.rfl Iff.rfl) (imp_congr Iff.rfl Iff.rfl)))
set_option maxRecDepth 100000 in
theorem b219_4 {d : Nat} {w : vW} {x0 x1 : Int} {Q : Int → vW → Prop} : VW d 219 4 [(2, x0), (0, x1)] [] w Q ↔ (vkd w x0 = 15) ∧ (vkd w (vct w x0 4) = 3) ∧ ((x1 < (vln w (vct w x0 4)) → VW d 219 13 [(2, x0), (0, x1)] [] w Q) ∧ (¬ (x1 < (vln w (vct w x0 4))) → VW d 219 26 [(2, x0), (0, x1)] [] w Q)) :=
  (VW_b 5 (F := fun n => if vkd w x0 = 15 then if vkd w (vct w x0 4) = 3 then (if x1 < (vln w (vct w x0 4)) then vrun n d 219 13 [(2, x0), (0, x1)] [] w else vrun n d 219 26 [(2, x0), (0, x1)] [] w) else none else none) (fun _ => rfl)).trans (EX_if.trans (and_congr Iff.rfl (EX_if.trans (and_congr Iff.rfl (EX_br.trans (and_congr (imp_congr Iff.rfl Iff.rfl) (imp_congr Iff.rfl Iff.rfl)))))))
set_option maxRecDepth 100000 in
theorem b219_13 {d : Nat} {w : vW} {x0 x1 : Int} {Q : Int → vW → Prop} : VW d 219 13 [(2, x0), (0, x1)] [] w Q ↔ (vkd w x0 = 15) ∧ (vkd w (vct w x0 4) = 3 ∧ (0 : Int) ≤ x1 ∧ x1 < vln w (vct w x0 4)) ∧ (((vct w (vct w x0 4) x1) = 0 → VW d 219 26 [(2, x0), (0, x1)] [] w Q) ∧ (¬ ((vct w (vct w x0 4) x1) = 0) → VW d 219 22 [(2, x0), (0, x1)] [] w Q)) :=
  (VW_b 5 (F := fun n => if vkd w x0 = 15 then if vkd w (vct w x0 4) = 3 ∧ (0 : Int) ≤ x1 ∧ x1 < vln w (vct w x0 4) then (if (vct w (vct w x0 4) x1) = 0 then vrun n d 219 26 [(2, x0), (0, x1)] [] w else vrun n d 219 22 [(2, x0), (0, x1)] [] w) else none else none) (fun _ => rfl)).trans (EX_if.trans (and_congr Iff.rfl (EX_if.trans (and_congr Iff.rfl (EX_br.trans (and_congr (imp_congr Iff.rfl Iff.rfl) (imp_congr Iff.rfl Iff.rfl)))))))
set_option maxRecDepth 100000 in
theorem b219_22 {d : Nat} {w : vW} {x0 x1 : Int} {Q : Int → vW → Prop} : VW d 219 22 [(2, x0), (0, x1)] [] w Q ↔ VW d 219 27 [(2, x0), (0, x1)] [(0, 1)] w Q :=
  (VW_b 2 (F := fun n => vrun n d 219 27 [(2, x0), (0, x1)] [(0, 1)] w) (fun _ => rfl)).trans (Iff.rfl)
set_option maxRecDepth 100000 in
theorem b219_26 {d : Nat} {w : vW} {x0 x1 : Int} {Q : Int → vW → Prop} : VW d 219 26 [(2, x0), (0, x1)] [] w Q ↔ VW d 219 27 [(2, x0), (0, x1)] [(0, 0)] w Q :=
  (VW_b 1 (F := fun n => vrun n d 219 27 [(2, x0), (0, x1)] [(0, 0)] w) (fun _ => rfl)).trans (Iff.rfl)
set_option maxRecDepth 100000 in
theorem b219_27 {d : Nat} {w : vW} {x0 x1 y0 : Int} {Q : Int → vW → Prop} : VW d 219 27 [(2, x0), (0, x1)] [(0, y0)] w Q ↔ ((0 : Int) ≤ y0 ∧ y0 ≤ 1) ∧ Q y0 w :=
  (VW_b 1 (F := fun n => if (0 : Int) ≤ y0 ∧ y0 ≤ 1 then some (0, y0, w) else none) (fun _ => rfl)).trans (EX_if.trans (and_congr Iff.rfl (EX_ret0)))
/-! 220: StrikeWhatCancels$Net.saidAt(I)J -/
set_option maxRecDepth 100000 in
theorem b220_0 {d : Nat} {w : vW} {x0 x1 : Int} {Q : Int → vW → Prop} : VW d 220 0 [(2, x0), (0, x1)] [] w Q ↔ ((x1 < 0 → VW d 220 22 [(2, x0), (0, x1)] [] w Q) ∧ (¬ (x1 < 0) → VW d 220 4 [(2, x0), (0, x1)] [] w Q)) :=
  (VW_b 2 (F := fun n => (if x1 < 0 then vrun n d 220 22 [(2, x0), (0, x1)] [] w else vrun n d 220 4 [(2, x0), (0, x1)] [] w)) (fun _ => rfl)).trans (EX_br.trans (and_congr (imp_congr Iff.rfl Iff.rfl) (imp_congr Iff.rfl Iff.rfl)))
set_option maxRecDepth 100000 in
theorem b220_4 {d : Nat} {w : vW} {x0 x1 : Int} {Q : Int → vW → Prop} : VW d 220 4 [(2, x0), (0, x1)] [] w Q ↔ (vkd w x0 = 15) ∧ (vkd w (vct w x0 0) = 2) ∧ ((x1 < (vln w (vct w x0 0)) → VW d 220 13 [(2, x0), (0, x1)] [] w Q) ∧ (¬ (x1 < (vln w (vct w x0 0))) → VW d 220 22 [(2, x0), (0, x1)] [] w Q)) :=
  (VW_b 5 (F := fun n => if vkd w x0 = 15 then if vkd w (vct w x0 0) = 2 then (if x1 < (vln w (vct w x0 0)) then vrun n d 220 13 [(2, x0), (0, x1)] [] w else vrun n d 220 22 [(2, x0), (0, x1)] [] w) else none else none) (fun _ => rfl)).trans (EX_if.trans (and_congr Iff.rfl (EX_if.trans (and_congr Iff.rfl (EX_br.trans (and_congr (imp_congr Iff.rfl Iff.rfl) (imp_congr Iff.rfl Iff.rfl)))))))
set_option maxRecDepth 100000 in
theorem b220_13 {d : Nat} {w : vW} {x0 x1 : Int} {Q : Int → vW → Prop} : VW d 220 13 [(2, x0), (0, x1)] [] w Q ↔ (vkd w x0 = 15) ∧ (vkd w (vct w x0 0) = 2 ∧ (0 : Int) ≤ x1 ∧ x1 < vln w (vct w x0 0)) ∧ VW d 220 23 [(2, x0), (0, x1)] [(1, vct w (vct w x0 0) x1)] w Q :=
  (VW_b 5 (F := fun n => if vkd w x0 = 15 then if vkd w (vct w x0 0) = 2 ∧ (0 : Int) ≤ x1 ∧ x1 < vln w (vct w x0 0) then vrun n d 220 23 [(2, x0), (0, x1)] [(1, vct w (vct w x0 0) x1)] w else none else none) (fun _ => rfl)).trans (EX_if.trans (and_congr Iff.rfl (EX_if.trans (and_congr Iff.rfl (Iff.rfl)))))
set_option maxRecDepth 100000 in
theorem b220_22 {d : Nat} {w : vW} {x0 x1 : Int} {Q : Int → vW → Prop} : VW d 220 22 [(2, x0), (0, x1)] [] w Q ↔ VW d 220 23 [(2, x0), (0, x1)] [(1, 0)] w Q :=
  (VW_b 1 (F := fun n => vrun n d 220 23 [(2, x0), (0, x1)] [(1, 0)] w) (fun _ => rfl)).trans (Iff.rfl)
set_option maxRecDepth 100000 in
theorem b220_23 {d : Nat} {w : vW} {x0 x1 y0 : Int} {Q : Int → vW → Prop} : VW d 220 23 [(2, x0), (0, x1)] [(1, y0)] w Q ↔ Q y0 w :=
  (VW_b 1 (F := fun n => some (0, y0, w)) (fun _ => rfl)).trans (EX_ret0)
/-! 221: StrikeWhatCancels$Net.tallyOf(I)J -/
set_option maxRecDepth 100000 in
theorem b221_0 {d : Nat} {w : vW} {x0 x1 : Int} {Q : Int → vW → Prop} : VW d 221 0 [(2, x0), (0, x1)] [] w Q ↔ ((x1 < 0 → VW d 221 22 [(2, x0), (0, x1)] [] w Q) ∧ (¬ (x1 < 0) → VW d 221 4 [(2, x0), (0, x1)] [] w Q)) :=
  (VW_b 2 (F := fun n => (if x1 < 0 then vrun n d 221 22 [(2, x0), (0, x1)] [] w else vrun n d 221 4 [(2, x0), (0, x1)] [] w)) (fun _ => rfl)).trans (EX_br.trans (and_congr (imp_congr Iff.rfl Iff.rfl) (imp_congr Iff.rfl Iff.rfl)))
set_option maxRecDepth 100000 in
theorem b221_4 {d : Nat} {w : vW} {x0 x1 : Int} {Q : Int → vW → Prop} : VW d 221 4 [(2, x0), (0, x1)] [] w Q ↔ (vkd w x0 = 15) ∧ (vkd w (vct w x0 5) = 2) ∧ ((x1 < (vln w (vct w x0 5)) → VW d 221 13 [(2, x0), (0, x1)] [] w Q) ∧ (¬ (x1 < (vln w (vct w x0 5))) → VW d 221 22 [(2, x0), (0, x1)] [] w Q)) :=
  (VW_b 5 (F := fun n => if vkd w x0 = 15 then if vkd w (vct w x0 5) = 2 then (if x1 < (vln w (vct w x0 5)) then vrun n d 221 13 [(2, x0), (0, x1)] [] w else vrun n d 221 22 [(2, x0), (0, x1)] [] w) else none else none) (fun _ => rfl)).trans (EX_if.trans (and_congr Iff.rfl (EX_if.trans (and_congr Iff.rfl (EX_br.trans (and_congr (imp_congr Iff.rfl Iff.rfl) (imp_congr Iff.rfl Iff.rfl)))))))
set_option maxRecDepth 100000 in
theorem b221_13 {d : Nat} {w : vW} {x0 x1 : Int} {Q : Int → vW → Prop} : VW d 221 13 [(2, x0), (0, x1)] [] w Q ↔ (vkd w x0 = 15) ∧ (vkd w (vct w x0 5) = 2 ∧ (0 : Int) ≤ x1 ∧ x1 < vln w (vct w x0 5)) ∧ VW d 221 23 [(2, x0), (0, x1)] [(1, vct w (vct w x0 5) x1)] w Q :=
  (VW_b 5 (F := fun n => if vkd w x0 = 15 then if vkd w (vct w x0 5) = 2 ∧ (0 : Int) ≤ x1 ∧ x1 < vln w (vct w x0 5) then vrun n d 221 23 [(2, x0), (0, x1)] [(1, vct w (vct w x0 5) x1)] w else none else none) (fun _ => rfl)).trans (EX_if.trans (and_congr Iff.rfl (EX_if.trans (and_congr Iff.rfl (Iff.rfl)))))
set_option maxRecDepth 100000 in
theorem b221_22 {d : Nat} {w : vW} {x0 x1 : Int} {Q : Int → vW → Prop} : VW d 221 22 [(2, x0), (0, x1)] [] w Q ↔ VW d 221 23 [(2, x0), (0, x1)] [(1, 0)] w Q :=
  (VW_b 1 (F := fun n => vrun n d 221 23 [(2, x0), (0, x1)] [(1, 0)] w) (fun _ => rfl)).trans (Iff.rfl)
set_option maxRecDepth 100000 in
theorem b221_23 {d : Nat} {w : vW} {x0 x1 y0 : Int} {Q : Int → vW → Prop} : VW d 221 23 [(2, x0), (0, x1)] [(1, y0)] w Q ↔ Q y0 w :=
  (VW_b 1 (F := fun n => some (0, y0, w)) (fun _ => rfl)).trans (EX_ret0)
/-! 222: StrikeWhatCancels$Net.farOf(I)I -/
set_option maxRecDepth 100000 in
theorem b222_0 {d : Nat} {w : vW} {x0 x1 : Int} {Q : Int → vW → Prop} : VW d 222 0 [(2, x0), (0, x1)] [] w Q ↔ ((x1 < 0 → VW d 222 22 [(2, x0), (0, x1)] [] w Q) ∧ (¬ (x1 < 0) → VW d 222 4 [(2, x0), (0, x1)] [] w Q)) :=
  (VW_b 2 (F := fun n => (if x1 < 0 then vrun n d 222 22 [(2, x0), (0, x1)] [] w else vrun n d 222 4 [(2, x0), (0, x1)] [] w)) (fun _ => rfl)).trans (EX_br.trans (and_congr (imp_congr Iff.rfl Iff.rfl) (imp_congr Iff.rfl Iff.rfl)))
set_option maxRecDepth 100000 in
theorem b222_4 {d : Nat} {w : vW} {x0 x1 : Int} {Q : Int → vW → Prop} : VW d 222 4 [(2, x0), (0, x1)] [] w Q ↔ (vkd w x0 = 15) ∧ (vkd w (vct w x0 3) = 1) ∧ ((x1 < (vln w (vct w x0 3)) → VW d 222 13 [(2, x0), (0, x1)] [] w Q) ∧ (¬ (x1 < (vln w (vct w x0 3))) → VW d 222 22 [(2, x0), (0, x1)] [] w Q)) :=
  (VW_b 5 (F := fun n => if vkd w x0 = 15 then if vkd w (vct w x0 3) = 1 then (if x1 < (vln w (vct w x0 3)) then vrun n d 222 13 [(2, x0), (0, x1)] [] w else vrun n d 222 22 [(2, x0), (0, x1)] [] w) else none else none) (fun _ => rfl)).trans (EX_if.trans (and_congr Iff.rfl (EX_if.trans (and_congr Iff.rfl (EX_br.trans (and_congr (imp_congr Iff.rfl Iff.rfl) (imp_congr Iff.rfl Iff.rfl)))))))
set_option maxRecDepth 100000 in
theorem b222_13 {d : Nat} {w : vW} {x0 x1 : Int} {Q : Int → vW → Prop} : VW d 222 13 [(2, x0), (0, x1)] [] w Q ↔ (vkd w x0 = 15) ∧ (vkd w (vct w x0 3) = 1 ∧ (0 : Int) ≤ x1 ∧ x1 < vln w (vct w x0 3)) ∧ VW d 222 23 [(2, x0), (0, x1)] [(0, vct w (vct w x0 3) x1)] w Q :=
  (VW_b 5 (F := fun n => if vkd w x0 = 15 then if vkd w (vct w x0 3) = 1 ∧ (0 : Int) ≤ x1 ∧ x1 < vln w (vct w x0 3) then vrun n d 222 23 [(2, x0), (0, x1)] [(0, vct w (vct w x0 3) x1)] w else none else none) (fun _ => rfl)).trans (EX_if.trans (and_congr Iff.rfl (EX_if.trans (and_congr Iff.rfl (Iff.rfl)))))
set_option maxRecDepth 100000 in
theorem b222_22 {d : Nat} {w : vW} {x0 x1 : Int} {Q : Int → vW → Prop} : VW d 222 22 [(2, x0), (0, x1)] [] w Q ↔ VW d 222 23 [(2, x0), (0, x1)] [(0, 0)] w Q :=
  (VW_b 1 (F := fun n => vrun n d 222 23 [(2, x0), (0, x1)] [(0, 0)] w) (fun _ => rfl)).trans (Iff.rfl)
set_option maxRecDepth 100000 in
theorem b222_23 {d : Nat} {w : vW} {x0 x1 y0 : Int} {Q : Int → vW → Prop} : VW d 222 23 [(2, x0), (0, x1)] [(0, y0)] w Q ↔ Q y0 w :=
  (VW_b 1 (F := fun n => some (0, y0, w)) (fun _ => rfl)).trans (EX_ret0)
/-! 223: StrikeWhatCancels$Net.howOf(I)I -/
set_option maxRecDepth 100000 in
theorem b223_0 {d : Nat} {w : vW} {x0 x1 : Int} {Q : Int → vW → Prop} : VW d 223 0 [(2, x0), (0, x1)] [] w Q ↔ ((x1 < 0 → VW d 223 22 [(2, x0), (0, x1)] [] w Q) ∧ (¬ (x1 < 0) → VW d 223 4 [(2, x0), (0, x1)] [] w Q)) :=
  (VW_b 2 (F := fun n => (if x1 < 0 then vrun n d 223 22 [(2, x0), (0, x1)] [] w else vrun n d 223 4 [(2, x0), (0, x1)] [] w)) (fun _ => rfl)).trans (EX_br.trans (and_congr (imp_congr Iff.rfl Iff.rfl) (imp_congr Iff.rfl Iff.rfl)))
set_option maxRecDepth 100000 in
theorem b223_4 {d : Nat} {w : vW} {x0 x1 : Int} {Q : Int → vW → Prop} : VW d 223 4 [(2, x0), (0, x1)] [] w Q ↔ (vkd w x0 = 15) ∧ (vkd w (vct w x0 2) = 1) ∧ ((x1 < (vln w (vct w x0 2)) → VW d 223 13 [(2, x0), (0, x1)] [] w Q) ∧ (¬ (x1 < (vln w (vct w x0 2))) → VW d 223 22 [(2, x0), (0, x1)] [] w Q)) :=
  (VW_b 5 (F := fun n => if vkd w x0 = 15 then if vkd w (vct w x0 2) = 1 then (if x1 < (vln w (vct w x0 2)) then vrun n d 223 13 [(2, x0), (0, x1)] [] w else vrun n d 223 22 [(2, x0), (0, x1)] [] w) else none else none) (fun _ => rfl)).trans (EX_if.trans (and_congr Iff.rfl (EX_if.trans (and_congr Iff.rfl (EX_br.trans (and_congr (imp_congr Iff.rfl Iff.rfl) (imp_congr Iff.rfl Iff.rfl)))))))
set_option maxRecDepth 100000 in
theorem b223_13 {d : Nat} {w : vW} {x0 x1 : Int} {Q : Int → vW → Prop} : VW d 223 13 [(2, x0), (0, x1)] [] w Q ↔ (vkd w x0 = 15) ∧ (vkd w (vct w x0 2) = 1 ∧ (0 : Int) ≤ x1 ∧ x1 < vln w (vct w x0 2)) ∧ VW d 223 23 [(2, x0), (0, x1)] [(0, vct w (vct w x0 2) x1)] w Q :=
  (VW_b 5 (F := fun n => if vkd w x0 = 15 then if vkd w (vct w x0 2) = 1 ∧ (0 : Int) ≤ x1 ∧ x1 < vln w (vct w x0 2) then vrun n d 223 23 [(2, x0), (0, x1)] [(0, vct w (vct w x0 2) x1)] w else none else none) (fun _ => rfl)).trans (EX_if.trans (and_congr Iff.rfl (EX_if.trans (and_congr Iff.rfl (Iff.rfl)))))
set_option maxRecDepth 100000 in
theorem b223_22 {d : Nat} {w : vW} {x0 x1 : Int} {Q : Int → vW → Prop} : VW d 223 22 [(2, x0), (0, x1)] [] w Q ↔ VW d 223 23 [(2, x0), (0, x1)] [(0, 0)] w Q :=
  (VW_b 1 (F := fun n => vrun n d 223 23 [(2, x0), (0, x1)] [(0, 0)] w) (fun _ => rfl)).trans (Iff.rfl)
set_option maxRecDepth 100000 in
theorem b223_23 {d : Nat} {w : vW} {x0 x1 y0 : Int} {Q : Int → vW → Prop} : VW d 223 23 [(2, x0), (0, x1)] [(0, y0)] w Q ↔ Q y0 w :=
  (VW_b 1 (F := fun n => some (0, y0, w)) (fun _ => rfl)).trans (EX_ret0)
/-! 224: StrikeWhatCancels$Net.aheadOf(I)I -/
set_option maxRecDepth 100000 in
theorem b224_0 {d : Nat} {w : vW} {x0 x1 : Int} {Q : Int → vW → Prop} : VW d 224 0 [(2, x0), (0, x1)] [] w Q ↔ ((x1 < 0 → VW d 224 22 [(2, x0), (0, x1)] [] w Q) ∧ (¬ (x1 < 0) → VW d 224 4 [(2, x0), (0, x1)] [] w Q)) :=
  (VW_b 2 (F := fun n => (if x1 < 0 then vrun n d 224 22 [(2, x0), (0, x1)] [] w else vrun n d 224 4 [(2, x0), (0, x1)] [] w)) (fun _ => rfl)).trans (EX_br.trans (and_congr (imp_congr Iff.rfl Iff.rfl) (imp_congr Iff.rfl Iff.rfl)))
set_option maxRecDepth 100000 in
theorem b224_4 {d : Nat} {w : vW} {x0 x1 : Int} {Q : Int → vW → Prop} : VW d 224 4 [(2, x0), (0, x1)] [] w Q ↔ (vkd w x0 = 15) ∧ (vkd w (vct w x0 1) = 1) ∧ ((x1 < (vln w (vct w x0 1)) → VW d 224 13 [(2, x0), (0, x1)] [] w Q) ∧ (¬ (x1 < (vln w (vct w x0 1))) → VW d 224 22 [(2, x0), (0, x1)] [] w Q)) :=
  (VW_b 5 (F := fun n => if vkd w x0 = 15 then if vkd w (vct w x0 1) = 1 then (if x1 < (vln w (vct w x0 1)) then vrun n d 224 13 [(2, x0), (0, x1)] [] w else vrun n d 224 22 [(2, x0), (0, x1)] [] w) else none else none) (fun _ => rfl)).trans (EX_if.trans (and_congr Iff.rfl (EX_if.trans (and_congr Iff.rfl (EX_br.trans (and_congr (imp_congr Iff.rfl Iff.rfl) (imp_congr Iff.rfl Iff.rfl)))))))
set_option maxRecDepth 100000 in
theorem b224_13 {d : Nat} {w : vW} {x0 x1 : Int} {Q : Int → vW → Prop} : VW d 224 13 [(2, x0), (0, x1)] [] w Q ↔ (vkd w x0 = 15) ∧ (vkd w (vct w x0 1) = 1 ∧ (0 : Int) ≤ x1 ∧ x1 < vln w (vct w x0 1)) ∧ VW d 224 23 [(2, x0), (0, x1)] [(0, vct w (vct w x0 1) x1)] w Q :=
  (VW_b 5 (F := fun n => if vkd w x0 = 15 then if vkd w (vct w x0 1) = 1 ∧ (0 : Int) ≤ x1 ∧ x1 < vln w (vct w x0 1) then vrun n d 224 23 [(2, x0), (0, x1)] [(0, vct w (vct w x0 1) x1)] w else none else none) (fun _ => rfl)).trans (EX_if.trans (and_congr Iff.rfl (EX_if.trans (and_congr Iff.rfl (Iff.rfl)))))
set_option maxRecDepth 100000 in
theorem b224_22 {d : Nat} {w : vW} {x0 x1 : Int} {Q : Int → vW → Prop} : VW d 224 22 [(2, x0), (0, x1)] [] w Q ↔ VW d 224 23 [(2, x0), (0, x1)] [(0, (-1))] w Q :=
  (VW_b 1 (F := fun n => vrun n d 224 23 [(2, x0), (0, x1)] [(0, (-1))] w) (fun _ => rfl)).trans (Iff.rfl)
set_option maxRecDepth 100000 in
theorem b224_23 {d : Nat} {w : vW} {x0 x1 y0 : Int} {Q : Int → vW → Prop} : VW d 224 23 [(2, x0), (0, x1)] [(0, y0)] w Q ↔ Q y0 w :=
  (VW_b 1 (F := fun n => some (0, y0, w)) (fun _ => rfl)).trans (EX_ret0)
/-! 225: StrikeWhatCancels$Overlaps.<init>()V -/
set_option maxRecDepth 100000 in
theorem b225_0 {d : Nat} {w : vW} {x0 : Int} {Q : Int → vW → Prop} : VW d 225 0 [(2, x0)] [] w Q ↔ (vkd w x0 ≠ 0) ∧ (vkd w x0 = 16) ∧ VW d 225 9 [(2, x0)] [] (vsv w x0 0 (-1)) Q :=
  (VW_b 5 (F := fun n => if vkd w x0 ≠ 0 then if vkd w x0 = 16 then vrun n d 225 9 [(2, x0)] [] (vsv w x0 0 (-1)) else none else none) (fun _ => rfl)).trans (EX_if.trans (and_congr Iff.rfl (EX_if.trans (and_congr Iff.rfl (Iff.rfl)))))
set_option maxRecDepth 100000 in
theorem b225_9 {d : Nat} {w : vW} {x0 : Int} {Q : Int → vW → Prop} : VW d 225 9 [(2, x0)] [] w Q ↔ (vkd w x0 = 16) ∧ VW d 225 14 [(2, x0)] [] (vsv w x0 1 0) Q :=
  (VW_b 3 (F := fun n => if vkd w x0 = 16 then vrun n d 225 14 [(2, x0)] [] (vsv w x0 1 0) else none) (fun _ => rfl)).trans (EX_if.trans (and_congr Iff.rfl (Iff.rfl)))
set_option maxRecDepth 100000 in
theorem b225_14 {d : Nat} {w : vW} {x0 : Int} {Q : Int → vW → Prop} : VW d 225 14 [(2, x0)] [] w Q ↔ (vkd w x0 = 16) ∧ VW d 225 19 [(2, x0)] [] (vsv w x0 2 0) Q :=
  (VW_b 3 (F := fun n => if vkd w x0 = 16 then vrun n d 225 19 [(2, x0)] [] (vsv w x0 2 0) else none) (fun _ => rfl)).trans (EX_if.trans (and_congr Iff.rfl (Iff.rfl)))
set_option maxRecDepth 100000 in
theorem b225_19 {d : Nat} {w : vW} {x0 : Int} {Q : Int → vW → Prop} : VW d 225 19 [(2, x0)] [] w Q ↔ (vkd w x0 = 16) ∧ VW d 225 24 [(2, x0)] [] (vsv w x0 3 0) Q :=
  (VW_b 3 (F := fun n => if vkd w x0 = 16 then vrun n d 225 24 [(2, x0)] [] (vsv w x0 3 0) else none) (fun _ => rfl)).trans (EX_if.trans (and_congr Iff.rfl (Iff.rfl)))
set_option maxRecDepth 100000 in
theorem b225_24 {d : Nat} {w : vW} {x0 : Int} {Q : Int → vW → Prop} : VW d 225 24 [(2, x0)] [] w Q ↔ (vkd w x0 = 16) ∧ VW d 225 29 [(2, x0)] [] (vsv w x0 4 0) Q :=
  (VW_b 3 (F := fun n => if vkd w x0 = 16 then vrun n d 225 29 [(2, x0)] [] (vsv w x0 4 0) else none) (fun _ => rfl)).trans (EX_if.trans (and_congr Iff.rfl (Iff.rfl)))
set_option maxRecDepth 100000 in
theorem b225_29 {d : Nat} {w : vW} {x0 : Int} {Q : Int → vW → Prop} : VW d 225 29 [(2, x0)] [] w Q ↔ (vkd w x0 = 16) ∧ VW d 225 34 [(2, x0)] [] (vsv w x0 5 0) Q :=
  (VW_b 3 (F := fun n => if vkd w x0 = 16 then vrun n d 225 34 [(2, x0)] [] (vsv w x0 5 0) else none) (fun _ => rfl)).trans (EX_if.trans (and_congr Iff.rfl (Iff.rfl)))
set_option maxRecDepth 100000 in
theorem b225_34 {d : Nat} {w : vW} {x0 : Int} {Q : Int → vW → Prop} : VW d 225 34 [(2, x0)] [] w Q ↔ (vkd w x0 = 16) ∧ VW d 225 39 [(2, x0)] [] (vsv w x0 6 0) Q :=
  (VW_b 3 (F := fun n => if vkd w x0 = 16 then vrun n d 225 39 [(2, x0)] [] (vsv w x0 6 0) else none) (fun _ => rfl)).trans (EX_if.trans (and_congr Iff.rfl (Iff.rfl)))
set_option maxRecDepth 100000 in
theorem b225_39 {d : Nat} {w : vW} {x0 : Int} {Q : Int → vW → Prop} : VW d 225 39 [(2, x0)] [] w Q ↔ (vkd w x0 = 16) ∧ VW d 225 44 [(2, x0)] [] (vsv w x0 7 0) Q :=
  (VW_b 3 (F := fun n => if vkd w x0 = 16 then vrun n d 225 44 [(2, x0)] [] (vsv w x0 7 0) else none) (fun _ => rfl)).trans (EX_if.trans (and_congr Iff.rfl (Iff.rfl)))
set_option maxRecDepth 100000 in
theorem b225_44 {d : Nat} {w : vW} {x0 : Int} {Q : Int → vW → Prop} : VW d 225 44 [(2, x0)] [] w Q ↔ Q 0 w :=
  (VW_b 1 (F := fun n => some (0, 0, w)) (fun _ => rfl)).trans (EX_ret0)
/-! 226: StrikeWhatCancels$Overlaps.begin(LStrikeWhatCancels$Rules;)V -/
set_option maxRecDepth 100000 in
theorem b226_0 {d : Nat} {w : vW} {x0 x1 : Int} {Q : Int → vW → Prop} : VW d 226 0 [(2, x0), (2, x1)] [] w Q ↔ (vkd w x0 = 16) ∧ VW d 226 5 [(2, x0), (2, x1)] [] (vsv w x0 0 x1) Q :=
  (VW_b 3 (F := fun n => if vkd w x0 = 16 then vrun n d 226 5 [(2, x0), (2, x1)] [] (vsv w x0 0 x1) else none) (fun _ => rfl)).trans (EX_if.trans (and_congr Iff.rfl (Iff.rfl)))
set_option maxRecDepth 100000 in
theorem b226_5 {d : Nat} {w : vW} {x0 x1 : Int} {Q : Int → vW → Prop} : VW d 226 5 [(2, x0), (2, x1)] [] w Q ↔ (vkd w x0 = 16) ∧ VW d 226 10 [(2, x0), (2, x1)] [] (vsv w x0 1 (-1)) Q :=
  (VW_b 3 (F := fun n => if vkd w x0 = 16 then vrun n d 226 10 [(2, x0), (2, x1)] [] (vsv w x0 1 (-1)) else none) (fun _ => rfl)).trans (EX_if.trans (and_congr Iff.rfl (Iff.rfl)))
set_option maxRecDepth 100000 in
theorem b226_10 {d : Nat} {w : vW} {x0 x1 : Int} {Q : Int → vW → Prop} : VW d 226 10 [(2, x0), (2, x1)] [] w Q ↔ Q 0 w :=
  (VW_b 1 (F := fun n => some (0, 0, w)) (fun _ => rfl)).trans (EX_ret0)
/-! 227: StrikeWhatCancels$Overlaps.advance()Z -/
set_option maxRecDepth 100000 in
theorem b227_0 {d : Nat} {w : vW} {x0 : Int} {Q : Int → vW → Prop} : VW d 227 0 [(2, x0), (9, 0)] [] w Q ↔ (vkd w x0 = 16) ∧ (((vct w x0 0) = (-1) → VW d 227 7 [(2, x0), (9, 0)] [] w Q) ∧ (¬ ((vct w x0 0) = (-1)) → VW d 227 11 [(2, x0), (9, 0)] [] w Q)) :=
  (VW_b 3 (F := fun n => if vkd w x0 = 16 then (if (vct w x0 0) = (-1) then vrun n d 227 7 [(2, x0), (9, 0)] [] w else vrun n d 227 11 [(2, x0), (9, 0)] [] w) else none) (fun _ => rfl)).trans (EX_if.trans (and_congr Iff.rfl (EX_br.trans (and_congr (imp_congr Iff.rfl Iff.rfl) (imp_congr Iff.rfl Iff.rfl)))))
set_option maxRecDepth 100000 in
theorem b227_7 {d : Nat} {w : vW} {x0 : Int} {Q : Int → vW → Prop} : VW d 227 7 [(2, x0), (9, 0)] [] w Q ↔ VW d 227 18 [(2, x0), (9, 0)] [(0, 0)] w Q :=
  (VW_b 2 (F := fun n => vrun n d 227 18 [(2, x0), (9, 0)] [(0, 0)] w) (fun _ => rfl)).trans (Iff.rfl)
set_option maxRecDepth 100000 in
theorem b227_11 {d : Nat} {w : vW} {x0 : Int} {Q : Int → vW → Prop} : VW d 227 11 [(2, x0), (9, 0)] [] w Q ↔ (vkd w x0 = 16) ∧ (vkd w (vct w x0 0) = 18) ∧ VW d 227 18 [(2, x0), (9, 0)] [(0, vct w (vct w x0 0) 3)] w Q :=
  (VW_b 3 (F := fun n => if vkd w x0 = 16 then if vkd w (vct w x0 0) = 18 then vrun n d 227 18 [(2, x0), (9, 0)] [(0, vct w (vct w x0 0) 3)] w else none else none) (fun _ => rfl)).trans (EX_if.trans (and_congr Iff.rfl (EX_if.trans (and_congr Iff.rfl (Iff.rfl)))))
set_option maxRecDepth 100000 in
theorem b227_18 {d : Nat} {w : vW} {x0 y0 : Int} {Q : Int → vW → Prop} : VW d 227 18 [(2, x0), (9, 0)] [(0, y0)] w Q ↔ ((y0 < 1 → VW d 227 24 [(2, x0), (0, y0)] [] w Q) ∧ (¬ (y0 < 1) → VW d 227 26 [(2, x0), (0, y0)] [] w Q)) :=
  (VW_b 4 (F := fun n => (if y0 < 1 then vrun n d 227 24 [(2, x0), (0, y0)] [] w else vrun n d 227 26 [(2, x0), (0, y0)] [] w)) (fun _ => rfl)).trans (EX_br.trans (and_congr (imp_congr Iff.rfl Iff.rfl) (imp_congr Iff.rfl Iff.rfl)))
set_option maxRecDepth 100000 in
theorem b227_24 {d : Nat} {w : vW} {x0 x1 : Int} {Q : Int → vW → Prop} : VW d 227 24 [(2, x0), (0, x1)] [] w Q ↔ Q 0 w :=
  (VW_b 2 (F := fun n => some (0, 0, w)) (fun _ => rfl)).trans (EX_ret0)
set_option maxRecDepth 100000 in
theorem b227_26 {d : Nat} {w : vW} {x0 x1 : Int} {Q : Int → vW → Prop} : VW d 227 26 [(2, x0), (0, x1)] [] w Q ↔ (vkd w x0 = 16) ∧ (vkd w x0 = 16) ∧ VW d 227 36 [(2, x0), (0, x1)] [] (vsv w x0 1 (w32 ((vct w x0 1) + 1))) Q :=
  (VW_b 6 (F := fun n => if vkd w x0 = 16 then if vkd w x0 = 16 then vrun n d 227 36 [(2, x0), (0, x1)] [] (vsv w x0 1 (w32 ((vct w x0 1) + 1))) else none else none) (fun _ => rfl)).trans (EX_if.trans (and_congr Iff.rfl (EX_if.trans (and_congr Iff.rfl (Iff.rfl)))))
set_option maxRecDepth 100000 in
theorem b227_36 {d : Nat} {w : vW} {x0 x1 : Int} {Q : Int → vW → Prop} : VW d 227 36 [(2, x0), (0, x1)] [] w Q ↔ (vkd w x0 = 16) ∧ (((vct w x0 1) < (w32 ((w32 (x1 * x1)) * 16)) → VW d 227 49 [(2, x0), (0, x1)] [] w Q) ∧ (¬ ((vct w x0 1) < (w32 ((w32 (x1 * x1)) * 16))) → VW d 227 127 [(2, x0), (0, x1)] [] w Q)) :=
  (VW_b 8 (F := fun n => if vkd w x0 = 16 then (if (vct w x0 1) < (w32 ((w32 (x1 * x1)) * 16)) then vrun n d 227 49 [(2, x0), (0, x1)] [] w else vrun n d 227 127 [(2, x0), (0, x1)] [] w) else none) (fun _ => rfl)).trans (EX_if.trans (and_congr Iff.rfl (EX_br.trans (and_congr (imp_congr Iff.rfl Iff.rfl) (imp_congr Iff.rfl Iff.rfl)))))
set_option maxRecDepth 100000 in
theorem b227_49 {d : Nat} {w : vW} {x0 x1 : Int} {Q : Int → vW → Prop} : VW d 227 49 [(2, x0), (0, x1)] [] w Q ↔ (vkd w x0 = 16) ∧ ¬ (x1 = 0) ∧ (vkd w x0 = 16) ∧ VW d 227 62 [(2, x0), (0, x1)] [] (vsv w x0 2 (w32 (Int.tdiv (w32 (Int.tdiv (vct w x0 1) 16)) x1))) Q :=
  (VW_b 8 (F := fun n => if vkd w x0 = 16 then if x1 = 0 then none else if vkd w x0 = 16 then vrun n d 227 62 [(2, x0), (0, x1)] [] (vsv w x0 2 (w32 (Int.tdiv (w32 (Int.tdiv (vct w x0 1) 16)) x1))) else none else none) (fun _ => rfl)).trans (EX_if.trans (and_congr Iff.rfl (EX_ifn.trans (and_congr Iff.rfl (EX_if.trans (and_congr Iff.rfl (Iff.rfl)))))))
set_option maxRecDepth 100000 in
theorem b227_62 {d : Nat} {w : vW} {x0 x1 : Int} {Q : Int → vW → Prop} : VW d 227 62 [(2, x0), (0, x1)] [] w Q ↔ (vkd w x0 = 16) ∧ ¬ (x1 = 0) ∧ (vkd w x0 = 16) ∧ VW d 227 75 [(2, x0), (0, x1)] [] (vsv w x0 3 (Int.tmod (w32 (Int.tdiv (vct w x0 1) 16)) x1)) Q :=
  (VW_b 8 (F := fun n => if vkd w x0 = 16 then if x1 = 0 then none else if vkd w x0 = 16 then vrun n d 227 75 [(2, x0), (0, x1)] [] (vsv w x0 3 (Int.tmod (w32 (Int.tdiv (vct w x0 1) 16)) x1)) else none else none) (fun _ => rfl)).trans (EX_if.trans (and_congr Iff.rfl (EX_ifn.trans (and_congr Iff.rfl (EX_if.trans (and_congr Iff.rfl (Iff.rfl)))))))
set_option maxRecDepth 100000 in
theorem b227_75 {d : Nat} {w : vW} {x0 x1 : Int} {Q : Int → vW → Prop} : VW d 227 75 [(2, x0), (0, x1)] [] w Q ↔ (vkd w x0 = 16) ∧ (vkd w x0 = 16) ∧ VW d 227 86 [(2, x0), (0, x1)] [] (vsv w x0 4 (Int.tmod (vct w x0 1) 16)) Q :=
  (VW_b 6 (F := fun n => if vkd w x0 = 16 then if vkd w x0 = 16 then vrun n d 227 86 [(2, x0), (0, x1)] [] (vsv w x0 4 (Int.tmod (vct w x0 1) 16)) else none else none) (fun _ => rfl)).trans (EX_if.trans (and_congr Iff.rfl (EX_if.trans (and_congr Iff.rfl (Iff.rfl)))))
set_option maxRecDepth 100000 in
theorem b227_86 {d : Nat} {w : vW} {x0 x1 : Int} {Q : Int → vW → Prop} : VW d 227 86 [(2, x0), (0, x1)] [] w Q ↔ (vkd w x0 = 16) ∧ (((vct w x0 4) < 10 → VW d 227 95 [(2, x0), (0, x1)] [] w Q) ∧ (¬ ((vct w x0 4) < 10) → VW d 227 105 [(2, x0), (0, x1)] [] w Q)) :=
  (VW_b 4 (F := fun n => if vkd w x0 = 16 then (if (vct w x0 4) < 10 then vrun n d 227 95 [(2, x0), (0, x1)] [] w else vrun n d 227 105 [(2, x0), (0, x1)] [] w) else none) (fun _ => rfl)).trans (EX_if.trans (and_congr Iff.rfl (EX_br.trans (and_congr (imp_congr Iff.rfl Iff.rfl) (imp_congr Iff.rfl Iff.rfl)))))
set_option maxRecDepth 100000 in
theorem b227_95 {d : Nat} {w : vW} {x0 x1 : Int} {Q : Int → vW → Prop} : VW d 227 95 [(2, x0), (0, x1)] [] w Q ↔ (vkd w x0 = 16) ∧ VC d 229 [(2, x0)] w (fun r w1 => VW d 227 99 [(2, x0), (0, x1)] [(0, r)] w1 Q) :=
  (VW_b 2 (F := fun n => if vkd w x0 = 16 then vclr (vrun n) d 227 99 229 1 0 [(2, x0), (0, x1)] [(2, x0)] w else none) (fun _ => rfl)).trans (EX_if.trans (and_congr Iff.rfl (EX_call rfl)))
set_option maxRecDepth 100000 in
theorem b227_99 {d : Nat} {w : vW} {x0 x1 y0 : Int} {Q : Int → vW → Prop} : VW d 227 99 [(2, x0), (0, x1)] [(0, y0)] w Q ↔ ((y0 = 0 → VW d 227 114 [(2, x0), (0, x1)] [] w Q) ∧ (¬ (y0 = 0) → VW d 227 102 [(2, x0), (0, x1)] [] w Q)) :=
  (VW_b 1 (F := fun n => (if y0 = 0 then vrun n d 227 114 [(2, x0), (0, x1)] [] w else vrun n d 227 102 [(2, x0), (0, x1)] [] w)) (fun _ => rfl)).trans (EX_br.trans (and_congr (imp_congr Iff.rfl Iff.rfl) (imp_congr Iff.rfl Iff.rfl)))
set_option maxRecDepth 100000 in
theorem b227_102 {d : Nat} {w : vW} {x0 x1 : Int} {Q : Int → vW → Prop} : VW d 227 102 [(2, x0), (0, x1)] [] w Q ↔ VW d 227 112 [(2, x0), (0, x1)] [] w Q :=
  (VW_b 1 (F := fun n => vrun n d 227 112 [(2, x0), (0, x1)] [] w) (fun _ => rfl)).trans (Iff.rfl)
set_option maxRecDepth 100000 in
theorem b227_105 {d : Nat} {w : vW} {x0 x1 : Int} {Q : Int → vW → Prop} : VW d 227 105 [(2, x0), (0, x1)] [] w Q ↔ (vkd w x0 = 16) ∧ VC d 230 [(2, x0)] w (fun r w1 => VW d 227 109 [(2, x0), (0, x1)] [(0, r)] w1 Q) :=
  (VW_b 2 (F := fun n => if vkd w x0 = 16 then vclr (vrun n) d 227 109 230 1 0 [(2, x0), (0, x1)] [(2, x0)] w else none) (fun _ => rfl)).trans (EX_if.trans (and_congr Iff.rfl (EX_call rfl)))
set_option maxRecDepth 100000 in
theorem b227_109 {d : Nat} {w : vW} {x0 x1 y0 : Int} {Q : Int → vW → Prop} : VW d 227 109 [(2, x0), (0, x1)] [(0, y0)] w Q ↔ ((y0 = 0 → VW d 227 114 [(2, x0), (0, x1)] [] w Q) ∧ (¬ (y0 = 0) → VW d 227 112 [(2, x0), (0, x1)] [] w Q)) :=
  (VW_b 1 (F := fun n => (if y0 = 0 then vrun n d 227 114 [(2, x0), (0, x1)] [] w else vrun n d 227 112 [(2, x0), (0, x1)] [] w)) (fun _ => rfl)).trans (EX_br.trans (and_congr (imp_congr Iff.rfl Iff.rfl) (imp_congr Iff.rfl Iff.rfl)))
set_option maxRecDepth 100000 in
theorem b227_112 {d : Nat} {w : vW} {x0 x1 : Int} {Q : Int → vW → Prop} : VW d 227 112 [(2, x0), (0, x1)] [] w Q ↔ Q 1 w :=
  (VW_b 2 (F := fun n => some (0, 1, w)) (fun _ => rfl)).trans (EX_ret0)
set_option maxRecDepth 100000 in
theorem b227_114 {d : Nat} {w : vW} {x0 x1 : Int} {Q : Int → vW → Prop} : VW d 227 114 [(2, x0), (0, x1)] [] w Q ↔ (vkd w x0 = 16) ∧ (vkd w x0 = 16) ∧ VW d 227 124 [(2, x0), (0, x1)] [] (vsv w x0 1 (w32 ((vct w x0 1) + 1))) Q :=
  (VW_b 6 (F := fun n => if vkd w x0 = 16 then if vkd w x0 = 16 then vrun n d 227 124 [(2, x0), (0, x1)] [] (vsv w x0 1 (w32 ((vct w x0 1) + 1))) else none else none) (fun _ => rfl)).trans (EX_if.trans (and_congr Iff.rfl (EX_if.trans (and_congr Iff.rfl (Iff.rfl)))))
set_option maxRecDepth 100000 in
theorem b227_124 {d : Nat} {w : vW} {x0 x1 : Int} {Q : Int → vW → Prop} : VW d 227 124 [(2, x0), (0, x1)] [] w Q ↔ VW d 227 36 [(2, x0), (0, x1)] [] w Q :=
  (VW_b 1 (F := fun n => vrun n d 227 36 [(2, x0), (0, x1)] [] w) (fun _ => rfl)).trans (Iff.rfl)
set_option maxRecDepth 100000 in
theorem b227_127 {d : Nat} {w : vW} {x0 x1 : Int} {Q : Int → vW → Prop} : VW d 227 127 [(2, x0), (0, x1)] [] w Q ↔ Q 0 w :=
  (VW_b 2 (F := fun n => some (0, 0, w)) (fun _ => rfl)).trans (EX_ret0)
/-! 228: StrikeWhatCancels$Overlaps.goTo(I)Z -/
set_option maxRecDepth 100000 in
theorem b228_0 {d : Nat} {w : vW} {x0 x1 : Int} {Q : Int → vW → Prop} : VW d 228 0 [(2, x0), (0, x1), (9, 0)] [] w Q ↔ VW d 228 2 [(2, x0), (0, x1), (0, 0)] [] w Q :=
  (VW_b 2 (F := fun n => vrun n d 228 2 [(2, x0), (0, x1), (0, 0)] [] w) (fun _ => rfl)).trans (Iff.rfl)
set_option maxRecDepth 100000 in
theorem b228_2 {d : Nat} {w : vW} {x0 x1 x2 : Int} {Q : Int → vW → Prop} : VW d 228 2 [(2, x0), (0, x1), (0, x2)] [] w Q ↔ ((x1 < x2 → VW d 228 22 [(2, x0), (0, x1), (0, x2)] [] w Q) ∧ (¬ (x1 < x2) → VW d 228 7 [(2, x0), (0, x1), (0, x2)] [] w Q)) :=
  (VW_b 3 (F := fun n => (if x1 < x2 then vrun n d 228 22 [(2, x0), (0, x1), (0, x2)] [] w else vrun n d 228 7 [(2, x0), (0, x1), (0, x2)] [] w)) (fun _ => rfl)).trans (EX_br.trans (and_congr (imp_congr Iff.rfl Iff.rfl) (imp_congr Iff.rfl Iff.rfl)))
set_option maxRecDepth 100000 in
theorem b228_7 {d : Nat} {w : vW} {x0 x1 x2 : Int} {Q : Int → vW → Prop} : VW d 228 7 [(2, x0), (0, x1), (0, x2)] [] w Q ↔ (vkd w x0 = 16) ∧ VC d 227 [(2, x0)] w (fun r w1 => VW d 228 11 [(2, x0), (0, x1), (0, x2)] [(0, r)] w1 Q) :=
  (VW_b 2 (F := fun n => if vkd w x0 = 16 then vclr (vrun n) d 228 11 227 1 0 [(2, x0), (0, x1), (0, x2)] [(2, x0)] w else none) (fun _ => rfl)).trans (EX_if.trans (and_congr Iff.rfl (EX_call rfl)))
set_option maxRecDepth 100000 in
theorem b228_11 {d : Nat} {w : vW} {x0 x1 x2 y0 : Int} {Q : Int → vW → Prop} : VW d 228 11 [(2, x0), (0, x1), (0, x2)] [(0, y0)] w Q ↔ ((y0 = 0 → VW d 228 14 [(2, x0), (0, x1), (0, x2)] [] w Q) ∧ (¬ (y0 = 0) → VW d 228 16 [(2, x0), (0, x1), (0, x2)] [] w Q)) :=
  (VW_b 1 (F := fun n => (if y0 = 0 then vrun n d 228 14 [(2, x0), (0, x1), (0, x2)] [] w else vrun n d 228 16 [(2, x0), (0, x1), (0, x2)] [] w)) (fun _ => rfl)).trans (EX_br.trans (and_congr (imp_congr Iff.rfl Iff.rfl) (imp_congr Iff.rfl Iff.rfl)))
set_option maxRecDepth 100000 in
theorem b228_14 {d : Nat} {w : vW} {x0 x1 x2 : Int} {Q : Int → vW → Prop} : VW d 228 14 [(2, x0), (0, x1), (0, x2)] [] w Q ↔ Q 0 w :=
  (VW_b 2 (F := fun n => some (0, 0, w)) (fun _ => rfl)).trans (EX_ret0)
set_option maxRecDepth 100000 in
theorem b228_16 {d : Nat} {w : vW} {x0 x1 x2 : Int} {Q : Int → vW → Prop} : VW d 228 16 [(2, x0), (0, x1), (0, x2)] [] w Q ↔ VW d 228 2 [(2, x0), (0, x1), (0, w32 (x2 + 1))] [] w Q :=
  (VW_b 2 (F := fun n => vrun n d 228 2 [(2, x0), (0, x1), (0, w32 (x2 + 1))] [] w) (fun _ => rfl)).trans (Iff.rfl)
set_option maxRecDepth 100000 in
theorem b228_22 {d : Nat} {w : vW} {x0 x1 x2 : Int} {Q : Int → vW → Prop} : VW d 228 22 [(2, x0), (0, x1), (0, x2)] [] w Q ↔ Q 1 w :=
  (VW_b 2 (F := fun n => some (0, 1, w)) (fun _ => rfl)).trans (EX_ret0)
/-! 229: StrikeWhatCancels$Overlaps.joins()Z -/
set_option maxRecDepth 100000 in
theorem b229_0 {d : Nat} {w : vW} {x0 : Int} {Q : Int → vW → Prop} : VW d 229 0 [(2, x0), (9, 0), (9, 0), (9, 0), (9, 0), (9, 0)] [] w Q ↔ (vkd w x0 = 16) ∧ (vkd w x0 = 16) ∧ (vkd w (vct w x0 0) = 18) ∧ VC d 252 [(2, vct w x0 0), (0, vct w x0 2)] w (fun r w1 => VW d 229 11 [(2, x0), (9, 0), (9, 0), (9, 0), (9, 0), (9, 0)] [(1, r)] w1 Q) :=
  (VW_b 5 (F := fun n => if vkd w x0 = 16 then if vkd w x0 = 16 then if vkd w (vct w x0 0) = 18 then vclr (vrun n) d 229 11 252 2 1 [(2, x0), (9, 0), (9, 0), (9, 0), (9, 0), (9, 0)] [(0, vct w x0 2), (2, vct w x0 0)] w else none else none else none) (fun _ => rfl)).trans (EX_if.trans (and_congr Iff.rfl (EX_if.trans (and_congr Iff.rfl (EX_if.trans (and_congr Iff.rfl (EX_call rfl)))))))
set_option maxRecDepth 100000 in
theorem b229_11 {d : Nat} {w : vW} {x0 y0 : Int} {Q : Int → vW → Prop} : VW d 229 11 [(2, x0), (9, 0), (9, 0), (9, 0), (9, 0), (9, 0)] [(1, y0)] w Q ↔ (vkd w x0 = 16) ∧ (vkd w x0 = 16) ∧ (vkd w (vct w x0 0) = 18) ∧ VC d 252 [(2, vct w x0 0), (0, vct w x0 3)] w (fun r w1 => VW d 229 23 [(2, x0), (1, y0), (9, 0), (9, 0), (9, 0), (9, 0)] [(1, r)] w1 Q) :=
  (VW_b 6 (F := fun n => if vkd w x0 = 16 then if vkd w x0 = 16 then if vkd w (vct w x0 0) = 18 then vclr (vrun n) d 229 23 252 2 1 [(2, x0), (1, y0), (9, 0), (9, 0), (9, 0), (9, 0)] [(0, vct w x0 3), (2, vct w x0 0)] w else none else none else none) (fun _ => rfl)).trans (EX_if.trans (and_congr Iff.rfl (EX_if.trans (and_congr Iff.rfl (EX_if.trans (and_congr Iff.rfl (EX_call rfl)))))))
set_option maxRecDepth 100000 in
theorem b229_23 {d : Nat} {w : vW} {x0 x1 y0 : Int} {Q : Int → vW → Prop} : VW d 229 23 [(2, x0), (1, x1), (9, 0), (9, 0), (9, 0), (9, 0)] [(1, y0)] w Q ↔ VC d 273 [(1, x1)] w (fun r w1 => VW d 229 28 [(2, x0), (1, x1), (9, 0), (1, y0), (9, 0), (9, 0)] [(0, r)] w1 Q) :=
  (VW_b 3 (F := fun n => vclr (vrun n) d 229 28 273 1 0 [(2, x0), (1, x1), (9, 0), (1, y0), (9, 0), (9, 0)] [(1, x1)] w) (fun _ => rfl)).trans (EX_call rfl)
set_option maxRecDepth 100000 in
theorem b229_28 {d : Nat} {w : vW} {x0 x1 x3 y0 : Int} {Q : Int → vW → Prop} : VW d 229 28 [(2, x0), (1, x1), (9, 0), (1, x3), (9, 0), (9, 0)] [(0, y0)] w Q ↔ (vkd w x0 = 16) ∧ (((vct w x0 4) < 1 → VW d 229 58 [(2, x0), (1, x1), (9, 0), (1, x3), (9, 0), (0, y0)] [] w Q) ∧ (¬ ((vct w x0 4) < 1) → VW d 229 38 [(2, x0), (1, x1), (9, 0), (1, x3), (9, 0), (0, y0)] [] w Q)) :=
  (VW_b 5 (F := fun n => if vkd w x0 = 16 then (if (vct w x0 4) < 1 then vrun n d 229 58 [(2, x0), (1, x1), (9, 0), (1, x3), (9, 0), (0, y0)] [] w else vrun n d 229 38 [(2, x0), (1, x1), (9, 0), (1, x3), (9, 0), (0, y0)] [] w) else none) (fun _ => rfl)).trans (EX_if.trans (and_congr Iff.rfl (EX_br.trans (and_congr (imp_congr Iff.rfl Iff.rfl) (imp_congr Iff.rfl Iff.rfl)))))
set_option maxRecDepth 100000 in
theorem b229_38 {d : Nat} {w : vW} {x0 x1 x3 x5 : Int} {Q : Int → vW → Prop} : VW d 229 38 [(2, x0), (1, x1), (9, 0), (1, x3), (9, 0), (0, x5)] [] w Q ↔ (vkd w x0 = 16) ∧ (((vct w x0 4) < x5 → VW d 229 47 [(2, x0), (1, x1), (9, 0), (1, x3), (9, 0), (0, x5)] [] w Q) ∧ (¬ ((vct w x0 4) < x5) → VW d 229 58 [(2, x0), (1, x1), (9, 0), (1, x3), (9, 0), (0, x5)] [] w Q)) :=
  (VW_b 4 (F := fun n => if vkd w x0 = 16 then (if (vct w x0 4) < x5 then vrun n d 229 47 [(2, x0), (1, x1), (9, 0), (1, x3), (9, 0), (0, x5)] [] w else vrun n d 229 58 [(2, x0), (1, x1), (9, 0), (1, x3), (9, 0), (0, x5)] [] w) else none) (fun _ => rfl)).trans (EX_if.trans (and_congr Iff.rfl (EX_br.trans (and_congr (imp_congr Iff.rfl Iff.rfl) (imp_congr Iff.rfl Iff.rfl)))))
set_option maxRecDepth 100000 in
theorem b229_47 {d : Nat} {w : vW} {x0 x1 x3 x5 : Int} {Q : Int → vW → Prop} : VW d 229 47 [(2, x0), (1, x1), (9, 0), (1, x3), (9, 0), (0, x5)] [] w Q ↔ (vkd w x0 = 16) ∧ VC d 273 [(1, x3)] w (fun r w1 => VW d 229 55 [(2, x0), (1, x1), (9, 0), (1, x3), (9, 0), (0, x5)] [(0, r), (0, vct w x0 4)] w1 Q) :=
  (VW_b 4 (F := fun n => if vkd w x0 = 16 then vclr (vrun n) d 229 55 273 1 0 [(2, x0), (1, x1), (9, 0), (1, x3), (9, 0), (0, x5)] [(1, x3), (0, vct w x0 4)] w else none) (fun _ => rfl)).trans (EX_if.trans (and_congr Iff.rfl (EX_call rfl)))
set_option maxRecDepth 100000 in
theorem b229_55 {d : Nat} {w : vW} {x0 x1 x3 x5 y0 y1 : Int} {Q : Int → vW → Prop} : VW d 229 55 [(2, x0), (1, x1), (9, 0), (1, x3), (9, 0), (0, x5)] [(0, y1), (0, y0)] w Q ↔ ((y0 < y1 → VW d 229 60 [(2, x0), (1, x1), (9, 0), (1, x3), (9, 0), (0, x5)] [] w Q) ∧ (¬ (y0 < y1) → VW d 229 58 [(2, x0), (1, x1), (9, 0), (1, x3), (9, 0), (0, x5)] [] w Q)) :=
  (VW_b 1 (F := fun n => (if y0 < y1 then vrun n d 229 60 [(2, x0), (1, x1), (9, 0), (1, x3), (9, 0), (0, x5)] [] w else vrun n d 229 58 [(2, x0), (1, x1), (9, 0), (1, x3), (9, 0), (0, x5)] [] w)) (fun _ => rfl)).trans (EX_br.trans (and_congr (imp_congr Iff.rfl Iff.rfl) (imp_congr Iff.rfl Iff.rfl)))
set_option maxRecDepth 100000 in
theorem b229_58 {d : Nat} {w : vW} {x0 x1 x3 x5 : Int} {Q : Int → vW → Prop} : VW d 229 58 [(2, x0), (1, x1), (9, 0), (1, x3), (9, 0), (0, x5)] [] w Q ↔ Q 0 w :=
  (VW_b 2 (F := fun n => some (0, 0, w)) (fun _ => rfl)).trans (EX_ret0)
set_option maxRecDepth 100000 in
theorem b229_60 {d : Nat} {w : vW} {x0 x1 x3 x5 : Int} {Q : Int → vW → Prop} : VW d 229 60 [(2, x0), (1, x1), (9, 0), (1, x3), (9, 0), (0, x5)] [] w Q ↔ (vkd w x0 = 16) ∧ (vkd w x0 = 16) ∧ VC d 277 [(1, x3), (0, 0), (0, vct w x0 4)] w (fun r w1 => VW d 229 77 [(2, x0), (1, x1), (9, 0), (1, x3), (9, 0), (0, x5)] [(1, r), (0, w32 (x5 - (vct w x0 4))), (1, x1)] w1 Q) :=
  (VW_b 10 (F := fun n => if vkd w x0 = 16 then if vkd w x0 = 16 then vclr (vrun n) d 229 77 277 3 1 [(2, x0), (1, x1), (9, 0), (1, x3), (9, 0), (0, x5)] [(0, vct w x0 4), (0, 0), (1, x3), (0, w32 (x5 - (vct w x0 4))), (1, x1)] w else none else none) (fun _ => rfl)).trans (EX_if.trans (and_congr Iff.rfl (EX_if.trans (and_congr Iff.rfl (EX_call rfl)))))
set_option maxRecDepth 100000 in
theorem b229_77 {d : Nat} {w : vW} {x0 x1 x3 x5 y0 y1 y2 : Int} {Q : Int → vW → Prop} : VW d 229 77 [(2, x0), (1, x1), (9, 0), (1, x3), (9, 0), (0, x5)] [(1, y2), (0, y1), (1, y0)] w Q ↔ VC d 279 [(1, y0), (0, y1), (1, y2)] w (fun r w1 => VW d 229 80 [(2, x0), (1, x1), (9, 0), (1, x3), (9, 0), (0, x5)] [(0, r)] w1 Q) :=
  (VW_b 1 (F := fun n => vclr (vrun n) d 229 80 279 3 0 [(2, x0), (1, x1), (9, 0), (1, x3), (9, 0), (0, x5)] [(1, y2), (0, y1), (1, y0)] w) (fun _ => rfl)).trans (EX_call rfl)
set_option maxRecDepth 100000 in
theorem b229_80 {d : Nat} {w : vW} {x0 x1 x3 x5 y0 : Int} {Q : Int → vW → Prop} : VW d 229 80 [(2, x0), (1, x1), (9, 0), (1, x3), (9, 0), (0, x5)] [(0, y0)] w Q ↔ ((y0 = 0 → VW d 229 83 [(2, x0), (1, x1), (9, 0), (1, x3), (9, 0), (0, x5)] [] w Q) ∧ (¬ (y0 = 0) → VW d 229 85 [(2, x0), (1, x1), (9, 0), (1, x3), (9, 0), (0, x5)] [] w Q)) :=
  (VW_b 1 (F := fun n => (if y0 = 0 then vrun n d 229 83 [(2, x0), (1, x1), (9, 0), (1, x3), (9, 0), (0, x5)] [] w else vrun n d 229 85 [(2, x0), (1, x1), (9, 0), (1, x3), (9, 0), (0, x5)] [] w)) (fun _ => rfl)).trans (EX_br.trans (and_congr (imp_congr Iff.rfl Iff.rfl) (imp_congr Iff.rfl Iff.rfl)))
set_option maxRecDepth 100000 in
theorem b229_83 {d : Nat} {w : vW} {x0 x1 x3 x5 : Int} {Q : Int → vW → Prop} : VW d 229 83 [(2, x0), (1, x1), (9, 0), (1, x3), (9, 0), (0, x5)] [] w Q ↔ Q 0 w :=
  (VW_b 2 (F := fun n => some (0, 0, w)) (fun _ => rfl)).trans (EX_ret0)
set_option maxRecDepth 100000 in
theorem b229_85 {d : Nat} {w : vW} {x0 x1 x3 x5 : Int} {Q : Int → vW → Prop} : VW d 229 85 [(2, x0), (1, x1), (9, 0), (1, x3), (9, 0), (0, x5)] [] w Q ↔ (vkd w x0 = 16) ∧ VC d 273 [(1, x3)] w (fun r w1 => VW d 229 99 [(2, x0), (1, x1), (9, 0), (1, x3), (9, 0), (0, x5)] [(0, r), (0, vct w x0 4), (1, x3), (0, 0), (0, x5), (1, x1), (2, x0)] w1 Q) :=
  (VW_b 9 (F := fun n => if vkd w x0 = 16 then vclr (vrun n) d 229 99 273 1 0 [(2, x0), (1, x1), (9, 0), (1, x3), (9, 0), (0, x5)] [(1, x3), (0, vct w x0 4), (1, x3), (0, 0), (0, x5), (1, x1), (2, x0)] w else none) (fun _ => rfl)).trans (EX_if.trans (and_congr Iff.rfl (EX_call rfl)))
set_option maxRecDepth 100000 in
theorem b229_99 {d : Nat} {w : vW} {x0 x1 x3 x5 y0 y1 y2 y3 y4 y5 y6 : Int} {Q : Int → vW → Prop} : VW d 229 99 [(2, x0), (1, x1), (9, 0), (1, x3), (9, 0), (0, x5)] [(0, y6), (0, y5), (1, y4), (0, y3), (0, y2), (1, y1), (2, y0)] w Q ↔ (vkd w x0 = 16) ∧ VC d 277 [(1, y4), (0, y5), (0, w32 (y6 - (vct w x0 4)))] w (fun r w1 => VW d 229 107 [(2, x0), (1, x1), (9, 0), (1, x3), (9, 0), (0, x5)] [(1, r), (0, y3), (0, y2), (1, y1), (2, y0)] w1 Q) :=
  (VW_b 4 (F := fun n => if vkd w x0 = 16 then vclr (vrun n) d 229 107 277 3 1 [(2, x0), (1, x1), (9, 0), (1, x3), (9, 0), (0, x5)] [(0, w32 (y6 - (vct w x0 4))), (0, y5), (1, y4), (0, y3), (0, y2), (1, y1), (2, y0)] w else none) (fun _ => rfl)).trans (EX_if.trans (and_congr Iff.rfl (EX_call rfl)))
set_option maxRecDepth 100000 in
theorem b229_107 {d : Nat} {w : vW} {x0 x1 x3 x5 y0 y1 y2 y3 y4 : Int} {Q : Int → vW → Prop} : VW d 229 107 [(2, x0), (1, x1), (9, 0), (1, x3), (9, 0), (0, x5)] [(1, y4), (0, y3), (0, y2), (1, y1), (2, y0)] w Q ↔ VC d 278 [(1, y1), (0, y2), (0, y3), (1, y4)] w (fun r w1 => VW d 229 110 [(2, x0), (1, x1), (9, 0), (1, x3), (9, 0), (0, x5)] [(1, r), (2, y0)] w1 Q) :=
  (VW_b 1 (F := fun n => vclr (vrun n) d 229 110 278 4 1 [(2, x0), (1, x1), (9, 0), (1, x3), (9, 0), (0, x5)] [(1, y4), (0, y3), (0, y2), (1, y1), (2, y0)] w) (fun _ => rfl)).trans (EX_call rfl)
set_option maxRecDepth 100000 in
theorem b229_110 {d : Nat} {w : vW} {x0 x1 x3 x5 y0 y1 : Int} {Q : Int → vW → Prop} : VW d 229 110 [(2, x0), (1, x1), (9, 0), (1, x3), (9, 0), (0, x5)] [(1, y1), (2, y0)] w Q ↔ (vkd w y0 = 16) ∧ VW d 229 113 [(2, x0), (1, x1), (9, 0), (1, x3), (9, 0), (0, x5)] [] (vsv w y0 5 y1) Q :=
  (VW_b 1 (F := fun n => if vkd w y0 = 16 then vrun n d 229 113 [(2, x0), (1, x1), (9, 0), (1, x3), (9, 0), (0, x5)] [] (vsv w y0 5 y1) else none) (fun _ => rfl)).trans (EX_if.trans (and_congr Iff.rfl (Iff.rfl)))
set_option maxRecDepth 100000 in
theorem b229_113 {d : Nat} {w : vW} {x0 x1 x3 x5 : Int} {Q : Int → vW → Prop} : VW d 229 113 [(2, x0), (1, x1), (9, 0), (1, x3), (9, 0), (0, x5)] [] w Q ↔ (vkd w x0 = 16) ∧ (vkd w x0 = 16) ∧ VC d 231 [(2, x0), (0, w32 (x5 - (vct w x0 4)))] w (fun _ w1 => VW d 229 124 [(2, x0), (1, x1), (9, 0), (1, x3), (9, 0), (0, x5)] [] w1 Q) :=
  (VW_b 6 (F := fun n => if vkd w x0 = 16 then if vkd w x0 = 16 then vclr (vrun n) d 229 124 231 2 9 [(2, x0), (1, x1), (9, 0), (1, x3), (9, 0), (0, x5)] [(0, w32 (x5 - (vct w x0 4))), (2, x0)] w else none else none) (fun _ => rfl)).trans (EX_if.trans (and_congr Iff.rfl (EX_if.trans (and_congr Iff.rfl (EX_call rfl)))))
set_option maxRecDepth 100000 in
theorem b229_124 {d : Nat} {w : vW} {x0 x1 x3 x5 : Int} {Q : Int → vW → Prop} : VW d 229 124 [(2, x0), (1, x1), (9, 0), (1, x3), (9, 0), (0, x5)] [] w Q ↔ Q 1 w :=
  (VW_b 2 (F := fun n => some (0, 1, w)) (fun _ => rfl)).trans (EX_ret0)
/-! 230: StrikeWhatCancels$Overlaps.lies()Z -/
set_option maxRecDepth 100000 in
theorem b230_0 {d : Nat} {w : vW} {x0 : Int} {Q : Int → vW → Prop} : VW d 230 0 [(2, x0)] [] w Q ↔ (vkd w x0 = 16) ∧ (vkd w x0 = 16) ∧ (vkd w (vct w x0 0) = 18) ∧ VC d 252 [(2, vct w x0 0), (0, vct w x0 2)] w (fun r w1 => VW d 230 12 [(2, x0)] [(1, r), (2, x0)] w1 Q) :=
  (VW_b 6 (F := fun n => if vkd w x0 = 16 then if vkd w x0 = 16 then if vkd w (vct w x0 0) = 18 then vclr (vrun n) d 230 12 252 2 1 [(2, x0)] [(0, vct w x0 2), (2, vct w x0 0), (2, x0)] w else none else none else none) (fun _ => rfl)).trans (EX_if.trans (and_congr Iff.rfl (EX_if.trans (and_congr Iff.rfl (EX_if.trans (and_congr Iff.rfl (EX_call rfl)))))))
set_option maxRecDepth 100000 in
theorem b230_12 {d : Nat} {w : vW} {x0 y0 y1 : Int} {Q : Int → vW → Prop} : VW d 230 12 [(2, x0)] [(1, y1), (2, y0)] w Q ↔ (vkd w y0 = 16) ∧ VW d 230 15 [(2, x0)] [] (vsv w y0 5 y1) Q :=
  (VW_b 1 (F := fun n => if vkd w y0 = 16 then vrun n d 230 15 [(2, x0)] [] (vsv w y0 5 y1) else none) (fun _ => rfl)).trans (EX_if.trans (and_congr Iff.rfl (Iff.rfl)))
set_option maxRecDepth 100000 in
theorem b230_15 {d : Nat} {w : vW} {x0 : Int} {Q : Int → vW → Prop} : VW d 230 15 [(2, x0)] [] w Q ↔ (vkd w x0 = 16) ∧ (vkd w x0 = 16) ∧ (((vct w x0 2) = (vct w x0 3) → VW d 230 51 [(2, x0)] [] w Q) ∧ (¬ ((vct w x0 2) = (vct w x0 3)) → VW d 230 26 [(2, x0)] [] w Q)) :=
  (VW_b 5 (F := fun n => if vkd w x0 = 16 then if vkd w x0 = 16 then (if (vct w x0 2) = (vct w x0 3) then vrun n d 230 51 [(2, x0)] [] w else vrun n d 230 26 [(2, x0)] [] w) else none else none) (fun _ => rfl)).trans (EX_if.trans (and_congr Iff.rfl (EX_if.trans (and_congr Iff.rfl (EX_br.trans (and_congr (imp_congr Iff.rfl Iff.rfl) (imp_congr Iff.rfl Iff.rfl)))))))
set_option maxRecDepth 100000 in
theorem b230_26 {d : Nat} {w : vW} {x0 : Int} {Q : Int → vW → Prop} : VW d 230 26 [(2, x0)] [] w Q ↔ (vkd w x0 = 16) ∧ (vkd w x0 = 16) ∧ (vkd w x0 = 16) ∧ (vkd w x0 = 16) ∧ (vkd w (vct w x0 0) = 18) ∧ VC d 260 [(2, vct w x0 0), (0, vct w x0 3), (1, vct w x0 5), (0, w32 ((vct w x0 4) - 10))] w (fun r w1 => VW d 230 48 [(2, x0)] [(0, r)] w1 Q) :=
  (VW_b 11 (F := fun n => if vkd w x0 = 16 then if vkd w x0 = 16 then if vkd w x0 = 16 then if vkd w x0 = 16 then if vkd w (vct w x0 0) = 18 then vclr (vrun n) d 230 48 260 4 0 [(2, x0)] [(0, w32 ((vct w x0 4) - 10)), (1, vct w x0 5), (0, vct w x0 3), (2, vct w x0 0)] w else none else none else none else none else none) (fun _ => rfl)).trans (EX_if.trans (and_congr Iff.rfl (EX_if.trans (and_congr Iff.rfl (EX_if.trans (and_congr Iff.rfl (EX_if.trans (and_congr Iff.rfl (EX_if.trans (and_congr Iff.rfl (EX_call rfl)))))))))))
set_option maxRecDepth 100000 in
theorem b230_48 {d : Nat} {w : vW} {x0 y0 : Int} {Q : Int → vW → Prop} : VW d 230 48 [(2, x0)] [(0, y0)] w Q ↔ ((y0 = 0 → VW d 230 51 [(2, x0)] [] w Q) ∧ (¬ (y0 = 0) → VW d 230 53 [(2, x0)] [] w Q)) :=
  (VW_b 1 (F := fun n => (if y0 = 0 then vrun n d 230 51 [(2, x0)] [] w else vrun n d 230 53 [(2, x0)] [] w)) (fun _ => rfl)).trans (EX_br.trans (and_congr (imp_congr Iff.rfl Iff.rfl) (imp_congr Iff.rfl Iff.rfl)))
set_option maxRecDepth 100000 in
theorem b230_51 {d : Nat} {w : vW} {x0 : Int} {Q : Int → vW → Prop} : VW d 230 51 [(2, x0)] [] w Q ↔ Q 0 w :=
  (VW_b 2 (F := fun n => some (0, 0, w)) (fun _ => rfl)).trans (EX_ret0)
set_option maxRecDepth 100000 in
theorem b230_53 {d : Nat} {w : vW} {x0 : Int} {Q : Int → vW → Prop} : VW d 230 53 [(2, x0)] [] w Q ↔ (vkd w x0 = 16) ∧ (vkd w x0 = 16) ∧ VC d 231 [(2, x0), (0, w32 ((vct w x0 4) - 10))] w (fun _ w1 => VW d 230 64 [(2, x0)] [] w1 Q) :=
  (VW_b 6 (F := fun n => if vkd w x0 = 16 then if vkd w x0 = 16 then vclr (vrun n) d 230 64 231 2 9 [(2, x0)] [(0, w32 ((vct w x0 4) - 10)), (2, x0)] w else none else none) (fun _ => rfl)).trans (EX_if.trans (and_congr Iff.rfl (EX_if.trans (and_congr Iff.rfl (EX_call rfl)))))
set_option maxRecDepth 100000 in
theorem b230_64 {d : Nat} {w : vW} {x0 : Int} {Q : Int → vW → Prop} : VW d 230 64 [(2, x0)] [] w Q ↔ Q 1 w :=
  (VW_b 2 (F := fun n => some (0, 1, w)) (fun _ => rfl)).trans (EX_ret0)
/-! 231: StrikeWhatCancels$Overlaps.strikeBoth(I)V -/
set_option maxRecDepth 100000 in
theorem b231_0 {d : Nat} {w : vW} {x0 x1 : Int} {Q : Int → vW → Prop} : VW d 231 0 [(2, x0), (0, x1)] [] w Q ↔ (vkd w x0 = 16) ∧ (vkd w x0 = 16) ∧ (vkd w x0 = 16) ∧ VC d 249 [(0, vct w x0 2), (0, 0)] w (fun r w1 => VW d 231 17 [(2, x0), (0, x1)] [(0, r), (1, vct w x0 5), (2, vct w x0 0), (2, x0)] w1 Q) :=
  (VW_b 9 (F := fun n => if vkd w x0 = 16 then if vkd w x0 = 16 then if vkd w x0 = 16 then vclr (vrun n) d 231 17 249 2 0 [(2, x0), (0, x1)] [(0, 0), (0, vct w x0 2), (1, vct w x0 5), (2, vct w x0 0), (2, x0)] w else none else none else none) (fun _ => rfl)).trans (EX_if.trans (and_congr Iff.rfl (EX_if.trans (and_congr Iff.rfl (EX_if.trans (and_congr Iff.rfl (EX_call rfl)))))))
set_option maxRecDepth 100000 in
theorem b231_17 {d : Nat} {w : vW} {x0 x1 y0 y1 y2 y3 : Int} {Q : Int → vW → Prop} : VW d 231 17 [(2, x0), (0, x1)] [(0, y3), (1, y2), (2, y1), (2, y0)] w Q ↔ (vkd w y1 = 18) ∧ VC d 261 [(2, y1), (1, y2), (0, y3)] w (fun r w1 => VW d 231 20 [(2, x0), (0, x1)] [(1, r), (2, y0)] w1 Q) :=
  (VW_b 1 (F := fun n => if vkd w y1 = 18 then vclr (vrun n) d 231 20 261 3 1 [(2, x0), (0, x1)] [(0, y3), (1, y2), (2, y1), (2, y0)] w else none) (fun _ => rfl)).trans (EX_if.trans (and_congr Iff.rfl (EX_call rfl)))
set_option maxRecDepth 100000 in
theorem b231_20 {d : Nat} {w : vW} {x0 x1 y0 y1 : Int} {Q : Int → vW → Prop} : VW d 231 20 [(2, x0), (0, x1)] [(1, y1), (2, y0)] w Q ↔ (vkd w y0 = 16) ∧ VW d 231 23 [(2, x0), (0, x1)] [] (vsv w y0 6 y1) Q :=
  (VW_b 1 (F := fun n => if vkd w y0 = 16 then vrun n d 231 23 [(2, x0), (0, x1)] [] (vsv w y0 6 y1) else none) (fun _ => rfl)).trans (EX_if.trans (and_congr Iff.rfl (Iff.rfl)))
set_option maxRecDepth 100000 in
theorem b231_23 {d : Nat} {w : vW} {x0 x1 : Int} {Q : Int → vW → Prop} : VW d 231 23 [(2, x0), (0, x1)] [] w Q ↔ (vkd w x0 = 16) ∧ (vkd w x0 = 16) ∧ (vkd w x0 = 16) ∧ VC d 249 [(0, vct w x0 3), (0, x1)] w (fun r w1 => VW d 231 40 [(2, x0), (0, x1)] [(0, r), (1, vct w x0 5), (2, vct w x0 0), (2, x0)] w1 Q) :=
  (VW_b 9 (F := fun n => if vkd w x0 = 16 then if vkd w x0 = 16 then if vkd w x0 = 16 then vclr (vrun n) d 231 40 249 2 0 [(2, x0), (0, x1)] [(0, x1), (0, vct w x0 3), (1, vct w x0 5), (2, vct w x0 0), (2, x0)] w else none else none else none) (fun _ => rfl)).trans (EX_if.trans (and_congr Iff.rfl (EX_if.trans (and_congr Iff.rfl (EX_if.trans (and_congr Iff.rfl (EX_call rfl)))))))
set_option maxRecDepth 100000 in
theorem b231_40 {d : Nat} {w : vW} {x0 x1 y0 y1 y2 y3 : Int} {Q : Int → vW → Prop} : VW d 231 40 [(2, x0), (0, x1)] [(0, y3), (1, y2), (2, y1), (2, y0)] w Q ↔ (vkd w y1 = 18) ∧ VC d 261 [(2, y1), (1, y2), (0, y3)] w (fun r w1 => VW d 231 43 [(2, x0), (0, x1)] [(1, r), (2, y0)] w1 Q) :=
  (VW_b 1 (F := fun n => if vkd w y1 = 18 then vclr (vrun n) d 231 43 261 3 1 [(2, x0), (0, x1)] [(0, y3), (1, y2), (2, y1), (2, y0)] w else none) (fun _ => rfl)).trans (EX_if.trans (and_congr Iff.rfl (EX_call rfl)))
set_option maxRecDepth 100000 in
theorem b231_43 {d : Nat} {w : vW} {x0 x1 y0 y1 : Int} {Q : Int → vW → Prop} : VW d 231 43 [(2, x0), (0, x1)] [(1, y1), (2, y0)] w Q ↔ (vkd w y0 = 16) ∧ VW d 231 46 [(2, x0), (0, x1)] [] (vsv w y0 7 y1) Q :=
  (VW_b 1 (F := fun n => if vkd w y0 = 16 then vrun n d 231 46 [(2, x0), (0, x1)] [] (vsv w y0 7 y1) else none) (fun _ => rfl)).trans (EX_if.trans (and_congr Iff.rfl (Iff.rfl)))
set_option maxRecDepth 100000 in
theorem b231_46 {d : Nat} {w : vW} {x0 x1 : Int} {Q : Int → vW → Prop} : VW d 231 46 [(2, x0), (0, x1)] [] w Q ↔ Q 0 w :=
  (VW_b 1 (F := fun n => some (0, 0, w)) (fun _ => rfl)).trans (EX_ret0)
/-! 232: StrikeWhatCancels$Reader.<init>()V -/
set_option maxRecDepth 100000 in
theorem b232_0 {d : Nat} {w : vW} {x0 : Int} {Q : Int → vW → Prop} : VW d 232 0 [(2, x0)] [] w Q ↔ (vkd w x0 ≠ 0) ∧ VW d 232 9 [(2, x0)] [(2, vnt w), (2, x0)] (vnw w 1 80 (fun _ => 0) (80 : Int).toNat) Q :=
  (VW_b 5 (F := fun n => if vkd w x0 ≠ 0 then vrun n d 232 9 [(2, x0)] [(2, vnt w), (2, x0)] (vnw w 1 80 (fun _ => 0) (80 : Int).toNat) else none) (fun _ => rfl)).trans (EX_if.trans (and_congr Iff.rfl (Iff.rfl)))
set_option maxRecDepth 100000 in
theorem b232_9 {d : Nat} {w : vW} {x0 y0 y1 : Int} {Q : Int → vW → Prop} : VW d 232 9 [(2, x0)] [(2, y1), (2, y0)] w Q ↔ (vkd w y0 = 17) ∧ VW d 232 12 [(2, x0)] [] (vsv w y0 0 y1) Q :=
  (VW_b 1 (F := fun n => if vkd w y0 = 17 then vrun n d 232 12 [(2, x0)] [] (vsv w y0 0 y1) else none) (fun _ => rfl)).trans (EX_if.trans (and_congr Iff.rfl (Iff.rfl)))
set_option maxRecDepth 100000 in
theorem b232_12 {d : Nat} {w : vW} {x0 : Int} {Q : Int → vW → Prop} : VW d 232 12 [(2, x0)] [] w Q ↔ (vkd w x0 = 17) ∧ VW d 232 17 [(2, x0)] [] (vsv w x0 1 0) Q :=
  (VW_b 3 (F := fun n => if vkd w x0 = 17 then vrun n d 232 17 [(2, x0)] [] (vsv w x0 1 0) else none) (fun _ => rfl)).trans (EX_if.trans (and_congr Iff.rfl (Iff.rfl)))
set_option maxRecDepth 100000 in
theorem b232_17 {d : Nat} {w : vW} {x0 : Int} {Q : Int → vW → Prop} : VW d 232 17 [(2, x0)] [] w Q ↔ VW d 232 21 [(2, x0)] [(2, vnt w), (2, x0)] (vnw w 18 7 (vdfl 18) 7) Q :=
  (VW_b 2 (F := fun n => vrun n d 232 21 [(2, x0)] [(2, vnt w), (2, x0)] (vnw w 18 7 (vdfl 18) 7)) (fun _ => rfl)).trans (Iff.rfl)
set_option maxRecDepth 100000 in
theorem b232_21 {d : Nat} {w : vW} {x0 y0 y1 : Int} {Q : Int → vW → Prop} : VW d 232 21 [(2, x0)] [(2, y1), (2, y0)] w Q ↔ (vkd w y1 = 18) ∧ VC d 248 [(2, y1)] w (fun _ w1 => VW d 232 25 [(2, x0)] [(2, y1), (2, y0)] w1 Q) :=
  (VW_b 2 (F := fun n => if vkd w y1 = 18 then vclr (vrun n) d 232 25 248 1 9 [(2, x0)] [(2, y1), (2, y1), (2, y0)] w else none) (fun _ => rfl)).trans (EX_if.trans (and_congr Iff.rfl (EX_call rfl)))
set_option maxRecDepth 100000 in
theorem b232_25 {d : Nat} {w : vW} {x0 y0 y1 : Int} {Q : Int → vW → Prop} : VW d 232 25 [(2, x0)] [(2, y1), (2, y0)] w Q ↔ (vkd w y0 = 17) ∧ VW d 232 28 [(2, x0)] [] (vsv w y0 2 y1) Q :=
  (VW_b 1 (F := fun n => if vkd w y0 = 17 then vrun n d 232 28 [(2, x0)] [] (vsv w y0 2 y1) else none) (fun _ => rfl)).trans (EX_if.trans (and_congr Iff.rfl (Iff.rfl)))
set_option maxRecDepth 100000 in
theorem b232_28 {d : Nat} {w : vW} {x0 : Int} {Q : Int → vW → Prop} : VW d 232 28 [(2, x0)] [] w Q ↔ VW d 232 33 [(2, x0)] [(2, vnt w), (2, x0)] (vnw w 1 8 (fun _ => 0) (8 : Int).toNat) Q :=
  (VW_b 3 (F := fun n => vrun n d 232 33 [(2, x0)] [(2, vnt w), (2, x0)] (vnw w 1 8 (fun _ => 0) (8 : Int).toNat)) (fun _ => rfl)).trans (Iff.rfl)
set_option maxRecDepth 100000 in
theorem b232_33 {d : Nat} {w : vW} {x0 y0 y1 : Int} {Q : Int → vW → Prop} : VW d 232 33 [(2, x0)] [(2, y1), (2, y0)] w Q ↔ (vkd w y0 = 17) ∧ VW d 232 36 [(2, x0)] [] (vsv w y0 3 y1) Q :=
  (VW_b 1 (F := fun n => if vkd w y0 = 17 then vrun n d 232 36 [(2, x0)] [] (vsv w y0 3 y1) else none) (fun _ => rfl)).trans (EX_if.trans (and_congr Iff.rfl (Iff.rfl)))
set_option maxRecDepth 100000 in
theorem b232_36 {d : Nat} {w : vW} {x0 : Int} {Q : Int → vW → Prop} : VW d 232 36 [(2, x0)] [] w Q ↔ (vkd w x0 = 17) ∧ VW d 232 41 [(2, x0)] [] (vsv w x0 4 0) Q :=
  (VW_b 3 (F := fun n => if vkd w x0 = 17 then vrun n d 232 41 [(2, x0)] [] (vsv w x0 4 0) else none) (fun _ => rfl)).trans (EX_if.trans (and_congr Iff.rfl (Iff.rfl)))
set_option maxRecDepth 100000 in
theorem b232_41 {d : Nat} {w : vW} {x0 : Int} {Q : Int → vW → Prop} : VW d 232 41 [(2, x0)] [] w Q ↔ (vkd w x0 = 17) ∧ VW d 232 46 [(2, x0)] [] (vsv w x0 5 0) Q :=
  (VW_b 3 (F := fun n => if vkd w x0 = 17 then vrun n d 232 46 [(2, x0)] [] (vsv w x0 5 0) else none) (fun _ => rfl)).trans (EX_if.trans (and_congr Iff.rfl (Iff.rfl)))
set_option maxRecDepth 100000 in
theorem b232_46 {d : Nat} {w : vW} {x0 : Int} {Q : Int → vW → Prop} : VW d 232 46 [(2, x0)] [] w Q ↔ (vkd w x0 = 17) ∧ VW d 232 51 [(2, x0)] [] (vsv w x0 6 0) Q :=
  (VW_b 3 (F := fun n => if vkd w x0 = 17 then vrun n d 232 51 [(2, x0)] [] (vsv w x0 6 0) else none) (fun _ => rfl)).trans (EX_if.trans (and_congr Iff.rfl (Iff.rfl)))
set_option maxRecDepth 100000 in
theorem b232_51 {d : Nat} {w : vW} {x0 : Int} {Q : Int → vW → Prop} : VW d 232 51 [(2, x0)] [] w Q ↔ (vkd w x0 = 17) ∧ VW d 232 56 [(2, x0)] [] (vsv w x0 7 0) Q :=
  (VW_b 3 (F := fun n => if vkd w x0 = 17 then vrun n d 232 56 [(2, x0)] [] (vsv w x0 7 0) else none) (fun _ => rfl)).trans (EX_if.trans (and_congr Iff.rfl (Iff.rfl)))
set_option maxRecDepth 100000 in
theorem b232_56 {d : Nat} {w : vW} {x0 : Int} {Q : Int → vW → Prop} : VW d 232 56 [(2, x0)] [] w Q ↔ (vkd w x0 = 17) ∧ VW d 232 61 [(2, x0)] [] (vsv w x0 8 0) Q :=
  (VW_b 3 (F := fun n => if vkd w x0 = 17 then vrun n d 232 61 [(2, x0)] [] (vsv w x0 8 0) else none) (fun _ => rfl)).trans (EX_if.trans (and_congr Iff.rfl (Iff.rfl)))
set_option maxRecDepth 100000 in
theorem b232_61 {d : Nat} {w : vW} {x0 : Int} {Q : Int → vW → Prop} : VW d 232 61 [(2, x0)] [] w Q ↔ Q 0 w :=
  (VW_b 1 (F := fun n => some (0, 0, w)) (fun _ => rfl)).trans (EX_ret0)
/-! 233: StrikeWhatCancels$Reader.addFour(I)Z -/
set_option maxRecDepth 100000 in
theorem b233_0 {d : Nat} {w : vW} {x0 x1 : Int} {Q : Int → vW → Prop} : VW d 233 0 [(2, x0), (0, x1), (9, 0)] [] w Q ↔ (vkd w x0 = 17) ∧ ((80 < (w32 ((vct w x0 1) + 4)) → VW d 233 11 [(2, x0), (0, x1), (9, 0)] [] w Q) ∧ (¬ (80 < (w32 ((vct w x0 1) + 4))) → VW d 233 13 [(2, x0), (0, x1), (9, 0)] [] w Q)) :=
  (VW_b 6 (F := fun n => if vkd w x0 = 17 then (if 80 < (w32 ((vct w x0 1) + 4)) then vrun n d 233 11 [(2, x0), (0, x1), (9, 0)] [] w else vrun n d 233 13 [(2, x0), (0, x1), (9, 0)] [] w) else none) (fun _ => rfl)).trans (EX_if.trans (and_congr Iff.rfl (EX_br.trans (and_congr (imp_congr Iff.rfl Iff.rfl) (imp_congr Iff.rfl Iff.rfl)))))
set_option maxRecDepth 100000 in
theorem b233_11 {d : Nat} {w : vW} {x0 x1 : Int} {Q : Int → vW → Prop} : VW d 233 11 [(2, x0), (0, x1), (9, 0)] [] w Q ↔ Q 0 w :=
  (VW_b 2 (F := fun n => some (0, 0, w)) (fun _ => rfl)).trans (EX_ret0)
set_option maxRecDepth 100000 in
theorem b233_13 {d : Nat} {w : vW} {x0 x1 : Int} {Q : Int → vW → Prop} : VW d 233 13 [(2, x0), (0, x1), (9, 0)] [] w Q ↔ VW d 233 16 [(2, x0), (0, x1), (0, 24)] [] w Q :=
  (VW_b 2 (F := fun n => vrun n d 233 16 [(2, x0), (0, x1), (0, 24)] [] w) (fun _ => rfl)).trans (Iff.rfl)
set_option maxRecDepth 100000 in
theorem b233_16 {d : Nat} {w : vW} {x0 x1 x2 : Int} {Q : Int → vW → Prop} : VW d 233 16 [(2, x0), (0, x1), (0, x2)] [] w Q ↔ ((x2 < 0 → VW d 233 71 [(2, x0), (0, x1), (0, x2)] [] w Q) ∧ (¬ (x2 < 0) → VW d 233 20 [(2, x0), (0, x1), (0, x2)] [] w Q)) :=
  (VW_b 2 (F := fun n => (if x2 < 0 then vrun n d 233 71 [(2, x0), (0, x1), (0, x2)] [] w else vrun n d 233 20 [(2, x0), (0, x1), (0, x2)] [] w)) (fun _ => rfl)).trans (EX_br.trans (and_congr (imp_congr Iff.rfl Iff.rfl) (imp_congr Iff.rfl Iff.rfl)))
set_option maxRecDepth 100000 in
theorem b233_20 {d : Nat} {w : vW} {x0 x1 x2 : Int} {Q : Int → vW → Prop} : VW d 233 20 [(2, x0), (0, x1), (0, x2)] [] w Q ↔ (vkd w x0 = 17) ∧ (((vct w x0 1) < 0 → VW d 233 71 [(2, x0), (0, x1), (0, x2)] [] w Q) ∧ (¬ ((vct w x0 1) < 0) → VW d 233 27 [(2, x0), (0, x1), (0, x2)] [] w Q)) :=
  (VW_b 3 (F := fun n => if vkd w x0 = 17 then (if (vct w x0 1) < 0 then vrun n d 233 71 [(2, x0), (0, x1), (0, x2)] [] w else vrun n d 233 27 [(2, x0), (0, x1), (0, x2)] [] w) else none) (fun _ => rfl)).trans (EX_if.trans (and_congr Iff.rfl (EX_br.trans (and_congr (imp_congr Iff.rfl Iff.rfl) (imp_congr Iff.rfl Iff.rfl)))))
set_option maxRecDepth 100000 in
theorem b233_27 {d : Nat} {w : vW} {x0 x1 x2 : Int} {Q : Int → vW → Prop} : VW d 233 27 [(2, x0), (0, x1), (0, x2)] [] w Q ↔ (vkd w x0 = 17) ∧ (vkd w x0 = 17) ∧ (vkd w (vct w x0 0) = 1) ∧ (((vct w x0 1) < (vln w (vct w x0 0)) → VW d 233 39 [(2, x0), (0, x1), (0, x2)] [] w Q) ∧ (¬ ((vct w x0 1) < (vln w (vct w x0 0))) → VW d 233 71 [(2, x0), (0, x1), (0, x2)] [] w Q)) :=
  (VW_b 6 (F := fun n => if vkd w x0 = 17 then if vkd w x0 = 17 then if vkd w (vct w x0 0) = 1 then (if (vct w x0 1) < (vln w (vct w x0 0)) then vrun n d 233 39 [(2, x0), (0, x1), (0, x2)] [] w else vrun n d 233 71 [(2, x0), (0, x1), (0, x2)] [] w) else none else none else none) (fun _ => rfl)).trans (EX_if.trans (and_congr Iff.rfl (EX_if.trans (and_congr Iff.rfl (EX_if.trans (and_congr Iff.rfl (EX_br.trans (and_congr (imp_congr Iff.rfl Iff.rfl) (imp_congr Iff.rfl Iff.rfl)))))))))
set_option maxRecDepth 100000 in
theorem b233_39 {d : Nat} {w : vW} {x0 x1 x2 : Int} {Q : Int → vW → Prop} : VW d 233 39 [(2, x0), (0, x1), (0, x2)] [] w Q ↔ (vkd w x0 = 17) ∧ (vkd w x0 = 17) ∧ (vkd w (vct w x0 0) = 1 ∧ (0 : Int) ≤ (vct w x0 1) ∧ (vct w x0 1) < vln w (vct w x0 0)) ∧ VW d 233 55 [(2, x0), (0, x1), (0, x2)] [] (vsv w (vct w x0 0) (vct w x0 1) (i_and (i_ushr x1 x2) 255)) Q :=
  (VW_b 10 (F := fun n => if vkd w x0 = 17 then if vkd w x0 = 17 then if vkd w (vct w x0 0) = 1 ∧ (0 : Int) ≤ (vct w x0 1) ∧ (vct w x0 1) < vln w (vct w x0 0) then vrun n d 233 55 [(2, x0), (0, x1), (0, x2)] [] (vsv w (vct w x0 0) (vct w x0 1) (i_and (i_ushr x1 x2) 255)) else none else none else none) (fun _ => rfl)).trans (EX_if.trans (and_congr Iff.rfl (EX_if.trans (and_congr Iff.rfl (EX_if.trans (and_congr Iff.rfl (Iff.rfl)))))))
set_option maxRecDepth 100000 in
theorem b233_55 {d : Nat} {w : vW} {x0 x1 x2 : Int} {Q : Int → vW → Prop} : VW d 233 55 [(2, x0), (0, x1), (0, x2)] [] w Q ↔ (vkd w x0 = 17) ∧ (vkd w x0 = 17) ∧ VW d 233 65 [(2, x0), (0, x1), (0, x2)] [] (vsv w x0 1 (w32 ((vct w x0 1) + 1))) Q :=
  (VW_b 6 (F := fun n => if vkd w x0 = 17 then if vkd w x0 = 17 then vrun n d 233 65 [(2, x0), (0, x1), (0, x2)] [] (vsv w x0 1 (w32 ((vct w x0 1) + 1))) else none else none) (fun _ => rfl)).trans (EX_if.trans (and_congr Iff.rfl (EX_if.trans (and_congr Iff.rfl (Iff.rfl)))))
set_option maxRecDepth 100000 in
theorem b233_65 {d : Nat} {w : vW} {x0 x1 x2 : Int} {Q : Int → vW → Prop} : VW d 233 65 [(2, x0), (0, x1), (0, x2)] [] w Q ↔ VW d 233 16 [(2, x0), (0, x1), (0, w32 (x2 + (-8)))] [] w Q :=
  (VW_b 2 (F := fun n => vrun n d 233 16 [(2, x0), (0, x1), (0, w32 (x2 + (-8)))] [] w) (fun _ => rfl)).trans (Iff.rfl)
set_option maxRecDepth 100000 in
theorem b233_71 {d : Nat} {w : vW} {x0 x1 x2 : Int} {Q : Int → vW → Prop} : VW d 233 71 [(2, x0), (0, x1), (0, x2)] [] w Q ↔ Q 1 w :=
  (VW_b 2 (F := fun n => some (0, 1, w)) (fun _ => rfl)).trans (EX_ret0)
/-! 234: StrikeWhatCancels$Reader.cut(I)Z -/
set_option maxRecDepth 100000 in
theorem b234_0 {d : Nat} {w : vW} {x0 x1 : Int} {Q : Int → vW → Prop} : VW d 234 0 [(2, x0), (0, x1)] [] w Q ↔ ((x1 < 0 → VW d 234 12 [(2, x0), (0, x1)] [] w Q) ∧ (¬ (x1 < 0) → VW d 234 4 [(2, x0), (0, x1)] [] w Q)) :=
  (VW_b 2 (F := fun n => (if x1 < 0 then vrun n d 234 12 [(2, x0), (0, x1)] [] w else vrun n d 234 4 [(2, x0), (0, x1)] [] w)) (fun _ => rfl)).trans (EX_br.trans (and_congr (imp_congr Iff.rfl Iff.rfl) (imp_congr Iff.rfl Iff.rfl)))
set_option maxRecDepth 100000 in
theorem b234_4 {d : Nat} {w : vW} {x0 x1 : Int} {Q : Int → vW → Prop} : VW d 234 4 [(2, x0), (0, x1)] [] w Q ↔ (vkd w x0 = 17) ∧ (((vct w x0 1) < x1 → VW d 234 12 [(2, x0), (0, x1)] [] w Q) ∧ (¬ ((vct w x0 1) < x1) → VW d 234 14 [(2, x0), (0, x1)] [] w Q)) :=
  (VW_b 4 (F := fun n => if vkd w x0 = 17 then (if (vct w x0 1) < x1 then vrun n d 234 12 [(2, x0), (0, x1)] [] w else vrun n d 234 14 [(2, x0), (0, x1)] [] w) else none) (fun _ => rfl)).trans (EX_if.trans (and_congr Iff.rfl (EX_br.trans (and_congr (imp_congr Iff.rfl Iff.rfl) (imp_congr Iff.rfl Iff.rfl)))))
set_option maxRecDepth 100000 in
theorem b234_12 {d : Nat} {w : vW} {x0 x1 : Int} {Q : Int → vW → Prop} : VW d 234 12 [(2, x0), (0, x1)] [] w Q ↔ Q 0 w :=
  (VW_b 2 (F := fun n => some (0, 0, w)) (fun _ => rfl)).trans (EX_ret0)
set_option maxRecDepth 100000 in
theorem b234_14 {d : Nat} {w : vW} {x0 x1 : Int} {Q : Int → vW → Prop} : VW d 234 14 [(2, x0), (0, x1)] [] w Q ↔ (vkd w x0 = 17) ∧ VW d 234 19 [(2, x0), (0, x1)] [] (vsv w x0 1 x1) Q :=
  (VW_b 3 (F := fun n => if vkd w x0 = 17 then vrun n d 234 19 [(2, x0), (0, x1)] [] (vsv w x0 1 x1) else none) (fun _ => rfl)).trans (EX_if.trans (and_congr Iff.rfl (Iff.rfl)))
set_option maxRecDepth 100000 in
theorem b234_19 {d : Nat} {w : vW} {x0 x1 : Int} {Q : Int → vW → Prop} : VW d 234 19 [(2, x0), (0, x1)] [] w Q ↔ Q 1 w :=
  (VW_b 2 (F := fun n => some (0, 1, w)) (fun _ => rfl)).trans (EX_ret0)
/-! 235: StrikeWhatCancels$Reader.at(I)I -/
set_option maxRecDepth 100000 in
theorem b235_0 {d : Nat} {w : vW} {x0 x1 : Int} {Q : Int → vW → Prop} : VW d 235 0 [(2, x0), (0, x1)] [] w Q ↔ ((x1 < 0 → VW d 235 30 [(2, x0), (0, x1)] [] w Q) ∧ (¬ (x1 < 0) → VW d 235 4 [(2, x0), (0, x1)] [] w Q)) :=
  (VW_b 2 (F := fun n => (if x1 < 0 then vrun n d 235 30 [(2, x0), (0, x1)] [] w else vrun n d 235 4 [(2, x0), (0, x1)] [] w)) (fun _ => rfl)).trans (EX_br.trans (and_congr (imp_congr Iff.rfl Iff.rfl) (imp_congr Iff.rfl Iff.rfl)))
set_option maxRecDepth 100000 in
theorem b235_4 {d : Nat} {w : vW} {x0 x1 : Int} {Q : Int → vW → Prop} : VW d 235 4 [(2, x0), (0, x1)] [] w Q ↔ (vkd w x0 = 17) ∧ ((x1 < (vct w x0 1) → VW d 235 12 [(2, x0), (0, x1)] [] w Q) ∧ (¬ (x1 < (vct w x0 1)) → VW d 235 30 [(2, x0), (0, x1)] [] w Q)) :=
  (VW_b 4 (F := fun n => if vkd w x0 = 17 then (if x1 < (vct w x0 1) then vrun n d 235 12 [(2, x0), (0, x1)] [] w else vrun n d 235 30 [(2, x0), (0, x1)] [] w) else none) (fun _ => rfl)).trans (EX_if.trans (and_congr Iff.rfl (EX_br.trans (and_congr (imp_congr Iff.rfl Iff.rfl) (imp_congr Iff.rfl Iff.rfl)))))
set_option maxRecDepth 100000 in
theorem b235_12 {d : Nat} {w : vW} {x0 x1 : Int} {Q : Int → vW → Prop} : VW d 235 12 [(2, x0), (0, x1)] [] w Q ↔ (vkd w x0 = 17) ∧ (vkd w (vct w x0 0) = 1) ∧ ((x1 < (vln w (vct w x0 0)) → VW d 235 21 [(2, x0), (0, x1)] [] w Q) ∧ (¬ (x1 < (vln w (vct w x0 0))) → VW d 235 30 [(2, x0), (0, x1)] [] w Q)) :=
  (VW_b 5 (F := fun n => if vkd w x0 = 17 then if vkd w (vct w x0 0) = 1 then (if x1 < (vln w (vct w x0 0)) then vrun n d 235 21 [(2, x0), (0, x1)] [] w else vrun n d 235 30 [(2, x0), (0, x1)] [] w) else none else none) (fun _ => rfl)).trans (EX_if.trans (and_congr Iff.rfl (EX_if.trans (and_congr Iff.rfl (EX_br.trans (and_congr (imp_congr Iff.rfl Iff.rfl) (imp_congr Iff.rfl Iff.rfl)))))))
set_option maxRecDepth 100000 in
theorem b235_21 {d : Nat} {w : vW} {x0 x1 : Int} {Q : Int → vW → Prop} : VW d 235 21 [(2, x0), (0, x1)] [] w Q ↔ (vkd w x0 = 17) ∧ (vkd w (vct w x0 0) = 1 ∧ (0 : Int) ≤ x1 ∧ x1 < vln w (vct w x0 0)) ∧ VW d 235 31 [(2, x0), (0, x1)] [(0, vct w (vct w x0 0) x1)] w Q :=
  (VW_b 5 (F := fun n => if vkd w x0 = 17 then if vkd w (vct w x0 0) = 1 ∧ (0 : Int) ≤ x1 ∧ x1 < vln w (vct w x0 0) then vrun n d 235 31 [(2, x0), (0, x1)] [(0, vct w (vct w x0 0) x1)] w else none else none) (fun _ => rfl)).trans (EX_if.trans (and_congr Iff.rfl (EX_if.trans (and_congr Iff.rfl (Iff.rfl)))))
set_option maxRecDepth 100000 in
theorem b235_30 {d : Nat} {w : vW} {x0 x1 : Int} {Q : Int → vW → Prop} : VW d 235 30 [(2, x0), (0, x1)] [] w Q ↔ VW d 235 31 [(2, x0), (0, x1)] [(0, 0)] w Q :=
  (VW_b 1 (F := fun n => vrun n d 235 31 [(2, x0), (0, x1)] [(0, 0)] w) (fun _ => rfl)).trans (Iff.rfl)
set_option maxRecDepth 100000 in
theorem b235_31 {d : Nat} {w : vW} {x0 x1 y0 : Int} {Q : Int → vW → Prop} : VW d 235 31 [(2, x0), (0, x1)] [(0, y0)] w Q ↔ Q y0 w :=
  (VW_b 1 (F := fun n => some (0, y0, w)) (fun _ => rfl)).trans (EX_ret0)
/-! 236: StrikeWhatCancels$Reader.word(I)I -/
set_option maxRecDepth 100000 in
theorem b236_0 {d : Nat} {w : vW} {x0 : Int} {Q : Int → vW → Prop} : VW d 236 0 [(0, x0)] [] w Q ↔ ((x0 < 97 → VW d 236 21 [(0, x0)] [] w Q) ∧ (¬ (x0 < 97) → VW d 236 6 [(0, x0)] [] w Q)) :=
  (VW_b 3 (F := fun n => (if x0 < 97 then vrun n d 236 21 [(0, x0)] [] w else vrun n d 236 6 [(0, x0)] [] w)) (fun _ => rfl)).trans (EX_br.trans (and_congr (imp_congr Iff.rfl Iff.rfl) (imp_congr Iff.rfl Iff.rfl)))
set_option maxRecDepth 100000 in
theorem b236_6 {d : Nat} {w : vW} {x0 : Int} {Q : Int → vW → Prop} : VW d 236 6 [(0, x0)] [] w Q ↔ ((104 < x0 → VW d 236 21 [(0, x0)] [] w Q) ∧ (¬ (104 < x0) → VW d 236 12 [(0, x0)] [] w Q)) :=
  (VW_b 3 (F := fun n => (if 104 < x0 then vrun n d 236 21 [(0, x0)] [] w else vrun n d 236 12 [(0, x0)] [] w)) (fun _ => rfl)).trans (EX_br.trans (and_congr (imp_congr Iff.rfl Iff.rfl) (imp_congr Iff.rfl Iff.rfl)))
set_option maxRecDepth 100000 in
theorem b236_12 {d : Nat} {w : vW} {x0 : Int} {Q : Int → vW → Prop} : VW d 236 12 [(0, x0)] [] w Q ↔ VW d 236 22 [(0, x0)] [(0, w32 ((w32 (x0 - 97)) + 1))] w Q :=
  (VW_b 6 (F := fun n => vrun n d 236 22 [(0, x0)] [(0, w32 ((w32 (x0 - 97)) + 1))] w) (fun _ => rfl)).trans (Iff.rfl)
set_option maxRecDepth 100000 in
theorem b236_21 {d : Nat} {w : vW} {x0 : Int} {Q : Int → vW → Prop} : VW d 236 21 [(0, x0)] [] w Q ↔ VW d 236 22 [(0, x0)] [(0, 0)] w Q :=
  (VW_b 1 (F := fun n => vrun n d 236 22 [(0, x0)] [(0, 0)] w) (fun _ => rfl)).trans (Iff.rfl)
set_option maxRecDepth 100000 in
theorem b236_22 {d : Nat} {w : vW} {x0 y0 : Int} {Q : Int → vW → Prop} : VW d 236 22 [(0, x0)] [(0, y0)] w Q ↔ Q y0 w :=
  (VW_b 1 (F := fun n => some (0, y0, w)) (fun _ => rfl)).trans (EX_ret0)
/-! 237: StrikeWhatCancels$Reader.firstNoWord()I -/
set_option maxRecDepth 100000 in
theorem b237_0 {d : Nat} {w : vW} {x0 : Int} {Q : Int → vW → Prop} : VW d 237 0 [(2, x0), (9, 0)] [] w Q ↔ VW d 237 2 [(2, x0), (0, 0)] [] w Q :=
  (VW_b 2 (F := fun n => vrun n d 237 2 [(2, x0), (0, 0)] [] w) (fun _ => rfl)).trans (Iff.rfl)
set_option maxRecDepth 100000 in
theorem b237_2 {d : Nat} {w : vW} {x0 x1 : Int} {Q : Int → vW → Prop} : VW d 237 2 [(2, x0), (0, x1)] [] w Q ↔ (vkd w x0 = 17) ∧ ((x1 < (vct w x0 1) → VW d 237 10 [(2, x0), (0, x1)] [] w Q) ∧ (¬ (x1 < (vct w x0 1)) → VW d 237 33 [(2, x0), (0, x1)] [] w Q)) :=
  (VW_b 4 (F := fun n => if vkd w x0 = 17 then (if x1 < (vct w x0 1) then vrun n d 237 10 [(2, x0), (0, x1)] [] w else vrun n d 237 33 [(2, x0), (0, x1)] [] w) else none) (fun _ => rfl)).trans (EX_if.trans (and_congr Iff.rfl (EX_br.trans (and_congr (imp_congr Iff.rfl Iff.rfl) (imp_congr Iff.rfl Iff.rfl)))))
set_option maxRecDepth 100000 in
theorem b237_10 {d : Nat} {w : vW} {x0 x1 : Int} {Q : Int → vW → Prop} : VW d 237 10 [(2, x0), (0, x1)] [] w Q ↔ ((x1 < 14 → VW d 237 16 [(2, x0), (0, x1)] [] w Q) ∧ (¬ (x1 < 14) → VW d 237 33 [(2, x0), (0, x1)] [] w Q)) :=
  (VW_b 3 (F := fun n => (if x1 < 14 then vrun n d 237 16 [(2, x0), (0, x1)] [] w else vrun n d 237 33 [(2, x0), (0, x1)] [] w)) (fun _ => rfl)).trans (EX_br.trans (and_congr (imp_congr Iff.rfl Iff.rfl) (imp_congr Iff.rfl Iff.rfl)))
set_option maxRecDepth 100000 in
theorem b237_16 {d : Nat} {w : vW} {x0 x1 : Int} {Q : Int → vW → Prop} : VW d 237 16 [(2, x0), (0, x1)] [] w Q ↔ (vkd w x0 = 17) ∧ VC d 235 [(2, x0), (0, x1)] w (fun r w1 => VW d 237 21 [(2, x0), (0, x1)] [(0, r)] w1 Q) :=
  (VW_b 3 (F := fun n => if vkd w x0 = 17 then vclr (vrun n) d 237 21 235 2 0 [(2, x0), (0, x1)] [(0, x1), (2, x0)] w else none) (fun _ => rfl)).trans (EX_if.trans (and_congr Iff.rfl (EX_call rfl)))
set_option maxRecDepth 100000 in
theorem b237_21 {d : Nat} {w : vW} {x0 x1 y0 : Int} {Q : Int → vW → Prop} : VW d 237 21 [(2, x0), (0, x1)] [(0, y0)] w Q ↔ VC d 236 [(0, y0)] w (fun r w1 => VW d 237 24 [(2, x0), (0, x1)] [(0, r)] w1 Q) :=
  (VW_b 1 (F := fun n => vclr (vrun n) d 237 24 236 1 0 [(2, x0), (0, x1)] [(0, y0)] w) (fun _ => rfl)).trans (EX_call rfl)
set_option maxRecDepth 100000 in
theorem b237_24 {d : Nat} {w : vW} {x0 x1 y0 : Int} {Q : Int → vW → Prop} : VW d 237 24 [(2, x0), (0, x1)] [(0, y0)] w Q ↔ ((0 < y0 → VW d 237 27 [(2, x0), (0, x1)] [] w Q) ∧ (¬ (0 < y0) → VW d 237 33 [(2, x0), (0, x1)] [] w Q)) :=
  (VW_b 1 (F := fun n => (if 0 < y0 then vrun n d 237 27 [(2, x0), (0, x1)] [] w else vrun n d 237 33 [(2, x0), (0, x1)] [] w)) (fun _ => rfl)).trans (EX_br.trans (and_congr (imp_congr Iff.rfl Iff.rfl) (imp_congr Iff.rfl Iff.rfl)))
set_option maxRecDepth 100000 in
theorem b237_27 {d : Nat} {w : vW} {x0 x1 : Int} {Q : Int → vW → Prop} : VW d 237 27 [(2, x0), (0, x1)] [] w Q ↔ VW d 237 2 [(2, x0), (0, w32 (x1 + 1))] [] w Q :=
  (VW_b 2 (F := fun n => vrun n d 237 2 [(2, x0), (0, w32 (x1 + 1))] [] w) (fun _ => rfl)).trans (Iff.rfl)
set_option maxRecDepth 100000 in
theorem b237_33 {d : Nat} {w : vW} {x0 x1 : Int} {Q : Int → vW → Prop} : VW d 237 33 [(2, x0), (0, x1)] [] w Q ↔ Q x1 w :=
  (VW_b 2 (F := fun n => some (0, x1, w)) (fun _ => rfl)).trans (EX_ret0)
/-! 238: StrikeWhatCancels$Reader.saying()J -/
set_option maxRecDepth 100000 in
theorem b238_0 {d : Nat} {w : vW} {x0 : Int} {Q : Int → vW → Prop} : VW d 238 0 [(2, x0), (9, 0), (9, 0), (9, 0), (9, 0)] [] w Q ↔ (vkd w x0 = 17) ∧ VC d 237 [(2, x0)] w (fun r w1 => VW d 238 4 [(2, x0), (9, 0), (9, 0), (9, 0), (9, 0)] [(0, r)] w1 Q) :=
  (VW_b 2 (F := fun n => if vkd w x0 = 17 then vclr (vrun n) d 238 4 237 1 0 [(2, x0), (9, 0), (9, 0), (9, 0), (9, 0)] [(2, x0)] w else none) (fun _ => rfl)).trans (EX_if.trans (and_congr Iff.rfl (EX_call rfl)))
set_option maxRecDepth 100000 in
theorem b238_4 {d : Nat} {w : vW} {x0 y0 : Int} {Q : Int → vW → Prop} : VW d 238 4 [(2, x0), (9, 0), (9, 0), (9, 0), (9, 0)] [(0, y0)] w Q ↔ VW d 238 10 [(2, x0), (0, y0), (1, 0), (9, 0), (0, 0)] [] w Q :=
  (VW_b 5 (F := fun n => vrun n d 238 10 [(2, x0), (0, y0), (1, 0), (9, 0), (0, 0)] [] w) (fun _ => rfl)).trans (Iff.rfl)
set_option maxRecDepth 100000 in
theorem b238_10 {d : Nat} {w : vW} {x0 x1 x2 x4 : Int} {Q : Int → vW → Prop} : VW d 238 10 [(2, x0), (0, x1), (1, x2), (9, 0), (0, x4)] [] w Q ↔ ((x4 < x1 → VW d 238 16 [(2, x0), (0, x1), (1, x2), (9, 0), (0, x4)] [] w Q) ∧ (¬ (x4 < x1) → VW d 238 37 [(2, x0), (0, x1), (1, x2), (9, 0), (0, x4)] [] w Q)) :=
  (VW_b 3 (F := fun n => (if x4 < x1 then vrun n d 238 16 [(2, x0), (0, x1), (1, x2), (9, 0), (0, x4)] [] w else vrun n d 238 37 [(2, x0), (0, x1), (1, x2), (9, 0), (0, x4)] [] w)) (fun _ => rfl)).trans (EX_br.trans (and_congr (imp_congr Iff.rfl Iff.rfl) (imp_congr Iff.rfl Iff.rfl)))
set_option maxRecDepth 100000 in
theorem b238_16 {d : Nat} {w : vW} {x0 x1 x2 x4 : Int} {Q : Int → vW → Prop} : VW d 238 16 [(2, x0), (0, x1), (1, x2), (9, 0), (0, x4)] [] w Q ↔ (vkd w x0 = 17) ∧ VC d 235 [(2, x0), (0, x4)] w (fun r w1 => VW d 238 25 [(2, x0), (0, x1), (1, x2), (9, 0), (0, x4)] [(0, r), (1, l_shl x2 4)] w1 Q) :=
  (VW_b 6 (F := fun n => if vkd w x0 = 17 then vclr (vrun n) d 238 25 235 2 0 [(2, x0), (0, x1), (1, x2), (9, 0), (0, x4)] [(0, x4), (2, x0), (1, l_shl x2 4)] w else none) (fun _ => rfl)).trans (EX_if.trans (and_congr Iff.rfl (EX_call rfl)))
set_option maxRecDepth 100000 in
theorem b238_25 {d : Nat} {w : vW} {x0 x1 x2 x4 y0 y1 : Int} {Q : Int → vW → Prop} : VW d 238 25 [(2, x0), (0, x1), (1, x2), (9, 0), (0, x4)] [(0, y1), (1, y0)] w Q ↔ VC d 236 [(0, y1)] w (fun r w1 => VW d 238 28 [(2, x0), (0, x1), (1, x2), (9, 0), (0, x4)] [(0, r), (1, y0)] w1 Q) :=
  (VW_b 1 (F := fun n => vclr (vrun n) d 238 28 236 1 0 [(2, x0), (0, x1), (1, x2), (9, 0), (0, x4)] [(0, y1), (1, y0)] w) (fun _ => rfl)).trans (EX_call rfl)
set_option maxRecDepth 100000 in
theorem b238_28 {d : Nat} {w : vW} {x0 x1 x2 x4 y0 y1 : Int} {Q : Int → vW → Prop} : VW d 238 28 [(2, x0), (0, x1), (1, x2), (9, 0), (0, x4)] [(0, y1), (1, y0)] w Q ↔ VW d 238 31 [(2, x0), (0, x1), (1, l_or y0 y1), (9, 0), (0, x4)] [] w Q :=
  (VW_b 3 (F := fun n => vrun n d 238 31 [(2, x0), (0, x1), (1, l_or y0 y1), (9, 0), (0, x4)] [] w) (fun _ => rfl)).trans (Iff.rfl)
set_option maxRecDepth 100000 in
theorem b238_31 {d : Nat} {w : vW} {x0 x1 x2 x4 : Int} {Q : Int → vW → Prop} : VW d 238 31 [(2, x0), (0, x1), (1, x2), (9, 0), (0, x4)] [] w Q ↔ VW d 238 10 [(2, x0), (0, x1), (1, x2), (9, 0), (0, w32 (x4 + 1))] [] w Q :=
  (VW_b 2 (F := fun n => vrun n d 238 10 [(2, x0), (0, x1), (1, x2), (9, 0), (0, w32 (x4 + 1))] [] w) (fun _ => rfl)).trans (Iff.rfl)
set_option maxRecDepth 100000 in
theorem b238_37 {d : Nat} {w : vW} {x0 x1 x2 x4 : Int} {Q : Int → vW → Prop} : VW d 238 37 [(2, x0), (0, x1), (1, x2), (9, 0), (0, x4)] [] w Q ↔ VC d 274 [(0, x1), (1, x2)] w (fun r w1 => VW d 238 42 [(2, x0), (0, x1), (1, x2), (9, 0), (0, x4)] [(1, r)] w1 Q) :=
  (VW_b 3 (F := fun n => vclr (vrun n) d 238 42 274 2 1 [(2, x0), (0, x1), (1, x2), (9, 0), (0, x4)] [(1, x2), (0, x1)] w) (fun _ => rfl)).trans (EX_call rfl)
set_option maxRecDepth 100000 in
theorem b238_42 {d : Nat} {w : vW} {x0 x1 x2 x4 y0 : Int} {Q : Int → vW → Prop} : VW d 238 42 [(2, x0), (0, x1), (1, x2), (9, 0), (0, x4)] [(1, y0)] w Q ↔ Q y0 w :=
  (VW_b 1 (F := fun n => some (0, y0, w)) (fun _ => rfl)).trans (EX_ret0)
/-! 239: StrikeWhatCancels$Reader.lines(I)I -/
set_option maxRecDepth 100000 in
theorem b239_0 {d : Nat} {w : vW} {x0 x1 : Int} {Q : Int → vW → Prop} : VW d 239 0 [(2, x0), (0, x1), (9, 0)] [] w Q ↔ (vkd w x0 = 17) ∧ VC d 240 [(2, x0), (0, x1)] w (fun _ w1 => VW d 239 5 [(2, x0), (0, x1), (9, 0)] [] w1 Q) :=
  (VW_b 3 (F := fun n => if vkd w x0 = 17 then vclr (vrun n) d 239 5 240 2 9 [(2, x0), (0, x1), (9, 0)] [(0, x1), (2, x0)] w else none) (fun _ => rfl)).trans (EX_if.trans (and_congr Iff.rfl (EX_call rfl)))
set_option maxRecDepth 100000 in
theorem b239_5 {d : Nat} {w : vW} {x0 x1 : Int} {Q : Int → vW → Prop} : VW d 239 5 [(2, x0), (0, x1), (9, 0)] [] w Q ↔ VW d 239 7 [(2, x0), (0, x1), (0, 0)] [] w Q :=
  (VW_b 2 (F := fun n => vrun n d 239 7 [(2, x0), (0, x1), (0, 0)] [] w) (fun _ => rfl)).trans (Iff.rfl)
set_option maxRecDepth 100000 in
theorem b239_7 {d : Nat} {w : vW} {x0 x1 x2 : Int} {Q : Int → vW → Prop} : VW d 239 7 [(2, x0), (0, x1), (0, x2)] [] w Q ↔ (vkd w x0 = 17) ∧ ((x2 < (vct w x0 1) → VW d 239 15 [(2, x0), (0, x1), (0, x2)] [] w Q) ∧ (¬ (x2 < (vct w x0 1)) → VW d 239 43 [(2, x0), (0, x1), (0, x2)] [] w Q)) :=
  (VW_b 4 (F := fun n => if vkd w x0 = 17 then (if x2 < (vct w x0 1) then vrun n d 239 15 [(2, x0), (0, x1), (0, x2)] [] w else vrun n d 239 43 [(2, x0), (0, x1), (0, x2)] [] w) else none) (fun _ => rfl)).trans (EX_if.trans (and_congr Iff.rfl (EX_br.trans (and_congr (imp_congr Iff.rfl Iff.rfl) (imp_congr Iff.rfl Iff.rfl)))))
set_option maxRecDepth 100000 in
theorem b239_15 {d : Nat} {w : vW} {x0 x1 x2 : Int} {Q : Int → vW → Prop} : VW d 239 15 [(2, x0), (0, x1), (0, x2)] [] w Q ↔ ((x2 = 76 → VW d 239 33 [(2, x0), (0, x1), (0, x2)] [] w Q) ∧ (¬ (x2 = 76) → VW d 239 21 [(2, x0), (0, x1), (0, x2)] [] w Q)) :=
  (VW_b 3 (F := fun n => (if x2 = 76 then vrun n d 239 33 [(2, x0), (0, x1), (0, x2)] [] w else vrun n d 239 21 [(2, x0), (0, x1), (0, x2)] [] w)) (fun _ => rfl)).trans (EX_br.trans (and_congr (imp_congr Iff.rfl Iff.rfl) (imp_congr Iff.rfl Iff.rfl)))
set_option maxRecDepth 100000 in
theorem b239_21 {d : Nat} {w : vW} {x0 x1 x2 : Int} {Q : Int → vW → Prop} : VW d 239 21 [(2, x0), (0, x1), (0, x2)] [] w Q ↔ (vkd w x0 = 17) ∧ VC d 235 [(2, x0), (0, x2)] w (fun r w1 => VW d 239 27 [(2, x0), (0, x1), (0, x2)] [(0, r), (2, x0)] w1 Q) :=
  (VW_b 4 (F := fun n => if vkd w x0 = 17 then vclr (vrun n) d 239 27 235 2 0 [(2, x0), (0, x1), (0, x2)] [(0, x2), (2, x0), (2, x0)] w else none) (fun _ => rfl)).trans (EX_if.trans (and_congr Iff.rfl (EX_call rfl)))
set_option maxRecDepth 100000 in
theorem b239_27 {d : Nat} {w : vW} {x0 x1 x2 y0 y1 : Int} {Q : Int → vW → Prop} : VW d 239 27 [(2, x0), (0, x1), (0, x2)] [(0, y1), (2, y0)] w Q ↔ (vkd w y0 = 17) ∧ VC d 241 [(2, y0), (0, y1)] w (fun r w1 => VW d 239 30 [(2, x0), (0, x1), (0, x2)] [(0, r)] w1 Q) :=
  (VW_b 1 (F := fun n => if vkd w y0 = 17 then vclr (vrun n) d 239 30 241 2 0 [(2, x0), (0, x1), (0, x2)] [(0, y1), (2, y0)] w else none) (fun _ => rfl)).trans (EX_if.trans (and_congr Iff.rfl (EX_call rfl)))
set_option maxRecDepth 100000 in
theorem b239_30 {d : Nat} {w : vW} {x0 x1 x2 y0 : Int} {Q : Int → vW → Prop} : VW d 239 30 [(2, x0), (0, x1), (0, x2)] [(0, y0)] w Q ↔ ((y0 = 0 → VW d 239 33 [(2, x0), (0, x1), (0, x2)] [] w Q) ∧ (¬ (y0 = 0) → VW d 239 37 [(2, x0), (0, x1), (0, x2)] [] w Q)) :=
  (VW_b 1 (F := fun n => (if y0 = 0 then vrun n d 239 33 [(2, x0), (0, x1), (0, x2)] [] w else vrun n d 239 37 [(2, x0), (0, x1), (0, x2)] [] w)) (fun _ => rfl)).trans (EX_br.trans (and_congr (imp_congr Iff.rfl Iff.rfl) (imp_congr Iff.rfl Iff.rfl)))
set_option maxRecDepth 100000 in
theorem b239_33 {d : Nat} {w : vW} {x0 x1 x2 : Int} {Q : Int → vW → Prop} : VW d 239 33 [(2, x0), (0, x1), (0, x2)] [] w Q ↔ Q (w32 ((-1) - x2)) w :=
  (VW_b 4 (F := fun n => some (0, w32 ((-1) - x2), w)) (fun _ => rfl)).trans (EX_ret0)
set_option maxRecDepth 100000 in
theorem b239_37 {d : Nat} {w : vW} {x0 x1 x2 : Int} {Q : Int → vW → Prop} : VW d 239 37 [(2, x0), (0, x1), (0, x2)] [] w Q ↔ VW d 239 7 [(2, x0), (0, x1), (0, w32 (x2 + 1))] [] w Q :=
  (VW_b 2 (F := fun n => vrun n d 239 7 [(2, x0), (0, x1), (0, w32 (x2 + 1))] [] w) (fun _ => rfl)).trans (Iff.rfl)
set_option maxRecDepth 100000 in
theorem b239_43 {d : Nat} {w : vW} {x0 x1 x2 : Int} {Q : Int → vW → Prop} : VW d 239 43 [(2, x0), (0, x1), (0, x2)] [] w Q ↔ (vkd w x0 = 17) ∧ ((0 < (vct w x0 1) → VW d 239 50 [(2, x0), (0, x1), (0, x2)] [] w Q) ∧ (¬ (0 < (vct w x0 1)) → VW d 239 64 [(2, x0), (0, x1), (0, x2)] [] w Q)) :=
  (VW_b 3 (F := fun n => if vkd w x0 = 17 then (if 0 < (vct w x0 1) then vrun n d 239 50 [(2, x0), (0, x1), (0, x2)] [] w else vrun n d 239 64 [(2, x0), (0, x1), (0, x2)] [] w) else none) (fun _ => rfl)).trans (EX_if.trans (and_congr Iff.rfl (EX_br.trans (and_congr (imp_congr Iff.rfl Iff.rfl) (imp_congr Iff.rfl Iff.rfl)))))
set_option maxRecDepth 100000 in
theorem b239_50 {d : Nat} {w : vW} {x0 x1 x2 : Int} {Q : Int → vW → Prop} : VW d 239 50 [(2, x0), (0, x1), (0, x2)] [] w Q ↔ (vkd w x0 = 17) ∧ VC d 246 [(2, x0)] w (fun r w1 => VW d 239 54 [(2, x0), (0, x1), (0, x2)] [(0, r)] w1 Q) :=
  (VW_b 2 (F := fun n => if vkd w x0 = 17 then vclr (vrun n) d 239 54 246 1 0 [(2, x0), (0, x1), (0, x2)] [(2, x0)] w else none) (fun _ => rfl)).trans (EX_if.trans (and_congr Iff.rfl (EX_call rfl)))
set_option maxRecDepth 100000 in
theorem b239_54 {d : Nat} {w : vW} {x0 x1 x2 y0 : Int} {Q : Int → vW → Prop} : VW d 239 54 [(2, x0), (0, x1), (0, x2)] [(0, y0)] w Q ↔ ((y0 = 0 → VW d 239 57 [(2, x0), (0, x1), (0, x2)] [] w Q) ∧ (¬ (y0 = 0) → VW d 239 64 [(2, x0), (0, x1), (0, x2)] [] w Q)) :=
  (VW_b 1 (F := fun n => (if y0 = 0 then vrun n d 239 57 [(2, x0), (0, x1), (0, x2)] [] w else vrun n d 239 64 [(2, x0), (0, x1), (0, x2)] [] w)) (fun _ => rfl)).trans (EX_br.trans (and_congr (imp_congr Iff.rfl Iff.rfl) (imp_congr Iff.rfl Iff.rfl)))
set_option maxRecDepth 100000 in
theorem b239_57 {d : Nat} {w : vW} {x0 x1 x2 : Int} {Q : Int → vW → Prop} : VW d 239 57 [(2, x0), (0, x1), (0, x2)] [] w Q ↔ (vkd w x0 = 17) ∧ Q (w32 ((-1) - (vct w x0 1))) w :=
  (VW_b 5 (F := fun n => if vkd w x0 = 17 then some (0, w32 ((-1) - (vct w x0 1)), w) else none) (fun _ => rfl)).trans (EX_if.trans (and_congr Iff.rfl (EX_ret0)))
set_option maxRecDepth 100000 in
theorem b239_64 {d : Nat} {w : vW} {x0 x1 x2 : Int} {Q : Int → vW → Prop} : VW d 239 64 [(2, x0), (0, x1), (0, x2)] [] w Q ↔ (vkd w x0 = 17) ∧ Q (vct w x0 6) w :=
  (VW_b 3 (F := fun n => if vkd w x0 = 17 then some (0, vct w x0 6, w) else none) (fun _ => rfl)).trans (EX_if.trans (and_congr Iff.rfl (EX_ret0)))
/-! 240: StrikeWhatCancels$Reader.begin(I)V -/
set_option maxRecDepth 100000 in
theorem b240_0 {d : Nat} {w : vW} {x0 x1 : Int} {Q : Int → vW → Prop} : VW d 240 0 [(2, x0), (0, x1), (9, 0)] [] w Q ↔ (vkd w x0 = 17) ∧ (vkd w (vct w x0 2) = 18) ∧ VC d 254 [(2, vct w x0 2)] w (fun _ w1 => VW d 240 7 [(2, x0), (0, x1), (9, 0)] [] w1 Q) :=
  (VW_b 3 (F := fun n => if vkd w x0 = 17 then if vkd w (vct w x0 2) = 18 then vclr (vrun n) d 240 7 254 1 9 [(2, x0), (0, x1), (9, 0)] [(2, vct w x0 2)] w else none else none) (fun _ => rfl)).trans (EX_if.trans (and_congr Iff.rfl (EX_if.trans (and_congr Iff.rfl (EX_call rfl)))))
set_option maxRecDepth 100000 in
theorem b240_7 {d : Nat} {w : vW} {x0 x1 : Int} {Q : Int → vW → Prop} : VW d 240 7 [(2, x0), (0, x1), (9, 0)] [] w Q ↔ VW d 240 9 [(2, x0), (0, x1), (0, 0)] [] w Q :=
  (VW_b 2 (F := fun n => vrun n d 240 9 [(2, x0), (0, x1), (0, 0)] [] w) (fun _ => rfl)).trans (Iff.rfl)
set_option maxRecDepth 100000 in
theorem b240_9 {d : Nat} {w : vW} {x0 x1 x2 : Int} {Q : Int → vW → Prop} : VW d 240 9 [(2, x0), (0, x1), (0, x2)] [] w Q ↔ (vkd w x0 = 17) ∧ (vkd w (vct w x0 3) = 1) ∧ ((x2 < (vln w (vct w x0 3)) → VW d 240 18 [(2, x0), (0, x1), (0, x2)] [] w Q) ∧ (¬ (x2 < (vln w (vct w x0 3))) → VW d 240 31 [(2, x0), (0, x1), (0, x2)] [] w Q)) :=
  (VW_b 5 (F := fun n => if vkd w x0 = 17 then if vkd w (vct w x0 3) = 1 then (if x2 < (vln w (vct w x0 3)) then vrun n d 240 18 [(2, x0), (0, x1), (0, x2)] [] w else vrun n d 240 31 [(2, x0), (0, x1), (0, x2)] [] w) else none else none) (fun _ => rfl)).trans (EX_if.trans (and_congr Iff.rfl (EX_if.trans (and_congr Iff.rfl (EX_br.trans (and_congr (imp_congr Iff.rfl Iff.rfl) (imp_congr Iff.rfl Iff.rfl)))))))
set_option maxRecDepth 100000 in
theorem b240_18 {d : Nat} {w : vW} {x0 x1 x2 : Int} {Q : Int → vW → Prop} : VW d 240 18 [(2, x0), (0, x1), (0, x2)] [] w Q ↔ (vkd w x0 = 17) ∧ (vkd w (vct w x0 3) = 1 ∧ (0 : Int) ≤ x2 ∧ x2 < vln w (vct w x0 3)) ∧ VW d 240 25 [(2, x0), (0, x1), (0, x2)] [] (vsv w (vct w x0 3) x2 0) Q :=
  (VW_b 5 (F := fun n => if vkd w x0 = 17 then if vkd w (vct w x0 3) = 1 ∧ (0 : Int) ≤ x2 ∧ x2 < vln w (vct w x0 3) then vrun n d 240 25 [(2, x0), (0, x1), (0, x2)] [] (vsv w (vct w x0 3) x2 0) else none else none) (fun _ => rfl)).trans (EX_if.trans (and_congr Iff.rfl (EX_if.trans (and_congr Iff.rfl (Iff.rfl)))))
set_option maxRecDepth 100000 in
theorem b240_25 {d : Nat} {w : vW} {x0 x1 x2 : Int} {Q : Int → vW → Prop} : VW d 240 25 [(2, x0), (0, x1), (0, x2)] [] w Q ↔ VW d 240 9 [(2, x0), (0, x1), (0, w32 (x2 + 1))] [] w Q :=
  (VW_b 2 (F := fun n => vrun n d 240 9 [(2, x0), (0, x1), (0, w32 (x2 + 1))] [] w) (fun _ => rfl)).trans (Iff.rfl)
set_option maxRecDepth 100000 in
theorem b240_31 {d : Nat} {w : vW} {x0 x1 x2 : Int} {Q : Int → vW → Prop} : VW d 240 31 [(2, x0), (0, x1), (0, x2)] [] w Q ↔ (vkd w x0 = 17) ∧ VW d 240 39 [(2, x0), (0, x1), (0, x2)] [] (vsv w x0 5 (w32 (12 - x1))) Q :=
  (VW_b 5 (F := fun n => if vkd w x0 = 17 then vrun n d 240 39 [(2, x0), (0, x1), (0, x2)] [] (vsv w x0 5 (w32 (12 - x1))) else none) (fun _ => rfl)).trans (EX_if.trans (and_congr Iff.rfl (Iff.rfl)))
set_option maxRecDepth 100000 in
theorem b240_39 {d : Nat} {w : vW} {x0 x1 x2 : Int} {Q : Int → vW → Prop} : VW d 240 39 [(2, x0), (0, x1), (0, x2)] [] w Q ↔ (vkd w x0 = 17) ∧ VW d 240 44 [(2, x0), (0, x1), (0, x2)] [] (vsv w x0 6 0) Q :=
  (VW_b 3 (F := fun n => if vkd w x0 = 17 then vrun n d 240 44 [(2, x0), (0, x1), (0, x2)] [] (vsv w x0 6 0) else none) (fun _ => rfl)).trans (EX_if.trans (and_congr Iff.rfl (Iff.rfl)))
set_option maxRecDepth 100000 in
theorem b240_44 {d : Nat} {w : vW} {x0 x1 x2 : Int} {Q : Int → vW → Prop} : VW d 240 44 [(2, x0), (0, x1), (0, x2)] [] w Q ↔ (vkd w x0 = 17) ∧ VW d 240 49 [(2, x0), (0, x1), (0, x2)] [] (vsv w x0 4 0) Q :=
  (VW_b 3 (F := fun n => if vkd w x0 = 17 then vrun n d 240 49 [(2, x0), (0, x1), (0, x2)] [] (vsv w x0 4 0) else none) (fun _ => rfl)).trans (EX_if.trans (and_congr Iff.rfl (Iff.rfl)))
set_option maxRecDepth 100000 in
theorem b240_49 {d : Nat} {w : vW} {x0 x1 x2 : Int} {Q : Int → vW → Prop} : VW d 240 49 [(2, x0), (0, x1), (0, x2)] [] w Q ↔ Q 0 w :=
  (VW_b 1 (F := fun n => some (0, 0, w)) (fun _ => rfl)).trans (EX_ret0)
