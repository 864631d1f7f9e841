/-! 0: StrikeWhatCancels.<init>()V -/
set_option maxRecDepth 100000 in
theorem b0_0 {d : Nat} {w : vW} {x0 : Int} {Q : Int → vW → Prop} : VW d 0 0 [(2, x0)] [] w Q ↔ (vkd w x0 ≠ 0) ∧ VW d 0 8 [(2, x0)] [(2, vnt w), (2, x0)] (vnw w 18 7 (vdfl 18) 7) Q :=
  (VW_b 4 (F := fun n => if vkd w x0 ≠ 0 then vrun n d 0 8 [(2, x0)] [(2, vnt w), (2, x0)] (vnw w 18 7 (vdfl 18) 7) else none) (fun _ => rfl)).trans (EX_if.trans (and_congr Iff.rfl (Iff.rfl)))
set_option maxRecDepth 100000 in
theorem b0_8 {d : Nat} {w : vW} {x0 y0 y1 : Int} {Q : Int → vW → Prop} : VW d 0 8 [(2, x0)] [(2, y1), (2, y0)] w Q ↔ (vkd w y1 = 18) ∧ VC d 248 [(2, y1)] w (fun _ w1 => VW d 0 12 [(2, x0)] [(2, y1), (2, y0)] w1 Q) :=
  (VW_b 2 (F := fun n => if vkd w y1 = 18 then vclr (vrun n) d 0 12 248 1 9 [(2, x0)] [(2, y1), (2, y1), (2, y0)] w else none) (fun _ => rfl)).trans (EX_if.trans (and_congr Iff.rfl (EX_call rfl)))
set_option maxRecDepth 100000 in
theorem b0_12 {d : Nat} {w : vW} {x0 y0 y1 : Int} {Q : Int → vW → Prop} : VW d 0 12 [(2, x0)] [(2, y1), (2, y0)] w Q ↔ (vkd w y0 = 21) ∧ VW d 0 15 [(2, x0)] [] (vsv w y0 0 y1) Q :=
  (VW_b 1 (F := fun n => if vkd w y0 = 21 then vrun n d 0 15 [(2, x0)] [] (vsv w y0 0 y1) else none) (fun _ => rfl)).trans (EX_if.trans (and_congr Iff.rfl (Iff.rfl)))
set_option maxRecDepth 100000 in
theorem b0_15 {d : Nat} {w : vW} {x0 : Int} {Q : Int → vW → Prop} : VW d 0 15 [(2, x0)] [] w Q ↔ VW d 0 19 [(2, x0)] [(2, vnt w), (2, x0)] (vnw w 17 9 (vdfl 17) 9) Q :=
  (VW_b 2 (F := fun n => vrun n d 0 19 [(2, x0)] [(2, vnt w), (2, x0)] (vnw w 17 9 (vdfl 17) 9)) (fun _ => rfl)).trans (Iff.rfl)
set_option maxRecDepth 100000 in
theorem b0_19 {d : Nat} {w : vW} {x0 y0 y1 : Int} {Q : Int → vW → Prop} : VW d 0 19 [(2, x0)] [(2, y1), (2, y0)] w Q ↔ (vkd w y1 = 17) ∧ VC d 232 [(2, y1)] w (fun _ w1 => VW d 0 23 [(2, x0)] [(2, y1), (2, y0)] w1 Q) :=
  (VW_b 2 (F := fun n => if vkd w y1 = 17 then vclr (vrun n) d 0 23 232 1 9 [(2, x0)] [(2, y1), (2, y1), (2, y0)] w else none) (fun _ => rfl)).trans (EX_if.trans (and_congr Iff.rfl (EX_call rfl)))
set_option maxRecDepth 100000 in
theorem b0_23 {d : Nat} {w : vW} {x0 y0 y1 : Int} {Q : Int → vW → Prop} : VW d 0 23 [(2, x0)] [(2, y1), (2, y0)] w Q ↔ (vkd w y0 = 21) ∧ VW d 0 26 [(2, x0)] [] (vsv w y0 1 y1) Q :=
  (VW_b 1 (F := fun n => if vkd w y0 = 21 then vrun n d 0 26 [(2, x0)] [] (vsv w y0 1 y1) else none) (fun _ => rfl)).trans (EX_if.trans (and_congr Iff.rfl (Iff.rfl)))
set_option maxRecDepth 100000 in
theorem b0_26 {d : Nat} {w : vW} {x0 : Int} {Q : Int → vW → Prop} : VW d 0 26 [(2, x0)] [] w Q ↔ VW d 0 30 [(2, x0)] [(2, vnt w), (2, x0)] (vnw w 20 2 (vdfl 20) 2) Q :=
  (VW_b 2 (F := fun n => vrun n d 0 30 [(2, x0)] [(2, vnt w), (2, x0)] (vnw w 20 2 (vdfl 20) 2)) (fun _ => rfl)).trans (Iff.rfl)
set_option maxRecDepth 100000 in
theorem b0_30 {d : Nat} {w : vW} {x0 y0 y1 : Int} {Q : Int → vW → Prop} : VW d 0 30 [(2, x0)] [(2, y1), (2, y0)] w Q ↔ (vkd w y1 = 20) ∧ VC d 290 [(2, y1)] w (fun _ w1 => VW d 0 34 [(2, x0)] [(2, y1), (2, y0)] w1 Q) :=
  (VW_b 2 (F := fun n => if vkd w y1 = 20 then vclr (vrun n) d 0 34 290 1 9 [(2, x0)] [(2, y1), (2, y1), (2, y0)] w else none) (fun _ => rfl)).trans (EX_if.trans (and_congr Iff.rfl (EX_call rfl)))
set_option maxRecDepth 100000 in
theorem b0_34 {d : Nat} {w : vW} {x0 y0 y1 : Int} {Q : Int → vW → Prop} : VW d 0 34 [(2, x0)] [(2, y1), (2, y0)] w Q ↔ (vkd w y0 = 21) ∧ VW d 0 37 [(2, x0)] [] (vsv w y0 2 y1) Q :=
  (VW_b 1 (F := fun n => if vkd w y0 = 21 then vrun n d 0 37 [(2, x0)] [] (vsv w y0 2 y1) else none) (fun _ => rfl)).trans (EX_if.trans (and_congr Iff.rfl (Iff.rfl)))
set_option maxRecDepth 100000 in
theorem b0_37 {d : Nat} {w : vW} {x0 : Int} {Q : Int → vW → Prop} : VW d 0 37 [(2, x0)] [] w Q ↔ VW d 0 41 [(2, x0)] [(2, vnt w), (2, x0)] (vnw w 12 6 (vdfl 12) 6) Q :=
  (VW_b 2 (F := fun n => vrun n d 0 41 [(2, x0)] [(2, vnt w), (2, x0)] (vnw w 12 6 (vdfl 12) 6)) (fun _ => rfl)).trans (Iff.rfl)
set_option maxRecDepth 100000 in
theorem b0_41 {d : Nat} {w : vW} {x0 y0 y1 : Int} {Q : Int → vW → Prop} : VW d 0 41 [(2, x0)] [(2, y1), (2, y0)] w Q ↔ (vkd w y1 = 12) ∧ VC d 172 [(2, y1)] w (fun _ w1 => VW d 0 45 [(2, x0)] [(2, y1), (2, y0)] w1 Q) :=
  (VW_b 2 (F := fun n => if vkd w y1 = 12 then vclr (vrun n) d 0 45 172 1 9 [(2, x0)] [(2, y1), (2, y1), (2, y0)] w else none) (fun _ => rfl)).trans (EX_if.trans (and_congr Iff.rfl (EX_call rfl)))
set_option maxRecDepth 100000 in
theorem b0_45 {d : Nat} {w : vW} {x0 y0 y1 : Int} {Q : Int → vW → Prop} : VW d 0 45 [(2, x0)] [(2, y1), (2, y0)] w Q ↔ (vkd w y0 = 21) ∧ VW d 0 48 [(2, x0)] [] (vsv w y0 3 y1) Q :=
  (VW_b 1 (F := fun n => if vkd w y0 = 21 then vrun n d 0 48 [(2, x0)] [] (vsv w y0 3 y1) else none) (fun _ => rfl)).trans (EX_if.trans (and_congr Iff.rfl (Iff.rfl)))
set_option maxRecDepth 100000 in
theorem b0_48 {d : Nat} {w : vW} {x0 : Int} {Q : Int → vW → Prop} : VW d 0 48 [(2, x0)] [] w Q ↔ VW d 0 53 [(2, x0)] [(2, vnt w), (2, x0)] (vnw w 4 3 (fun _ => -1) (3 : Int).toNat) Q :=
  (VW_b 3 (F := fun n => vrun n d 0 53 [(2, x0)] [(2, vnt w), (2, x0)] (vnw w 4 3 (fun _ => -1) (3 : Int).toNat)) (fun _ => rfl)).trans (Iff.rfl)
set_option maxRecDepth 100000 in
theorem b0_53 {d : Nat} {w : vW} {x0 y0 y1 : Int} {Q : Int → vW → Prop} : VW d 0 53 [(2, x0)] [(2, y1), (2, y0)] w Q ↔ VW d 0 58 [(2, x0)] [(2, vnt w), (0, 0), (2, y1), (2, y1), (2, y0)] (vnw w 12 6 (vdfl 12) 6) Q :=
  (VW_b 3 (F := fun n => vrun n d 0 58 [(2, x0)] [(2, vnt w), (0, 0), (2, y1), (2, y1), (2, y0)] (vnw w 12 6 (vdfl 12) 6)) (fun _ => rfl)).trans (Iff.rfl)
set_option maxRecDepth 100000 in
theorem b0_58 {d : Nat} {w : vW} {x0 y0 y1 y2 y3 y4 : Int} {Q : Int → vW → Prop} : VW d 0 58 [(2, x0)] [(2, y4), (0, y3), (2, y2), (2, y1), (2, y0)] w Q ↔ (vkd w y4 = 12) ∧ VC d 172 [(2, y4)] w (fun _ w1 => VW d 0 62 [(2, x0)] [(2, y4), (0, y3), (2, y2), (2, y1), (2, y0)] w1 Q) :=
  (VW_b 2 (F := fun n => if vkd w y4 = 12 then vclr (vrun n) d 0 62 172 1 9 [(2, x0)] [(2, y4), (2, y4), (0, y3), (2, y2), (2, y1), (2, y0)] w else none) (fun _ => rfl)).trans (EX_if.trans (and_congr Iff.rfl (EX_call rfl)))
set_option maxRecDepth 100000 in
theorem b0_62 {d : Nat} {w : vW} {x0 y0 y1 y2 y3 y4 : Int} {Q : Int → vW → Prop} : VW d 0 62 [(2, x0)] [(2, y4), (0, y3), (2, y2), (2, y1), (2, y0)] w Q ↔ (vkd w y2 = 4 ∧ (0 : Int) ≤ y3 ∧ y3 < vln w y2 ∧ vkd w y4 = 12) ∧ VW d 0 63 [(2, x0)] [(2, y1), (2, y0)] (vsv w y2 y3 y4) Q :=
  (VW_b 1 (F := fun n => if vkd w y2 = 4 ∧ (0 : Int) ≤ y3 ∧ y3 < vln w y2 ∧ vkd w y4 = 12 then vrun n d 0 63 [(2, x0)] [(2, y1), (2, y0)] (vsv w y2 y3 y4) else none) (fun _ => rfl)).trans (EX_if.trans (and_congr Iff.rfl (Iff.rfl)))
set_option maxRecDepth 100000 in
theorem b0_63 {d : Nat} {w : vW} {x0 y0 y1 : Int} {Q : Int → vW → Prop} : VW d 0 63 [(2, x0)] [(2, y1), (2, y0)] w Q ↔ VW d 0 68 [(2, x0)] [(2, vnt w), (0, 1), (2, y1), (2, y1), (2, y0)] (vnw w 12 6 (vdfl 12) 6) Q :=
  (VW_b 3 (F := fun n => vrun n d 0 68 [(2, x0)] [(2, vnt w), (0, 1), (2, y1), (2, y1), (2, y0)] (vnw w 12 6 (vdfl 12) 6)) (fun _ => rfl)).trans (Iff.rfl)
set_option maxRecDepth 100000 in
theorem b0_68 {d : Nat} {w : vW} {x0 y0 y1 y2 y3 y4 : Int} {Q : Int → vW → Prop} : VW d 0 68 [(2, x0)] [(2, y4), (0, y3), (2, y2), (2, y1), (2, y0)] w Q ↔ (vkd w y4 = 12) ∧ VC d 172 [(2, y4)] w (fun _ w1 => VW d 0 72 [(2, x0)] [(2, y4), (0, y3), (2, y2), (2, y1), (2, y0)] w1 Q) :=
  (VW_b 2 (F := fun n => if vkd w y4 = 12 then vclr (vrun n) d 0 72 172 1 9 [(2, x0)] [(2, y4), (2, y4), (0, y3), (2, y2), (2, y1), (2, y0)] w else none) (fun _ => rfl)).trans (EX_if.trans (and_congr Iff.rfl (EX_call rfl)))
set_option maxRecDepth 100000 in
theorem b0_72 {d : Nat} {w : vW} {x0 y0 y1 y2 y3 y4 : Int} {Q : Int → vW → Prop} : VW d 0 72 [(2, x0)] [(2, y4), (0, y3), (2, y2), (2, y1), (2, y0)] w Q ↔ (vkd w y2 = 4 ∧ (0 : Int) ≤ y3 ∧ y3 < vln w y2 ∧ vkd w y4 = 12) ∧ VW d 0 73 [(2, x0)] [(2, y1), (2, y0)] (vsv w y2 y3 y4) Q :=
  (VW_b 1 (F := fun n => if vkd w y2 = 4 ∧ (0 : Int) ≤ y3 ∧ y3 < vln w y2 ∧ vkd w y4 = 12 then vrun n d 0 73 [(2, x0)] [(2, y1), (2, y0)] (vsv w y2 y3 y4) else none) (fun _ => rfl)).trans (EX_if.trans (and_congr Iff.rfl (Iff.rfl)))
set_option maxRecDepth 100000 in
theorem b0_73 {d : Nat} {w : vW} {x0 y0 y1 : Int} {Q : Int → vW → Prop} : VW d 0 73 [(2, x0)] [(2, y1), (2, y0)] w Q ↔ VW d 0 78 [(2, x0)] [(2, vnt w), (0, 2), (2, y1), (2, y1), (2, y0)] (vnw w 12 6 (vdfl 12) 6) Q :=
  (VW_b 3 (F := fun n => vrun n d 0 78 [(2, x0)] [(2, vnt w), (0, 2), (2, y1), (2, y1), (2, y0)] (vnw w 12 6 (vdfl 12) 6)) (fun _ => rfl)).trans (Iff.rfl)
set_option maxRecDepth 100000 in
theorem b0_78 {d : Nat} {w : vW} {x0 y0 y1 y2 y3 y4 : Int} {Q : Int → vW → Prop} : VW d 0 78 [(2, x0)] [(2, y4), (0, y3), (2, y2), (2, y1), (2, y0)] w Q ↔ (vkd w y4 = 12) ∧ VC d 172 [(2, y4)] w (fun _ w1 => VW d 0 82 [(2, x0)] [(2, y4), (0, y3), (2, y2), (2, y1), (2, y0)] w1 Q) :=
  (VW_b 2 (F := fun n => if vkd w y4 = 12 then vclr (vrun n) d 0 82 172 1 9 [(2, x0)] [(2, y4), (2, y4), (0, y3), (2, y2), (2, y1), (2, y0)] w else none) (fun _ => rfl)).trans (EX_if.trans (and_congr Iff.rfl (EX_call rfl)))
set_option maxRecDepth 100000 in
theorem b0_82 {d : Nat} {w : vW} {x0 y0 y1 y2 y3 y4 : Int} {Q : Int → vW → Prop} : VW d 0 82 [(2, x0)] [(2, y4), (0, y3), (2, y2), (2, y1), (2, y0)] w Q ↔ (vkd w y2 = 4 ∧ (0 : Int) ≤ y3 ∧ y3 < vln w y2 ∧ vkd w y4 = 12) ∧ VW d 0 83 [(2, x0)] [(2, y1), (2, y0)] (vsv w y2 y3 y4) Q :=
  (VW_b 1 (F := fun n => if vkd w y2 = 4 ∧ (0 : Int) ≤ y3 ∧ y3 < vln w y2 ∧ vkd w y4 = 12 then vrun n d 0 83 [(2, x0)] [(2, y1), (2, y0)] (vsv w y2 y3 y4) else none) (fun _ => rfl)).trans (EX_if.trans (and_congr Iff.rfl (Iff.rfl)))
set_option maxRecDepth 100000 in
theorem b0_83 {d : Nat} {w : vW} {x0 y0 y1 : Int} {Q : Int → vW → Prop} : VW d 0 83 [(2, x0)] [(2, y1), (2, y0)] w Q ↔ (vkd w y0 = 21) ∧ VW d 0 86 [(2, x0)] [] (vsv w y0 4 y1) Q :=
  (VW_b 1 (F := fun n => if vkd w y0 = 21 then vrun n d 0 86 [(2, x0)] [] (vsv w y0 4 y1) else none) (fun _ => rfl)).trans (EX_if.trans (and_congr Iff.rfl (Iff.rfl)))
set_option maxRecDepth 100000 in
theorem b0_86 {d : Nat} {w : vW} {x0 : Int} {Q : Int → vW → Prop} : VW d 0 86 [(2, x0)] [] w Q ↔ VW d 0 91 [(2, x0)] [(2, vnt w), (2, x0)] (vnw w 2 64 (fun _ => 0) (64 : Int).toNat) Q :=
  (VW_b 3 (F := fun n => vrun n d 0 91 [(2, x0)] [(2, vnt w), (2, x0)] (vnw w 2 64 (fun _ => 0) (64 : Int).toNat)) (fun _ => rfl)).trans (Iff.rfl)
set_option maxRecDepth 100000 in
theorem b0_91 {d : Nat} {w : vW} {x0 y0 y1 : Int} {Q : Int → vW → Prop} : VW d 0 91 [(2, x0)] [(2, y1), (2, y0)] w Q ↔ (vkd w y0 = 21) ∧ VW d 0 94 [(2, x0)] [] (vsv w y0 5 y1) Q :=
  (VW_b 1 (F := fun n => if vkd w y0 = 21 then vrun n d 0 94 [(2, x0)] [] (vsv w y0 5 y1) else none) (fun _ => rfl)).trans (EX_if.trans (and_congr Iff.rfl (Iff.rfl)))
set_option maxRecDepth 100000 in
theorem b0_94 {d : Nat} {w : vW} {x0 : Int} {Q : Int → vW → Prop} : VW d 0 94 [(2, x0)] [] w Q ↔ (vkd w x0 = 21) ∧ VW d 0 99 [(2, x0)] [] (vsv w x0 6 0) Q :=
  (VW_b 3 (F := fun n => if vkd w x0 = 21 then vrun n d 0 99 [(2, x0)] [] (vsv w x0 6 0) else none) (fun _ => rfl)).trans (EX_if.trans (and_congr Iff.rfl (Iff.rfl)))
set_option maxRecDepth 100000 in
theorem b0_99 {d : Nat} {w : vW} {x0 : Int} {Q : Int → vW → Prop} : VW d 0 99 [(2, x0)] [] w Q ↔ (vkd w x0 = 21) ∧ VW d 0 104 [(2, x0)] [] (vsv w x0 7 0) Q :=
  (VW_b 3 (F := fun n => if vkd w x0 = 21 then vrun n d 0 104 [(2, x0)] [] (vsv w x0 7 0) else none) (fun _ => rfl)).trans (EX_if.trans (and_congr Iff.rfl (Iff.rfl)))
set_option maxRecDepth 100000 in
theorem b0_104 {d : Nat} {w : vW} {x0 : Int} {Q : Int → vW → Prop} : VW d 0 104 [(2, x0)] [] w Q ↔ (vkd w x0 = 21) ∧ VW d 0 109 [(2, x0)] [] (vsv w x0 8 (-1)) Q :=
  (VW_b 3 (F := fun n => if vkd w x0 = 21 then vrun n d 0 109 [(2, x0)] [] (vsv w x0 8 (-1)) else none) (fun _ => rfl)).trans (EX_if.trans (and_congr Iff.rfl (Iff.rfl)))
set_option maxRecDepth 100000 in
theorem b0_109 {d : Nat} {w : vW} {x0 : Int} {Q : Int → vW → Prop} : VW d 0 109 [(2, x0)] [] w Q ↔ (vkd w x0 = 21) ∧ VW d 0 114 [(2, x0)] [] (vsv w x0 9 (-1)) Q :=
  (VW_b 3 (F := fun n => if vkd w x0 = 21 then vrun n d 0 114 [(2, x0)] [] (vsv w x0 9 (-1)) else none) (fun _ => rfl)).trans (EX_if.trans (and_congr Iff.rfl (Iff.rfl)))
set_option maxRecDepth 100000 in
theorem b0_114 {d : Nat} {w : vW} {x0 : Int} {Q : Int → vW → Prop} : VW d 0 114 [(2, x0)] [] w Q ↔ (vkd w x0 = 21) ∧ VW d 0 119 [(2, x0)] [] (vsv w x0 10 (-1)) Q :=
  (VW_b 3 (F := fun n => if vkd w x0 = 21 then vrun n d 0 119 [(2, x0)] [] (vsv w x0 10 (-1)) else none) (fun _ => rfl)).trans (EX_if.trans (and_congr Iff.rfl (Iff.rfl)))
set_option maxRecDepth 100000 in
theorem b0_119 {d : Nat} {w : vW} {x0 : Int} {Q : Int → vW → Prop} : VW d 0 119 [(2, x0)] [] w Q ↔ (vkd w x0 = 21) ∧ VW d 0 124 [(2, x0)] [] (vsv w x0 11 (-1)) Q :=
  (VW_b 3 (F := fun n => if vkd w x0 = 21 then vrun n d 0 124 [(2, x0)] [] (vsv w x0 11 (-1)) else none) (fun _ => rfl)).trans (EX_if.trans (and_congr Iff.rfl (Iff.rfl)))
set_option maxRecDepth 100000 in
theorem b0_124 {d : Nat} {w : vW} {x0 : Int} {Q : Int → vW → Prop} : VW d 0 124 [(2, x0)] [] w Q ↔ (vkd w x0 = 21) ∧ VW d 0 129 [(2, x0)] [] (vsv w x0 12 (-1)) Q :=
  (VW_b 3 (F := fun n => if vkd w x0 = 21 then vrun n d 0 129 [(2, x0)] [] (vsv w x0 12 (-1)) else none) (fun _ => rfl)).trans (EX_if.trans (and_congr Iff.rfl (Iff.rfl)))
set_option maxRecDepth 100000 in
theorem b0_129 {d : Nat} {w : vW} {x0 : Int} {Q : Int → vW → Prop} : VW d 0 129 [(2, x0)] [] w Q ↔ (vkd w x0 = 21) ∧ VW d 0 134 [(2, x0)] [] (vsv w x0 13 (-1)) Q :=
  (VW_b 3 (F := fun n => if vkd w x0 = 21 then vrun n d 0 134 [(2, x0)] [] (vsv w x0 13 (-1)) else none) (fun _ => rfl)).trans (EX_if.trans (and_congr Iff.rfl (Iff.rfl)))
set_option maxRecDepth 100000 in
theorem b0_134 {d : Nat} {w : vW} {x0 : Int} {Q : Int → vW → Prop} : VW d 0 134 [(2, x0)] [] w Q ↔ VW d 0 139 [(2, x0)] [(2, vnt w), (2, x0)] (vnw w 5 3 (fun _ => -1) (3 : Int).toNat) Q :=
  (VW_b 3 (F := fun n => vrun n d 0 139 [(2, x0)] [(2, vnt w), (2, x0)] (vnw w 5 3 (fun _ => -1) (3 : Int).toNat)) (fun _ => rfl)).trans (Iff.rfl)
set_option maxRecDepth 100000 in
theorem b0_139 {d : Nat} {w : vW} {x0 y0 y1 : Int} {Q : Int → vW → Prop} : VW d 0 139 [(2, x0)] [(2, y1), (2, y0)] w Q ↔ (vkd w y0 = 21) ∧ VW d 0 142 [(2, x0)] [] (vsv w y0 14 y1) Q :=
  (VW_b 1 (F := fun n => if vkd w y0 = 21 then vrun n d 0 142 [(2, x0)] [] (vsv w y0 14 y1) else none) (fun _ => rfl)).trans (EX_if.trans (and_congr Iff.rfl (Iff.rfl)))
set_option maxRecDepth 100000 in
theorem b0_142 {d : Nat} {w : vW} {x0 : Int} {Q : Int → vW → Prop} : VW d 0 142 [(2, x0)] [] w Q ↔ Q 0 w :=
  (VW_b 1 (F := fun n => some (0, 0, w)) (fun _ => rfl)).trans (EX_ret0)
/-! 1: StrikeWhatCancels.sign(I)I -/
set_option maxRecDepth 100000 in
theorem b1_0 {d : Nat} {w : vW} {x0 x1 : Int} {Q : Int → vW → Prop} : VW d 1 0 [(2, x0), (0, x1)] [] w Q ↔ (vkd w x0 = 21) ∧ (vkd w (vct w x0 1) = 17) ∧ VC d 233 [(2, vct w x0 1), (0, x1)] w (fun r w1 => VW d 1 8 [(2, x0), (0, x1)] [(0, r)] w1 Q) :=
  (VW_b 4 (F := fun n => if vkd w x0 = 21 then if vkd w (vct w x0 1) = 17 then vclr (vrun n) d 1 8 233 2 0 [(2, x0), (0, x1)] [(0, x1), (2, vct w x0 1)] w else none else none) (fun _ => rfl)).trans (EX_if.trans (and_congr Iff.rfl (EX_if.trans (and_congr Iff.rfl (EX_call rfl)))))
set_option maxRecDepth 100000 in
theorem b1_8 {d : Nat} {w : vW} {x0 x1 y0 : Int} {Q : Int → vW → Prop} : VW d 1 8 [(2, x0), (0, x1)] [(0, y0)] w Q ↔ ((y0 = 0 → VW d 1 21 [(2, x0), (0, x1)] [] w Q) ∧ (¬ (y0 = 0) → VW d 1 11 [(2, x0), (0, x1)] [] w Q)) :=
  (VW_b 1 (F := fun n => (if y0 = 0 then vrun n d 1 21 [(2, x0), (0, x1)] [] w else vrun n d 1 11 [(2, x0), (0, x1)] [] w)) (fun _ => rfl)).trans (EX_br.trans (and_congr (imp_congr Iff.rfl Iff.rfl) (imp_congr Iff.rfl Iff.rfl)))
set_option maxRecDepth 100000 in
theorem b1_11 {d : Nat} {w : vW} {x0 x1 : Int} {Q : Int → vW → Prop} : VW d 1 11 [(2, x0), (0, x1)] [] w Q ↔ (vkd w x0 = 21) ∧ (vkd w (vct w x0 1) = 17) ∧ VW d 1 22 [(2, x0), (0, x1)] [(0, vct w (vct w x0 1) 1)] w Q :=
  (VW_b 4 (F := fun n => if vkd w x0 = 21 then if vkd w (vct w x0 1) = 17 then vrun n d 1 22 [(2, x0), (0, x1)] [(0, vct w (vct w x0 1) 1)] w else none else none) (fun _ => rfl)).trans (EX_if.trans (and_congr Iff.rfl (EX_if.trans (and_congr Iff.rfl (Iff.rfl)))))
set_option maxRecDepth 100000 in
theorem b1_21 {d : Nat} {w : vW} {x0 x1 : Int} {Q : Int → vW → Prop} : VW d 1 21 [(2, x0), (0, x1)] [] w Q ↔ VW d 1 22 [(2, x0), (0, x1)] [(0, (-1))] w Q :=
  (VW_b 1 (F := fun n => vrun n d 1 22 [(2, x0), (0, x1)] [(0, (-1))] w) (fun _ => rfl)).trans (Iff.rfl)
set_option maxRecDepth 100000 in
theorem b1_22 {d : Nat} {w : vW} {x0 x1 y0 : Int} {Q : Int → vW → Prop} : VW d 1 22 [(2, x0), (0, x1)] [(0, y0)] w Q ↔ Q y0 w :=
  (VW_b 1 (F := fun n => some (0, y0, w)) (fun _ => rfl)).trans (EX_ret0)
/-! 2: StrikeWhatCancels.end(I)Z -/
set_option maxRecDepth 100000 in
theorem b2_0 {d : Nat} {w : vW} {x0 x1 : Int} {Q : Int → vW → Prop} : VW d 2 0 [(2, x0), (0, x1)] [] w Q ↔ (vkd w x0 = 21) ∧ (vkd w (vct w x0 1) = 17) ∧ VC d 234 [(2, vct w x0 1), (0, x1)] w (fun r w1 => VW d 2 8 [(2, x0), (0, x1)] [(0, r)] w1 Q) :=
  (VW_b 4 (F := fun n => if vkd w x0 = 21 then if vkd w (vct w x0 1) = 17 then vclr (vrun n) d 2 8 234 2 0 [(2, x0), (0, x1)] [(0, x1), (2, vct w x0 1)] w else none else none) (fun _ => rfl)).trans (EX_if.trans (and_congr Iff.rfl (EX_if.trans (and_congr Iff.rfl (EX_call rfl)))))
set_option maxRecDepth 100000 in
theorem b2_8 {d : Nat} {w : vW} {x0 x1 y0 : Int} {Q : Int → vW → Prop} : VW d 2 8 [(2, x0), (0, x1)] [(0, y0)] w Q ↔ ((0 : Int) ≤ y0 ∧ y0 ≤ 1) ∧ Q y0 w :=
  (VW_b 1 (F := fun n => if (0 : Int) ≤ y0 ∧ y0 ≤ 1 then some (0, y0, w) else none) (fun _ => rfl)).trans (EX_if.trans (and_congr Iff.rfl (EX_ret0)))
/-! 3: StrikeWhatCancels.book()I -/
set_option maxRecDepth 100000 in
theorem b3_0 {d : Nat} {w : vW} {x0 : Int} {Q : Int → vW → Prop} : VW d 3 0 [(2, x0), (9, 0)] [] w Q ↔ (vkd w x0 = 21) ∧ (vkd w x0 = 21) ∧ (vkd w (vct w x0 0) = 18) ∧ (vkd w (vct w x0 1) = 17) ∧ VC d 239 [(2, vct w x0 1), (0, vct w (vct w x0 0) 3)] w (fun r w1 => VW d 3 14 [(2, x0), (9, 0)] [(0, r)] w1 Q) :=
  (VW_b 6 (F := fun n => if vkd w x0 = 21 then if vkd w x0 = 21 then if vkd w (vct w x0 0) = 18 then if vkd w (vct w x0 1) = 17 then vclr (vrun n) d 3 14 239 2 0 [(2, x0), (9, 0)] [(0, vct w (vct w x0 0) 3), (2, vct w x0 1)] w else none else none else none else none) (fun _ => rfl)).trans (EX_if.trans (and_congr Iff.rfl (EX_if.trans (and_congr Iff.rfl (EX_if.trans (and_congr Iff.rfl (EX_if.trans (and_congr Iff.rfl (EX_call rfl)))))))))
set_option maxRecDepth 100000 in
theorem b3_14 {d : Nat} {w : vW} {x0 y0 : Int} {Q : Int → vW → Prop} : VW d 3 14 [(2, x0), (9, 0)] [(0, y0)] w Q ↔ (vkd w x0 = 21) ∧ (vkd w (vct w x0 1) = 17) ∧ VC d 234 [(2, vct w x0 1), (0, 0)] w (fun r w1 => VW d 3 23 [(2, x0), (0, y0)] [(0, r)] w1 Q) :=
  (VW_b 5 (F := fun n => if vkd w x0 = 21 then if vkd w (vct w x0 1) = 17 then vclr (vrun n) d 3 23 234 2 0 [(2, x0), (0, y0)] [(0, 0), (2, vct w x0 1)] w else none else none) (fun _ => rfl)).trans (EX_if.trans (and_congr Iff.rfl (EX_if.trans (and_congr Iff.rfl (EX_call rfl)))))
set_option maxRecDepth 100000 in
theorem b3_23 {d : Nat} {w : vW} {x0 x1 y0 : Int} {Q : Int → vW → Prop} : VW d 3 23 [(2, x0), (0, x1)] [(0, y0)] w Q ↔ ((0 < x1 → VW d 3 28 [(2, x0), (0, x1)] [] w Q) ∧ (¬ (0 < x1) → VW d 3 43 [(2, x0), (0, x1)] [] w Q)) :=
  (VW_b 3 (F := fun n => (if 0 < x1 then vrun n d 3 28 [(2, x0), (0, x1)] [] w else vrun n d 3 43 [(2, x0), (0, x1)] [] w)) (fun _ => rfl)).trans (EX_br.trans (and_congr (imp_congr Iff.rfl Iff.rfl) (imp_congr Iff.rfl Iff.rfl)))
set_option maxRecDepth 100000 in
theorem b3_28 {d : Nat} {w : vW} {x0 x1 : Int} {Q : Int → vW → Prop} : VW d 3 28 [(2, x0), (0, x1)] [] w Q ↔ (vkd w x0 = 21) ∧ (vkd w x0 = 21) ∧ (vkd w x0 = 21) ∧ (vkd w (vct w x0 1) = 17) ∧ VC d 247 [(2, vct w x0 1), (2, vct w x0 0), (2, vct w x0 3)] w (fun _ w1 => VW d 3 43 [(2, x0), (0, x1)] [] w1 Q) :=
  (VW_b 7 (F := fun n => if vkd w x0 = 21 then if vkd w x0 = 21 then if vkd w x0 = 21 then if vkd w (vct w x0 1) = 17 then vclr (vrun n) d 3 43 247 3 9 [(2, x0), (0, x1)] [(2, vct w x0 3), (2, vct w x0 0), (2, vct w x0 1)] w else none else none else none else none) (fun _ => rfl)).trans (EX_if.trans (and_congr Iff.rfl (EX_if.trans (and_congr Iff.rfl (EX_if.trans (and_congr Iff.rfl (EX_if.trans (and_congr Iff.rfl (EX_call rfl)))))))))
set_option maxRecDepth 100000 in
theorem b3_43 {d : Nat} {w : vW} {x0 x1 : Int} {Q : Int → vW → Prop} : VW d 3 43 [(2, x0), (0, x1)] [] w Q ↔ Q x1 w :=
  (VW_b 2 (F := fun n => some (0, x1, w)) (fun _ => rfl)).trans (EX_ret0)
/-! 4: StrikeWhatCancels.speech()I -/
set_option maxRecDepth 100000 in
theorem b4_0 {d : Nat} {w : vW} {x0 : Int} {Q : Int → vW → Prop} : VW d 4 0 [(2, x0), (9, 0), (9, 0), (9, 0), (9, 0)] [] w Q ↔ (vkd w x0 = 21) ∧ (vkd w (vct w x0 1) = 17) ∧ (vkd w x0 = 21) ∧ (vkd w (vct w x0 1) = 17) ∧ VC d 237 [(2, vct w x0 1)] w (fun r w1 => VW d 4 15 [(2, x0), (0, vct w (vct w x0 1) 1), (9, 0), (9, 0), (9, 0)] [(0, r)] w1 Q) :=
  (VW_b 7 (F := fun n => if vkd w x0 = 21 then if vkd w (vct w x0 1) = 17 then if vkd w x0 = 21 then if vkd w (vct w x0 1) = 17 then vclr (vrun n) d 4 15 237 1 0 [(2, x0), (0, vct w (vct w x0 1) 1), (9, 0), (9, 0), (9, 0)] [(2, vct w x0 1)] w else none else none else none else none) (fun _ => rfl)).trans (EX_if.trans (and_congr Iff.rfl (EX_if.trans (and_congr Iff.rfl (EX_if.trans (and_congr Iff.rfl (EX_if.trans (and_congr Iff.rfl (EX_call rfl)))))))))
set_option maxRecDepth 100000 in
theorem b4_15 {d : Nat} {w : vW} {x0 x1 y0 : Int} {Q : Int → vW → Prop} : VW d 4 15 [(2, x0), (0, x1), (9, 0), (9, 0), (9, 0)] [(0, y0)] w Q ↔ (vkd w x0 = 21) ∧ (vkd w (vct w x0 1) = 17) ∧ VC d 238 [(2, vct w x0 1)] w (fun r w1 => VW d 4 23 [(2, x0), (0, x1), (0, y0), (9, 0), (9, 0)] [(1, r)] w1 Q) :=
  (VW_b 4 (F := fun n => if vkd w x0 = 21 then if vkd w (vct w x0 1) = 17 then vclr (vrun n) d 4 23 238 1 1 [(2, x0), (0, x1), (0, y0), (9, 0), (9, 0)] [(2, vct w x0 1)] w else none else none) (fun _ => rfl)).trans (EX_if.trans (and_congr Iff.rfl (EX_if.trans (and_congr Iff.rfl (EX_call rfl)))))
set_option maxRecDepth 100000 in
theorem b4_23 {d : Nat} {w : vW} {x0 x1 x2 y0 : Int} {Q : Int → vW → Prop} : VW d 4 23 [(2, x0), (0, x1), (0, x2), (9, 0), (9, 0)] [(1, y0)] w Q ↔ (vkd w x0 = 21) ∧ (vkd w (vct w x0 1) = 17) ∧ VC d 234 [(2, vct w x0 1), (0, 0)] w (fun r w1 => VW d 4 32 [(2, x0), (0, x1), (0, x2), (1, y0), (9, 0)] [(0, r)] w1 Q) :=
  (VW_b 5 (F := fun n => if vkd w x0 = 21 then if vkd w (vct w x0 1) = 17 then vclr (vrun n) d 4 32 234 2 0 [(2, x0), (0, x1), (0, x2), (1, y0), (9, 0)] [(0, 0), (2, vct w x0 1)] w else none else none) (fun _ => rfl)).trans (EX_if.trans (and_congr Iff.rfl (EX_if.trans (and_congr Iff.rfl (EX_call rfl)))))
set_option maxRecDepth 100000 in
theorem b4_32 {d : Nat} {w : vW} {x0 x1 x2 x3 y0 : Int} {Q : Int → vW → Prop} : VW d 4 32 [(2, x0), (0, x1), (0, x2), (1, x3), (9, 0)] [(0, y0)] w Q ↔ ((x2 < x1 → VW d 4 38 [(2, x0), (0, x1), (0, x2), (1, x3), (9, 0)] [] w Q) ∧ (¬ (x2 < x1) → VW d 4 44 [(2, x0), (0, x1), (0, x2), (1, x3), (9, 0)] [] w Q)) :=
  (VW_b 4 (F := fun n => (if x2 < x1 then vrun n d 4 38 [(2, x0), (0, x1), (0, x2), (1, x3), (9, 0)] [] w else vrun n d 4 44 [(2, x0), (0, x1), (0, x2), (1, x3), (9, 0)] [] w)) (fun _ => rfl)).trans (EX_br.trans (and_congr (imp_congr Iff.rfl Iff.rfl) (imp_congr Iff.rfl Iff.rfl)))
set_option maxRecDepth 100000 in
theorem b4_38 {d : Nat} {w : vW} {x0 x1 x2 x3 : Int} {Q : Int → vW → Prop} : VW d 4 38 [(2, x0), (0, x1), (0, x2), (1, x3), (9, 0)] [] w Q ↔ VW d 4 49 [(2, x0), (0, x1), (0, x2), (1, x3), (9, 0)] [(0, w32 ((-1) - x2))] w Q :=
  (VW_b 4 (F := fun n => vrun n d 4 49 [(2, x0), (0, x1), (0, x2), (1, x3), (9, 0)] [(0, w32 ((-1) - x2))] w) (fun _ => rfl)).trans (Iff.rfl)
set_option maxRecDepth 100000 in
theorem b4_44 {d : Nat} {w : vW} {x0 x1 x2 x3 : Int} {Q : Int → vW → Prop} : VW d 4 44 [(2, x0), (0, x1), (0, x2), (1, x3), (9, 0)] [] w Q ↔ (vkd w x0 = 21) ∧ VC d 6 [(2, x0), (1, x3)] w (fun r w1 => VW d 4 49 [(2, x0), (0, x1), (0, x2), (1, x3), (9, 0)] [(0, r)] w1 Q) :=
  (VW_b 3 (F := fun n => if vkd w x0 = 21 then vclr (vrun n) d 4 49 6 2 0 [(2, x0), (0, x1), (0, x2), (1, x3), (9, 0)] [(1, x3), (2, x0)] w else none) (fun _ => rfl)).trans (EX_if.trans (and_congr Iff.rfl (EX_call rfl)))
set_option maxRecDepth 100000 in
theorem b4_49 {d : Nat} {w : vW} {x0 x1 x2 x3 y0 : Int} {Q : Int → vW → Prop} : VW d 4 49 [(2, x0), (0, x1), (0, x2), (1, x3), (9, 0)] [(0, y0)] w Q ↔ Q y0 w :=
  (VW_b 1 (F := fun n => some (0, y0, w)) (fun _ => rfl)).trans (EX_ret0)
/-! 5: StrikeWhatCancels.speak(J)I -/
set_option maxRecDepth 100000 in
theorem b5_0 {d : Nat} {w : vW} {x0 x1 : Int} {Q : Int → vW → Prop} : VW d 5 0 [(2, x0), (1, x1), (9, 0), (9, 0), (9, 0)] [] w Q ↔ VC d 280 [(1, x1)] w (fun r w1 => VW d 5 4 [(2, x0), (1, x1), (9, 0), (9, 0), (9, 0)] [(1, r)] w1 Q) :=
  (VW_b 2 (F := fun n => vclr (vrun n) d 5 4 280 1 1 [(2, x0), (1, x1), (9, 0), (9, 0), (9, 0)] [(1, x1)] w) (fun _ => rfl)).trans (EX_call rfl)
set_option maxRecDepth 100000 in
theorem b5_4 {d : Nat} {w : vW} {x0 x1 y0 : Int} {Q : Int → vW → Prop} : VW d 5 4 [(2, x0), (1, x1), (9, 0), (9, 0), (9, 0)] [(1, y0)] w Q ↔ (((vlc y0 0) < 0 → VW d 5 11 [(2, x0), (1, x1), (9, 0), (1, y0), (9, 0)] [] w Q) ∧ (¬ ((vlc y0 0) < 0) → VW d 5 15 [(2, x0), (1, x1), (9, 0), (1, y0), (9, 0)] [] w Q)) :=
  (VW_b 5 (F := fun n => (if (vlc y0 0) < 0 then vrun n d 5 11 [(2, x0), (1, x1), (9, 0), (1, y0), (9, 0)] [] w else vrun n d 5 15 [(2, x0), (1, x1), (9, 0), (1, y0), (9, 0)] [] w)) (fun _ => rfl)).trans (EX_br.trans (and_congr (imp_congr Iff.rfl Iff.rfl) (imp_congr Iff.rfl Iff.rfl)))
set_option maxRecDepth 100000 in
theorem b5_11 {d : Nat} {w : vW} {x0 x1 x3 : Int} {Q : Int → vW → Prop} : VW d 5 11 [(2, x0), (1, x1), (9, 0), (1, x3), (9, 0)] [] w Q ↔ VW d 5 20 [(2, x0), (1, x1), (9, 0), (1, x3), (9, 0)] [(0, (-1))] w Q :=
  (VW_b 2 (F := fun n => vrun n d 5 20 [(2, x0), (1, x1), (9, 0), (1, x3), (9, 0)] [(0, (-1))] w) (fun _ => rfl)).trans (Iff.rfl)
set_option maxRecDepth 100000 in
theorem b5_15 {d : Nat} {w : vW} {x0 x1 x3 : Int} {Q : Int → vW → Prop} : VW d 5 15 [(2, x0), (1, x1), (9, 0), (1, x3), (9, 0)] [] w Q ↔ (vkd w x0 = 21) ∧ VC d 6 [(2, x0), (1, x3)] w (fun r w1 => VW d 5 20 [(2, x0), (1, x1), (9, 0), (1, x3), (9, 0)] [(0, r)] w1 Q) :=
  (VW_b 3 (F := fun n => if vkd w x0 = 21 then vclr (vrun n) d 5 20 6 2 0 [(2, x0), (1, x1), (9, 0), (1, x3), (9, 0)] [(1, x3), (2, x0)] w else none) (fun _ => rfl)).trans (EX_if.trans (and_congr Iff.rfl (EX_call rfl)))
set_option maxRecDepth 100000 in
theorem b5_20 {d : Nat} {w : vW} {x0 x1 x3 y0 : Int} {Q : Int → vW → Prop} : VW d 5 20 [(2, x0), (1, x1), (9, 0), (1, x3), (9, 0)] [(0, y0)] w Q ↔ Q y0 w :=
  (VW_b 1 (F := fun n => some (0, y0, w)) (fun _ => rfl)).trans (EX_ret0)
/-! 6: StrikeWhatCancels.speakOf(J)I -/
set_option maxRecDepth 100000 in
theorem b6_0 {d : Nat} {w : vW} {x0 x1 : Int} {Q : Int → vW → Prop} : VW d 6 0 [(2, x0), (1, x1), (9, 0)] [] w Q ↔ (vkd w x0 = 21) ∧ (vkd w (vct w x0 3) = 12) ∧ VW d 6 8 [(2, x0), (1, x1), (9, 0)] [] (vsv w (vct w x0 3) 1 x1) Q :=
  (VW_b 4 (F := fun n => if vkd w x0 = 21 then if vkd w (vct w x0 3) = 12 then vrun n d 6 8 [(2, x0), (1, x1), (9, 0)] [] (vsv w (vct w x0 3) 1 x1) else none else none) (fun _ => rfl)).trans (EX_if.trans (and_congr Iff.rfl (EX_if.trans (and_congr Iff.rfl (Iff.rfl)))))
set_option maxRecDepth 100000 in
theorem b6_8 {d : Nat} {w : vW} {x0 x1 : Int} {Q : Int → vW → Prop} : VW d 6 8 [(2, x0), (1, x1), (9, 0)] [] w Q ↔ (vkd w x0 = 21) ∧ (vkd w (vct w x0 3) = 12) ∧ VW d 6 16 [(2, x0), (1, x1), (9, 0)] [] (vsv w (vct w x0 3) 2 x1) Q :=
  (VW_b 4 (F := fun n => if vkd w x0 = 21 then if vkd w (vct w x0 3) = 12 then vrun n d 6 16 [(2, x0), (1, x1), (9, 0)] [] (vsv w (vct w x0 3) 2 x1) else none else none) (fun _ => rfl)).trans (EX_if.trans (and_congr Iff.rfl (EX_if.trans (and_congr Iff.rfl (Iff.rfl)))))
set_option maxRecDepth 100000 in
theorem b6_16 {d : Nat} {w : vW} {x0 x1 : Int} {Q : Int → vW → Prop} : VW d 6 16 [(2, x0), (1, x1), (9, 0)] [] w Q ↔ (vkd w x0 = 21) ∧ VW d 6 21 [(2, x0), (1, x1), (9, 0)] [] (vsv w x0 7 0) Q :=
  (VW_b 3 (F := fun n => if vkd w x0 = 21 then vrun n d 6 21 [(2, x0), (1, x1), (9, 0)] [] (vsv w x0 7 0) else none) (fun _ => rfl)).trans (EX_if.trans (and_congr Iff.rfl (Iff.rfl)))
set_option maxRecDepth 100000 in
theorem b6_21 {d : Nat} {w : vW} {x0 x1 : Int} {Q : Int → vW → Prop} : VW d 6 21 [(2, x0), (1, x1), (9, 0)] [] w Q ↔ VC d 273 [(1, x1)] w (fun r w1 => VW d 6 25 [(2, x0), (1, x1), (9, 0)] [(0, r)] w1 Q) :=
  (VW_b 2 (F := fun n => vclr (vrun n) d 6 25 273 1 0 [(2, x0), (1, x1), (9, 0)] [(1, x1)] w) (fun _ => rfl)).trans (EX_call rfl)
set_option maxRecDepth 100000 in
theorem b6_25 {d : Nat} {w : vW} {x0 x1 y0 : Int} {Q : Int → vW → Prop} : VW d 6 25 [(2, x0), (1, x1), (9, 0)] [(0, y0)] w Q ↔ Q y0 w :=
  (VW_b 1 (F := fun n => some (0, y0, w)) (fun _ => rfl)).trans (EX_ret0)
/-! 7: StrikeWhatCancels.rule(II)J -/
set_option maxRecDepth 100000 in
theorem b7_0 {d : Nat} {w : vW} {x0 x1 x2 : Int} {Q : Int → vW → Prop} {QX : vW → Prop} : VX d 7 0 [(2, x0), (0, x1), (0, x2)] [] w Q QX ↔ ((x1 < 0 → VX d 7 24 [(2, x0), (0, x1), (0, x2)] [] w Q QX) ∧ (¬ (x1 < 0) → VX d 7 4 [(2, x0), (0, x1), (0, x2)] [] w Q QX)) :=
  (VX_b 2 (F := fun n => (if x1 < 0 then vrun n d 7 24 [(2, x0), (0, x1), (0, x2)] [] w else vrun n d 7 4 [(2, x0), (0, x1), (0, x2)] [] w)) (fun _ => rfl)).trans (EX_br.trans (and_congr (imp_congr Iff.rfl Iff.rfl) (imp_congr Iff.rfl Iff.rfl)))
set_option maxRecDepth 100000 in
theorem b7_4 {d : Nat} {w : vW} {x0 x1 x2 : Int} {Q : Int → vW → Prop} {QX : vW → Prop} : VX d 7 4 [(2, x0), (0, x1), (0, x2)] [] w Q QX ↔ (vkd w x0 = 21) ∧ (vkd w (vct w x0 0) = 18) ∧ ((x1 < (vct w (vct w x0 0) 3) → VX d 7 15 [(2, x0), (0, x1), (0, x2)] [] w Q QX) ∧ (¬ (x1 < (vct w (vct w x0 0) 3)) → VX d 7 24 [(2, x0), (0, x1), (0, x2)] [] w Q QX)) :=
  (VX_b 5 (F := fun n => if vkd w x0 = 21 then if vkd w (vct w x0 0) = 18 then (if x1 < (vct w (vct w x0 0) 3) then vrun n d 7 15 [(2, x0), (0, x1), (0, x2)] [] w else vrun n d 7 24 [(2, x0), (0, x1), (0, x2)] [] w) else none else none) (fun _ => rfl)).trans (EX_if.trans (and_congr Iff.rfl (EX_if.trans (and_congr Iff.rfl (EX_br.trans (and_congr (imp_congr Iff.rfl Iff.rfl) (imp_congr Iff.rfl Iff.rfl)))))))
set_option maxRecDepth 100000 in
theorem b7_15 {d : Nat} {w : vW} {x0 x1 x2 : Int} {Q : Int → vW → Prop} {QX : vW → Prop} : VX d 7 15 [(2, x0), (0, x1), (0, x2)] [] w Q QX ↔ ((x2 < 0 → VX d 7 24 [(2, x0), (0, x1), (0, x2)] [] w Q QX) ∧ (¬ (x2 < 0) → VX d 7 19 [(2, x0), (0, x1), (0, x2)] [] w Q QX)) :=
  (VX_b 2 (F := fun n => (if x2 < 0 then vrun n d 7 24 [(2, x0), (0, x1), (0, x2)] [] w else vrun n d 7 19 [(2, x0), (0, x1), (0, x2)] [] w)) (fun _ => rfl)).trans (EX_br.trans (and_congr (imp_congr Iff.rfl Iff.rfl) (imp_congr Iff.rfl Iff.rfl)))
set_option maxRecDepth 100000 in
theorem b7_19 {d : Nat} {w : vW} {x0 x1 x2 : Int} {Q : Int → vW → Prop} {QX : vW → Prop} : VX d 7 19 [(2, x0), (0, x1), (0, x2)] [] w Q QX ↔ ((2 < x2 → VX d 7 24 [(2, x0), (0, x1), (0, x2)] [] w Q QX) ∧ (¬ (2 < x2) → VX d 7 32 [(2, x0), (0, x1), (0, x2)] [] w Q QX)) :=
  (VX_b 3 (F := fun n => (if 2 < x2 then vrun n d 7 24 [(2, x0), (0, x1), (0, x2)] [] w else vrun n d 7 32 [(2, x0), (0, x1), (0, x2)] [] w)) (fun _ => rfl)).trans (EX_br.trans (and_congr (imp_congr Iff.rfl Iff.rfl) (imp_congr Iff.rfl Iff.rfl)))
set_option maxRecDepth 100000 in
theorem b7_24 {d : Nat} {w : vW} {x0 x1 x2 : Int} {Q : Int → vW → Prop} {QX : vW → Prop} : VX d 7 24 [(2, x0), (0, x1), (0, x2)] [] w Q QX ↔ QX (vxw w) :=
  (VX_b 1 (F := fun n => some (1, 0, vxw w)) (fun _ => rfl)).trans (EX_thr)
set_option maxRecDepth 100000 in
theorem b7_32 {d : Nat} {w : vW} {x0 x1 x2 : Int} {Q : Int → vW → Prop} {QX : vW → Prop} : VX d 7 32 [(2, x0), (0, x1), (0, x2)] [] w Q QX ↔ ((x2 = 2 → VX d 7 37 [(2, x0), (0, x1), (0, x2)] [] w Q QX) ∧ (¬ (x2 = 2) → VX d 7 51 [(2, x0), (0, x1), (0, x2)] [] w Q QX)) :=
  (VX_b 3 (F := fun n => (if x2 = 2 then vrun n d 7 37 [(2, x0), (0, x1), (0, x2)] [] w else vrun n d 7 51 [(2, x0), (0, x1), (0, x2)] [] w)) (fun _ => rfl)).trans (EX_br.trans (and_congr (imp_congr Iff.rfl Iff.rfl) (imp_congr Iff.rfl Iff.rfl)))
set_option maxRecDepth 100000 in
theorem b7_37 {d : Nat} {w : vW} {x0 x1 x2 : Int} {Q : Int → vW → Prop} {QX : vW → Prop} : VX d 7 37 [(2, x0), (0, x1), (0, x2)] [] w Q QX ↔ (vkd w x0 = 21) ∧ (vkd w x0 = 21) ∧ (vkd w (vct w x0 0) = 18) ∧ VC d 259 [(2, vct w x0 0), (0, x1), (2, vct w x0 3)] w (fun r w1 => VX d 7 49 [(2, x0), (0, x1), (0, x2)] [(0, r)] w1 Q QX) :=
  (VX_b 6 (F := fun n => if vkd w x0 = 21 then if vkd w x0 = 21 then if vkd w (vct w x0 0) = 18 then vclr (vrun n) d 7 49 259 3 0 [(2, x0), (0, x1), (0, x2)] [(2, vct w x0 3), (0, x1), (2, vct w x0 0)] w else none else none else none) (fun _ => rfl)).trans (EX_if.trans (and_congr Iff.rfl (EX_if.trans (and_congr Iff.rfl (EX_if.trans (and_congr Iff.rfl (EX_call rfl)))))))
set_option maxRecDepth 100000 in
theorem b7_49 {d : Nat} {w : vW} {x0 x1 x2 y0 : Int} {Q : Int → vW → Prop} {QX : vW → Prop} : VX d 7 49 [(2, x0), (0, x1), (0, x2)] [(0, y0)] w Q QX ↔ Q y0 w :=
  (VX_b 2 (F := fun n => some (0, y0, w)) (fun _ => rfl)).trans (EX_retx)
set_option maxRecDepth 100000 in
theorem b7_51 {d : Nat} {w : vW} {x0 x1 x2 : Int} {Q : Int → vW → Prop} {QX : vW → Prop} : VX d 7 51 [(2, x0), (0, x1), (0, x2)] [] w Q QX ↔ ((x2 = 0 → VX d 7 55 [(2, x0), (0, x1), (0, x2)] [] w Q QX) ∧ (¬ (x2 = 0) → VX d 7 66 [(2, x0), (0, x1), (0, x2)] [] w Q QX)) :=
  (VX_b 2 (F := fun n => (if x2 = 0 then vrun n d 7 55 [(2, x0), (0, x1), (0, x2)] [] w else vrun n d 7 66 [(2, x0), (0, x1), (0, x2)] [] w)) (fun _ => rfl)).trans (EX_br.trans (and_congr (imp_congr Iff.rfl Iff.rfl) (imp_congr Iff.rfl Iff.rfl)))
set_option maxRecDepth 100000 in
theorem b7_55 {d : Nat} {w : vW} {x0 x1 x2 : Int} {Q : Int → vW → Prop} {QX : vW → Prop} : VX d 7 55 [(2, x0), (0, x1), (0, x2)] [] w Q QX ↔ (vkd w x0 = 21) ∧ (vkd w (vct w x0 0) = 18) ∧ VC d 252 [(2, vct w x0 0), (0, x1)] w (fun r w1 => VX d 7 63 [(2, x0), (0, x1), (0, x2)] [(1, r)] w1 Q QX) :=
  (VX_b 4 (F := fun n => if vkd w x0 = 21 then if vkd w (vct w x0 0) = 18 then vclr (vrun n) d 7 63 252 2 1 [(2, x0), (0, x1), (0, x2)] [(0, x1), (2, vct w x0 0)] w else none else none) (fun _ => rfl)).trans (EX_if.trans (and_congr Iff.rfl (EX_if.trans (and_congr Iff.rfl (EX_call rfl)))))
set_option maxRecDepth 100000 in
theorem b7_63 {d : Nat} {w : vW} {x0 x1 x2 y0 : Int} {Q : Int → vW → Prop} {QX : vW → Prop} : VX d 7 63 [(2, x0), (0, x1), (0, x2)] [(1, y0)] w Q QX ↔ VX d 7 74 [(2, x0), (0, x1), (0, x2)] [(1, y0)] w Q QX :=
  (VX_b 1 (F := fun n => vrun n d 7 74 [(2, x0), (0, x1), (0, x2)] [(1, y0)] w) (fun _ => rfl)).trans (Iff.rfl)
set_option maxRecDepth 100000 in
theorem b7_66 {d : Nat} {w : vW} {x0 x1 x2 : Int} {Q : Int → vW → Prop} {QX : vW → Prop} : VX d 7 66 [(2, x0), (0, x1), (0, x2)] [] w Q QX ↔ (vkd w x0 = 21) ∧ (vkd w (vct w x0 0) = 18) ∧ VC d 253 [(2, vct w x0 0), (0, x1)] w (fun r w1 => VX d 7 74 [(2, x0), (0, x1), (0, x2)] [(1, r)] w1 Q QX) :=
  (VX_b 4 (F := fun n => if vkd w x0 = 21 then if vkd w (vct w x0 0) = 18 then vclr (vrun n) d 7 74 253 2 1 [(2, x0), (0, x1), (0, x2)] [(0, x1), (2, vct w x0 0)] w else none else none) (fun _ => rfl)).trans (EX_if.trans (and_congr Iff.rfl (EX_if.trans (and_congr Iff.rfl (EX_call rfl)))))
set_option maxRecDepth 100000 in
theorem b7_74 {d : Nat} {w : vW} {x0 x1 x2 y0 : Int} {Q : Int → vW → Prop} {QX : vW → Prop} : VX d 7 74 [(2, x0), (0, x1), (0, x2)] [(1, y0)] w Q QX ↔ VC d 281 [(1, y0)] w (fun r w1 => VX d 7 77 [(2, x0), (0, x1), (0, x2)] [(1, r)] w1 Q QX) :=
  (VX_b 1 (F := fun n => vclr (vrun n) d 7 77 281 1 1 [(2, x0), (0, x1), (0, x2)] [(1, y0)] w) (fun _ => rfl)).trans (EX_call rfl)
set_option maxRecDepth 100000 in
theorem b7_77 {d : Nat} {w : vW} {x0 x1 x2 y0 : Int} {Q : Int → vW → Prop} {QX : vW → Prop} : VX d 7 77 [(2, x0), (0, x1), (0, x2)] [(1, y0)] w Q QX ↔ Q y0 w :=
  (VX_b 1 (F := fun n => some (0, y0, w)) (fun _ => rfl)).trans (EX_retx)
/-! 8: StrikeWhatCancels.weigh(II)I -/
set_option maxRecDepth 100000 in
theorem b8_0 {d : Nat} {w : vW} {x0 x1 x2 : Int} {Q : Int → vW → Prop} : VW d 8 0 [(2, x0), (0, x1), (0, x2), (9, 0)] [] w Q ↔ ((x1 < 0 → VW d 8 21 [(2, x0), (0, x1), (0, x2), (9, 0)] [] w Q) ∧ (¬ (x1 < 0) → VW d 8 4 [(2, x0), (0, x1), (0, x2), (9, 0)] [] w Q)) :=
  (VW_b 2 (F := fun n => (if x1 < 0 then vrun n d 8 21 [(2, x0), (0, x1), (0, x2), (9, 0)] [] w else vrun n d 8 4 [(2, x0), (0, x1), (0, x2), (9, 0)] [] w)) (fun _ => rfl)).trans (EX_br.trans (and_congr (imp_congr Iff.rfl Iff.rfl) (imp_congr Iff.rfl Iff.rfl)))
set_option maxRecDepth 100000 in
theorem b8_4 {d : Nat} {w : vW} {x0 x1 x2 : Int} {Q : Int → vW → Prop} : VW d 8 4 [(2, x0), (0, x1), (0, x2), (9, 0)] [] w Q ↔ ((x1 < 8 → VW d 8 10 [(2, x0), (0, x1), (0, x2), (9, 0)] [] w Q) ∧ (¬ (x1 < 8) → VW d 8 21 [(2, x0), (0, x1), (0, x2), (9, 0)] [] w Q)) :=
  (VW_b 3 (F := fun n => (if x1 < 8 then vrun n d 8 10 [(2, x0), (0, x1), (0, x2), (9, 0)] [] w else vrun n d 8 21 [(2, x0), (0, x1), (0, x2), (9, 0)] [] w)) (fun _ => rfl)).trans (EX_br.trans (and_congr (imp_congr Iff.rfl Iff.rfl) (imp_congr Iff.rfl Iff.rfl)))
set_option maxRecDepth 100000 in
theorem b8_10 {d : Nat} {w : vW} {x0 x1 x2 : Int} {Q : Int → vW → Prop} : VW d 8 10 [(2, x0), (0, x1), (0, x2), (9, 0)] [] w Q ↔ ((x2 < 1 → VW d 8 21 [(2, x0), (0, x1), (0, x2), (9, 0)] [] w Q) ∧ (¬ (x2 < 1) → VW d 8 15 [(2, x0), (0, x1), (0, x2), (9, 0)] [] w Q)) :=
  (VW_b 3 (F := fun n => (if x2 < 1 then vrun n d 8 21 [(2, x0), (0, x1), (0, x2), (9, 0)] [] w else vrun n d 8 15 [(2, x0), (0, x1), (0, x2), (9, 0)] [] w)) (fun _ => rfl)).trans (EX_br.trans (and_congr (imp_congr Iff.rfl Iff.rfl) (imp_congr Iff.rfl Iff.rfl)))
set_option maxRecDepth 100000 in
theorem b8_15 {d : Nat} {w : vW} {x0 x1 x2 : Int} {Q : Int → vW → Prop} : VW d 8 15 [(2, x0), (0, x1), (0, x2), (9, 0)] [] w Q ↔ ((9 < x2 → VW d 8 21 [(2, x0), (0, x1), (0, x2), (9, 0)] [] w Q) ∧ (¬ (9 < x2) → VW d 8 23 [(2, x0), (0, x1), (0, x2), (9, 0)] [] w Q)) :=
  (VW_b 3 (F := fun n => (if 9 < x2 then vrun n d 8 21 [(2, x0), (0, x1), (0, x2), (9, 0)] [] w else vrun n d 8 23 [(2, x0), (0, x1), (0, x2), (9, 0)] [] w)) (fun _ => rfl)).trans (EX_br.trans (and_congr (imp_congr Iff.rfl Iff.rfl) (imp_congr Iff.rfl Iff.rfl)))
set_option maxRecDepth 100000 in
theorem b8_21 {d : Nat} {w : vW} {x0 x1 x2 : Int} {Q : Int → vW → Prop} : VW d 8 21 [(2, x0), (0, x1), (0, x2), (9, 0)] [] w Q ↔ Q (-1) w :=
  (VW_b 2 (F := fun n => some (0, (-1), w)) (fun _ => rfl)).trans (EX_ret0)
set_option maxRecDepth 100000 in
theorem b8_23 {d : Nat} {w : vW} {x0 x1 x2 : Int} {Q : Int → vW → Prop} : VW d 8 23 [(2, x0), (0, x1), (0, x2), (9, 0)] [] w Q ↔ (vkd w x0 = 21) ∧ (vkd w (vct w x0 3) = 12) ∧ VC d 174 [(2, vct w x0 3), (0, x1)] w (fun r w1 => VW d 8 31 [(2, x0), (0, x1), (0, x2), (9, 0)] [(0, r)] w1 Q) :=
  (VW_b 4 (F := fun n => if vkd w x0 = 21 then if vkd w (vct w x0 3) = 12 then vclr (vrun n) d 8 31 174 2 0 [(2, x0), (0, x1), (0, x2), (9, 0)] [(0, x1), (2, vct w x0 3)] w else none else none) (fun _ => rfl)).trans (EX_if.trans (and_congr Iff.rfl (EX_if.trans (and_congr Iff.rfl (EX_call rfl)))))
set_option maxRecDepth 100000 in
theorem b8_31 {d : Nat} {w : vW} {x0 x1 x2 y0 : Int} {Q : Int → vW → Prop} : VW d 8 31 [(2, x0), (0, x1), (0, x2), (9, 0)] [(0, y0)] w Q ↔ (vkd w x0 = 21) ∧ (vkd w (vct w x0 3) = 12) ∧ VC d 175 [(2, vct w x0 3), (0, x1), (0, x2)] w (fun _ w1 => VW d 8 41 [(2, x0), (0, x1), (0, x2), (0, y0)] [] w1 Q) :=
  (VW_b 6 (F := fun n => if vkd w x0 = 21 then if vkd w (vct w x0 3) = 12 then vclr (vrun n) d 8 41 175 3 9 [(2, x0), (0, x1), (0, x2), (0, y0)] [(0, x2), (0, x1), (2, vct w x0 3)] w else none else none) (fun _ => rfl)).trans (EX_if.trans (and_congr Iff.rfl (EX_if.trans (and_congr Iff.rfl (EX_call rfl)))))
set_option maxRecDepth 100000 in
theorem b8_41 {d : Nat} {w : vW} {x0 x1 x2 x3 : Int} {Q : Int → vW → Prop} : VW d 8 41 [(2, x0), (0, x1), (0, x2), (0, x3)] [] w Q ↔ Q x3 w :=
  (VW_b 2 (F := fun n => some (0, x3, w)) (fun _ => rfl)).trans (EX_ret0)
/-! 9: StrikeWhatCancels.sheet(IIII)I -/
set_option maxRecDepth 100000 in
theorem b9_0 {d : Nat} {w : vW} {x0 x1 x2 x3 x4 : Int} {Q : Int → vW → Prop} : VW d 9 0 [(2, x0), (0, x1), (0, x2), (0, x3), (0, x4), (9, 0), (9, 0), (9, 0), (9, 0)] [] w Q ↔ ((x1 < 0 → VW d 9 15 [(2, x0), (0, x1), (0, x2), (0, x3), (0, x4), (9, 0), (9, 0), (9, 0), (9, 0)] [] w Q) ∧ (¬ (x1 < 0) → VW d 9 4 [(2, x0), (0, x1), (0, x2), (0, x3), (0, x4), (9, 0), (9, 0), (9, 0), (9, 0)] [] w Q)) :=
  (VW_b 2 (F := fun n => (if x1 < 0 then vrun n d 9 15 [(2, x0), (0, x1), (0, x2), (0, x3), (0, x4), (9, 0), (9, 0), (9, 0), (9, 0)] [] w else vrun n d 9 4 [(2, x0), (0, x1), (0, x2), (0, x3), (0, x4), (9, 0), (9, 0), (9, 0), (9, 0)] [] w)) (fun _ => rfl)).trans (EX_br.trans (and_congr (imp_congr Iff.rfl Iff.rfl) (imp_congr Iff.rfl Iff.rfl)))
set_option maxRecDepth 100000 in
theorem b9_4 {d : Nat} {w : vW} {x0 x1 x2 x3 x4 : Int} {Q : Int → vW → Prop} : VW d 9 4 [(2, x0), (0, x1), (0, x2), (0, x3), (0, x4), (9, 0), (9, 0), (9, 0), (9, 0)] [] w Q ↔ ((3 < x1 → VW d 9 15 [(2, x0), (0, x1), (0, x2), (0, x3), (0, x4), (9, 0), (9, 0), (9, 0), (9, 0)] [] w Q) ∧ (¬ (3 < x1) → VW d 9 9 [(2, x0), (0, x1), (0, x2), (0, x3), (0, x4), (9, 0), (9, 0), (9, 0), (9, 0)] [] w Q)) :=
  (VW_b 3 (F := fun n => (if 3 < x1 then vrun n d 9 15 [(2, x0), (0, x1), (0, x2), (0, x3), (0, x4), (9, 0), (9, 0), (9, 0), (9, 0)] [] w else vrun n d 9 9 [(2, x0), (0, x1), (0, x2), (0, x3), (0, x4), (9, 0), (9, 0), (9, 0), (9, 0)] [] w)) (fun _ => rfl)).trans (EX_br.trans (and_congr (imp_congr Iff.rfl Iff.rfl) (imp_congr Iff.rfl Iff.rfl)))
set_option maxRecDepth 100000 in
theorem b9_9 {d : Nat} {w : vW} {x0 x1 x2 x3 x4 : Int} {Q : Int → vW → Prop} : VW d 9 9 [(2, x0), (0, x1), (0, x2), (0, x3), (0, x4), (9, 0), (9, 0), (9, 0), (9, 0)] [] w Q ↔ ((8 < x2 → VW d 9 15 [(2, x0), (0, x1), (0, x2), (0, x3), (0, x4), (9, 0), (9, 0), (9, 0), (9, 0)] [] w Q) ∧ (¬ (8 < x2) → VW d 9 17 [(2, x0), (0, x1), (0, x2), (0, x3), (0, x4), (9, 0), (9, 0), (9, 0), (9, 0)] [] w Q)) :=
  (VW_b 3 (F := fun n => (if 8 < x2 then vrun n d 9 15 [(2, x0), (0, x1), (0, x2), (0, x3), (0, x4), (9, 0), (9, 0), (9, 0), (9, 0)] [] w else vrun n d 9 17 [(2, x0), (0, x1), (0, x2), (0, x3), (0, x4), (9, 0), (9, 0), (9, 0), (9, 0)] [] w)) (fun _ => rfl)).trans (EX_br.trans (and_congr (imp_congr Iff.rfl Iff.rfl) (imp_congr Iff.rfl Iff.rfl)))
set_option maxRecDepth 100000 in
theorem b9_15 {d : Nat} {w : vW} {x0 x1 x2 x3 x4 : Int} {Q : Int → vW → Prop} : VW d 9 15 [(2, x0), (0, x1), (0, x2), (0, x3), (0, x4), (9, 0), (9, 0), (9, 0), (9, 0)] [] w Q ↔ Q (-1) w :=
  (VW_b 2 (F := fun n => some (0, (-1), w)) (fun _ => rfl)).trans (EX_ret0)
set_option maxRecDepth 100000 in
theorem b9_17 {d : Nat} {w : vW} {x0 x1 x2 x3 x4 : Int} {Q : Int → vW → Prop} : VW d 9 17 [(2, x0), (0, x1), (0, x2), (0, x3), (0, x4), (9, 0), (9, 0), (9, 0), (9, 0)] [] w Q ↔ ((x1 < 3 → VW d 9 22 [(2, x0), (0, x1), (0, x2), (0, x3), (0, x4), (9, 0), (9, 0), (9, 0), (9, 0)] [] w Q) ∧ (¬ (x1 < 3) → VW d 9 29 [(2, x0), (0, x1), (0, x2), (0, x3), (0, x4), (9, 0), (9, 0), (9, 0), (9, 0)] [] w Q)) :=
  (VW_b 3 (F := fun n => (if x1 < 3 then vrun n d 9 22 [(2, x0), (0, x1), (0, x2), (0, x3), (0, x4), (9, 0), (9, 0), (9, 0), (9, 0)] [] w else vrun n d 9 29 [(2, x0), (0, x1), (0, x2), (0, x3), (0, x4), (9, 0), (9, 0), (9, 0), (9, 0)] [] w)) (fun _ => rfl)).trans (EX_br.trans (and_congr (imp_congr Iff.rfl Iff.rfl) (imp_congr Iff.rfl Iff.rfl)))
set_option maxRecDepth 100000 in
theorem b9_22 {d : Nat} {w : vW} {x0 x1 x2 x3 x4 : Int} {Q : Int → vW → Prop} : VW d 9 22 [(2, x0), (0, x1), (0, x2), (0, x3), (0, x4), (9, 0), (9, 0), (9, 0), (9, 0)] [] w Q ↔ ((x2 < 0 → VW d 9 26 [(2, x0), (0, x1), (0, x2), (0, x3), (0, x4), (9, 0), (9, 0), (9, 0), (9, 0)] [] w Q) ∧ (¬ (x2 < 0) → VW d 9 29 [(2, x0), (0, x1), (0, x2), (0, x3), (0, x4), (9, 0), (9, 0), (9, 0), (9, 0)] [] w Q)) :=
  (VW_b 2 (F := fun n => (if x2 < 0 then vrun n d 9 26 [(2, x0), (0, x1), (0, x2), (0, x3), (0, x4), (9, 0), (9, 0), (9, 0), (9, 0)] [] w else vrun n d 9 29 [(2, x0), (0, x1), (0, x2), (0, x3), (0, x4), (9, 0), (9, 0), (9, 0), (9, 0)] [] w)) (fun _ => rfl)).trans (EX_br.trans (and_congr (imp_congr Iff.rfl Iff.rfl) (imp_congr Iff.rfl Iff.rfl)))
set_option maxRecDepth 100000 in
theorem b9_26 {d : Nat} {w : vW} {x0 x1 x2 x3 x4 : Int} {Q : Int → vW → Prop} : VW d 9 26 [(2, x0), (0, x1), (0, x2), (0, x3), (0, x4), (9, 0), (9, 0), (9, 0), (9, 0)] [] w Q ↔ Q (-2) w :=
  (VW_b 2 (F := fun n => some (0, (-2), w)) (fun _ => rfl)).trans (EX_ret0)
set_option maxRecDepth 100000 in
theorem b9_29 {d : Nat} {w : vW} {x0 x1 x2 x3 x4 : Int} {Q : Int → vW → Prop} : VW d 9 29 [(2, x0), (0, x1), (0, x2), (0, x3), (0, x4), (9, 0), (9, 0), (9, 0), (9, 0)] [] w Q ↔ ((x1 = 3 → VW d 9 34 [(2, x0), (0, x1), (0, x2), (0, x3), (0, x4), (9, 0), (9, 0), (9, 0), (9, 0)] [] w Q) ∧ (¬ (x1 = 3) → VW d 9 38 [(2, x0), (0, x1), (0, x2), (0, x3), (0, x4), (9, 0), (9, 0), (9, 0), (9, 0)] [] w Q)) :=
  (VW_b 3 (F := fun n => (if x1 = 3 then vrun n d 9 34 [(2, x0), (0, x1), (0, x2), (0, x3), (0, x4), (9, 0), (9, 0), (9, 0), (9, 0)] [] w else vrun n d 9 38 [(2, x0), (0, x1), (0, x2), (0, x3), (0, x4), (9, 0), (9, 0), (9, 0), (9, 0)] [] w)) (fun _ => rfl)).trans (EX_br.trans (and_congr (imp_congr Iff.rfl Iff.rfl) (imp_congr Iff.rfl Iff.rfl)))
set_option maxRecDepth 100000 in
theorem b9_34 {d : Nat} {w : vW} {x0 x1 x2 x3 x4 : Int} {Q : Int → vW → Prop} : VW d 9 34 [(2, x0), (0, x1), (0, x2), (0, x3), (0, x4), (9, 0), (9, 0), (9, 0), (9, 0)] [] w Q ↔ VW d 9 39 [(2, x0), (0, x1), (0, x2), (0, x3), (0, x4), (9, 0), (9, 0), (9, 0), (9, 0)] [(0, 0)] w Q :=
  (VW_b 2 (F := fun n => vrun n d 9 39 [(2, x0), (0, x1), (0, x2), (0, x3), (0, x4), (9, 0), (9, 0), (9, 0), (9, 0)] [(0, 0)] w) (fun _ => rfl)).trans (Iff.rfl)
set_option maxRecDepth 100000 in
theorem b9_38 {d : Nat} {w : vW} {x0 x1 x2 x3 x4 : Int} {Q : Int → vW → Prop} : VW d 9 38 [(2, x0), (0, x1), (0, x2), (0, x3), (0, x4), (9, 0), (9, 0), (9, 0), (9, 0)] [] w Q ↔ VW d 9 39 [(2, x0), (0, x1), (0, x2), (0, x3), (0, x4), (9, 0), (9, 0), (9, 0), (9, 0)] [(0, x2)] w Q :=
  (VW_b 1 (F := fun n => vrun n d 9 39 [(2, x0), (0, x1), (0, x2), (0, x3), (0, x4), (9, 0), (9, 0), (9, 0), (9, 0)] [(0, x2)] w) (fun _ => rfl)).trans (Iff.rfl)
set_option maxRecDepth 100000 in
theorem b9_39 {d : Nat} {w : vW} {x0 x1 x2 x3 x4 y0 : Int} {Q : Int → vW → Prop} : VW d 9 39 [(2, x0), (0, x1), (0, x2), (0, x3), (0, x4), (9, 0), (9, 0), (9, 0), (9, 0)] [(0, y0)] w Q ↔ VW d 9 47 [(2, x0), (0, x1), (0, x2), (0, x3), (0, x4), (0, y0), (0, 0), (0, 0), (9, 0)] [] w Q :=
  (VW_b 5 (F := fun n => vrun n d 9 47 [(2, x0), (0, x1), (0, x2), (0, x3), (0, x4), (0, y0), (0, 0), (0, 0), (9, 0)] [] w) (fun _ => rfl)).trans (Iff.rfl)
set_option maxRecDepth 100000 in
theorem b9_47 {d : Nat} {w : vW} {x0 x1 x2 x3 x4 x5 x6 x7 : Int} {v8 : vV} {Q : Int → vW → Prop} : VW d 9 47 [(2, x0), (0, x1), (0, x2), (0, x3), (0, x4), (0, x5), (0, x6), (0, x7), v8] [] w Q ↔ ((x7 < 8 → VW d 9 54 [(2, x0), (0, x1), (0, x2), (0, x3), (0, x4), (0, x5), (0, x6), (0, x7), v8] [] w Q) ∧ (¬ (x7 < 8) → VW d 9 111 [(2, x0), (0, x1), (0, x2), (0, x3), (0, x4), (0, x5), (0, x6), (0, x7), v8] [] w Q)) :=
  (VW_b 3 (F := fun n => (if x7 < 8 then vrun n d 9 54 [(2, x0), (0, x1), (0, x2), (0, x3), (0, x4), (0, x5), (0, x6), (0, x7), v8] [] w else vrun n d 9 111 [(2, x0), (0, x1), (0, x2), (0, x3), (0, x4), (0, x5), (0, x6), (0, x7), v8] [] w)) (fun _ => rfl)).trans (EX_br.trans (and_congr (imp_congr Iff.rfl Iff.rfl) (imp_congr Iff.rfl Iff.rfl)))
set_option maxRecDepth 100000 in
theorem b9_54 {d : Nat} {w : vW} {x0 x1 x2 x3 x4 x5 x6 x7 : Int} {v8 : vV} {Q : Int → vW → Prop} : VW d 9 54 [(2, x0), (0, x1), (0, x2), (0, x3), (0, x4), (0, x5), (0, x6), (0, x7), v8] [] w Q ↔ ((x7 < x5 → VW d 9 61 [(2, x0), (0, x1), (0, x2), (0, x3), (0, x4), (0, x5), (0, x6), (0, x7), v8] [] w Q) ∧ (¬ (x7 < x5) → VW d 9 84 [(2, x0), (0, x1), (0, x2), (0, x3), (0, x4), (0, x5), (0, x6), (0, x7), v8] [] w Q)) :=
  (VW_b 3 (F := fun n => (if x7 < x5 then vrun n d 9 61 [(2, x0), (0, x1), (0, x2), (0, x3), (0, x4), (0, x5), (0, x6), (0, x7), v8] [] w else vrun n d 9 84 [(2, x0), (0, x1), (0, x2), (0, x3), (0, x4), (0, x5), (0, x6), (0, x7), v8] [] w)) (fun _ => rfl)).trans (EX_br.trans (and_congr (imp_congr Iff.rfl Iff.rfl) (imp_congr Iff.rfl Iff.rfl)))
set_option maxRecDepth 100000 in
theorem b9_61 {d : Nat} {w : vW} {x0 x1 x2 x3 x4 x5 x6 x7 : Int} {v8 : vV} {Q : Int → vW → Prop} : VW d 9 61 [(2, x0), (0, x1), (0, x2), (0, x3), (0, x4), (0, x5), (0, x6), (0, x7), v8] [] w Q ↔ VC d 10 [(0, x1), (0, w32 (x3 + (w32 (x7 * x4))))] w (fun r w1 => VW d 9 75 [(2, x0), (0, x1), (0, x2), (0, x3), (0, x4), (0, x5), (0, x6), (0, x7), v8] [(0, r), (0, 9), (0, 1)] w1 Q) :=
  (VW_b 9 (F := fun n => vclr (vrun n) d 9 75 10 2 0 [(2, x0), (0, x1), (0, x2), (0, x3), (0, x4), (0, x5), (0, x6), (0, x7), v8] [(0, w32 (x3 + (w32 (x7 * x4)))), (0, x1), (0, 9), (0, 1)] w) (fun _ => rfl)).trans (EX_call rfl)
set_option maxRecDepth 100000 in
theorem b9_75 {d : Nat} {w : vW} {x0 x1 x2 x3 x4 x5 x6 x7 y0 y1 y2 : Int} {v8 : vV} {Q : Int → vW → Prop} : VW d 9 75 [(2, x0), (0, x1), (0, x2), (0, x3), (0, x4), (0, x5), (0, x6), (0, x7), v8] [(0, y2), (0, y1), (0, y0)] w Q ↔ VW d 9 85 [(2, x0), (0, x1), (0, x2), (0, x3), (0, x4), (0, x5), (0, x6), (0, x7), v8] [(0, max y0 (min y1 y2))] w Q :=
  (VW_b 3 (F := fun n => vrun n d 9 85 [(2, x0), (0, x1), (0, x2), (0, x3), (0, x4), (0, x5), (0, x6), (0, x7), v8] [(0, max y0 (min y1 y2))] w) (fun _ => rfl)).trans (Iff.rfl)
set_option maxRecDepth 100000 in
theorem b9_84 {d : Nat} {w : vW} {x0 x1 x2 x3 x4 x5 x6 x7 : Int} {v8 : vV} {Q : Int → vW → Prop} : VW d 9 84 [(2, x0), (0, x1), (0, x2), (0, x3), (0, x4), (0, x5), (0, x6), (0, x7), v8] [] w Q ↔ VW d 9 85 [(2, x0), (0, x1), (0, x2), (0, x3), (0, x4), (0, x5), (0, x6), (0, x7), v8] [(0, 1)] w Q :=
  (VW_b 1 (F := fun n => vrun n d 9 85 [(2, x0), (0, x1), (0, x2), (0, x3), (0, x4), (0, x5), (0, x6), (0, x7), v8] [(0, 1)] w) (fun _ => rfl)).trans (Iff.rfl)
set_option maxRecDepth 100000 in
theorem b9_85 {d : Nat} {w : vW} {x0 x1 x2 x3 x4 x5 x6 x7 y0 : Int} {v8 : vV} {Q : Int → vW → Prop} : VW d 9 85 [(2, x0), (0, x1), (0, x2), (0, x3), (0, x4), (0, x5), (0, x6), (0, x7), v8] [(0, y0)] w Q ↔ (vkd w x0 = 21) ∧ (vkd w (vct w x0 3) = 12) ∧ VC d 175 [(2, vct w x0 3), (0, x7), (0, y0)] w (fun _ w1 => VW d 9 98 [(2, x0), (0, x1), (0, x2), (0, x3), (0, x4), (0, x5), (0, x6), (0, x7), (0, y0)] [] w1 Q) :=
  (VW_b 6 (F := fun n => if vkd w x0 = 21 then if vkd w (vct w x0 3) = 12 then vclr (vrun n) d 9 98 175 3 9 [(2, x0), (0, x1), (0, x2), (0, x3), (0, x4), (0, x5), (0, x6), (0, x7), (0, y0)] [(0, y0), (0, x7), (2, vct w x0 3)] w else none else none) (fun _ => rfl)).trans (EX_if.trans (and_congr Iff.rfl (EX_if.trans (and_congr Iff.rfl (EX_call rfl)))))
set_option maxRecDepth 100000 in
theorem b9_98 {d : Nat} {w : vW} {x0 x1 x2 x3 x4 x5 x6 x7 x8 : Int} {Q : Int → vW → Prop} : VW d 9 98 [(2, x0), (0, x1), (0, x2), (0, x3), (0, x4), (0, x5), (0, x6), (0, x7), (0, x8)] [] w Q ↔ VW d 9 47 [(2, x0), (0, x1), (0, x2), (0, x3), (0, x4), (0, x5), (0, w32 (x6 + x8)), (0, w32 (x7 + 1)), (0, x8)] [] w Q :=
  (VW_b 6 (F := fun n => vrun n d 9 47 [(2, x0), (0, x1), (0, x2), (0, x3), (0, x4), (0, x5), (0, w32 (x6 + x8)), (0, w32 (x7 + 1)), (0, x8)] [] w) (fun _ => rfl)).trans (Iff.rfl)
set_option maxRecDepth 100000 in
theorem b9_111 {d : Nat} {w : vW} {x0 x1 x2 x3 x4 x5 x6 x7 : Int} {v8 : vV} {Q : Int → vW → Prop} : VW d 9 111 [(2, x0), (0, x1), (0, x2), (0, x3), (0, x4), (0, x5), (0, x6), (0, x7), v8] [] w Q ↔ ((x1 = 3 → VW d 9 116 [(2, x0), (0, x1), (0, x2), (0, x3), (0, x4), (0, x5), (0, x6), (0, x7), v8] [] w Q) ∧ (¬ (x1 = 3) → VW d 9 121 [(2, x0), (0, x1), (0, x2), (0, x3), (0, x4), (0, x5), (0, x6), (0, x7), v8] [] w Q)) :=
  (VW_b 3 (F := fun n => (if x1 = 3 then vrun n d 9 116 [(2, x0), (0, x1), (0, x2), (0, x3), (0, x4), (0, x5), (0, x6), (0, x7), v8] [] w else vrun n d 9 121 [(2, x0), (0, x1), (0, x2), (0, x3), (0, x4), (0, x5), (0, x6), (0, x7), v8] [] w)) (fun _ => rfl)).trans (EX_br.trans (and_congr (imp_congr Iff.rfl Iff.rfl) (imp_congr Iff.rfl Iff.rfl)))
set_option maxRecDepth 100000 in
theorem b9_116 {d : Nat} {w : vW} {x0 x1 x2 x3 x4 x5 x6 x7 : Int} {v8 : vV} {Q : Int → vW → Prop} : VW d 9 116 [(2, x0), (0, x1), (0, x2), (0, x3), (0, x4), (0, x5), (0, x6), (0, x7), v8] [] w Q ↔ VW d 9 123 [(2, x0), (0, x1), (0, x2), (0, x3), (0, x4), (0, x5), (0, x6), (0, x7), v8] [(0, (-3))] w Q :=
  (VW_b 2 (F := fun n => vrun n d 9 123 [(2, x0), (0, x1), (0, x2), (0, x3), (0, x4), (0, x5), (0, x6), (0, x7), v8] [(0, (-3))] w) (fun _ => rfl)).trans (Iff.rfl)
set_option maxRecDepth 100000 in
theorem b9_121 {d : Nat} {w : vW} {x0 x1 x2 x3 x4 x5 x6 x7 : Int} {v8 : vV} {Q : Int → vW → Prop} : VW d 9 121 [(2, x0), (0, x1), (0, x2), (0, x3), (0, x4), (0, x5), (0, x6), (0, x7), v8] [] w Q ↔ VW d 9 123 [(2, x0), (0, x1), (0, x2), (0, x3), (0, x4), (0, x5), (0, x6), (0, x7), v8] [(0, x6)] w Q :=
  (VW_b 1 (F := fun n => vrun n d 9 123 [(2, x0), (0, x1), (0, x2), (0, x3), (0, x4), (0, x5), (0, x6), (0, x7), v8] [(0, x6)] w) (fun _ => rfl)).trans (Iff.rfl)
set_option maxRecDepth 100000 in
theorem b9_123 {d : Nat} {w : vW} {x0 x1 x2 x3 x4 x5 x6 x7 y0 : Int} {v8 : vV} {Q : Int → vW → Prop} : VW d 9 123 [(2, x0), (0, x1), (0, x2), (0, x3), (0, x4), (0, x5), (0, x6), (0, x7), v8] [(0, y0)] w Q ↔ Q y0 w :=
  (VW_b 1 (F := fun n => some (0, y0, w)) (fun _ => rfl)).trans (EX_ret0)
/-! 10: StrikeWhatCancels.entry(II)I -/
set_option maxRecDepth 100000 in
theorem b10_0 {d : Nat} {w : vW} {x0 x1 : Int} {Q : Int → vW → Prop} : VW d 10 0 [(0, x0), (0, x1)] [] w Q ↔ ((x0 = 0 → VW d 10 4 [(0, x0), (0, x1)] [] w Q) ∧ (¬ (x0 = 0) → VW d 10 7 [(0, x0), (0, x1)] [] w Q)) :=
  (VW_b 2 (F := fun n => (if x0 = 0 then vrun n d 10 4 [(0, x0), (0, x1)] [] w else vrun n d 10 7 [(0, x0), (0, x1)] [] w)) (fun _ => rfl)).trans (EX_br.trans (and_congr (imp_congr Iff.rfl Iff.rfl) (imp_congr Iff.rfl Iff.rfl)))
set_option maxRecDepth 100000 in
theorem b10_4 {d : Nat} {w : vW} {x0 x1 : Int} {Q : Int → vW → Prop} : VW d 10 4 [(0, x0), (0, x1)] [] w Q ↔ Q (i_b x1) w :=
  (VW_b 3 (F := fun n => some (0, i_b x1, w)) (fun _ => rfl)).trans (EX_ret0)
set_option maxRecDepth 100000 in
theorem b10_7 {d : Nat} {w : vW} {x0 x1 : Int} {Q : Int → vW → Prop} : VW d 10 7 [(0, x0), (0, x1)] [] w Q ↔ ((x0 = 1 → VW d 10 12 [(0, x0), (0, x1)] [] w Q) ∧ (¬ (x0 = 1) → VW d 10 17 [(0, x0), (0, x1)] [] w Q)) :=
  (VW_b 3 (F := fun n => (if x0 = 1 then vrun n d 10 12 [(0, x0), (0, x1)] [] w else vrun n d 10 17 [(0, x0), (0, x1)] [] w)) (fun _ => rfl)).trans (EX_br.trans (and_congr (imp_congr Iff.rfl Iff.rfl) (imp_congr Iff.rfl Iff.rfl)))
set_option maxRecDepth 100000 in
theorem b10_12 {d : Nat} {w : vW} {x0 x1 : Int} {Q : Int → vW → Prop} : VW d 10 12 [(0, x0), (0, x1)] [] w Q ↔ VW d 10 18 [(0, x0), (0, x1)] [(0, i_s x1)] w Q :=
  (VW_b 3 (F := fun n => vrun n d 10 18 [(0, x0), (0, x1)] [(0, i_s x1)] w) (fun _ => rfl)).trans (Iff.rfl)
set_option maxRecDepth 100000 in
theorem b10_17 {d : Nat} {w : vW} {x0 x1 : Int} {Q : Int → vW → Prop} : VW d 10 17 [(0, x0), (0, x1)] [] w Q ↔ VW d 10 18 [(0, x0), (0, x1)] [(0, x1)] w Q :=
  (VW_b 1 (F := fun n => vrun n d 10 18 [(0, x0), (0, x1)] [(0, x1)] w) (fun _ => rfl)).trans (Iff.rfl)
set_option maxRecDepth 100000 in
theorem b10_18 {d : Nat} {w : vW} {x0 x1 y0 : Int} {Q : Int → vW → Prop} : VW d 10 18 [(0, x0), (0, x1)] [(0, y0)] w Q ↔ Q y0 w :=
  (VW_b 1 (F := fun n => some (0, y0, w)) (fun _ => rfl)).trans (EX_ret0)
/-! 11: StrikeWhatCancels.wide(I)I -/
set_option maxRecDepth 100000 in
theorem b11_0 {d : Nat} {w : vW} {x0 x1 : Int} {Q : Int → vW → Prop} : VW d 11 0 [(2, x0), (0, x1), (9, 0)] [] w Q ↔ ((x1 < 1 → VW d 11 11 [(2, x0), (0, x1), (9, 0)] [] w Q) ∧ (¬ (x1 < 1) → VW d 11 5 [(2, x0), (0, x1), (9, 0)] [] w Q)) :=
  (VW_b 3 (F := fun n => (if x1 < 1 then vrun n d 11 11 [(2, x0), (0, x1), (9, 0)] [] w else vrun n d 11 5 [(2, x0), (0, x1), (9, 0)] [] w)) (fun _ => rfl)).trans (EX_br.trans (and_congr (imp_congr Iff.rfl Iff.rfl) (imp_congr Iff.rfl Iff.rfl)))
set_option maxRecDepth 100000 in
theorem b11_5 {d : Nat} {w : vW} {x0 x1 : Int} {Q : Int → vW → Prop} : VW d 11 5 [(2, x0), (0, x1), (9, 0)] [] w Q ↔ ((8 < x1 → VW d 11 11 [(2, x0), (0, x1), (9, 0)] [] w Q) ∧ (¬ (8 < x1) → VW d 11 13 [(2, x0), (0, x1), (9, 0)] [] w Q)) :=
  (VW_b 3 (F := fun n => (if 8 < x1 then vrun n d 11 11 [(2, x0), (0, x1), (9, 0)] [] w else vrun n d 11 13 [(2, x0), (0, x1), (9, 0)] [] w)) (fun _ => rfl)).trans (EX_br.trans (and_congr (imp_congr Iff.rfl Iff.rfl) (imp_congr Iff.rfl Iff.rfl)))
set_option maxRecDepth 100000 in
theorem b11_11 {d : Nat} {w : vW} {x0 x1 : Int} {Q : Int → vW → Prop} : VW d 11 11 [(2, x0), (0, x1), (9, 0)] [] w Q ↔ Q (-1) w :=
  (VW_b 2 (F := fun n => some (0, (-1), w)) (fun _ => rfl)).trans (EX_ret0)
set_option maxRecDepth 100000 in
theorem b11_13 {d : Nat} {w : vW} {x0 x1 : Int} {Q : Int → vW → Prop} : VW d 11 13 [(2, x0), (0, x1), (9, 0)] [] w Q ↔ (vkd w x0 = 21) ∧ (vkd w (vct w x0 3) = 12) ∧ (vkd w x0 = 21) ∧ (vkd w (vct w x0 3) = 12) ∧ VW d 11 29 [(2, x0), (0, x1), (0, vct w (vct w x0 3) 4)] [] (vsv w (vct w x0 3) 4 x1) Q :=
  (VW_b 8 (F := fun n => if vkd w x0 = 21 then if vkd w (vct w x0 3) = 12 then if vkd w x0 = 21 then if vkd w (vct w x0 3) = 12 then vrun n d 11 29 [(2, x0), (0, x1), (0, vct w (vct w x0 3) 4)] [] (vsv w (vct w x0 3) 4 x1) else none else none else none else none) (fun _ => rfl)).trans (EX_if.trans (and_congr Iff.rfl (EX_if.trans (and_congr Iff.rfl (EX_if.trans (and_congr Iff.rfl (EX_if.trans (and_congr Iff.rfl (Iff.rfl)))))))))
set_option maxRecDepth 100000 in
theorem b11_29 {d : Nat} {w : vW} {x0 x1 x2 : Int} {Q : Int → vW → Prop} : VW d 11 29 [(2, x0), (0, x1), (0, x2)] [] w Q ↔ Q x2 w :=
  (VW_b 2 (F := fun n => some (0, x2, w)) (fun _ => rfl)).trans (EX_ret0)
/-! 12: StrikeWhatCancels.swap(II)Z -/
set_option maxRecDepth 100000 in
theorem b12_0 {d : Nat} {w : vW} {x0 x1 x2 : Int} {Q : Int → vW → Prop} : VW d 12 0 [(2, x0), (0, x1), (0, x2)] [] w Q ↔ (vkd w x0 = 21) ∧ (vkd w (vct w x0 0) = 18) ∧ VC d 257 [(2, vct w x0 0), (0, x1), (0, x2)] w (fun r w1 => VW d 12 9 [(2, x0), (0, x1), (0, x2)] [(0, r)] w1 Q) :=
  (VW_b 5 (F := fun n => if vkd w x0 = 21 then if vkd w (vct w x0 0) = 18 then vclr (vrun n) d 12 9 257 3 0 [(2, x0), (0, x1), (0, x2)] [(0, x2), (0, x1), (2, vct w x0 0)] w else none else none) (fun _ => rfl)).trans (EX_if.trans (and_congr Iff.rfl (EX_if.trans (and_congr Iff.rfl (EX_call rfl)))))
set_option maxRecDepth 100000 in
theorem b12_9 {d : Nat} {w : vW} {x0 x1 x2 y0 : Int} {Q : Int → vW → Prop} : VW d 12 9 [(2, x0), (0, x1), (0, x2)] [(0, y0)] w Q ↔ ((0 : Int) ≤ y0 ∧ y0 ≤ 1) ∧ Q y0 w :=
  (VW_b 1 (F := fun n => if (0 : Int) ≤ y0 ∧ y0 ≤ 1 then some (0, y0, w) else none) (fun _ => rfl)).trans (EX_if.trans (and_congr Iff.rfl (EX_ret0)))
/-! 13: StrikeWhatCancels.strike(I)I -/
set_option maxRecDepth 100000 in
theorem b13_0 {d : Nat} {w : vW} {x0 x1 : Int} {Q : Int → vW → Prop} : VW d 13 0 [(2, x0), (0, x1), (9, 0)] [] w Q ↔ ((x1 < 0 → VW d 13 9 [(2, x0), (0, x1), (9, 0)] [] w Q) ∧ (¬ (x1 < 0) → VW d 13 4 [(2, x0), (0, x1), (9, 0)] [] w Q)) :=
  (VW_b 2 (F := fun n => (if x1 < 0 then vrun n d 13 9 [(2, x0), (0, x1), (9, 0)] [] w else vrun n d 13 4 [(2, x0), (0, x1), (9, 0)] [] w)) (fun _ => rfl)).trans (EX_br.trans (and_congr (imp_congr Iff.rfl Iff.rfl) (imp_congr Iff.rfl Iff.rfl)))
set_option maxRecDepth 100000 in
theorem b13_4 {d : Nat} {w : vW} {x0 x1 : Int} {Q : Int → vW → Prop} : VW d 13 4 [(2, x0), (0, x1), (9, 0)] [] w Q ↔ ((3 < x1 → VW d 13 9 [(2, x0), (0, x1), (9, 0)] [] w Q) ∧ (¬ (3 < x1) → VW d 13 11 [(2, x0), (0, x1), (9, 0)] [] w Q)) :=
  (VW_b 3 (F := fun n => (if 3 < x1 then vrun n d 13 9 [(2, x0), (0, x1), (9, 0)] [] w else vrun n d 13 11 [(2, x0), (0, x1), (9, 0)] [] w)) (fun _ => rfl)).trans (EX_br.trans (and_congr (imp_congr Iff.rfl Iff.rfl) (imp_congr Iff.rfl Iff.rfl)))
set_option maxRecDepth 100000 in
theorem b13_9 {d : Nat} {w : vW} {x0 x1 : Int} {Q : Int → vW → Prop} : VW d 13 9 [(2, x0), (0, x1), (9, 0)] [] w Q ↔ Q (-1) w :=
  (VW_b 2 (F := fun n => some (0, (-1), w)) (fun _ => rfl)).trans (EX_ret0)
set_option maxRecDepth 100000 in
theorem b13_11 {d : Nat} {w : vW} {x0 x1 : Int} {Q : Int → vW → Prop} : VW d 13 11 [(2, x0), (0, x1), (9, 0)] [] w Q ↔ (vkd w x0 = 21) ∧ VC d 14 [(2, x0), (0, x1)] w (fun r w1 => VW d 13 16 [(2, x0), (0, x1), (9, 0)] [(0, r)] w1 Q) :=
  (VW_b 3 (F := fun n => if vkd w x0 = 21 then vclr (vrun n) d 13 16 14 2 0 [(2, x0), (0, x1), (9, 0)] [(0, x1), (2, x0)] w else none) (fun _ => rfl)).trans (EX_if.trans (and_congr Iff.rfl (EX_call rfl)))
set_option maxRecDepth 100000 in
theorem b13_16 {d : Nat} {w : vW} {x0 x1 y0 : Int} {Q : Int → vW → Prop} : VW d 13 16 [(2, x0), (0, x1), (9, 0)] [(0, y0)] w Q ↔ ((y0 < 0 → VW d 13 21 [(2, x0), (0, x1), (0, y0)] [] w Q) ∧ (¬ (y0 < 0) → VW d 13 24 [(2, x0), (0, x1), (0, y0)] [] w Q)) :=
  (VW_b 3 (F := fun n => (if y0 < 0 then vrun n d 13 21 [(2, x0), (0, x1), (0, y0)] [] w else vrun n d 13 24 [(2, x0), (0, x1), (0, y0)] [] w)) (fun _ => rfl)).trans (EX_br.trans (and_congr (imp_congr Iff.rfl Iff.rfl) (imp_congr Iff.rfl Iff.rfl)))
set_option maxRecDepth 100000 in
theorem b13_21 {d : Nat} {w : vW} {x0 x1 x2 : Int} {Q : Int → vW → Prop} : VW d 13 21 [(2, x0), (0, x1), (0, x2)] [] w Q ↔ Q (-2) w :=
  (VW_b 2 (F := fun n => some (0, (-2), w)) (fun _ => rfl)).trans (EX_ret0)
set_option maxRecDepth 100000 in
theorem b13_24 {d : Nat} {w : vW} {x0 x1 x2 : Int} {Q : Int → vW → Prop} : VW d 13 24 [(2, x0), (0, x1), (0, x2)] [] w Q ↔ (vkd w x0 = 21) ∧ (vkd w (vct w x0 2) = 20) ∧ VC d 291 [(2, vct w x0 2)] w (fun _ w1 => VW d 13 31 [(2, x0), (0, x1), (0, x2)] [] w1 Q) :=
  (VW_b 3 (F := fun n => if vkd w x0 = 21 then if vkd w (vct w x0 2) = 20 then vclr (vrun n) d 13 31 291 1 9 [(2, x0), (0, x1), (0, x2)] [(2, vct w x0 2)] w else none else none) (fun _ => rfl)).trans (EX_if.trans (and_congr Iff.rfl (EX_if.trans (and_congr Iff.rfl (EX_call rfl)))))
set_option maxRecDepth 100000 in
theorem b13_31 {d : Nat} {w : vW} {x0 x1 x2 : Int} {Q : Int → vW → Prop} : VW d 13 31 [(2, x0), (0, x1), (0, x2)] [] w Q ↔ (vkd w x0 = 21) ∧ VC d 251 [(0, x2)] w (fun r w1 => VW d 13 39 [(2, x0), (0, x1), (0, x2)] [(0, r), (2, vct w x0 2)] w1 Q) :=
  (VW_b 4 (F := fun n => if vkd w x0 = 21 then vclr (vrun n) d 13 39 251 1 0 [(2, x0), (0, x1), (0, x2)] [(0, x2), (2, vct w x0 2)] w else none) (fun _ => rfl)).trans (EX_if.trans (and_congr Iff.rfl (EX_call rfl)))
set_option maxRecDepth 100000 in
theorem b13_39 {d : Nat} {w : vW} {x0 x1 x2 y0 y1 : Int} {Q : Int → vW → Prop} : VW d 13 39 [(2, x0), (0, x1), (0, x2)] [(0, y1), (2, y0)] w Q ↔ (vkd w y0 = 20) ∧ VC d 293 [(2, y0), (1, y1)] w (fun _ w1 => VW d 13 43 [(2, x0), (0, x1), (0, x2)] [] w1 Q) :=
  (VW_b 2 (F := fun n => if vkd w y0 = 20 then vclr (vrun n) d 13 43 293 2 9 [(2, x0), (0, x1), (0, x2)] [(1, y1), (2, y0)] w else none) (fun _ => rfl)).trans (EX_if.trans (and_congr Iff.rfl (EX_call rfl)))
set_option maxRecDepth 100000 in
theorem b13_43 {d : Nat} {w : vW} {x0 x1 x2 : Int} {Q : Int → vW → Prop} : VW d 13 43 [(2, x0), (0, x1), (0, x2)] [] w Q ↔ (vkd w x0 = 21) ∧ (vkd w x0 = 21) ∧ (vkd w (vct w x0 3) = 12) ∧ VC d 281 [(1, vct w (vct w x0 3) 2)] w (fun r w1 => VW d 13 57 [(2, x0), (0, x1), (0, x2)] [(1, r), (2, vct w x0 2)] w1 Q) :=
  (VW_b 6 (F := fun n => if vkd w x0 = 21 then if vkd w x0 = 21 then if vkd w (vct w x0 3) = 12 then vclr (vrun n) d 13 57 281 1 1 [(2, x0), (0, x1), (0, x2)] [(1, vct w (vct w x0 3) 2), (2, vct w x0 2)] w else none else none else none) (fun _ => rfl)).trans (EX_if.trans (and_congr Iff.rfl (EX_if.trans (and_congr Iff.rfl (EX_if.trans (and_congr Iff.rfl (EX_call rfl)))))))
set_option maxRecDepth 100000 in
theorem b13_57 {d : Nat} {w : vW} {x0 x1 x2 y0 y1 : Int} {Q : Int → vW → Prop} : VW d 13 57 [(2, x0), (0, x1), (0, x2)] [(1, y1), (2, y0)] w Q ↔ (vkd w y0 = 20) ∧ VC d 293 [(2, y0), (1, y1)] w (fun _ w1 => VW d 13 60 [(2, x0), (0, x1), (0, x2)] [] w1 Q) :=
  (VW_b 1 (F := fun n => if vkd w y0 = 20 then vclr (vrun n) d 13 60 293 2 9 [(2, x0), (0, x1), (0, x2)] [(1, y1), (2, y0)] w else none) (fun _ => rfl)).trans (EX_if.trans (and_congr Iff.rfl (EX_call rfl)))
set_option maxRecDepth 100000 in
theorem b13_60 {d : Nat} {w : vW} {x0 x1 x2 : Int} {Q : Int → vW → Prop} : VW d 13 60 [(2, x0), (0, x1), (0, x2)] [] w Q ↔ VC d 250 [(0, x2)] w (fun r w1 => VW d 13 64 [(2, x0), (0, x1), (0, x2)] [(0, r)] w1 Q) :=
  (VW_b 2 (F := fun n => vclr (vrun n) d 13 64 250 1 0 [(2, x0), (0, x1), (0, x2)] [(0, x2)] w) (fun _ => rfl)).trans (EX_call rfl)
set_option maxRecDepth 100000 in
theorem b13_64 {d : Nat} {w : vW} {x0 x1 x2 y0 : Int} {Q : Int → vW → Prop} : VW d 13 64 [(2, x0), (0, x1), (0, x2)] [(0, y0)] w Q ↔ Q y0 w :=
  (VW_b 1 (F := fun n => some (0, y0, w)) (fun _ => rfl)).trans (EX_ret0)
/-! 14: StrikeWhatCancels.strikeOnce(I)I -/
set_option maxRecDepth 100000 in
theorem b14_0 {d : Nat} {w : vW} {x0 x1 : Int} {Q : Int → vW → Prop} : VW d 14 0 [(2, x0), (0, x1), (9, 0)] [] w Q ↔ ((x1 = 3 → VW d 14 5 [(2, x0), (0, x1), (9, 0)] [] w Q) ∧ (¬ (x1 = 3) → VW d 14 12 [(2, x0), (0, x1), (9, 0)] [] w Q)) :=
  (VW_b 3 (F := fun n => (if x1 = 3 then vrun n d 14 5 [(2, x0), (0, x1), (9, 0)] [] w else vrun n d 14 12 [(2, x0), (0, x1), (9, 0)] [] w)) (fun _ => rfl)).trans (EX_br.trans (and_congr (imp_congr Iff.rfl Iff.rfl) (imp_congr Iff.rfl Iff.rfl)))
set_option maxRecDepth 100000 in
theorem b14_5 {d : Nat} {w : vW} {x0 x1 : Int} {Q : Int → vW → Prop} : VW d 14 5 [(2, x0), (0, x1), (9, 0)] [] w Q ↔ (vkd w x0 = 21) ∧ VC d 15 [(2, x0)] w (fun r w1 => VW d 14 9 [(2, x0), (0, x1), (9, 0)] [(0, r)] w1 Q) :=
  (VW_b 2 (F := fun n => if vkd w x0 = 21 then vclr (vrun n) d 14 9 15 1 0 [(2, x0), (0, x1), (9, 0)] [(2, x0)] w else none) (fun _ => rfl)).trans (EX_if.trans (and_congr Iff.rfl (EX_call rfl)))
set_option maxRecDepth 100000 in
theorem b14_9 {d : Nat} {w : vW} {x0 x1 y0 : Int} {Q : Int → vW → Prop} : VW d 14 9 [(2, x0), (0, x1), (9, 0)] [(0, y0)] w Q ↔ VW d 14 27 [(2, x0), (0, x1), (9, 0)] [(0, y0)] w Q :=
  (VW_b 1 (F := fun n => vrun n d 14 27 [(2, x0), (0, x1), (9, 0)] [(0, y0)] w) (fun _ => rfl)).trans (Iff.rfl)
set_option maxRecDepth 100000 in
theorem b14_12 {d : Nat} {w : vW} {x0 x1 : Int} {Q : Int → vW → Prop} : VW d 14 12 [(2, x0), (0, x1), (9, 0)] [] w Q ↔ (vkd w x0 = 21) ∧ (vkd w x0 = 21) ∧ (vkd w (vct w x0 3) = 12) ∧ (vkd w (vct w x0 0) = 18) ∧ VC d 263 [(2, vct w x0 0), (0, x1), (1, vct w (vct w x0 3) 2)] w (fun r w1 => VW d 14 27 [(2, x0), (0, x1), (9, 0)] [(0, r)] w1 Q) :=
  (VW_b 7 (F := fun n => if vkd w x0 = 21 then if vkd w x0 = 21 then if vkd w (vct w x0 3) = 12 then if vkd w (vct w x0 0) = 18 then vclr (vrun n) d 14 27 263 3 0 [(2, x0), (0, x1), (9, 0)] [(1, vct w (vct w x0 3) 2), (0, x1), (2, vct w x0 0)] w else none else none else none else none) (fun _ => rfl)).trans (EX_if.trans (and_congr Iff.rfl (EX_if.trans (and_congr Iff.rfl (EX_if.trans (and_congr Iff.rfl (EX_if.trans (and_congr Iff.rfl (EX_call rfl)))))))))
set_option maxRecDepth 100000 in
theorem b14_27 {d : Nat} {w : vW} {x0 x1 y0 : Int} {Q : Int → vW → Prop} : VW d 14 27 [(2, x0), (0, x1), (9, 0)] [(0, y0)] w Q ↔ ((y0 < 0 → VW d 14 101 [(2, x0), (0, x1), (0, y0)] [] w Q) ∧ (¬ (y0 < 0) → VW d 14 32 [(2, x0), (0, x1), (0, y0)] [] w Q)) :=
  (VW_b 3 (F := fun n => (if y0 < 0 then vrun n d 14 101 [(2, x0), (0, x1), (0, y0)] [] w else vrun n d 14 32 [(2, x0), (0, x1), (0, y0)] [] w)) (fun _ => rfl)).trans (EX_br.trans (and_congr (imp_congr Iff.rfl Iff.rfl) (imp_congr Iff.rfl Iff.rfl)))
set_option maxRecDepth 100000 in
theorem b14_32 {d : Nat} {w : vW} {x0 x1 x2 : Int} {Q : Int → vW → Prop} : VW d 14 32 [(2, x0), (0, x1), (0, x2)] [] w Q ↔ (vkd w x0 = 21) ∧ (vkd w x0 = 21) ∧ (vkd w x0 = 21) ∧ (vkd w (vct w x0 3) = 12) ∧ (vkd w (vct w x0 5) = 2 ∧ (0 : Int) ≤ (i_and (vct w x0 6) 63) ∧ (i_and (vct w x0 6) 63) < vln w (vct w x0 5)) ∧ VW d 14 51 [(2, x0), (0, x1), (0, x2)] [] (vsv w (vct w x0 5) (i_and (vct w x0 6) 63) (vct w (vct w x0 3) 2)) Q :=
  (VW_b 10 (F := fun n => if vkd w x0 = 21 then if vkd w x0 = 21 then if vkd w x0 = 21 then if vkd w (vct w x0 3) = 12 then if vkd w (vct w x0 5) = 2 ∧ (0 : Int) ≤ (i_and (vct w x0 6) 63) ∧ (i_and (vct w x0 6) 63) < vln w (vct w x0 5) then vrun n d 14 51 [(2, x0), (0, x1), (0, x2)] [] (vsv w (vct w x0 5) (i_and (vct w x0 6) 63) (vct w (vct w x0 3) 2)) else none else none else none else none else none) (fun _ => rfl)).trans (EX_if.trans (and_congr Iff.rfl (EX_if.trans (and_congr Iff.rfl (EX_if.trans (and_congr Iff.rfl (EX_if.trans (and_congr Iff.rfl (EX_if.trans (and_congr Iff.rfl (Iff.rfl)))))))))))
set_option maxRecDepth 100000 in
theorem b14_51 {d : Nat} {w : vW} {x0 x1 x2 : Int} {Q : Int → vW → Prop} : VW d 14 51 [(2, x0), (0, x1), (0, x2)] [] w Q ↔ (vkd w x0 = 21) ∧ (vkd w x0 = 21) ∧ VW d 14 64 [(2, x0), (0, x1), (0, x2)] [] (vsv w x0 6 (i_and (w32 ((vct w x0 6) + 1)) 63)) Q :=
  (VW_b 8 (F := fun n => if vkd w x0 = 21 then if vkd w x0 = 21 then vrun n d 14 64 [(2, x0), (0, x1), (0, x2)] [] (vsv w x0 6 (i_and (w32 ((vct w x0 6) + 1)) 63)) else none else none) (fun _ => rfl)).trans (EX_if.trans (and_congr Iff.rfl (EX_if.trans (and_congr Iff.rfl (Iff.rfl)))))
set_option maxRecDepth 100000 in
theorem b14_64 {d : Nat} {w : vW} {x0 x1 x2 : Int} {Q : Int → vW → Prop} : VW d 14 64 [(2, x0), (0, x1), (0, x2)] [] w Q ↔ (vkd w x0 = 21) ∧ (vkd w x0 = 21) ∧ VW d 14 79 [(2, x0), (0, x1), (0, x2)] [] (vsv w x0 7 (min 64 (w32 ((vct w x0 7) + 1)))) Q :=
  (VW_b 8 (F := fun n => if vkd w x0 = 21 then if vkd w x0 = 21 then vrun n d 14 79 [(2, x0), (0, x1), (0, x2)] [] (vsv w x0 7 (min 64 (w32 ((vct w x0 7) + 1)))) else none else none) (fun _ => rfl)).trans (EX_if.trans (and_congr Iff.rfl (EX_if.trans (and_congr Iff.rfl (Iff.rfl)))))
set_option maxRecDepth 100000 in
theorem b14_79 {d : Nat} {w : vW} {x0 x1 x2 : Int} {Q : Int → vW → Prop} : VW d 14 79 [(2, x0), (0, x1), (0, x2)] [] w Q ↔ (vkd w x0 = 21) ∧ (vkd w x0 = 21) ∧ (vkd w x0 = 21) ∧ (vkd w (vct w x0 3) = 12) ∧ (vkd w (vct w x0 0) = 18) ∧ VC d 261 [(2, vct w x0 0), (1, vct w (vct w x0 3) 2), (0, x2)] w (fun r w1 => VW d 14 98 [(2, x0), (0, x1), (0, x2)] [(1, r), (2, vct w x0 3)] w1 Q) :=
  (VW_b 9 (F := fun n => if vkd w x0 = 21 then if vkd w x0 = 21 then if vkd w x0 = 21 then if vkd w (vct w x0 3) = 12 then if vkd w (vct w x0 0) = 18 then vclr (vrun n) d 14 98 261 3 1 [(2, x0), (0, x1), (0, x2)] [(0, x2), (1, vct w (vct w x0 3) 2), (2, vct w x0 0), (2, vct w x0 3)] w else none else none else none else none else none) (fun _ => rfl)).trans (EX_if.trans (and_congr Iff.rfl (EX_if.trans (and_congr Iff.rfl (EX_if.trans (and_congr Iff.rfl (EX_if.trans (and_congr Iff.rfl (EX_if.trans (and_congr Iff.rfl (EX_call rfl)))))))))))
set_option maxRecDepth 100000 in
theorem b14_98 {d : Nat} {w : vW} {x0 x1 x2 y0 y1 : Int} {Q : Int → vW → Prop} : VW d 14 98 [(2, x0), (0, x1), (0, x2)] [(1, y1), (2, y0)] w Q ↔ (vkd w y0 = 12) ∧ VW d 14 101 [(2, x0), (0, x1), (0, x2)] [] (vsv w y0 2 y1) Q :=
  (VW_b 1 (F := fun n => if vkd w y0 = 12 then vrun n d 14 101 [(2, x0), (0, x1), (0, x2)] [] (vsv w y0 2 y1) else none) (fun _ => rfl)).trans (EX_if.trans (and_congr Iff.rfl (Iff.rfl)))
set_option maxRecDepth 100000 in
theorem b14_101 {d : Nat} {w : vW} {x0 x1 x2 : Int} {Q : Int → vW → Prop} : VW d 14 101 [(2, x0), (0, x1), (0, x2)] [] w Q ↔ Q x2 w :=
  (VW_b 2 (F := fun n => some (0, x2, w)) (fun _ => rfl)).trans (EX_ret0)
/-! 15: StrikeWhatCancels.drawn()I -/
set_option maxRecDepth 100000 in
theorem b15_0 {d : Nat} {w : vW} {x0 : Int} {Q : Int → vW → Prop} : VW d 15 0 [(2, x0), (9, 0)] [] w Q ↔ (vkd w x0 = 21) ∧ (vkd w x0 = 21) ∧ (vkd w (vct w x0 3) = 12) ∧ (vkd w (vct w x0 0) = 18) ∧ VC d 270 [(2, vct w x0 0), (1, vct w (vct w x0 3) 2)] w (fun r w1 => VW d 15 14 [(2, x0), (9, 0)] [(0, r)] w1 Q) :=
  (VW_b 6 (F := fun n => if vkd w x0 = 21 then if vkd w x0 = 21 then if vkd w (vct w x0 3) = 12 then if vkd w (vct w x0 0) = 18 then vclr (vrun n) d 15 14 270 2 0 [(2, x0), (9, 0)] [(1, vct w (vct w x0 3) 2), (2, vct w x0 0)] w else none else none else none else none) (fun _ => rfl)).trans (EX_if.trans (and_congr Iff.rfl (EX_if.trans (and_congr Iff.rfl (EX_if.trans (and_congr Iff.rfl (EX_if.trans (and_congr Iff.rfl (EX_call rfl)))))))))
set_option maxRecDepth 100000 in
theorem b15_14 {d : Nat} {w : vW} {x0 y0 : Int} {Q : Int → vW → Prop} : VW d 15 14 [(2, x0), (9, 0)] [(0, y0)] w Q ↔ ((0 < y0 → VW d 15 21 [(2, x0), (0, y0)] [] w Q) ∧ (¬ (0 < y0) → VW d 15 19 [(2, x0), (0, y0)] [] w Q)) :=
  (VW_b 3 (F := fun n => (if 0 < y0 then vrun n d 15 21 [(2, x0), (0, y0)] [] w else vrun n d 15 19 [(2, x0), (0, y0)] [] w)) (fun _ => rfl)).trans (EX_br.trans (and_congr (imp_congr Iff.rfl Iff.rfl) (imp_congr Iff.rfl Iff.rfl)))
set_option maxRecDepth 100000 in
theorem b15_19 {d : Nat} {w : vW} {x0 x1 : Int} {Q : Int → vW → Prop} : VW d 15 19 [(2, x0), (0, x1)] [] w Q ↔ Q (-1) w :=
  (VW_b 2 (F := fun n => some (0, (-1), w)) (fun _ => rfl)).trans (EX_ret0)
set_option maxRecDepth 100000 in
theorem b15_21 {d : Nat} {w : vW} {x0 x1 : Int} {Q : Int → vW → Prop} : VW d 15 21 [(2, x0), (0, x1)] [] w Q ↔ (vkd w x0 = 21) ∧ (vkd w x0 = 21) ∧ (vkd w (vct w x0 3) = 12) ∧ (vkd w (vct w x0 3) = 12) ∧ VW d 15 42 [(2, x0), (0, x1)] [] (vsv w (vct w x0 3) 3 (w32 ((w32 ((vct w (vct w x0 3) 3) * 1103515245)) + 12345))) Q :=
  (VW_b 10 (F := fun n => if vkd w x0 = 21 then if vkd w x0 = 21 then if vkd w (vct w x0 3) = 12 then if vkd w (vct w x0 3) = 12 then vrun n d 15 42 [(2, x0), (0, x1)] [] (vsv w (vct w x0 3) 3 (w32 ((w32 ((vct w (vct w x0 3) 3) * 1103515245)) + 12345))) else none else none else none else none) (fun _ => rfl)).trans (EX_if.trans (and_congr Iff.rfl (EX_if.trans (and_congr Iff.rfl (EX_if.trans (and_congr Iff.rfl (EX_if.trans (and_congr Iff.rfl (Iff.rfl)))))))))
set_option maxRecDepth 100000 in
theorem b15_42 {d : Nat} {w : vW} {x0 x1 : Int} {Q : Int → vW → Prop} : VW d 15 42 [(2, x0), (0, x1)] [] w Q ↔ (vkd w x0 = 21) ∧ (vkd w x0 = 21) ∧ (vkd w (vct w x0 3) = 12) ∧ (vkd w x0 = 21) ∧ (vkd w (vct w x0 3) = 12) ∧ ¬ (x1 = 0) ∧ (vkd w (vct w x0 0) = 18) ∧ VC d 272 [(2, vct w x0 0), (1, vct w (vct w x0 3) 2), (0, Int.tmod (i_ushr (vct w (vct w x0 3) 3) 16) x1)] w (fun r w1 => VW d 15 68 [(2, x0), (0, x1)] [(0, r)] w1 Q) :=
  (VW_b 13 (F := fun n => if vkd w x0 = 21 then if vkd w x0 = 21 then if vkd w (vct w x0 3) = 12 then if vkd w x0 = 21 then if vkd w (vct w x0 3) = 12 then if x1 = 0 then none else if vkd w (vct w x0 0) = 18 then vclr (vrun n) d 15 68 272 3 0 [(2, x0), (0, x1)] [(0, Int.tmod (i_ushr (vct w (vct w x0 3) 3) 16) x1), (1, vct w (vct w x0 3) 2), (2, vct w x0 0)] w else none else none else none else none else none else none) (fun _ => rfl)).trans (EX_if.trans (and_congr Iff.rfl (EX_if.trans (and_congr Iff.rfl (EX_if.trans (and_congr Iff.rfl (EX_if.trans (and_congr Iff.rfl (EX_if.trans (and_congr Iff.rfl (EX_ifn.trans (and_congr Iff.rfl (EX_if.trans (and_congr Iff.rfl (EX_call rfl)))))))))))))))
set_option maxRecDepth 100000 in
theorem b15_68 {d : Nat} {w : vW} {x0 x1 y0 : Int} {Q : Int → vW → Prop} : VW d 15 68 [(2, x0), (0, x1)] [(0, y0)] w Q ↔ Q y0 w :=
  (VW_b 1 (F := fun n => some (0, y0, w)) (fun _ => rfl)).trans (EX_ret0)
/-! 16: StrikeWhatCancels.run(II)I -/
set_option maxRecDepth 100000 in
theorem b16_0 {d : Nat} {w : vW} {x0 x1 x2 : Int} {Q : Int → vW → Prop} : VW d 16 0 [(2, x0), (0, x1), (0, x2), (9, 0), (9, 0), (9, 0)] [] w Q ↔ ((x1 < 0 → VW d 16 20 [(2, x0), (0, x1), (0, x2), (9, 0), (9, 0), (9, 0)] [] w Q) ∧ (¬ (x1 < 0) → VW d 16 4 [(2, x0), (0, x1), (0, x2), (9, 0), (9, 0), (9, 0)] [] w Q)) :=
  (VW_b 2 (F := fun n => (if x1 < 0 then vrun n d 16 20 [(2, x0), (0, x1), (0, x2), (9, 0), (9, 0), (9, 0)] [] w else vrun n d 16 4 [(2, x0), (0, x1), (0, x2), (9, 0), (9, 0), (9, 0)] [] w)) (fun _ => rfl)).trans (EX_br.trans (and_congr (imp_congr Iff.rfl Iff.rfl) (imp_congr Iff.rfl Iff.rfl)))
set_option maxRecDepth 100000 in
theorem b16_4 {d : Nat} {w : vW} {x0 x1 x2 : Int} {Q : Int → vW → Prop} : VW d 16 4 [(2, x0), (0, x1), (0, x2), (9, 0), (9, 0), (9, 0)] [] w Q ↔ ((3 < x1 → VW d 16 20 [(2, x0), (0, x1), (0, x2), (9, 0), (9, 0), (9, 0)] [] w Q) ∧ (¬ (3 < x1) → VW d 16 9 [(2, x0), (0, x1), (0, x2), (9, 0), (9, 0), (9, 0)] [] w Q)) :=
  (VW_b 3 (F := fun n => (if 3 < x1 then vrun n d 16 20 [(2, x0), (0, x1), (0, x2), (9, 0), (9, 0), (9, 0)] [] w else vrun n d 16 9 [(2, x0), (0, x1), (0, x2), (9, 0), (9, 0), (9, 0)] [] w)) (fun _ => rfl)).trans (EX_br.trans (and_congr (imp_congr Iff.rfl Iff.rfl) (imp_congr Iff.rfl Iff.rfl)))
set_option maxRecDepth 100000 in
theorem b16_9 {d : Nat} {w : vW} {x0 x1 x2 : Int} {Q : Int → vW → Prop} : VW d 16 9 [(2, x0), (0, x1), (0, x2), (9, 0), (9, 0), (9, 0)] [] w Q ↔ ((x2 < 0 → VW d 16 20 [(2, x0), (0, x1), (0, x2), (9, 0), (9, 0), (9, 0)] [] w Q) ∧ (¬ (x2 < 0) → VW d 16 13 [(2, x0), (0, x1), (0, x2), (9, 0), (9, 0), (9, 0)] [] w Q)) :=
  (VW_b 2 (F := fun n => (if x2 < 0 then vrun n d 16 20 [(2, x0), (0, x1), (0, x2), (9, 0), (9, 0), (9, 0)] [] w else vrun n d 16 13 [(2, x0), (0, x1), (0, x2), (9, 0), (9, 0), (9, 0)] [] w)) (fun _ => rfl)).trans (EX_br.trans (and_congr (imp_congr Iff.rfl Iff.rfl) (imp_congr Iff.rfl Iff.rfl)))
set_option maxRecDepth 100000 in
theorem b16_13 {d : Nat} {w : vW} {x0 x1 x2 : Int} {Q : Int → vW → Prop} : VW d 16 13 [(2, x0), (0, x1), (0, x2), (9, 0), (9, 0), (9, 0)] [] w Q ↔ ((500 < x2 → VW d 16 20 [(2, x0), (0, x1), (0, x2), (9, 0), (9, 0), (9, 0)] [] w Q) ∧ (¬ (500 < x2) → VW d 16 22 [(2, x0), (0, x1), (0, x2), (9, 0), (9, 0), (9, 0)] [] w Q)) :=
  (VW_b 3 (F := fun n => (if 500 < x2 then vrun n d 16 20 [(2, x0), (0, x1), (0, x2), (9, 0), (9, 0), (9, 0)] [] w else vrun n d 16 22 [(2, x0), (0, x1), (0, x2), (9, 0), (9, 0), (9, 0)] [] w)) (fun _ => rfl)).trans (EX_br.trans (and_congr (imp_congr Iff.rfl Iff.rfl) (imp_congr Iff.rfl Iff.rfl)))
set_option maxRecDepth 100000 in
theorem b16_20 {d : Nat} {w : vW} {x0 x1 x2 : Int} {Q : Int → vW → Prop} : VW d 16 20 [(2, x0), (0, x1), (0, x2), (9, 0), (9, 0), (9, 0)] [] w Q ↔ Q (-1) w :=
  (VW_b 2 (F := fun n => some (0, (-1), w)) (fun _ => rfl)).trans (EX_ret0)
set_option maxRecDepth 100000 in
theorem b16_22 {d : Nat} {w : vW} {x0 x1 x2 : Int} {Q : Int → vW → Prop} : VW d 16 22 [(2, x0), (0, x1), (0, x2), (9, 0), (9, 0), (9, 0)] [] w Q ↔ (vkd w x0 = 21) ∧ (vkd w x0 = 21) ∧ (vkd w (vct w x0 0) = 18) ∧ (vkd w (vct w x0 2) = 20) ∧ VC d 292 [(2, vct w x0 2), (0, w32 (1 + (vct w (vct w x0 0) 3)))] w (fun _ w1 => VW d 16 38 [(2, x0), (0, x1), (0, x2), (9, 0), (9, 0), (9, 0)] [] w1 Q) :=
  (VW_b 8 (F := fun n => if vkd w x0 = 21 then if vkd w x0 = 21 then if vkd w (vct w x0 0) = 18 then if vkd w (vct w x0 2) = 20 then vclr (vrun n) d 16 38 292 2 9 [(2, x0), (0, x1), (0, x2), (9, 0), (9, 0), (9, 0)] [(0, w32 (1 + (vct w (vct w x0 0) 3))), (2, vct w x0 2)] w else none else none else none else none) (fun _ => rfl)).trans (EX_if.trans (and_congr Iff.rfl (EX_if.trans (and_congr Iff.rfl (EX_if.trans (and_congr Iff.rfl (EX_if.trans (and_congr Iff.rfl (EX_call rfl)))))))))
set_option maxRecDepth 100000 in
theorem b16_38 {d : Nat} {w : vW} {x0 x1 x2 : Int} {Q : Int → vW → Prop} : VW d 16 38 [(2, x0), (0, x1), (0, x2), (9, 0), (9, 0), (9, 0)] [] w Q ↔ VW d 16 43 [(2, x0), (0, x1), (0, x2), (0, 0), (0, 0), (9, 0)] [] w Q :=
  (VW_b 4 (F := fun n => vrun n d 16 43 [(2, x0), (0, x1), (0, x2), (0, 0), (0, 0), (9, 0)] [] w) (fun _ => rfl)).trans (Iff.rfl)
set_option maxRecDepth 100000 in
theorem b16_43 {d : Nat} {w : vW} {x0 x1 x2 x3 x4 : Int} {v5 : vV} {Q : Int → vW → Prop} : VW d 16 43 [(2, x0), (0, x1), (0, x2), (0, x3), (0, x4), v5] [] w Q ↔ ((x4 < x2 → VW d 16 49 [(2, x0), (0, x1), (0, x2), (0, x3), (0, x4), v5] [] w Q) ∧ (¬ (x4 < x2) → VW d 16 87 [(2, x0), (0, x1), (0, x2), (0, x3), (0, x4), v5] [] w Q)) :=
  (VW_b 3 (F := fun n => (if x4 < x2 then vrun n d 16 49 [(2, x0), (0, x1), (0, x2), (0, x3), (0, x4), v5] [] w else vrun n d 16 87 [(2, x0), (0, x1), (0, x2), (0, x3), (0, x4), v5] [] w)) (fun _ => rfl)).trans (EX_br.trans (and_congr (imp_congr Iff.rfl Iff.rfl) (imp_congr Iff.rfl Iff.rfl)))
set_option maxRecDepth 100000 in
theorem b16_49 {d : Nat} {w : vW} {x0 x1 x2 x3 x4 : Int} {v5 : vV} {Q : Int → vW → Prop} : VW d 16 49 [(2, x0), (0, x1), (0, x2), (0, x3), (0, x4), v5] [] w Q ↔ (vkd w x0 = 21) ∧ VC d 14 [(2, x0), (0, x1)] w (fun r w1 => VW d 16 54 [(2, x0), (0, x1), (0, x2), (0, x3), (0, x4), v5] [(0, r)] w1 Q) :=
  (VW_b 3 (F := fun n => if vkd w x0 = 21 then vclr (vrun n) d 16 54 14 2 0 [(2, x0), (0, x1), (0, x2), (0, x3), (0, x4), v5] [(0, x1), (2, x0)] w else none) (fun _ => rfl)).trans (EX_if.trans (and_congr Iff.rfl (EX_call rfl)))
set_option maxRecDepth 100000 in
theorem b16_54 {d : Nat} {w : vW} {x0 x1 x2 x3 x4 y0 : Int} {v5 : vV} {Q : Int → vW → Prop} : VW d 16 54 [(2, x0), (0, x1), (0, x2), (0, x3), (0, x4), v5] [(0, y0)] w Q ↔ ((y0 < 0 → VW d 16 61 [(2, x0), (0, x1), (0, x2), (0, x3), (0, x4), (0, y0)] [] w Q) ∧ (¬ (y0 < 0) → VW d 16 64 [(2, x0), (0, x1), (0, x2), (0, x3), (0, x4), (0, y0)] [] w Q)) :=
  (VW_b 3 (F := fun n => (if y0 < 0 then vrun n d 16 61 [(2, x0), (0, x1), (0, x2), (0, x3), (0, x4), (0, y0)] [] w else vrun n d 16 64 [(2, x0), (0, x1), (0, x2), (0, x3), (0, x4), (0, y0)] [] w)) (fun _ => rfl)).trans (EX_br.trans (and_congr (imp_congr Iff.rfl Iff.rfl) (imp_congr Iff.rfl Iff.rfl)))
set_option maxRecDepth 100000 in
theorem b16_61 {d : Nat} {w : vW} {x0 x1 x2 x3 x4 x5 : Int} {Q : Int → vW → Prop} : VW d 16 61 [(2, x0), (0, x1), (0, x2), (0, x3), (0, x4), (0, x5)] [] w Q ↔ VW d 16 87 [(2, x0), (0, x1), (0, x2), (0, x3), (0, x4), (0, x5)] [] w Q :=
  (VW_b 1 (F := fun n => vrun n d 16 87 [(2, x0), (0, x1), (0, x2), (0, x3), (0, x4), (0, x5)] [] w) (fun _ => rfl)).trans (Iff.rfl)
set_option maxRecDepth 100000 in
theorem b16_64 {d : Nat} {w : vW} {x0 x1 x2 x3 x4 x5 : Int} {Q : Int → vW → Prop} : VW d 16 64 [(2, x0), (0, x1), (0, x2), (0, x3), (0, x4), (0, x5)] [] w Q ↔ (vkd w x0 = 21) ∧ VC d 250 [(0, x5)] w (fun r w1 => VW d 16 74 [(2, x0), (0, x1), (0, x2), (0, x3), (0, x4), (0, x5)] [(0, r), (0, 1), (2, vct w x0 2)] w1 Q) :=
  (VW_b 5 (F := fun n => if vkd w x0 = 21 then vclr (vrun n) d 16 74 250 1 0 [(2, x0), (0, x1), (0, x2), (0, x3), (0, x4), (0, x5)] [(0, x5), (0, 1), (2, vct w x0 2)] w else none) (fun _ => rfl)).trans (EX_if.trans (and_congr Iff.rfl (EX_call rfl)))
set_option maxRecDepth 100000 in
theorem b16_74 {d : Nat} {w : vW} {x0 x1 x2 x3 x4 x5 y0 y1 y2 : Int} {Q : Int → vW → Prop} : VW d 16 74 [(2, x0), (0, x1), (0, x2), (0, x3), (0, x4), (0, x5)] [(0, y2), (0, y1), (2, y0)] w Q ↔ (vkd w y0 = 20) ∧ VC d 295 [(2, y0), (0, w32 (y1 + y2))] w (fun _ w1 => VW d 16 78 [(2, x0), (0, x1), (0, x2), (0, x3), (0, x4), (0, x5)] [] w1 Q) :=
  (VW_b 2 (F := fun n => if vkd w y0 = 20 then vclr (vrun n) d 16 78 295 2 9 [(2, x0), (0, x1), (0, x2), (0, x3), (0, x4), (0, x5)] [(0, w32 (y1 + y2)), (2, y0)] w else none) (fun _ => rfl)).trans (EX_if.trans (and_congr Iff.rfl (EX_call rfl)))
set_option maxRecDepth 100000 in
theorem b16_78 {d : Nat} {w : vW} {x0 x1 x2 x3 x4 x5 : Int} {Q : Int → vW → Prop} : VW d 16 78 [(2, x0), (0, x1), (0, x2), (0, x3), (0, x4), (0, x5)] [] w Q ↔ VW d 16 43 [(2, x0), (0, x1), (0, x2), (0, w32 (x3 + 1)), (0, w32 (x4 + 1)), (0, x5)] [] w Q :=
  (VW_b 3 (F := fun n => vrun n d 16 43 [(2, x0), (0, x1), (0, x2), (0, w32 (x3 + 1)), (0, w32 (x4 + 1)), (0, x5)] [] w) (fun _ => rfl)).trans (Iff.rfl)
set_option maxRecDepth 100000 in
theorem b16_87 {d : Nat} {w : vW} {x0 x1 x2 x3 x4 : Int} {v5 : vV} {Q : Int → vW → Prop} : VW d 16 87 [(2, x0), (0, x1), (0, x2), (0, x3), (0, x4), v5] [] w Q ↔ (vkd w x0 = 21) ∧ (vkd w x0 = 21) ∧ (vkd w (vct w x0 3) = 12) ∧ VC d 281 [(1, vct w (vct w x0 3) 2)] w (fun r w1 => VW d 16 102 [(2, x0), (0, x1), (0, x2), (0, x3), (0, x4), v5] [(1, r), (0, 0), (2, vct w x0 2)] w1 Q) :=
  (VW_b 7 (F := fun n => if vkd w x0 = 21 then if vkd w x0 = 21 then if vkd w (vct w x0 3) = 12 then vclr (vrun n) d 16 102 281 1 1 [(2, x0), (0, x1), (0, x2), (0, x3), (0, x4), v5] [(1, vct w (vct w x0 3) 2), (0, 0), (2, vct w x0 2)] w else none else none else none) (fun _ => rfl)).trans (EX_if.trans (and_congr Iff.rfl (EX_if.trans (and_congr Iff.rfl (EX_if.trans (and_congr Iff.rfl (EX_call rfl)))))))
set_option maxRecDepth 100000 in
theorem b16_102 {d : Nat} {w : vW} {x0 x1 x2 x3 x4 y0 y1 y2 : Int} {v5 : vV} {Q : Int → vW → Prop} : VW d 16 102 [(2, x0), (0, x1), (0, x2), (0, x3), (0, x4), v5] [(1, y2), (0, y1), (2, y0)] w Q ↔ (vkd w y0 = 20) ∧ VC d 294 [(2, y0), (0, y1), (1, y2)] w (fun _ w1 => VW d 16 105 [(2, x0), (0, x1), (0, x2), (0, x3), (0, x4), v5] [] w1 Q) :=
  (VW_b 1 (F := fun n => if vkd w y0 = 20 then vclr (vrun n) d 16 105 294 3 9 [(2, x0), (0, x1), (0, x2), (0, x3), (0, x4), v5] [(1, y2), (0, y1), (2, y0)] w else none) (fun _ => rfl)).trans (EX_if.trans (and_congr Iff.rfl (EX_call rfl)))
set_option maxRecDepth 100000 in
theorem b16_105 {d : Nat} {w : vW} {x0 x1 x2 x3 x4 : Int} {v5 : vV} {Q : Int → vW → Prop} : VW d 16 105 [(2, x0), (0, x1), (0, x2), (0, x3), (0, x4), v5] [] w Q ↔ Q x3 w :=
  (VW_b 2 (F := fun n => some (0, x3, w)) (fun _ => rfl)).trans (EX_ret0)
/-! 17: StrikeWhatCancels.undo()I -/
set_option maxRecDepth 100000 in
theorem b17_0 {d : Nat} {w : vW} {x0 : Int} {Q : Int → vW → Prop} : VW d 17 0 [(2, x0)] [] w Q ↔ (vkd w x0 = 21) ∧ ((0 < (vct w x0 7) → VW d 17 9 [(2, x0)] [] w Q) ∧ (¬ (0 < (vct w x0 7)) → VW d 17 7 [(2, x0)] [] w Q)) :=
  (VW_b 3 (F := fun n => if vkd w x0 = 21 then (if 0 < (vct w x0 7) then vrun n d 17 9 [(2, x0)] [] w else vrun n d 17 7 [(2, x0)] [] w) else none) (fun _ => rfl)).trans (EX_if.trans (and_congr Iff.rfl (EX_br.trans (and_congr (imp_congr Iff.rfl Iff.rfl) (imp_congr Iff.rfl Iff.rfl)))))
set_option maxRecDepth 100000 in
theorem b17_7 {d : Nat} {w : vW} {x0 : Int} {Q : Int → vW → Prop} : VW d 17 7 [(2, x0)] [] w Q ↔ Q (-1) w :=
  (VW_b 2 (F := fun n => some (0, (-1), w)) (fun _ => rfl)).trans (EX_ret0)
set_option maxRecDepth 100000 in
theorem b17_9 {d : Nat} {w : vW} {x0 : Int} {Q : Int → vW → Prop} : VW d 17 9 [(2, x0)] [] w Q ↔ (vkd w x0 = 21) ∧ (vkd w x0 = 21) ∧ VW d 17 22 [(2, x0)] [] (vsv w x0 6 (i_and (w32 ((vct w x0 6) - 1)) 63)) Q :=
  (VW_b 8 (F := fun n => if vkd w x0 = 21 then if vkd w x0 = 21 then vrun n d 17 22 [(2, x0)] [] (vsv w x0 6 (i_and (w32 ((vct w x0 6) - 1)) 63)) else none else none) (fun _ => rfl)).trans (EX_if.trans (and_congr Iff.rfl (EX_if.trans (and_congr Iff.rfl (Iff.rfl)))))
set_option maxRecDepth 100000 in
theorem b17_22 {d : Nat} {w : vW} {x0 : Int} {Q : Int → vW → Prop} : VW d 17 22 [(2, x0)] [] w Q ↔ (vkd w x0 = 21) ∧ (vkd w x0 = 21) ∧ VW d 17 32 [(2, x0)] [] (vsv w x0 7 (w32 ((vct w x0 7) - 1))) Q :=
  (VW_b 6 (F := fun n => if vkd w x0 = 21 then if vkd w x0 = 21 then vrun n d 17 32 [(2, x0)] [] (vsv w x0 7 (w32 ((vct w x0 7) - 1))) else none else none) (fun _ => rfl)).trans (EX_if.trans (and_congr Iff.rfl (EX_if.trans (and_congr Iff.rfl (Iff.rfl)))))
set_option maxRecDepth 100000 in
theorem b17_32 {d : Nat} {w : vW} {x0 : Int} {Q : Int → vW → Prop} : VW d 17 32 [(2, x0)] [] w Q ↔ (vkd w x0 = 21) ∧ (vkd w x0 = 21) ∧ (vkd w x0 = 21) ∧ (vkd w (vct w x0 5) = 2 ∧ (0 : Int) ≤ (i_and (vct w x0 6) 63) ∧ (i_and (vct w x0 6) 63) < vln w (vct w x0 5)) ∧ (vkd w (vct w x0 3) = 12) ∧ VW d 17 51 [(2, x0)] [] (vsv w (vct w x0 3) 2 (vct w (vct w x0 5) (i_and (vct w x0 6) 63))) Q :=
  (VW_b 10 (F := fun n => if vkd w x0 = 21 then if vkd w x0 = 21 then if vkd w x0 = 21 then if vkd w (vct w x0 5) = 2 ∧ (0 : Int) ≤ (i_and (vct w x0 6) 63) ∧ (i_and (vct w x0 6) 63) < vln w (vct w x0 5) then if vkd w (vct w x0 3) = 12 then vrun n d 17 51 [(2, x0)] [] (vsv w (vct w x0 3) 2 (vct w (vct w x0 5) (i_and (vct w x0 6) 63))) else none else none else none else none else none) (fun _ => rfl)).trans (EX_if.trans (and_congr Iff.rfl (EX_if.trans (and_congr Iff.rfl (EX_if.trans (and_congr Iff.rfl (EX_if.trans (and_congr Iff.rfl (EX_if.trans (and_congr Iff.rfl (Iff.rfl)))))))))))
set_option maxRecDepth 100000 in
theorem b17_51 {d : Nat} {w : vW} {x0 : Int} {Q : Int → vW → Prop} : VW d 17 51 [(2, x0)] [] w Q ↔ (vkd w x0 = 21) ∧ Q (vct w x0 7) w :=
  (VW_b 3 (F := fun n => if vkd w x0 = 21 then some (0, vct w x0 7, w) else none) (fun _ => rfl)).trans (EX_if.trans (and_congr Iff.rfl (EX_ret0)))
/-! 18: StrikeWhatCancels.anew()J -/
set_option maxRecDepth 100000 in
theorem b18_0 {d : Nat} {w : vW} {x0 : Int} {Q : Int → vW → Prop} : VW d 18 0 [(2, x0)] [] w Q ↔ (vkd w x0 = 21) ∧ (vkd w x0 = 21) ∧ (vkd w (vct w x0 3) = 12) ∧ (vkd w (vct w x0 3) = 12) ∧ VW d 18 14 [(2, x0)] [] (vsv w (vct w x0 3) 2 (vct w (vct w x0 3) 1)) Q :=
  (VW_b 6 (F := fun n => if vkd w x0 = 21 then if vkd w x0 = 21 then if vkd w (vct w x0 3) = 12 then if vkd w (vct w x0 3) = 12 then vrun n d 18 14 [(2, x0)] [] (vsv w (vct w x0 3) 2 (vct w (vct w x0 3) 1)) else none else none else none else none) (fun _ => rfl)).trans (EX_if.trans (and_congr Iff.rfl (EX_if.trans (and_congr Iff.rfl (EX_if.trans (and_congr Iff.rfl (EX_if.trans (and_congr Iff.rfl (Iff.rfl)))))))))
set_option maxRecDepth 100000 in
theorem b18_14 {d : Nat} {w : vW} {x0 : Int} {Q : Int → vW → Prop} : VW d 18 14 [(2, x0)] [] w Q ↔ (vkd w x0 = 21) ∧ VW d 18 19 [(2, x0)] [] (vsv w x0 7 0) Q :=
  (VW_b 3 (F := fun n => if vkd w x0 = 21 then vrun n d 18 19 [(2, x0)] [] (vsv w x0 7 0) else none) (fun _ => rfl)).trans (EX_if.trans (and_congr Iff.rfl (Iff.rfl)))
set_option maxRecDepth 100000 in
theorem b18_19 {d : Nat} {w : vW} {x0 : Int} {Q : Int → vW → Prop} : VW d 18 19 [(2, x0)] [] w Q ↔ (vkd w x0 = 21) ∧ (vkd w (vct w x0 3) = 12) ∧ VC d 281 [(1, vct w (vct w x0 3) 2)] w (fun r w1 => VW d 18 29 [(2, x0)] [(1, r)] w1 Q) :=
  (VW_b 4 (F := fun n => if vkd w x0 = 21 then if vkd w (vct w x0 3) = 12 then vclr (vrun n) d 18 29 281 1 1 [(2, x0)] [(1, vct w (vct w x0 3) 2)] w else none else none) (fun _ => rfl)).trans (EX_if.trans (and_congr Iff.rfl (EX_if.trans (and_congr Iff.rfl (EX_call rfl)))))
set_option maxRecDepth 100000 in
theorem b18_29 {d : Nat} {w : vW} {x0 y0 : Int} {Q : Int → vW → Prop} : VW d 18 29 [(2, x0)] [(1, y0)] w Q ↔ Q y0 w :=
  (VW_b 1 (F := fun n => some (0, y0, w)) (fun _ => rfl)).trans (EX_ret0)
/-! 19: StrikeWhatCancels.can()I -/
set_option maxRecDepth 100000 in
theorem b19_0 {d : Nat} {w : vW} {x0 : Int} {Q : Int → vW → Prop} : VW d 19 0 [(2, x0), (9, 0), (9, 0), (9, 0)] [] w Q ↔ (vkd w x0 = 21) ∧ (vkd w x0 = 21) ∧ (vkd w (vct w x0 0) = 18) ∧ (vkd w (vct w x0 2) = 20) ∧ VC d 292 [(2, vct w x0 2), (0, vct w (vct w x0 0) 3)] w (fun _ w1 => VW d 19 14 [(2, x0), (9, 0), (9, 0), (9, 0)] [] w1 Q) :=
  (VW_b 6 (F := fun n => if vkd w x0 = 21 then if vkd w x0 = 21 then if vkd w (vct w x0 0) = 18 then if vkd w (vct w x0 2) = 20 then vclr (vrun n) d 19 14 292 2 9 [(2, x0), (9, 0), (9, 0), (9, 0)] [(0, vct w (vct w x0 0) 3), (2, vct w x0 2)] w else none else none else none else none) (fun _ => rfl)).trans (EX_if.trans (and_congr Iff.rfl (EX_if.trans (and_congr Iff.rfl (EX_if.trans (and_congr Iff.rfl (EX_if.trans (and_congr Iff.rfl (EX_call rfl)))))))))
set_option maxRecDepth 100000 in
theorem b19_14 {d : Nat} {w : vW} {x0 : Int} {Q : Int → vW → Prop} : VW d 19 14 [(2, x0), (9, 0), (9, 0), (9, 0)] [] w Q ↔ VW d 19 18 [(2, x0), (0, 0), (0, 0), (9, 0)] [] w Q :=
  (VW_b 4 (F := fun n => vrun n d 19 18 [(2, x0), (0, 0), (0, 0), (9, 0)] [] w) (fun _ => rfl)).trans (Iff.rfl)
set_option maxRecDepth 100000 in
theorem b19_18 {d : Nat} {w : vW} {x0 x1 x2 : Int} {v3 : vV} {Q : Int → vW → Prop} : VW d 19 18 [(2, x0), (0, x1), (0, x2), v3] [] w Q ↔ (vkd w x0 = 21) ∧ (vkd w (vct w x0 0) = 18) ∧ ((x2 < (vct w (vct w x0 0) 3) → VW d 19 29 [(2, x0), (0, x1), (0, x2), v3] [] w Q) ∧ (¬ (x2 < (vct w (vct w x0 0) 3)) → VW d 19 65 [(2, x0), (0, x1), (0, x2), v3] [] w Q)) :=
  (VW_b 5 (F := fun n => if vkd w x0 = 21 then if vkd w (vct w x0 0) = 18 then (if x2 < (vct w (vct w x0 0) 3) then vrun n d 19 29 [(2, x0), (0, x1), (0, x2), v3] [] w else vrun n d 19 65 [(2, x0), (0, x1), (0, x2), v3] [] w) else none else none) (fun _ => rfl)).trans (EX_if.trans (and_congr Iff.rfl (EX_if.trans (and_congr Iff.rfl (EX_br.trans (and_congr (imp_congr Iff.rfl Iff.rfl) (imp_congr Iff.rfl Iff.rfl)))))))
set_option maxRecDepth 100000 in
theorem b19_29 {d : Nat} {w : vW} {x0 x1 x2 : Int} {v3 : vV} {Q : Int → vW → Prop} : VW d 19 29 [(2, x0), (0, x1), (0, x2), v3] [] w Q ↔ (vkd w x0 = 21) ∧ (vkd w x0 = 21) ∧ (vkd w (vct w x0 3) = 12) ∧ (vkd w (vct w x0 0) = 18) ∧ VC d 271 [(2, vct w x0 0), (0, x2), (1, vct w (vct w x0 3) 2)] w (fun r w1 => VW d 19 44 [(2, x0), (0, x1), (0, x2), v3] [(0, r)] w1 Q) :=
  (VW_b 7 (F := fun n => if vkd w x0 = 21 then if vkd w x0 = 21 then if vkd w (vct w x0 3) = 12 then if vkd w (vct w x0 0) = 18 then vclr (vrun n) d 19 44 271 3 0 [(2, x0), (0, x1), (0, x2), v3] [(1, vct w (vct w x0 3) 2), (0, x2), (2, vct w x0 0)] w else none else none else none else none) (fun _ => rfl)).trans (EX_if.trans (and_congr Iff.rfl (EX_if.trans (and_congr Iff.rfl (EX_if.trans (and_congr Iff.rfl (EX_if.trans (and_congr Iff.rfl (EX_call rfl)))))))))
set_option maxRecDepth 100000 in
theorem b19_44 {d : Nat} {w : vW} {x0 x1 x2 y0 : Int} {v3 : vV} {Q : Int → vW → Prop} : VW d 19 44 [(2, x0), (0, x1), (0, x2), v3] [(0, y0)] w Q ↔ (vkd w x0 = 21) ∧ (vkd w (vct w x0 2) = 20) ∧ VC d 294 [(2, vct w x0 2), (0, x2), (1, y0)] w (fun _ w1 => VW d 19 55 [(2, x0), (0, x1), (0, x2), (0, y0)] [] w1 Q) :=
  (VW_b 7 (F := fun n => if vkd w x0 = 21 then if vkd w (vct w x0 2) = 20 then vclr (vrun n) d 19 55 294 3 9 [(2, x0), (0, x1), (0, x2), (0, y0)] [(1, y0), (0, x2), (2, vct w x0 2)] w else none else none) (fun _ => rfl)).trans (EX_if.trans (and_congr Iff.rfl (EX_if.trans (and_congr Iff.rfl (EX_call rfl)))))
set_option maxRecDepth 100000 in
theorem b19_55 {d : Nat} {w : vW} {x0 x1 x2 x3 : Int} {Q : Int → vW → Prop} : VW d 19 55 [(2, x0), (0, x1), (0, x2), (0, x3)] [] w Q ↔ VW d 19 18 [(2, x0), (0, w32 (x1 + x3)), (0, w32 (x2 + 1)), (0, x3)] [] w Q :=
  (VW_b 6 (F := fun n => vrun n d 19 18 [(2, x0), (0, w32 (x1 + x3)), (0, w32 (x2 + 1)), (0, x3)] [] w) (fun _ => rfl)).trans (Iff.rfl)
set_option maxRecDepth 100000 in
theorem b19_65 {d : Nat} {w : vW} {x0 x1 x2 : Int} {v3 : vV} {Q : Int → vW → Prop} : VW d 19 65 [(2, x0), (0, x1), (0, x2), v3] [] w Q ↔ Q x1 w :=
  (VW_b 2 (F := fun n => some (0, x1, w)) (fun _ => rfl)).trans (EX_ret0)
/-! 20: StrikeWhatCancels.judge(III)I -/
set_option maxRecDepth 100000 in
theorem b20_0 {d : Nat} {w : vW} {x0 x1 x2 x3 : Int} {Q : Int → vW → Prop} : VW d 20 0 [(2, x0), (0, x1), (0, x2), (0, x3), (9, 0), (9, 0), (9, 0), (9, 0), (9, 0), (9, 0), (9, 0)] [] w Q ↔ ((x1 < 0 → VW d 20 10 [(2, x0), (0, x1), (0, x2), (0, x3), (9, 0), (9, 0), (9, 0), (9, 0), (9, 0), (9, 0), (9, 0)] [] w Q) ∧ (¬ (x1 < 0) → VW d 20 4 [(2, x0), (0, x1), (0, x2), (0, x3), (9, 0), (9, 0), (9, 0), (9, 0), (9, 0), (9, 0), (9, 0)] [] w Q)) :=
  (VW_b 2 (F := fun n => (if x1 < 0 then vrun n d 20 10 [(2, x0), (0, x1), (0, x2), (0, x3), (9, 0), (9, 0), (9, 0), (9, 0), (9, 0), (9, 0), (9, 0)] [] w else vrun n d 20 4 [(2, x0), (0, x1), (0, x2), (0, x3), (9, 0), (9, 0), (9, 0), (9, 0), (9, 0), (9, 0), (9, 0)] [] w)) (fun _ => rfl)).trans (EX_br.trans (and_congr (imp_congr Iff.rfl Iff.rfl) (imp_congr Iff.rfl Iff.rfl)))
set_option maxRecDepth 100000 in
theorem b20_4 {d : Nat} {w : vW} {x0 x1 x2 x3 : Int} {Q : Int → vW → Prop} : VW d 20 4 [(2, x0), (0, x1), (0, x2), (0, x3), (9, 0), (9, 0), (9, 0), (9, 0), (9, 0), (9, 0), (9, 0)] [] w Q ↔ ((7 < x1 → VW d 20 10 [(2, x0), (0, x1), (0, x2), (0, x3), (9, 0), (9, 0), (9, 0), (9, 0), (9, 0), (9, 0), (9, 0)] [] w Q) ∧ (¬ (7 < x1) → VW d 20 12 [(2, x0), (0, x1), (0, x2), (0, x3), (9, 0), (9, 0), (9, 0), (9, 0), (9, 0), (9, 0), (9, 0)] [] w Q)) :=
  (VW_b 3 (F := fun n => (if 7 < x1 then vrun n d 20 10 [(2, x0), (0, x1), (0, x2), (0, x3), (9, 0), (9, 0), (9, 0), (9, 0), (9, 0), (9, 0), (9, 0)] [] w else vrun n d 20 12 [(2, x0), (0, x1), (0, x2), (0, x3), (9, 0), (9, 0), (9, 0), (9, 0), (9, 0), (9, 0), (9, 0)] [] w)) (fun _ => rfl)).trans (EX_br.trans (and_congr (imp_congr Iff.rfl Iff.rfl) (imp_congr Iff.rfl Iff.rfl)))
set_option maxRecDepth 100000 in
theorem b20_10 {d : Nat} {w : vW} {x0 x1 x2 x3 : Int} {Q : Int → vW → Prop} : VW d 20 10 [(2, x0), (0, x1), (0, x2), (0, x3), (9, 0), (9, 0), (9, 0), (9, 0), (9, 0), (9, 0), (9, 0)] [] w Q ↔ Q (-1) w :=
  (VW_b 2 (F := fun n => some (0, (-1), w)) (fun _ => rfl)).trans (EX_ret0)
set_option maxRecDepth 100000 in
theorem b20_12 {d : Nat} {w : vW} {x0 x1 x2 x3 : Int} {Q : Int → vW → Prop} : VW d 20 12 [(2, x0), (0, x1), (0, x2), (0, x3), (9, 0), (9, 0), (9, 0), (9, 0), (9, 0), (9, 0), (9, 0)] [] w Q ↔ (vkd w x0 = 21) ∧ (vkd w (vct w x0 3) = 12) ∧ VW d 20 28 [(2, x0), (0, x1), (0, x2), (0, x3), (1, vct w (vct w x0 3) 1), (9, 0), (0, (-2)), (0, 0), (9, 0), (9, 0), (9, 0)] [] w Q :=
  (VW_b 8 (F := fun n => if vkd w x0 = 21 then if vkd w (vct w x0 3) = 12 then vrun n d 20 28 [(2, x0), (0, x1), (0, x2), (0, x3), (1, vct w (vct w x0 3) 1), (9, 0), (0, (-2)), (0, 0), (9, 0), (9, 0), (9, 0)] [] w else none else none) (fun _ => rfl)).trans (EX_if.trans (and_congr Iff.rfl (EX_if.trans (and_congr Iff.rfl (Iff.rfl)))))
set_option maxRecDepth 100000 in
theorem b20_28 {d : Nat} {w : vW} {x0 x1 x2 x3 x4 x6 x7 : Int} {v8 v9 v10 : vV} {Q : Int → vW → Prop} : VW d 20 28 [(2, x0), (0, x1), (0, x2), (0, x3), (1, x4), (9, 0), (0, x6), (0, x7), v8, v9, v10] [] w Q ↔ ((x7 < x1 → VW d 20 34 [(2, x0), (0, x1), (0, x2), (0, x3), (1, x4), (9, 0), (0, x6), (0, x7), v8, v9, v10] [] w Q) ∧ (¬ (x7 < x1) → VW d 20 131 [(2, x0), (0, x1), (0, x2), (0, x3), (1, x4), (9, 0), (0, x6), (0, x7), v8, v9, v10] [] w Q)) :=
  (VW_b 3 (F := fun n => (if x7 < x1 then vrun n d 20 34 [(2, x0), (0, x1), (0, x2), (0, x3), (1, x4), (9, 0), (0, x6), (0, x7), v8, v9, v10] [] w else vrun n d 20 131 [(2, x0), (0, x1), (0, x2), (0, x3), (1, x4), (9, 0), (0, x6), (0, x7), v8, v9, v10] [] w)) (fun _ => rfl)).trans (EX_br.trans (and_congr (imp_congr Iff.rfl Iff.rfl) (imp_congr Iff.rfl Iff.rfl)))
set_option maxRecDepth 100000 in
theorem b20_34 {d : Nat} {w : vW} {x0 x1 x2 x3 x4 x6 x7 : Int} {v8 v9 v10 : vV} {Q : Int → vW → Prop} : VW d 20 34 [(2, x0), (0, x1), (0, x2), (0, x3), (1, x4), (9, 0), (0, x6), (0, x7), v8, v9, v10] [] w Q ↔ ((x6 = (-2) → VW d 20 41 [(2, x0), (0, x1), (0, x2), (0, x3), (1, x4), (9, 0), (0, x6), (0, x7), v8, v9, v10] [] w Q) ∧ (¬ (x6 = (-2)) → VW d 20 131 [(2, x0), (0, x1), (0, x2), (0, x3), (1, x4), (9, 0), (0, x6), (0, x7), v8, v9, v10] [] w Q)) :=
  (VW_b 3 (F := fun n => (if x6 = (-2) then vrun n d 20 41 [(2, x0), (0, x1), (0, x2), (0, x3), (1, x4), (9, 0), (0, x6), (0, x7), v8, v9, v10] [] w else vrun n d 20 131 [(2, x0), (0, x1), (0, x2), (0, x3), (1, x4), (9, 0), (0, x6), (0, x7), v8, v9, v10] [] w)) (fun _ => rfl)).trans (EX_br.trans (and_congr (imp_congr Iff.rfl Iff.rfl) (imp_congr Iff.rfl Iff.rfl)))
set_option maxRecDepth 100000 in
theorem b20_41 {d : Nat} {w : vW} {x0 x1 x2 x3 x4 x6 x7 : Int} {v8 v9 v10 : vV} {Q : Int → vW → Prop} : VW d 20 41 [(2, x0), (0, x1), (0, x2), (0, x3), (1, x4), (9, 0), (0, x6), (0, x7), v8, v9, v10] [] w Q ↔ ((x7 < 4 → VW d 20 47 [(2, x0), (0, x1), (0, x2), (0, x3), (1, x4), (9, 0), (0, x6), (0, x7), v8, v9, v10] [] w Q) ∧ (¬ (x7 < 4) → VW d 20 57 [(2, x0), (0, x1), (0, x2), (0, x3), (1, x4), (9, 0), (0, x6), (0, x7), v8, v9, v10] [] w Q)) :=
  (VW_b 3 (F := fun n => (if x7 < 4 then vrun n d 20 47 [(2, x0), (0, x1), (0, x2), (0, x3), (1, x4), (9, 0), (0, x6), (0, x7), v8, v9, v10] [] w else vrun n d 20 57 [(2, x0), (0, x1), (0, x2), (0, x3), (1, x4), (9, 0), (0, x6), (0, x7), v8, v9, v10] [] w)) (fun _ => rfl)).trans (EX_br.trans (and_congr (imp_congr Iff.rfl Iff.rfl) (imp_congr Iff.rfl Iff.rfl)))
set_option maxRecDepth 100000 in
theorem b20_47 {d : Nat} {w : vW} {x0 x1 x2 x3 x4 x6 x7 : Int} {v8 v9 v10 : vV} {Q : Int → vW → Prop} : VW d 20 47 [(2, x0), (0, x1), (0, x2), (0, x3), (1, x4), (9, 0), (0, x6), (0, x7), v8, v9, v10] [] w Q ↔ VW d 20 66 [(2, x0), (0, x1), (0, x2), (0, x3), (1, x4), (9, 0), (0, x6), (0, x7), v8, v9, v10] [(0, i_ushr x2 (w32 (8 * x7)))] w Q :=
  (VW_b 6 (F := fun n => vrun n d 20 66 [(2, x0), (0, x1), (0, x2), (0, x3), (1, x4), (9, 0), (0, x6), (0, x7), v8, v9, v10] [(0, i_ushr x2 (w32 (8 * x7)))] w) (fun _ => rfl)).trans (Iff.rfl)
set_option maxRecDepth 100000 in
theorem b20_57 {d : Nat} {w : vW} {x0 x1 x2 x3 x4 x6 x7 : Int} {v8 v9 v10 : vV} {Q : Int → vW → Prop} : VW d 20 57 [(2, x0), (0, x1), (0, x2), (0, x3), (1, x4), (9, 0), (0, x6), (0, x7), v8, v9, v10] [] w Q ↔ VW d 20 66 [(2, x0), (0, x1), (0, x2), (0, x3), (1, x4), (9, 0), (0, x6), (0, x7), v8, v9, v10] [(0, i_ushr x3 (w32 (8 * (w32 (x7 - 4)))))] w Q :=
  (VW_b 7 (F := fun n => vrun n d 20 66 [(2, x0), (0, x1), (0, x2), (0, x3), (1, x4), (9, 0), (0, x6), (0, x7), v8, v9, v10] [(0, i_ushr x3 (w32 (8 * (w32 (x7 - 4)))))] w) (fun _ => rfl)).trans (Iff.rfl)
set_option maxRecDepth 100000 in
theorem b20_66 {d : Nat} {w : vW} {x0 x1 x2 x3 x4 x6 x7 y0 : Int} {v8 v9 v10 : vV} {Q : Int → vW → Prop} : VW d 20 66 [(2, x0), (0, x1), (0, x2), (0, x3), (1, x4), (9, 0), (0, x6), (0, x7), v8, v9, v10] [(0, y0)] w Q ↔ VW d 20 68 [(2, x0), (0, x1), (0, x2), (0, x3), (1, x4), (9, 0), (0, x6), (0, x7), (0, y0), v9, v10] [] w Q :=
  (VW_b 1 (F := fun n => vrun n d 20 68 [(2, x0), (0, x1), (0, x2), (0, x3), (1, x4), (9, 0), (0, x6), (0, x7), (0, y0), v9, v10] [] w) (fun _ => rfl)).trans (Iff.rfl)
set_option maxRecDepth 100000 in
theorem b20_68 {d : Nat} {w : vW} {x0 x1 x2 x3 x4 x6 x7 x8 : Int} {v9 v10 : vV} {Q : Int → vW → Prop} : VW d 20 68 [(2, x0), (0, x1), (0, x2), (0, x3), (1, x4), (9, 0), (0, x6), (0, x7), (0, x8), v9, v10] [] w Q ↔ VW d 20 75 [(2, x0), (0, x1), (0, x2), (0, x3), (1, x4), (9, 0), (0, x6), (0, x7), (0, x8), (0, i_and x8 15), v10] [] w Q :=
  (VW_b 4 (F := fun n => vrun n d 20 75 [(2, x0), (0, x1), (0, x2), (0, x3), (1, x4), (9, 0), (0, x6), (0, x7), (0, x8), (0, i_and x8 15), v10] [] w) (fun _ => rfl)).trans (Iff.rfl)
set_option maxRecDepth 100000 in
theorem b20_75 {d : Nat} {w : vW} {x0 x1 x2 x3 x4 x6 x7 x8 x9 : Int} {v10 : vV} {Q : Int → vW → Prop} : VW d 20 75 [(2, x0), (0, x1), (0, x2), (0, x3), (1, x4), (9, 0), (0, x6), (0, x7), (0, x8), (0, x9), v10] [] w Q ↔ VW d 20 84 [(2, x0), (0, x1), (0, x2), (0, x3), (1, x4), (9, 0), (0, x6), (0, x7), (0, x8), (0, x9), (0, i_and (i_ushr x8 4) 15)] [] w Q :=
  (VW_b 6 (F := fun n => vrun n d 20 84 [(2, x0), (0, x1), (0, x2), (0, x3), (1, x4), (9, 0), (0, x6), (0, x7), (0, x8), (0, x9), (0, i_and (i_ushr x8 4) 15)] [] w) (fun _ => rfl)).trans (Iff.rfl)
set_option maxRecDepth 100000 in
theorem b20_84 {d : Nat} {w : vW} {x0 x1 x2 x3 x4 x6 x7 x8 x9 x10 : Int} {Q : Int → vW → Prop} : VW d 20 84 [(2, x0), (0, x1), (0, x2), (0, x3), (1, x4), (9, 0), (0, x6), (0, x7), (0, x8), (0, x9), (0, x10)] [] w Q ↔ (vkd w x0 = 21) ∧ (vkd w (vct w x0 0) = 18) ∧ VC d 260 [(2, vct w x0 0), (0, x9), (1, x4), (0, x10)] w (fun r w1 => VW d 20 97 [(2, x0), (0, x1), (0, x2), (0, x3), (1, x4), (9, 0), (0, x6), (0, x7), (0, x8), (0, x9), (0, x10)] [(0, r)] w1 Q) :=
  (VW_b 6 (F := fun n => if vkd w x0 = 21 then if vkd w (vct w x0 0) = 18 then vclr (vrun n) d 20 97 260 4 0 [(2, x0), (0, x1), (0, x2), (0, x3), (1, x4), (9, 0), (0, x6), (0, x7), (0, x8), (0, x9), (0, x10)] [(0, x10), (1, x4), (0, x9), (2, vct w x0 0)] w else none else none) (fun _ => rfl)).trans (EX_if.trans (and_congr Iff.rfl (EX_if.trans (and_congr Iff.rfl (EX_call rfl)))))
set_option maxRecDepth 100000 in
theorem b20_97 {d : Nat} {w : vW} {x0 x1 x2 x3 x4 x6 x7 x8 x9 x10 y0 : Int} {Q : Int → vW → Prop} : VW d 20 97 [(2, x0), (0, x1), (0, x2), (0, x3), (1, x4), (9, 0), (0, x6), (0, x7), (0, x8), (0, x9), (0, x10)] [(0, y0)] w Q ↔ ((y0 = 0 → VW d 20 121 [(2, x0), (0, x1), (0, x2), (0, x3), (1, x4), (9, 0), (0, x6), (0, x7), (0, x8), (0, x9), (0, x10)] [] w Q) ∧ (¬ (y0 = 0) → VW d 20 100 [(2, x0), (0, x1), (0, x2), (0, x3), (1, x4), (9, 0), (0, x6), (0, x7), (0, x8), (0, x9), (0, x10)] [] w Q)) :=
  (VW_b 1 (F := fun n => (if y0 = 0 then vrun n d 20 121 [(2, x0), (0, x1), (0, x2), (0, x3), (1, x4), (9, 0), (0, x6), (0, x7), (0, x8), (0, x9), (0, x10)] [] w else vrun n d 20 100 [(2, x0), (0, x1), (0, x2), (0, x3), (1, x4), (9, 0), (0, x6), (0, x7), (0, x8), (0, x9), (0, x10)] [] w)) (fun _ => rfl)).trans (EX_br.trans (and_congr (imp_congr Iff.rfl Iff.rfl) (imp_congr Iff.rfl Iff.rfl)))
set_option maxRecDepth 100000 in
theorem b20_100 {d : Nat} {w : vW} {x0 x1 x2 x3 x4 x6 x7 x8 x9 x10 : Int} {Q : Int → vW → Prop} : VW d 20 100 [(2, x0), (0, x1), (0, x2), (0, x3), (1, x4), (9, 0), (0, x6), (0, x7), (0, x8), (0, x9), (0, x10)] [] w Q ↔ (vkd w x0 = 21) ∧ VC d 249 [(0, x9), (0, x10)] w (fun r w1 => VW d 20 113 [(2, x0), (0, x1), (0, x2), (0, x3), (1, x4), (9, 0), (0, x6), (0, x7), (0, x8), (0, x9), (0, x10)] [(0, r), (1, x4), (2, vct w x0 0)] w1 Q) :=
  (VW_b 6 (F := fun n => if vkd w x0 = 21 then vclr (vrun n) d 20 113 249 2 0 [(2, x0), (0, x1), (0, x2), (0, x3), (1, x4), (9, 0), (0, x6), (0, x7), (0, x8), (0, x9), (0, x10)] [(0, x10), (0, x9), (1, x4), (2, vct w x0 0)] w else none) (fun _ => rfl)).trans (EX_if.trans (and_congr Iff.rfl (EX_call rfl)))
set_option maxRecDepth 100000 in
theorem b20_113 {d : Nat} {w : vW} {x0 x1 x2 x3 x4 x6 x7 x8 x9 x10 y0 y1 y2 : Int} {Q : Int → vW → Prop} : VW d 20 113 [(2, x0), (0, x1), (0, x2), (0, x3), (1, x4), (9, 0), (0, x6), (0, x7), (0, x8), (0, x9), (0, x10)] [(0, y2), (1, y1), (2, y0)] w Q ↔ (vkd w y0 = 18) ∧ VC d 261 [(2, y0), (1, y1), (0, y2)] w (fun r w1 => VW d 20 116 [(2, x0), (0, x1), (0, x2), (0, x3), (1, x4), (9, 0), (0, x6), (0, x7), (0, x8), (0, x9), (0, x10)] [(1, r)] w1 Q) :=
  (VW_b 1 (F := fun n => if vkd w y0 = 18 then vclr (vrun n) d 20 116 261 3 1 [(2, x0), (0, x1), (0, x2), (0, x3), (1, x4), (9, 0), (0, x6), (0, x7), (0, x8), (0, x9), (0, x10)] [(0, y2), (1, y1), (2, y0)] w else none) (fun _ => rfl)).trans (EX_if.trans (and_congr Iff.rfl (EX_call rfl)))
set_option maxRecDepth 100000 in
theorem b20_116 {d : Nat} {w : vW} {x0 x1 x2 x3 x4 x6 x7 x8 x9 x10 y0 : Int} {Q : Int → vW → Prop} : VW d 20 116 [(2, x0), (0, x1), (0, x2), (0, x3), (1, x4), (9, 0), (0, x6), (0, x7), (0, x8), (0, x9), (0, x10)] [(1, y0)] w Q ↔ VW d 20 125 [(2, x0), (0, x1), (0, x2), (0, x3), (1, y0), (9, 0), (0, x6), (0, x7), (0, x8), (0, x9), (0, x10)] [] w Q :=
  (VW_b 2 (F := fun n => vrun n d 20 125 [(2, x0), (0, x1), (0, x2), (0, x3), (1, y0), (9, 0), (0, x6), (0, x7), (0, x8), (0, x9), (0, x10)] [] w) (fun _ => rfl)).trans (Iff.rfl)
set_option maxRecDepth 100000 in
theorem b20_121 {d : Nat} {w : vW} {x0 x1 x2 x3 x4 x6 x7 x8 x9 x10 : Int} {Q : Int → vW → Prop} : VW d 20 121 [(2, x0), (0, x1), (0, x2), (0, x3), (1, x4), (9, 0), (0, x6), (0, x7), (0, x8), (0, x9), (0, x10)] [] w Q ↔ VW d 20 125 [(2, x0), (0, x1), (0, x2), (0, x3), (1, x4), (9, 0), (0, x7), (0, x7), (0, x8), (0, x9), (0, x10)] [] w Q :=
  (VW_b 2 (F := fun n => vrun n d 20 125 [(2, x0), (0, x1), (0, x2), (0, x3), (1, x4), (9, 0), (0, x7), (0, x7), (0, x8), (0, x9), (0, x10)] [] w) (fun _ => rfl)).trans (Iff.rfl)
set_option maxRecDepth 100000 in
theorem b20_125 {d : Nat} {w : vW} {x0 x1 x2 x3 x4 x6 x7 x8 x9 x10 : Int} {Q : Int → vW → Prop} : VW d 20 125 [(2, x0), (0, x1), (0, x2), (0, x3), (1, x4), (9, 0), (0, x6), (0, x7), (0, x8), (0, x9), (0, x10)] [] w Q ↔ VW d 20 28 [(2, x0), (0, x1), (0, x2), (0, x3), (1, x4), (9, 0), (0, x6), (0, w32 (x7 + 1)), (0, x8), (0, x9), (0, x10)] [] w Q :=
  (VW_b 2 (F := fun n => vrun n d 20 28 [(2, x0), (0, x1), (0, x2), (0, x3), (1, x4), (9, 0), (0, x6), (0, w32 (x7 + 1)), (0, x8), (0, x9), (0, x10)] [] w) (fun _ => rfl)).trans (Iff.rfl)
set_option maxRecDepth 100000 in
theorem b20_131 {d : Nat} {w : vW} {x0 x1 x2 x3 x4 x6 x7 : Int} {v8 v9 v10 : vV} {Q : Int → vW → Prop} : VW d 20 131 [(2, x0), (0, x1), (0, x2), (0, x3), (1, x4), (9, 0), (0, x6), (0, x7), v8, v9, v10] [] w Q ↔ (vkd w x0 = 21) ∧ (vkd w (vct w x0 2) = 20) ∧ VC d 291 [(2, vct w x0 2)] w (fun _ w1 => VW d 20 138 [(2, x0), (0, x1), (0, x2), (0, x3), (1, x4), (9, 0), (0, x6), (0, x7), v8, v9, v10] [] w1 Q) :=
  (VW_b 3 (F := fun n => if vkd w x0 = 21 then if vkd w (vct w x0 2) = 20 then vclr (vrun n) d 20 138 291 1 9 [(2, x0), (0, x1), (0, x2), (0, x3), (1, x4), (9, 0), (0, x6), (0, x7), v8, v9, v10] [(2, vct w x0 2)] w else none else none) (fun _ => rfl)).trans (EX_if.trans (and_congr Iff.rfl (EX_if.trans (and_congr Iff.rfl (EX_call rfl)))))
set_option maxRecDepth 100000 in
theorem b20_138 {d : Nat} {w : vW} {x0 x1 x2 x3 x4 x6 x7 : Int} {v8 v9 v10 : vV} {Q : Int → vW → Prop} : VW d 20 138 [(2, x0), (0, x1), (0, x2), (0, x3), (1, x4), (9, 0), (0, x6), (0, x7), v8, v9, v10] [] w Q ↔ (vkd w x0 = 21) ∧ VC d 281 [(1, x4)] w (fun r w1 => VW d 20 147 [(2, x0), (0, x1), (0, x2), (0, x3), (1, x4), (9, 0), (0, x6), (0, x7), v8, v9, v10] [(1, r), (2, vct w x0 2)] w1 Q) :=
  (VW_b 4 (F := fun n => if vkd w x0 = 21 then vclr (vrun n) d 20 147 281 1 1 [(2, x0), (0, x1), (0, x2), (0, x3), (1, x4), (9, 0), (0, x6), (0, x7), v8, v9, v10] [(1, x4), (2, vct w x0 2)] w else none) (fun _ => rfl)).trans (EX_if.trans (and_congr Iff.rfl (EX_call rfl)))
set_option maxRecDepth 100000 in
theorem b20_147 {d : Nat} {w : vW} {x0 x1 x2 x3 x4 x6 x7 y0 y1 : Int} {v8 v9 v10 : vV} {Q : Int → vW → Prop} : VW d 20 147 [(2, x0), (0, x1), (0, x2), (0, x3), (1, x4), (9, 0), (0, x6), (0, x7), v8, v9, v10] [(1, y1), (2, y0)] w Q ↔ (vkd w y0 = 20) ∧ VC d 293 [(2, y0), (1, y1)] w (fun _ w1 => VW d 20 150 [(2, x0), (0, x1), (0, x2), (0, x3), (1, x4), (9, 0), (0, x6), (0, x7), v8, v9, v10] [] w1 Q) :=
  (VW_b 1 (F := fun n => if vkd w y0 = 20 then vclr (vrun n) d 20 150 293 2 9 [(2, x0), (0, x1), (0, x2), (0, x3), (1, x4), (9, 0), (0, x6), (0, x7), v8, v9, v10] [(1, y1), (2, y0)] w else none) (fun _ => rfl)).trans (EX_if.trans (and_congr Iff.rfl (EX_call rfl)))
set_option maxRecDepth 100000 in
theorem b20_150 {d : Nat} {w : vW} {x0 x1 x2 x3 x4 x6 x7 : Int} {v8 v9 v10 : vV} {Q : Int → vW → Prop} : VW d 20 150 [(2, x0), (0, x1), (0, x2), (0, x3), (1, x4), (9, 0), (0, x6), (0, x7), v8, v9, v10] [] w Q ↔ Q x6 w :=
  (VW_b 2 (F := fun n => some (0, x6, w)) (fun _ => rfl)).trans (EX_ret0)
/-! 21: StrikeWhatCancels.net()I -/
set_option maxRecDepth 100000 in
theorem b21_0 {d : Nat} {w : vW} {x0 : Int} {Q : Int → vW → Prop} : VW d 21 0 [(2, x0), (9, 0)] [] w Q ↔ (vkd w x0 = 21) ∧ VC d 49 [(2, x0)] w (fun r w1 => VW d 21 4 [(2, x0), (9, 0)] [(2, r)] w1 Q) :=
  (VW_b 2 (F := fun n => if vkd w x0 = 21 then vclr (vrun n) d 21 4 49 1 2 [(2, x0), (9, 0)] [(2, x0)] w else none) (fun _ => rfl)).trans (EX_if.trans (and_congr Iff.rfl (EX_call rfl)))
set_option maxRecDepth 100000 in
theorem b21_4 {d : Nat} {w : vW} {x0 y0 : Int} {Q : Int → vW → Prop} : VW d 21 4 [(2, x0), (9, 0)] [(2, y0)] w Q ↔ (vkd w x0 = 21) ∧ (vkd w x0 = 21) ∧ (vkd w (vct w x0 3) = 12) ∧ (vkd w y0 = 15) ∧ VC d 201 [(2, y0), (2, vct w x0 0), (1, vct w (vct w x0 3) 2), (0, (-1))] w (fun r w1 => VW d 21 21 [(2, x0), (2, y0)] [(0, r)] w1 Q) :=
  (VW_b 9 (F := fun n => if vkd w x0 = 21 then if vkd w x0 = 21 then if vkd w (vct w x0 3) = 12 then if vkd w y0 = 15 then vclr (vrun n) d 21 21 201 4 0 [(2, x0), (2, y0)] [(0, (-1)), (1, vct w (vct w x0 3) 2), (2, vct w x0 0), (2, y0)] w else none else none else none else none) (fun _ => rfl)).trans (EX_if.trans (and_congr Iff.rfl (EX_if.trans (and_congr Iff.rfl (EX_if.trans (and_congr Iff.rfl (EX_if.trans (and_congr Iff.rfl (EX_call rfl)))))))))
set_option maxRecDepth 100000 in
theorem b21_21 {d : Nat} {w : vW} {x0 x1 y0 : Int} {Q : Int → vW → Prop} : VW d 21 21 [(2, x0), (2, x1)] [(0, y0)] w Q ↔ ((y0 = 0 → VW d 21 24 [(2, x0), (2, x1)] [] w Q) ∧ (¬ (y0 = 0) → VW d 21 27 [(2, x0), (2, x1)] [] w Q)) :=
  (VW_b 1 (F := fun n => (if y0 = 0 then vrun n d 21 24 [(2, x0), (2, x1)] [] w else vrun n d 21 27 [(2, x0), (2, x1)] [] w)) (fun _ => rfl)).trans (EX_br.trans (and_congr (imp_congr Iff.rfl Iff.rfl) (imp_congr Iff.rfl Iff.rfl)))
set_option maxRecDepth 100000 in
theorem b21_24 {d : Nat} {w : vW} {x0 x1 : Int} {Q : Int → vW → Prop} : VW d 21 24 [(2, x0), (2, x1)] [] w Q ↔ Q (-3) w :=
  (VW_b 2 (F := fun n => some (0, (-3), w)) (fun _ => rfl)).trans (EX_ret0)
set_option maxRecDepth 100000 in
theorem b21_27 {d : Nat} {w : vW} {x0 x1 : Int} {Q : Int → vW → Prop} : VW d 21 27 [(2, x0), (2, x1)] [] w Q ↔ (vkd w x0 = 21) ∧ (vkd w x1 = 15) ∧ VC d 211 [(2, x1), (2, vct w x0 0), (0, 0)] w (fun _ w1 => VW d 21 36 [(2, x0), (2, x1)] [] w1 Q) :=
  (VW_b 5 (F := fun n => if vkd w x0 = 21 then if vkd w x1 = 15 then vclr (vrun n) d 21 36 211 3 9 [(2, x0), (2, x1)] [(0, 0), (2, vct w x0 0), (2, x1)] w else none else none) (fun _ => rfl)).trans (EX_if.trans (and_congr Iff.rfl (EX_if.trans (and_congr Iff.rfl (EX_call rfl)))))
set_option maxRecDepth 100000 in
theorem b21_36 {d : Nat} {w : vW} {x0 x1 : Int} {Q : Int → vW → Prop} : VW d 21 36 [(2, x0), (2, x1)] [] w Q ↔ (vkd w x0 = 21) ∧ (vkd w (vct w x0 2) = 20) ∧ VC d 291 [(2, vct w x0 2)] w (fun _ w1 => VW d 21 43 [(2, x0), (2, x1)] [] w1 Q) :=
  (VW_b 3 (F := fun n => if vkd w x0 = 21 then if vkd w (vct w x0 2) = 20 then vclr (vrun n) d 21 43 291 1 9 [(2, x0), (2, x1)] [(2, vct w x0 2)] w else none else none) (fun _ => rfl)).trans (EX_if.trans (and_congr Iff.rfl (EX_if.trans (and_congr Iff.rfl (EX_call rfl)))))
set_option maxRecDepth 100000 in
theorem b21_43 {d : Nat} {w : vW} {x0 x1 : Int} {Q : Int → vW → Prop} : VW d 21 43 [(2, x0), (2, x1)] [] w Q ↔ (vkd w x0 = 21) ∧ (vkd w x1 = 15) ∧ VC d 213 [(2, x1)] w (fun r w1 => VW d 21 51 [(2, x0), (2, x1)] [(0, r), (2, vct w x0 2)] w1 Q) :=
  (VW_b 4 (F := fun n => if vkd w x0 = 21 then if vkd w x1 = 15 then vclr (vrun n) d 21 51 213 1 0 [(2, x0), (2, x1)] [(2, x1), (2, vct w x0 2)] w else none else none) (fun _ => rfl)).trans (EX_if.trans (and_congr Iff.rfl (EX_if.trans (and_congr Iff.rfl (EX_call rfl)))))
set_option maxRecDepth 100000 in
theorem b21_51 {d : Nat} {w : vW} {x0 x1 y0 y1 : Int} {Q : Int → vW → Prop} : VW d 21 51 [(2, x0), (2, x1)] [(0, y1), (2, y0)] w Q ↔ (vkd w y0 = 20) ∧ VC d 293 [(2, y0), (1, y1)] w (fun _ w1 => VW d 21 55 [(2, x0), (2, x1)] [] w1 Q) :=
  (VW_b 2 (F := fun n => if vkd w y0 = 20 then vclr (vrun n) d 21 55 293 2 9 [(2, x0), (2, x1)] [(1, y1), (2, y0)] w else none) (fun _ => rfl)).trans (EX_if.trans (and_congr Iff.rfl (EX_call rfl)))
set_option maxRecDepth 100000 in
theorem b21_55 {d : Nat} {w : vW} {x0 x1 : Int} {Q : Int → vW → Prop} : VW d 21 55 [(2, x0), (2, x1)] [] w Q ↔ (vkd w x0 = 21) ∧ (vkd w x1 = 15) ∧ VC d 214 [(2, x1)] w (fun r w1 => VW d 21 63 [(2, x0), (2, x1)] [(1, r), (2, vct w x0 2)] w1 Q) :=
  (VW_b 4 (F := fun n => if vkd w x0 = 21 then if vkd w x1 = 15 then vclr (vrun n) d 21 63 214 1 1 [(2, x0), (2, x1)] [(2, x1), (2, vct w x0 2)] w else none else none) (fun _ => rfl)).trans (EX_if.trans (and_congr Iff.rfl (EX_if.trans (and_congr Iff.rfl (EX_call rfl)))))
set_option maxRecDepth 100000 in
theorem b21_63 {d : Nat} {w : vW} {x0 x1 y0 y1 : Int} {Q : Int → vW → Prop} : VW d 21 63 [(2, x0), (2, x1)] [(1, y1), (2, y0)] w Q ↔ (vkd w y0 = 20) ∧ VC d 293 [(2, y0), (1, y1)] w (fun _ w1 => VW d 21 66 [(2, x0), (2, x1)] [] w1 Q) :=
  (VW_b 1 (F := fun n => if vkd w y0 = 20 then vclr (vrun n) d 21 66 293 2 9 [(2, x0), (2, x1)] [(1, y1), (2, y0)] w else none) (fun _ => rfl)).trans (EX_if.trans (and_congr Iff.rfl (EX_call rfl)))
set_option maxRecDepth 100000 in
theorem b21_66 {d : Nat} {w : vW} {x0 x1 : Int} {Q : Int → vW → Prop} : VW d 21 66 [(2, x0), (2, x1)] [] w Q ↔ (vkd w x0 = 21) ∧ (vkd w x1 = 15) ∧ VC d 215 [(2, x1)] w (fun r w1 => VW d 21 74 [(2, x0), (2, x1)] [(0, r), (2, vct w x0 2)] w1 Q) :=
  (VW_b 4 (F := fun n => if vkd w x0 = 21 then if vkd w x1 = 15 then vclr (vrun n) d 21 74 215 1 0 [(2, x0), (2, x1)] [(2, x1), (2, vct w x0 2)] w else none else none) (fun _ => rfl)).trans (EX_if.trans (and_congr Iff.rfl (EX_if.trans (and_congr Iff.rfl (EX_call rfl)))))
set_option maxRecDepth 100000 in
theorem b21_74 {d : Nat} {w : vW} {x0 x1 y0 y1 : Int} {Q : Int → vW → Prop} : VW d 21 74 [(2, x0), (2, x1)] [(0, y1), (2, y0)] w Q ↔ (vkd w y0 = 20) ∧ VC d 293 [(2, y0), (1, y1)] w (fun _ w1 => VW d 21 78 [(2, x0), (2, x1)] [] w1 Q) :=
  (VW_b 2 (F := fun n => if vkd w y0 = 20 then vclr (vrun n) d 21 78 293 2 9 [(2, x0), (2, x1)] [(1, y1), (2, y0)] w else none) (fun _ => rfl)).trans (EX_if.trans (and_congr Iff.rfl (EX_call rfl)))
set_option maxRecDepth 100000 in
theorem b21_78 {d : Nat} {w : vW} {x0 x1 : Int} {Q : Int → vW → Prop} : VW d 21 78 [(2, x0), (2, x1)] [] w Q ↔ (vkd w x1 = 15) ∧ Q (vct w x1 17) w :=
  (VW_b 3 (F := fun n => if vkd w x1 = 15 then some (0, vct w x1 17, w) else none) (fun _ => rfl)).trans (EX_if.trans (and_congr Iff.rfl (EX_ret0)))
/-! 22: StrikeWhatCancels.done(I)J -/
set_option maxRecDepth 100000 in
theorem b22_0 {d : Nat} {w : vW} {x0 x1 : Int} {Q : Int → vW → Prop} : VW d 22 0 [(2, x0), (0, x1), (9, 0), (9, 0), (9, 0)] [] w Q ↔ ((x1 < 0 → VW d 22 4 [(2, x0), (0, x1), (9, 0), (9, 0), (9, 0)] [] w Q) ∧ (¬ (x1 < 0) → VW d 22 8 [(2, x0), (0, x1), (9, 0), (9, 0), (9, 0)] [] w Q)) :=
  (VW_b 2 (F := fun n => (if x1 < 0 then vrun n d 22 4 [(2, x0), (0, x1), (9, 0), (9, 0), (9, 0)] [] w else vrun n d 22 8 [(2, x0), (0, x1), (9, 0), (9, 0), (9, 0)] [] w)) (fun _ => rfl)).trans (EX_br.trans (and_congr (imp_congr Iff.rfl Iff.rfl) (imp_congr Iff.rfl Iff.rfl)))
set_option maxRecDepth 100000 in
theorem b22_4 {d : Nat} {w : vW} {x0 x1 : Int} {Q : Int → vW → Prop} : VW d 22 4 [(2, x0), (0, x1), (9, 0), (9, 0), (9, 0)] [] w Q ↔ Q (-1) w :=
  (VW_b 2 (F := fun n => some (0, (-1), w)) (fun _ => rfl)).trans (EX_ret0)
set_option maxRecDepth 100000 in
theorem b22_8 {d : Nat} {w : vW} {x0 x1 : Int} {Q : Int → vW → Prop} : VW d 22 8 [(2, x0), (0, x1), (9, 0), (9, 0), (9, 0)] [] w Q ↔ (vkd w x0 = 21) ∧ VC d 49 [(2, x0)] w (fun r w1 => VW d 22 12 [(2, x0), (0, x1), (9, 0), (9, 0), (9, 0)] [(2, r)] w1 Q) :=
  (VW_b 2 (F := fun n => if vkd w x0 = 21 then vclr (vrun n) d 22 12 49 1 2 [(2, x0), (0, x1), (9, 0), (9, 0), (9, 0)] [(2, x0)] w else none) (fun _ => rfl)).trans (EX_if.trans (and_congr Iff.rfl (EX_call rfl)))
set_option maxRecDepth 100000 in
theorem b22_12 {d : Nat} {w : vW} {x0 x1 y0 : Int} {Q : Int → vW → Prop} : VW d 22 12 [(2, x0), (0, x1), (9, 0), (9, 0), (9, 0)] [(2, y0)] w Q ↔ (vkd w x0 = 21) ∧ (vkd w x0 = 21) ∧ (vkd w (vct w x0 3) = 12) ∧ (vkd w y0 = 15) ∧ VC d 201 [(2, y0), (2, vct w x0 0), (1, vct w (vct w x0 3) 2), (0, (-1))] w (fun r w1 => VW d 22 29 [(2, x0), (0, x1), (2, y0), (9, 0), (9, 0)] [(0, r)] w1 Q) :=
  (VW_b 9 (F := fun n => if vkd w x0 = 21 then if vkd w x0 = 21 then if vkd w (vct w x0 3) = 12 then if vkd w y0 = 15 then vclr (vrun n) d 22 29 201 4 0 [(2, x0), (0, x1), (2, y0), (9, 0), (9, 0)] [(0, (-1)), (1, vct w (vct w x0 3) 2), (2, vct w x0 0), (2, y0)] w else none else none else none else none) (fun _ => rfl)).trans (EX_if.trans (and_congr Iff.rfl (EX_if.trans (and_congr Iff.rfl (EX_if.trans (and_congr Iff.rfl (EX_if.trans (and_congr Iff.rfl (EX_call rfl)))))))))
set_option maxRecDepth 100000 in
theorem b22_29 {d : Nat} {w : vW} {x0 x1 x2 y0 : Int} {Q : Int → vW → Prop} : VW d 22 29 [(2, x0), (0, x1), (2, x2), (9, 0), (9, 0)] [(0, y0)] w Q ↔ ((y0 = 0 → VW d 22 32 [(2, x0), (0, x1), (2, x2), (9, 0), (9, 0)] [] w Q) ∧ (¬ (y0 = 0) → VW d 22 36 [(2, x0), (0, x1), (2, x2), (9, 0), (9, 0)] [] w Q)) :=
  (VW_b 1 (F := fun n => (if y0 = 0 then vrun n d 22 32 [(2, x0), (0, x1), (2, x2), (9, 0), (9, 0)] [] w else vrun n d 22 36 [(2, x0), (0, x1), (2, x2), (9, 0), (9, 0)] [] w)) (fun _ => rfl)).trans (EX_br.trans (and_congr (imp_congr Iff.rfl Iff.rfl) (imp_congr Iff.rfl Iff.rfl)))
set_option maxRecDepth 100000 in
theorem b22_32 {d : Nat} {w : vW} {x0 x1 x2 : Int} {Q : Int → vW → Prop} : VW d 22 32 [(2, x0), (0, x1), (2, x2), (9, 0), (9, 0)] [] w Q ↔ Q (-3) w :=
  (VW_b 2 (F := fun n => some (0, (-3), w)) (fun _ => rfl)).trans (EX_ret0)
set_option maxRecDepth 100000 in
theorem b22_36 {d : Nat} {w : vW} {x0 x1 x2 : Int} {Q : Int → vW → Prop} : VW d 22 36 [(2, x0), (0, x1), (2, x2), (9, 0), (9, 0)] [] w Q ↔ (vkd w x2 = 15) ∧ VC d 217 [(2, x2), (0, x1)] w (fun r w1 => VW d 22 41 [(2, x0), (0, x1), (2, x2), (9, 0), (9, 0)] [(1, r)] w1 Q) :=
  (VW_b 3 (F := fun n => if vkd w x2 = 15 then vclr (vrun n) d 22 41 217 2 1 [(2, x0), (0, x1), (2, x2), (9, 0), (9, 0)] [(0, x1), (2, x2)] w else none) (fun _ => rfl)).trans (EX_if.trans (and_congr Iff.rfl (EX_call rfl)))
set_option maxRecDepth 100000 in
theorem b22_41 {d : Nat} {w : vW} {x0 x1 x2 y0 : Int} {Q : Int → vW → Prop} : VW d 22 41 [(2, x0), (0, x1), (2, x2), (9, 0), (9, 0)] [(1, y0)] w Q ↔ (((vlc y0 0) < 0 → VW d 22 48 [(2, x0), (0, x1), (2, x2), (1, y0), (9, 0)] [] w Q) ∧ (¬ ((vlc y0 0) < 0) → VW d 22 54 [(2, x0), (0, x1), (2, x2), (1, y0), (9, 0)] [] w Q)) :=
  (VW_b 5 (F := fun n => (if (vlc y0 0) < 0 then vrun n d 22 48 [(2, x0), (0, x1), (2, x2), (1, y0), (9, 0)] [] w else vrun n d 22 54 [(2, x0), (0, x1), (2, x2), (1, y0), (9, 0)] [] w)) (fun _ => rfl)).trans (EX_br.trans (and_congr (imp_congr Iff.rfl Iff.rfl) (imp_congr Iff.rfl Iff.rfl)))
set_option maxRecDepth 100000 in
theorem b22_48 {d : Nat} {w : vW} {x0 x1 x2 x3 : Int} {Q : Int → vW → Prop} : VW d 22 48 [(2, x0), (0, x1), (2, x2), (1, x3), (9, 0)] [] w Q ↔ VW d 22 58 [(2, x0), (0, x1), (2, x2), (1, x3), (9, 0)] [(1, (-2))] w Q :=
  (VW_b 2 (F := fun n => vrun n d 22 58 [(2, x0), (0, x1), (2, x2), (1, x3), (9, 0)] [(1, (-2))] w) (fun _ => rfl)).trans (Iff.rfl)
set_option maxRecDepth 100000 in
theorem b22_54 {d : Nat} {w : vW} {x0 x1 x2 x3 : Int} {Q : Int → vW → Prop} : VW d 22 54 [(2, x0), (0, x1), (2, x2), (1, x3), (9, 0)] [] w Q ↔ VC d 281 [(1, x3)] w (fun r w1 => VW d 22 58 [(2, x0), (0, x1), (2, x2), (1, x3), (9, 0)] [(1, r)] w1 Q) :=
  (VW_b 2 (F := fun n => vclr (vrun n) d 22 58 281 1 1 [(2, x0), (0, x1), (2, x2), (1, x3), (9, 0)] [(1, x3)] w) (fun _ => rfl)).trans (EX_call rfl)
set_option maxRecDepth 100000 in
theorem b22_58 {d : Nat} {w : vW} {x0 x1 x2 x3 y0 : Int} {Q : Int → vW → Prop} : VW d 22 58 [(2, x0), (0, x1), (2, x2), (1, x3), (9, 0)] [(1, y0)] w Q ↔ Q y0 w :=
  (VW_b 1 (F := fun n => some (0, y0, w)) (fun _ => rfl)).trans (EX_ret0)
/-! 23: StrikeWhatCancels.way(J)I -/
set_option maxRecDepth 100000 in
theorem b23_0 {d : Nat} {w : vW} {x0 x1 : Int} {Q : Int → vW → Prop} : VW d 23 0 [(2, x0), (1, x1), (9, 0), (9, 0), (9, 0), (9, 0), (9, 0), (9, 0), (9, 0)] [] w Q ↔ VC d 280 [(1, x1)] w (fun r w1 => VW d 23 4 [(2, x0), (1, x1), (9, 0), (9, 0), (9, 0), (9, 0), (9, 0), (9, 0), (9, 0)] [(1, r)] w1 Q) :=
  (VW_b 2 (F := fun n => vclr (vrun n) d 23 4 280 1 1 [(2, x0), (1, x1), (9, 0), (9, 0), (9, 0), (9, 0), (9, 0), (9, 0), (9, 0)] [(1, x1)] w) (fun _ => rfl)).trans (EX_call rfl)
set_option maxRecDepth 100000 in
theorem b23_4 {d : Nat} {w : vW} {x0 x1 y0 : Int} {Q : Int → vW → Prop} : VW d 23 4 [(2, x0), (1, x1), (9, 0), (9, 0), (9, 0), (9, 0), (9, 0), (9, 0), (9, 0)] [(1, y0)] w Q ↔ (((vlc y0 0) < 0 → VW d 23 11 [(2, x0), (1, x1), (9, 0), (1, y0), (9, 0), (9, 0), (9, 0), (9, 0), (9, 0)] [] w Q) ∧ (¬ ((vlc y0 0) < 0) → VW d 23 13 [(2, x0), (1, x1), (9, 0), (1, y0), (9, 0), (9, 0), (9, 0), (9, 0), (9, 0)] [] w Q)) :=
  (VW_b 5 (F := fun n => (if (vlc y0 0) < 0 then vrun n d 23 11 [(2, x0), (1, x1), (9, 0), (1, y0), (9, 0), (9, 0), (9, 0), (9, 0), (9, 0)] [] w else vrun n d 23 13 [(2, x0), (1, x1), (9, 0), (1, y0), (9, 0), (9, 0), (9, 0), (9, 0), (9, 0)] [] w)) (fun _ => rfl)).trans (EX_br.trans (and_congr (imp_congr Iff.rfl Iff.rfl) (imp_congr Iff.rfl Iff.rfl)))
set_option maxRecDepth 100000 in
theorem b23_11 {d : Nat} {w : vW} {x0 x1 x3 : Int} {Q : Int → vW → Prop} : VW d 23 11 [(2, x0), (1, x1), (9, 0), (1, x3), (9, 0), (9, 0), (9, 0), (9, 0), (9, 0)] [] w Q ↔ Q (-1) w :=
  (VW_b 2 (F := fun n => some (0, (-1), w)) (fun _ => rfl)).trans (EX_ret0)
set_option maxRecDepth 100000 in
theorem b23_13 {d : Nat} {w : vW} {x0 x1 x3 : Int} {Q : Int → vW → Prop} : VW d 23 13 [(2, x0), (1, x1), (9, 0), (1, x3), (9, 0), (9, 0), (9, 0), (9, 0), (9, 0)] [] w Q ↔ (vkd w x0 = 21) ∧ VC d 49 [(2, x0)] w (fun r w1 => VW d 23 17 [(2, x0), (1, x1), (9, 0), (1, x3), (9, 0), (9, 0), (9, 0), (9, 0), (9, 0)] [(2, r)] w1 Q) :=
  (VW_b 2 (F := fun n => if vkd w x0 = 21 then vclr (vrun n) d 23 17 49 1 2 [(2, x0), (1, x1), (9, 0), (1, x3), (9, 0), (9, 0), (9, 0), (9, 0), (9, 0)] [(2, x0)] w else none) (fun _ => rfl)).trans (EX_if.trans (and_congr Iff.rfl (EX_call rfl)))
set_option maxRecDepth 100000 in
theorem b23_17 {d : Nat} {w : vW} {x0 x1 x3 y0 : Int} {Q : Int → vW → Prop} : VW d 23 17 [(2, x0), (1, x1), (9, 0), (1, x3), (9, 0), (9, 0), (9, 0), (9, 0), (9, 0)] [(2, y0)] w Q ↔ (vkd w x0 = 21) ∧ (vkd w x0 = 21) ∧ (vkd w (vct w x0 3) = 12) ∧ (vkd w y0 = 15) ∧ VC d 201 [(2, y0), (2, vct w x0 0), (1, vct w (vct w x0 3) 2), (0, (-1))] w (fun r w1 => VW d 23 36 [(2, x0), (1, x1), (9, 0), (1, x3), (9, 0), (2, y0), (9, 0), (9, 0), (9, 0)] [(0, r)] w1 Q) :=
  (VW_b 9 (F := fun n => if vkd w x0 = 21 then if vkd w x0 = 21 then if vkd w (vct w x0 3) = 12 then if vkd w y0 = 15 then vclr (vrun n) d 23 36 201 4 0 [(2, x0), (1, x1), (9, 0), (1, x3), (9, 0), (2, y0), (9, 0), (9, 0), (9, 0)] [(0, (-1)), (1, vct w (vct w x0 3) 2), (2, vct w x0 0), (2, y0)] w else none else none else none else none) (fun _ => rfl)).trans (EX_if.trans (and_congr Iff.rfl (EX_if.trans (and_congr Iff.rfl (EX_if.trans (and_congr Iff.rfl (EX_if.trans (and_congr Iff.rfl (EX_call rfl)))))))))
set_option maxRecDepth 100000 in
theorem b23_36 {d : Nat} {w : vW} {x0 x1 x3 x5 y0 : Int} {Q : Int → vW → Prop} : VW d 23 36 [(2, x0), (1, x1), (9, 0), (1, x3), (9, 0), (2, x5), (9, 0), (9, 0), (9, 0)] [(0, y0)] w Q ↔ ((y0 = 0 → VW d 23 39 [(2, x0), (1, x1), (9, 0), (1, x3), (9, 0), (2, x5), (9, 0), (9, 0), (9, 0)] [] w Q) ∧ (¬ (y0 = 0) → VW d 23 42 [(2, x0), (1, x1), (9, 0), (1, x3), (9, 0), (2, x5), (9, 0), (9, 0), (9, 0)] [] w Q)) :=
  (VW_b 1 (F := fun n => (if y0 = 0 then vrun n d 23 39 [(2, x0), (1, x1), (9, 0), (1, x3), (9, 0), (2, x5), (9, 0), (9, 0), (9, 0)] [] w else vrun n d 23 42 [(2, x0), (1, x1), (9, 0), (1, x3), (9, 0), (2, x5), (9, 0), (9, 0), (9, 0)] [] w)) (fun _ => rfl)).trans (EX_br.trans (and_congr (imp_congr Iff.rfl Iff.rfl) (imp_congr Iff.rfl Iff.rfl)))
set_option maxRecDepth 100000 in
theorem b23_39 {d : Nat} {w : vW} {x0 x1 x3 x5 : Int} {Q : Int → vW → Prop} : VW d 23 39 [(2, x0), (1, x1), (9, 0), (1, x3), (9, 0), (2, x5), (9, 0), (9, 0), (9, 0)] [] w Q ↔ Q (-3) w :=
  (VW_b 2 (F := fun n => some (0, (-3), w)) (fun _ => rfl)).trans (EX_ret0)
set_option maxRecDepth 100000 in
theorem b23_42 {d : Nat} {w : vW} {x0 x1 x3 x5 : Int} {Q : Int → vW → Prop} : VW d 23 42 [(2, x0), (1, x1), (9, 0), (1, x3), (9, 0), (2, x5), (9, 0), (9, 0), (9, 0)] [] w Q ↔ (vkd w x5 = 15) ∧ VC d 199 [(2, x5), (1, x3)] w (fun r w1 => VW d 23 48 [(2, x0), (1, x1), (9, 0), (1, x3), (9, 0), (2, x5), (9, 0), (9, 0), (9, 0)] [(0, r)] w1 Q) :=
  (VW_b 3 (F := fun n => if vkd w x5 = 15 then vclr (vrun n) d 23 48 199 2 0 [(2, x0), (1, x1), (9, 0), (1, x3), (9, 0), (2, x5), (9, 0), (9, 0), (9, 0)] [(1, x3), (2, x5)] w else none) (fun _ => rfl)).trans (EX_if.trans (and_congr Iff.rfl (EX_call rfl)))
set_option maxRecDepth 100000 in
theorem b23_48 {d : Nat} {w : vW} {x0 x1 x3 x5 y0 : Int} {Q : Int → vW → Prop} : VW d 23 48 [(2, x0), (1, x1), (9, 0), (1, x3), (9, 0), (2, x5), (9, 0), (9, 0), (9, 0)] [(0, y0)] w Q ↔ ((y0 < 0 → VW d 23 55 [(2, x0), (1, x1), (9, 0), (1, x3), (9, 0), (2, x5), (0, y0), (9, 0), (9, 0)] [] w Q) ∧ (¬ (y0 < 0) → VW d 23 58 [(2, x0), (1, x1), (9, 0), (1, x3), (9, 0), (2, x5), (0, y0), (9, 0), (9, 0)] [] w Q)) :=
  (VW_b 3 (F := fun n => (if y0 < 0 then vrun n d 23 55 [(2, x0), (1, x1), (9, 0), (1, x3), (9, 0), (2, x5), (0, y0), (9, 0), (9, 0)] [] w else vrun n d 23 58 [(2, x0), (1, x1), (9, 0), (1, x3), (9, 0), (2, x5), (0, y0), (9, 0), (9, 0)] [] w)) (fun _ => rfl)).trans (EX_br.trans (and_congr (imp_congr Iff.rfl Iff.rfl) (imp_congr Iff.rfl Iff.rfl)))
set_option maxRecDepth 100000 in
theorem b23_55 {d : Nat} {w : vW} {x0 x1 x3 x5 x6 : Int} {Q : Int → vW → Prop} : VW d 23 55 [(2, x0), (1, x1), (9, 0), (1, x3), (9, 0), (2, x5), (0, x6), (9, 0), (9, 0)] [] w Q ↔ Q (-2) w :=
  (VW_b 2 (F := fun n => some (0, (-2), w)) (fun _ => rfl)).trans (EX_ret0)
set_option maxRecDepth 100000 in
theorem b23_58 {d : Nat} {w : vW} {x0 x1 x3 x5 x6 : Int} {Q : Int → vW → Prop} : VW d 23 58 [(2, x0), (1, x1), (9, 0), (1, x3), (9, 0), (2, x5), (0, x6), (9, 0), (9, 0)] [] w Q ↔ (vkd w x5 = 15) ∧ VC d 222 [(2, x5), (0, x6)] w (fun r w1 => VW d 23 65 [(2, x0), (1, x1), (9, 0), (1, x3), (9, 0), (2, x5), (0, x6), (9, 0), (9, 0)] [(0, r)] w1 Q) :=
  (VW_b 3 (F := fun n => if vkd w x5 = 15 then vclr (vrun n) d 23 65 222 2 0 [(2, x0), (1, x1), (9, 0), (1, x3), (9, 0), (2, x5), (0, x6), (9, 0), (9, 0)] [(0, x6), (2, x5)] w else none) (fun _ => rfl)).trans (EX_if.trans (and_congr Iff.rfl (EX_call rfl)))
set_option maxRecDepth 100000 in
theorem b23_65 {d : Nat} {w : vW} {x0 x1 x3 x5 x6 y0 : Int} {Q : Int → vW → Prop} : VW d 23 65 [(2, x0), (1, x1), (9, 0), (1, x3), (9, 0), (2, x5), (0, x6), (9, 0), (9, 0)] [(0, y0)] w Q ↔ (vkd w x0 = 21) ∧ (vkd w (vct w x0 2) = 20) ∧ VC d 292 [(2, vct w x0 2), (0, w32 (2 * (min 8 y0)))] w (fun _ w1 => VW d 23 83 [(2, x0), (1, x1), (9, 0), (1, x3), (9, 0), (2, x5), (0, x6), (0, y0), (9, 0)] [] w1 Q) :=
  (VW_b 9 (F := fun n => if vkd w x0 = 21 then if vkd w (vct w x0 2) = 20 then vclr (vrun n) d 23 83 292 2 9 [(2, x0), (1, x1), (9, 0), (1, x3), (9, 0), (2, x5), (0, x6), (0, y0), (9, 0)] [(0, w32 (2 * (min 8 y0))), (2, vct w x0 2)] w else none else none) (fun _ => rfl)).trans (EX_if.trans (and_congr Iff.rfl (EX_if.trans (and_congr Iff.rfl (EX_call rfl)))))
set_option maxRecDepth 100000 in
theorem b23_83 {d : Nat} {w : vW} {x0 x1 x3 x5 x6 x7 : Int} {Q : Int → vW → Prop} : VW d 23 83 [(2, x0), (1, x1), (9, 0), (1, x3), (9, 0), (2, x5), (0, x6), (0, x7), (9, 0)] [] w Q ↔ VW d 23 89 [(2, x0), (1, x1), (9, 0), (1, x3), (9, 0), (2, x5), (0, x6), (0, x7), (0, w32 (x7 - 1))] [] w Q :=
  (VW_b 4 (F := fun n => vrun n d 23 89 [(2, x0), (1, x1), (9, 0), (1, x3), (9, 0), (2, x5), (0, x6), (0, x7), (0, w32 (x7 - 1))] [] w) (fun _ => rfl)).trans (Iff.rfl)
set_option maxRecDepth 100000 in
theorem b23_89 {d : Nat} {w : vW} {x0 x1 x3 x5 x6 x7 x8 : Int} {Q : Int → vW → Prop} : VW d 23 89 [(2, x0), (1, x1), (9, 0), (1, x3), (9, 0), (2, x5), (0, x6), (0, x7), (0, x8)] [] w Q ↔ ((x8 < 0 → VW d 23 155 [(2, x0), (1, x1), (9, 0), (1, x3), (9, 0), (2, x5), (0, x6), (0, x7), (0, x8)] [] w Q) ∧ (¬ (x8 < 0) → VW d 23 94 [(2, x0), (1, x1), (9, 0), (1, x3), (9, 0), (2, x5), (0, x6), (0, x7), (0, x8)] [] w Q)) :=
  (VW_b 2 (F := fun n => (if x8 < 0 then vrun n d 23 155 [(2, x0), (1, x1), (9, 0), (1, x3), (9, 0), (2, x5), (0, x6), (0, x7), (0, x8)] [] w else vrun n d 23 94 [(2, x0), (1, x1), (9, 0), (1, x3), (9, 0), (2, x5), (0, x6), (0, x7), (0, x8)] [] w)) (fun _ => rfl)).trans (EX_br.trans (and_congr (imp_congr Iff.rfl Iff.rfl) (imp_congr Iff.rfl Iff.rfl)))
set_option maxRecDepth 100000 in
theorem b23_94 {d : Nat} {w : vW} {x0 x1 x3 x5 x6 x7 x8 : Int} {Q : Int → vW → Prop} : VW d 23 94 [(2, x0), (1, x1), (9, 0), (1, x3), (9, 0), (2, x5), (0, x6), (0, x7), (0, x8)] [] w Q ↔ (vkd w x0 = 21) ∧ (vkd w x5 = 15) ∧ VC d 223 [(2, x5), (0, x6)] w (fun r w1 => VW d 23 109 [(2, x0), (1, x1), (9, 0), (1, x3), (9, 0), (2, x5), (0, x6), (0, x7), (0, x8)] [(0, r), (0, w32 (2 * x8)), (2, vct w x0 2)] w1 Q) :=
  (VW_b 8 (F := fun n => if vkd w x0 = 21 then if vkd w x5 = 15 then vclr (vrun n) d 23 109 223 2 0 [(2, x0), (1, x1), (9, 0), (1, x3), (9, 0), (2, x5), (0, x6), (0, x7), (0, x8)] [(0, x6), (2, x5), (0, w32 (2 * x8)), (2, vct w x0 2)] w else none else none) (fun _ => rfl)).trans (EX_if.trans (and_congr Iff.rfl (EX_if.trans (and_congr Iff.rfl (EX_call rfl)))))
set_option maxRecDepth 100000 in
theorem b23_109 {d : Nat} {w : vW} {x0 x1 x3 x5 x6 x7 x8 y0 y1 y2 : Int} {Q : Int → vW → Prop} : VW d 23 109 [(2, x0), (1, x1), (9, 0), (1, x3), (9, 0), (2, x5), (0, x6), (0, x7), (0, x8)] [(0, y2), (0, y1), (2, y0)] w Q ↔ VC d 250 [(0, y2)] w (fun r w1 => VW d 23 112 [(2, x0), (1, x1), (9, 0), (1, x3), (9, 0), (2, x5), (0, x6), (0, x7), (0, x8)] [(0, r), (0, y1), (2, y0)] w1 Q) :=
  (VW_b 1 (F := fun n => vclr (vrun n) d 23 112 250 1 0 [(2, x0), (1, x1), (9, 0), (1, x3), (9, 0), (2, x5), (0, x6), (0, x7), (0, x8)] [(0, y2), (0, y1), (2, y0)] w) (fun _ => rfl)).trans (EX_call rfl)
set_option maxRecDepth 100000 in
theorem b23_112 {d : Nat} {w : vW} {x0 x1 x3 x5 x6 x7 x8 y0 y1 y2 : Int} {Q : Int → vW → Prop} : VW d 23 112 [(2, x0), (1, x1), (9, 0), (1, x3), (9, 0), (2, x5), (0, x6), (0, x7), (0, x8)] [(0, y2), (0, y1), (2, y0)] w Q ↔ (vkd w y0 = 20) ∧ VC d 294 [(2, y0), (0, y1), (1, y2)] w (fun _ w1 => VW d 23 116 [(2, x0), (1, x1), (9, 0), (1, x3), (9, 0), (2, x5), (0, x6), (0, x7), (0, x8)] [] w1 Q) :=
  (VW_b 2 (F := fun n => if vkd w y0 = 20 then vclr (vrun n) d 23 116 294 3 9 [(2, x0), (1, x1), (9, 0), (1, x3), (9, 0), (2, x5), (0, x6), (0, x7), (0, x8)] [(1, y2), (0, y1), (2, y0)] w else none) (fun _ => rfl)).trans (EX_if.trans (and_congr Iff.rfl (EX_call rfl)))
set_option maxRecDepth 100000 in
theorem b23_116 {d : Nat} {w : vW} {x0 x1 x3 x5 x6 x7 x8 : Int} {Q : Int → vW → Prop} : VW d 23 116 [(2, x0), (1, x1), (9, 0), (1, x3), (9, 0), (2, x5), (0, x6), (0, x7), (0, x8)] [] w Q ↔ (vkd w x0 = 21) ∧ (vkd w x5 = 15) ∧ VC d 223 [(2, x5), (0, x6)] w (fun r w1 => VW d 23 133 [(2, x0), (1, x1), (9, 0), (1, x3), (9, 0), (2, x5), (0, x6), (0, x7), (0, x8)] [(0, r), (0, w32 ((w32 (2 * x8)) + 1)), (2, vct w x0 2)] w1 Q) :=
  (VW_b 10 (F := fun n => if vkd w x0 = 21 then if vkd w x5 = 15 then vclr (vrun n) d 23 133 223 2 0 [(2, x0), (1, x1), (9, 0), (1, x3), (9, 0), (2, x5), (0, x6), (0, x7), (0, x8)] [(0, x6), (2, x5), (0, w32 ((w32 (2 * x8)) + 1)), (2, vct w x0 2)] w else none else none) (fun _ => rfl)).trans (EX_if.trans (and_congr Iff.rfl (EX_if.trans (and_congr Iff.rfl (EX_call rfl)))))
set_option maxRecDepth 100000 in
theorem b23_133 {d : Nat} {w : vW} {x0 x1 x3 x5 x6 x7 x8 y0 y1 y2 : Int} {Q : Int → vW → Prop} : VW d 23 133 [(2, x0), (1, x1), (9, 0), (1, x3), (9, 0), (2, x5), (0, x6), (0, x7), (0, x8)] [(0, y2), (0, y1), (2, y0)] w Q ↔ VC d 251 [(0, y2)] w (fun r w1 => VW d 23 136 [(2, x0), (1, x1), (9, 0), (1, x3), (9, 0), (2, x5), (0, x6), (0, x7), (0, x8)] [(0, r), (0, y1), (2, y0)] w1 Q) :=
  (VW_b 1 (F := fun n => vclr (vrun n) d 23 136 251 1 0 [(2, x0), (1, x1), (9, 0), (1, x3), (9, 0), (2, x5), (0, x6), (0, x7), (0, x8)] [(0, y2), (0, y1), (2, y0)] w) (fun _ => rfl)).trans (EX_call rfl)
set_option maxRecDepth 100000 in
theorem b23_136 {d : Nat} {w : vW} {x0 x1 x3 x5 x6 x7 x8 y0 y1 y2 : Int} {Q : Int → vW → Prop} : VW d 23 136 [(2, x0), (1, x1), (9, 0), (1, x3), (9, 0), (2, x5), (0, x6), (0, x7), (0, x8)] [(0, y2), (0, y1), (2, y0)] w Q ↔ (vkd w y0 = 20) ∧ VC d 294 [(2, y0), (0, y1), (1, y2)] w (fun _ w1 => VW d 23 140 [(2, x0), (1, x1), (9, 0), (1, x3), (9, 0), (2, x5), (0, x6), (0, x7), (0, x8)] [] w1 Q) :=
  (VW_b 2 (F := fun n => if vkd w y0 = 20 then vclr (vrun n) d 23 140 294 3 9 [(2, x0), (1, x1), (9, 0), (1, x3), (9, 0), (2, x5), (0, x6), (0, x7), (0, x8)] [(1, y2), (0, y1), (2, y0)] w else none) (fun _ => rfl)).trans (EX_if.trans (and_congr Iff.rfl (EX_call rfl)))
set_option maxRecDepth 100000 in
theorem b23_140 {d : Nat} {w : vW} {x0 x1 x3 x5 x6 x7 x8 : Int} {Q : Int → vW → Prop} : VW d 23 140 [(2, x0), (1, x1), (9, 0), (1, x3), (9, 0), (2, x5), (0, x6), (0, x7), (0, x8)] [] w Q ↔ (vkd w x5 = 15) ∧ VC d 224 [(2, x5), (0, x6)] w (fun r w1 => VW d 23 147 [(2, x0), (1, x1), (9, 0), (1, x3), (9, 0), (2, x5), (0, x6), (0, x7), (0, x8)] [(0, r)] w1 Q) :=
  (VW_b 3 (F := fun n => if vkd w x5 = 15 then vclr (vrun n) d 23 147 224 2 0 [(2, x0), (1, x1), (9, 0), (1, x3), (9, 0), (2, x5), (0, x6), (0, x7), (0, x8)] [(0, x6), (2, x5)] w else none) (fun _ => rfl)).trans (EX_if.trans (and_congr Iff.rfl (EX_call rfl)))
set_option maxRecDepth 100000 in
theorem b23_147 {d : Nat} {w : vW} {x0 x1 x3 x5 x6 x7 x8 y0 : Int} {Q : Int → vW → Prop} : VW d 23 147 [(2, x0), (1, x1), (9, 0), (1, x3), (9, 0), (2, x5), (0, x6), (0, x7), (0, x8)] [(0, y0)] w Q ↔ VW d 23 89 [(2, x0), (1, x1), (9, 0), (1, x3), (9, 0), (2, x5), (0, y0), (0, x7), (0, w32 (x8 + (-1)))] [] w Q :=
  (VW_b 3 (F := fun n => vrun n d 23 89 [(2, x0), (1, x1), (9, 0), (1, x3), (9, 0), (2, x5), (0, y0), (0, x7), (0, w32 (x8 + (-1)))] [] w) (fun _ => rfl)).trans (Iff.rfl)
set_option maxRecDepth 100000 in
theorem b23_155 {d : Nat} {w : vW} {x0 x1 x3 x5 x6 x7 x8 : Int} {Q : Int → vW → Prop} : VW d 23 155 [(2, x0), (1, x1), (9, 0), (1, x3), (9, 0), (2, x5), (0, x6), (0, x7), (0, x8)] [] w Q ↔ Q x7 w :=
  (VW_b 2 (F := fun n => some (0, x7, w)) (fun _ => rfl)).trans (EX_ret0)
/-! 24: StrikeWhatCancels.ways(J)J -/
set_option maxRecDepth 100000 in
theorem b24_0 {d : Nat} {w : vW} {x0 x1 : Int} {Q : Int → vW → Prop} : VW d 24 0 [(2, x0), (1, x1), (9, 0), (9, 0), (9, 0), (9, 0), (9, 0)] [] w Q ↔ VC d 280 [(1, x1)] w (fun r w1 => VW d 24 4 [(2, x0), (1, x1), (9, 0), (9, 0), (9, 0), (9, 0), (9, 0)] [(1, r)] w1 Q) :=
  (VW_b 2 (F := fun n => vclr (vrun n) d 24 4 280 1 1 [(2, x0), (1, x1), (9, 0), (9, 0), (9, 0), (9, 0), (9, 0)] [(1, x1)] w) (fun _ => rfl)).trans (EX_call rfl)
set_option maxRecDepth 100000 in
theorem b24_4 {d : Nat} {w : vW} {x0 x1 y0 : Int} {Q : Int → vW → Prop} : VW d 24 4 [(2, x0), (1, x1), (9, 0), (9, 0), (9, 0), (9, 0), (9, 0)] [(1, y0)] w Q ↔ (((vlc y0 0) < 0 → VW d 24 11 [(2, x0), (1, x1), (9, 0), (1, y0), (9, 0), (9, 0), (9, 0)] [] w Q) ∧ (¬ ((vlc y0 0) < 0) → VW d 24 15 [(2, x0), (1, x1), (9, 0), (1, y0), (9, 0), (9, 0), (9, 0)] [] w Q)) :=
  (VW_b 5 (F := fun n => (if (vlc y0 0) < 0 then vrun n d 24 11 [(2, x0), (1, x1), (9, 0), (1, y0), (9, 0), (9, 0), (9, 0)] [] w else vrun n d 24 15 [(2, x0), (1, x1), (9, 0), (1, y0), (9, 0), (9, 0), (9, 0)] [] w)) (fun _ => rfl)).trans (EX_br.trans (and_congr (imp_congr Iff.rfl Iff.rfl) (imp_congr Iff.rfl Iff.rfl)))
set_option maxRecDepth 100000 in
theorem b24_11 {d : Nat} {w : vW} {x0 x1 x3 : Int} {Q : Int → vW → Prop} : VW d 24 11 [(2, x0), (1, x1), (9, 0), (1, x3), (9, 0), (9, 0), (9, 0)] [] w Q ↔ Q (-1) w :=
  (VW_b 2 (F := fun n => some (0, (-1), w)) (fun _ => rfl)).trans (EX_ret0)
set_option maxRecDepth 100000 in
theorem b24_15 {d : Nat} {w : vW} {x0 x1 x3 : Int} {Q : Int → vW → Prop} : VW d 24 15 [(2, x0), (1, x1), (9, 0), (1, x3), (9, 0), (9, 0), (9, 0)] [] w Q ↔ (vkd w x0 = 21) ∧ VC d 49 [(2, x0)] w (fun r w1 => VW d 24 19 [(2, x0), (1, x1), (9, 0), (1, x3), (9, 0), (9, 0), (9, 0)] [(2, r)] w1 Q) :=
  (VW_b 2 (F := fun n => if vkd w x0 = 21 then vclr (vrun n) d 24 19 49 1 2 [(2, x0), (1, x1), (9, 0), (1, x3), (9, 0), (9, 0), (9, 0)] [(2, x0)] w else none) (fun _ => rfl)).trans (EX_if.trans (and_congr Iff.rfl (EX_call rfl)))
set_option maxRecDepth 100000 in
theorem b24_19 {d : Nat} {w : vW} {x0 x1 x3 y0 : Int} {Q : Int → vW → Prop} : VW d 24 19 [(2, x0), (1, x1), (9, 0), (1, x3), (9, 0), (9, 0), (9, 0)] [(2, y0)] w Q ↔ (vkd w x0 = 21) ∧ (vkd w x0 = 21) ∧ (vkd w (vct w x0 3) = 12) ∧ (vkd w y0 = 15) ∧ VC d 201 [(2, y0), (2, vct w x0 0), (1, vct w (vct w x0 3) 2), (0, (-1))] w (fun r w1 => VW d 24 38 [(2, x0), (1, x1), (9, 0), (1, x3), (9, 0), (2, y0), (9, 0)] [(0, r)] w1 Q) :=
  (VW_b 9 (F := fun n => if vkd w x0 = 21 then if vkd w x0 = 21 then if vkd w (vct w x0 3) = 12 then if vkd w y0 = 15 then vclr (vrun n) d 24 38 201 4 0 [(2, x0), (1, x1), (9, 0), (1, x3), (9, 0), (2, y0), (9, 0)] [(0, (-1)), (1, vct w (vct w x0 3) 2), (2, vct w x0 0), (2, y0)] w else none else none else none else none) (fun _ => rfl)).trans (EX_if.trans (and_congr Iff.rfl (EX_if.trans (and_congr Iff.rfl (EX_if.trans (and_congr Iff.rfl (EX_if.trans (and_congr Iff.rfl (EX_call rfl)))))))))
set_option maxRecDepth 100000 in
theorem b24_38 {d : Nat} {w : vW} {x0 x1 x3 x5 y0 : Int} {Q : Int → vW → Prop} : VW d 24 38 [(2, x0), (1, x1), (9, 0), (1, x3), (9, 0), (2, x5), (9, 0)] [(0, y0)] w Q ↔ ((y0 = 0 → VW d 24 41 [(2, x0), (1, x1), (9, 0), (1, x3), (9, 0), (2, x5), (9, 0)] [] w Q) ∧ (¬ (y0 = 0) → VW d 24 45 [(2, x0), (1, x1), (9, 0), (1, x3), (9, 0), (2, x5), (9, 0)] [] w Q)) :=
  (VW_b 1 (F := fun n => (if y0 = 0 then vrun n d 24 41 [(2, x0), (1, x1), (9, 0), (1, x3), (9, 0), (2, x5), (9, 0)] [] w else vrun n d 24 45 [(2, x0), (1, x1), (9, 0), (1, x3), (9, 0), (2, x5), (9, 0)] [] w)) (fun _ => rfl)).trans (EX_br.trans (and_congr (imp_congr Iff.rfl Iff.rfl) (imp_congr Iff.rfl Iff.rfl)))
set_option maxRecDepth 100000 in
theorem b24_41 {d : Nat} {w : vW} {x0 x1 x3 x5 : Int} {Q : Int → vW → Prop} : VW d 24 41 [(2, x0), (1, x1), (9, 0), (1, x3), (9, 0), (2, x5), (9, 0)] [] w Q ↔ Q (-3) w :=
  (VW_b 2 (F := fun n => some (0, (-3), w)) (fun _ => rfl)).trans (EX_ret0)
set_option maxRecDepth 100000 in
theorem b24_45 {d : Nat} {w : vW} {x0 x1 x3 x5 : Int} {Q : Int → vW → Prop} : VW d 24 45 [(2, x0), (1, x1), (9, 0), (1, x3), (9, 0), (2, x5), (9, 0)] [] w Q ↔ (vkd w x5 = 15) ∧ VC d 199 [(2, x5), (1, x3)] w (fun r w1 => VW d 24 51 [(2, x0), (1, x1), (9, 0), (1, x3), (9, 0), (2, x5), (9, 0)] [(0, r)] w1 Q) :=
  (VW_b 3 (F := fun n => if vkd w x5 = 15 then vclr (vrun n) d 24 51 199 2 0 [(2, x0), (1, x1), (9, 0), (1, x3), (9, 0), (2, x5), (9, 0)] [(1, x3), (2, x5)] w else none) (fun _ => rfl)).trans (EX_if.trans (and_congr Iff.rfl (EX_call rfl)))
set_option maxRecDepth 100000 in
theorem b24_51 {d : Nat} {w : vW} {x0 x1 x3 x5 y0 : Int} {Q : Int → vW → Prop} : VW d 24 51 [(2, x0), (1, x1), (9, 0), (1, x3), (9, 0), (2, x5), (9, 0)] [(0, y0)] w Q ↔ ((y0 < 0 → VW d 24 58 [(2, x0), (1, x1), (9, 0), (1, x3), (9, 0), (2, x5), (0, y0)] [] w Q) ∧ (¬ (y0 < 0) → VW d 24 62 [(2, x0), (1, x1), (9, 0), (1, x3), (9, 0), (2, x5), (0, y0)] [] w Q)) :=
  (VW_b 3 (F := fun n => (if y0 < 0 then vrun n d 24 58 [(2, x0), (1, x1), (9, 0), (1, x3), (9, 0), (2, x5), (0, y0)] [] w else vrun n d 24 62 [(2, x0), (1, x1), (9, 0), (1, x3), (9, 0), (2, x5), (0, y0)] [] w)) (fun _ => rfl)).trans (EX_br.trans (and_congr (imp_congr Iff.rfl Iff.rfl) (imp_congr Iff.rfl Iff.rfl)))
set_option maxRecDepth 100000 in
theorem b24_58 {d : Nat} {w : vW} {x0 x1 x3 x5 x6 : Int} {Q : Int → vW → Prop} : VW d 24 58 [(2, x0), (1, x1), (9, 0), (1, x3), (9, 0), (2, x5), (0, x6)] [] w Q ↔ Q (-2) w :=
  (VW_b 2 (F := fun n => some (0, (-2), w)) (fun _ => rfl)).trans (EX_ret0)
set_option maxRecDepth 100000 in
theorem b24_62 {d : Nat} {w : vW} {x0 x1 x3 x5 x6 : Int} {Q : Int → vW → Prop} : VW d 24 62 [(2, x0), (1, x1), (9, 0), (1, x3), (9, 0), (2, x5), (0, x6)] [] w Q ↔ (vkd w x0 = 21) ∧ (vkd w x5 = 15) ∧ VC d 211 [(2, x5), (2, vct w x0 0), (0, 1)] w (fun _ w1 => VW d 24 72 [(2, x0), (1, x1), (9, 0), (1, x3), (9, 0), (2, x5), (0, x6)] [] w1 Q) :=
  (VW_b 5 (F := fun n => if vkd w x0 = 21 then if vkd w x5 = 15 then vclr (vrun n) d 24 72 211 3 9 [(2, x0), (1, x1), (9, 0), (1, x3), (9, 0), (2, x5), (0, x6)] [(0, 1), (2, vct w x0 0), (2, x5)] w else none else none) (fun _ => rfl)).trans (EX_if.trans (and_congr Iff.rfl (EX_if.trans (and_congr Iff.rfl (EX_call rfl)))))
set_option maxRecDepth 100000 in
theorem b24_72 {d : Nat} {w : vW} {x0 x1 x3 x5 x6 : Int} {Q : Int → vW → Prop} : VW d 24 72 [(2, x0), (1, x1), (9, 0), (1, x3), (9, 0), (2, x5), (0, x6)] [] w Q ↔ (vkd w x0 = 21) ∧ (vkd w (vct w x0 2) = 20) ∧ VC d 291 [(2, vct w x0 2)] w (fun _ w1 => VW d 24 79 [(2, x0), (1, x1), (9, 0), (1, x3), (9, 0), (2, x5), (0, x6)] [] w1 Q) :=
  (VW_b 3 (F := fun n => if vkd w x0 = 21 then if vkd w (vct w x0 2) = 20 then vclr (vrun n) d 24 79 291 1 9 [(2, x0), (1, x1), (9, 0), (1, x3), (9, 0), (2, x5), (0, x6)] [(2, vct w x0 2)] w else none else none) (fun _ => rfl)).trans (EX_if.trans (and_congr Iff.rfl (EX_if.trans (and_congr Iff.rfl (EX_call rfl)))))
set_option maxRecDepth 100000 in
theorem b24_79 {d : Nat} {w : vW} {x0 x1 x3 x5 x6 : Int} {Q : Int → vW → Prop} : VW d 24 79 [(2, x0), (1, x1), (9, 0), (1, x3), (9, 0), (2, x5), (0, x6)] [] w Q ↔ (vkd w x0 = 21) ∧ (vkd w x5 = 15) ∧ VC d 216 [(2, x5)] w (fun r w1 => VW d 24 88 [(2, x0), (1, x1), (9, 0), (1, x3), (9, 0), (2, x5), (0, x6)] [(1, r), (2, vct w x0 2)] w1 Q) :=
  (VW_b 4 (F := fun n => if vkd w x0 = 21 then if vkd w x5 = 15 then vclr (vrun n) d 24 88 216 1 1 [(2, x0), (1, x1), (9, 0), (1, x3), (9, 0), (2, x5), (0, x6)] [(2, x5), (2, vct w x0 2)] w else none else none) (fun _ => rfl)).trans (EX_if.trans (and_congr Iff.rfl (EX_if.trans (and_congr Iff.rfl (EX_call rfl)))))
set_option maxRecDepth 100000 in
theorem b24_88 {d : Nat} {w : vW} {x0 x1 x3 x5 x6 y0 y1 : Int} {Q : Int → vW → Prop} : VW d 24 88 [(2, x0), (1, x1), (9, 0), (1, x3), (9, 0), (2, x5), (0, x6)] [(1, y1), (2, y0)] w Q ↔ (vkd w y0 = 20) ∧ VC d 293 [(2, y0), (1, y1)] w (fun _ w1 => VW d 24 91 [(2, x0), (1, x1), (9, 0), (1, x3), (9, 0), (2, x5), (0, x6)] [] w1 Q) :=
  (VW_b 1 (F := fun n => if vkd w y0 = 20 then vclr (vrun n) d 24 91 293 2 9 [(2, x0), (1, x1), (9, 0), (1, x3), (9, 0), (2, x5), (0, x6)] [(1, y1), (2, y0)] w else none) (fun _ => rfl)).trans (EX_if.trans (and_congr Iff.rfl (EX_call rfl)))
set_option maxRecDepth 100000 in
theorem b24_91 {d : Nat} {w : vW} {x0 x1 x3 x5 x6 : Int} {Q : Int → vW → Prop} : VW d 24 91 [(2, x0), (1, x1), (9, 0), (1, x3), (9, 0), (2, x5), (0, x6)] [] w Q ↔ (vkd w x5 = 15) ∧ VC d 221 [(2, x5), (0, x6)] w (fun r w1 => VW d 24 98 [(2, x0), (1, x1), (9, 0), (1, x3), (9, 0), (2, x5), (0, x6)] [(1, r)] w1 Q) :=
  (VW_b 3 (F := fun n => if vkd w x5 = 15 then vclr (vrun n) d 24 98 221 2 1 [(2, x0), (1, x1), (9, 0), (1, x3), (9, 0), (2, x5), (0, x6)] [(0, x6), (2, x5)] w else none) (fun _ => rfl)).trans (EX_if.trans (and_congr Iff.rfl (EX_call rfl)))
set_option maxRecDepth 100000 in
theorem b24_98 {d : Nat} {w : vW} {x0 x1 x3 x5 x6 y0 : Int} {Q : Int → vW → Prop} : VW d 24 98 [(2, x0), (1, x1), (9, 0), (1, x3), (9, 0), (2, x5), (0, x6)] [(1, y0)] w Q ↔ Q y0 w :=
  (VW_b 1 (F := fun n => some (0, y0, w)) (fun _ => rfl)).trans (EX_ret0)
/-! 25: StrikeWhatCancels.clerks()I -/
set_option maxRecDepth 100000 in
theorem b25_0 {d : Nat} {w : vW} {x0 : Int} {Q : Int → vW → Prop} : VW d 25 0 [(2, x0), (9, 0), (9, 0), (9, 0), (9, 0), (9, 0), (9, 0), (9, 0)] [] w Q ↔ (vkd w x0 = 21) ∧ (vkd w (vct w x0 2) = 20) ∧ VC d 292 [(2, vct w x0 2), (0, 6)] w (fun _ w1 => VW d 25 9 [(2, x0), (9, 0), (9, 0), (9, 0), (9, 0), (9, 0), (9, 0), (9, 0)] [] w1 Q) :=
  (VW_b 4 (F := fun n => if vkd w x0 = 21 then if vkd w (vct w x0 2) = 20 then vclr (vrun n) d 25 9 292 2 9 [(2, x0), (9, 0), (9, 0), (9, 0), (9, 0), (9, 0), (9, 0), (9, 0)] [(0, 6), (2, vct w x0 2)] w else none else none) (fun _ => rfl)).trans (EX_if.trans (and_congr Iff.rfl (EX_if.trans (and_congr Iff.rfl (EX_call rfl)))))
set_option maxRecDepth 100000 in
theorem b25_9 {d : Nat} {w : vW} {x0 : Int} {Q : Int → vW → Prop} : VW d 25 9 [(2, x0), (9, 0), (9, 0), (9, 0), (9, 0), (9, 0), (9, 0), (9, 0)] [] w Q ↔ VW d 25 11 [(2, x0), (0, 0), (9, 0), (9, 0), (9, 0), (9, 0), (9, 0), (9, 0)] [] w Q :=
  (VW_b 2 (F := fun n => vrun n d 25 11 [(2, x0), (0, 0), (9, 0), (9, 0), (9, 0), (9, 0), (9, 0), (9, 0)] [] w) (fun _ => rfl)).trans (Iff.rfl)
set_option maxRecDepth 100000 in
theorem b25_11 {d : Nat} {w : vW} {x0 x1 : Int} {Q : Int → vW → Prop} : VW d 25 11 [(2, x0), (0, x1), (9, 0), (9, 0), (9, 0), (9, 0), (9, 0), (9, 0)] [] w Q ↔ ((x1 < 3 → VW d 25 16 [(2, x0), (0, x1), (9, 0), (9, 0), (9, 0), (9, 0), (9, 0), (9, 0)] [] w Q) ∧ (¬ (x1 < 3) → VW d 25 65 [(2, x0), (0, x1), (9, 0), (9, 0), (9, 0), (9, 0), (9, 0), (9, 0)] [] w Q)) :=
  (VW_b 3 (F := fun n => (if x1 < 3 then vrun n d 25 16 [(2, x0), (0, x1), (9, 0), (9, 0), (9, 0), (9, 0), (9, 0), (9, 0)] [] w else vrun n d 25 65 [(2, x0), (0, x1), (9, 0), (9, 0), (9, 0), (9, 0), (9, 0), (9, 0)] [] w)) (fun _ => rfl)).trans (EX_br.trans (and_congr (imp_congr Iff.rfl Iff.rfl) (imp_congr Iff.rfl Iff.rfl)))
set_option maxRecDepth 100000 in
theorem b25_16 {d : Nat} {w : vW} {x0 x1 : Int} {Q : Int → vW → Prop} : VW d 25 16 [(2, x0), (0, x1), (9, 0), (9, 0), (9, 0), (9, 0), (9, 0), (9, 0)] [] w Q ↔ (vkd w x0 = 21) ∧ (vkd w x0 = 21) ∧ (vkd w x0 = 21) ∧ (vkd w (vct w x0 3) = 12) ∧ (vkd w (vct w x0 0) = 18) ∧ VC d 265 [(2, vct w x0 0), (0, x1), (1, vct w (vct w x0 3) 2)] w (fun r w1 => VW d 25 36 [(2, x0), (0, x1), (9, 0), (9, 0), (9, 0), (9, 0), (9, 0), (9, 0)] [(1, r), (0, x1), (2, vct w x0 2)] w1 Q) :=
  (VW_b 10 (F := fun n => if vkd w x0 = 21 then if vkd w x0 = 21 then if vkd w x0 = 21 then if vkd w (vct w x0 3) = 12 then if vkd w (vct w x0 0) = 18 then vclr (vrun n) d 25 36 265 3 1 [(2, x0), (0, x1), (9, 0), (9, 0), (9, 0), (9, 0), (9, 0), (9, 0)] [(1, vct w (vct w x0 3) 2), (0, x1), (2, vct w x0 0), (0, x1), (2, vct w x0 2)] w else none else none else none else none else none) (fun _ => rfl)).trans (EX_if.trans (and_congr Iff.rfl (EX_if.trans (and_congr Iff.rfl (EX_if.trans (and_congr Iff.rfl (EX_if.trans (and_congr Iff.rfl (EX_if.trans (and_congr Iff.rfl (EX_call rfl)))))))))))
set_option maxRecDepth 100000 in
theorem b25_36 {d : Nat} {w : vW} {x0 x1 y0 y1 y2 : Int} {Q : Int → vW → Prop} : VW d 25 36 [(2, x0), (0, x1), (9, 0), (9, 0), (9, 0), (9, 0), (9, 0), (9, 0)] [(1, y2), (0, y1), (2, y0)] w Q ↔ VC d 281 [(1, y2)] w (fun r w1 => VW d 25 39 [(2, x0), (0, x1), (9, 0), (9, 0), (9, 0), (9, 0), (9, 0), (9, 0)] [(1, r), (0, y1), (2, y0)] w1 Q) :=
  (VW_b 1 (F := fun n => vclr (vrun n) d 25 39 281 1 1 [(2, x0), (0, x1), (9, 0), (9, 0), (9, 0), (9, 0), (9, 0), (9, 0)] [(1, y2), (0, y1), (2, y0)] w) (fun _ => rfl)).trans (EX_call rfl)
set_option maxRecDepth 100000 in
theorem b25_39 {d : Nat} {w : vW} {x0 x1 y0 y1 y2 : Int} {Q : Int → vW → Prop} : VW d 25 39 [(2, x0), (0, x1), (9, 0), (9, 0), (9, 0), (9, 0), (9, 0), (9, 0)] [(1, y2), (0, y1), (2, y0)] w Q ↔ (vkd w y0 = 20) ∧ VC d 294 [(2, y0), (0, y1), (1, y2)] w (fun _ w1 => VW d 25 42 [(2, x0), (0, x1), (9, 0), (9, 0), (9, 0), (9, 0), (9, 0), (9, 0)] [] w1 Q) :=
  (VW_b 1 (F := fun n => if vkd w y0 = 20 then vclr (vrun n) d 25 42 294 3 9 [(2, x0), (0, x1), (9, 0), (9, 0), (9, 0), (9, 0), (9, 0), (9, 0)] [(1, y2), (0, y1), (2, y0)] w else none) (fun _ => rfl)).trans (EX_if.trans (and_congr Iff.rfl (EX_call rfl)))
set_option maxRecDepth 100000 in
theorem b25_42 {d : Nat} {w : vW} {x0 x1 : Int} {Q : Int → vW → Prop} : VW d 25 42 [(2, x0), (0, x1), (9, 0), (9, 0), (9, 0), (9, 0), (9, 0), (9, 0)] [] w Q ↔ (vkd w x0 = 21) ∧ (vkd w x0 = 21) ∧ (vkd w (vct w x0 0) = 18) ∧ (vkd w (vct w x0 2) = 20) ∧ VC d 294 [(2, vct w x0 2), (0, w32 (3 + x1)), (1, vct w (vct w x0 0) 5)] w (fun _ w1 => VW d 25 59 [(2, x0), (0, x1), (9, 0), (9, 0), (9, 0), (9, 0), (9, 0), (9, 0)] [] w1 Q) :=
  (VW_b 9 (F := fun n => if vkd w x0 = 21 then if vkd w x0 = 21 then if vkd w (vct w x0 0) = 18 then if vkd w (vct w x0 2) = 20 then vclr (vrun n) d 25 59 294 3 9 [(2, x0), (0, x1), (9, 0), (9, 0), (9, 0), (9, 0), (9, 0), (9, 0)] [(1, vct w (vct w x0 0) 5), (0, w32 (3 + x1)), (2, vct w x0 2)] w else none else none else none else none) (fun _ => rfl)).trans (EX_if.trans (and_congr Iff.rfl (EX_if.trans (and_congr Iff.rfl (EX_if.trans (and_congr Iff.rfl (EX_if.trans (and_congr Iff.rfl (EX_call rfl)))))))))
set_option maxRecDepth 100000 in
theorem b25_59 {d : Nat} {w : vW} {x0 x1 : Int} {Q : Int → vW → Prop} : VW d 25 59 [(2, x0), (0, x1), (9, 0), (9, 0), (9, 0), (9, 0), (9, 0), (9, 0)] [] w Q ↔ VW d 25 11 [(2, x0), (0, w32 (x1 + 1)), (9, 0), (9, 0), (9, 0), (9, 0), (9, 0), (9, 0)] [] w Q :=
  (VW_b 2 (F := fun n => vrun n d 25 11 [(2, x0), (0, w32 (x1 + 1)), (9, 0), (9, 0), (9, 0), (9, 0), (9, 0), (9, 0)] [] w) (fun _ => rfl)).trans (Iff.rfl)
set_option maxRecDepth 100000 in
theorem b25_65 {d : Nat} {w : vW} {x0 x1 : Int} {Q : Int → vW → Prop} : VW d 25 65 [(2, x0), (0, x1), (9, 0), (9, 0), (9, 0), (9, 0), (9, 0), (9, 0)] [] w Q ↔ (vkd w x0 = 21) ∧ (vkd w (vct w x0 2) = 20) ∧ VC d 296 [(2, vct w x0 2), (0, 0)] w (fun r w1 => VW d 25 73 [(2, x0), (0, x1), (9, 0), (9, 0), (9, 0), (9, 0), (9, 0), (9, 0)] [(1, r)] w1 Q) :=
  (VW_b 4 (F := fun n => if vkd w x0 = 21 then if vkd w (vct w x0 2) = 20 then vclr (vrun n) d 25 73 296 2 1 [(2, x0), (0, x1), (9, 0), (9, 0), (9, 0), (9, 0), (9, 0), (9, 0)] [(0, 0), (2, vct w x0 2)] w else none else none) (fun _ => rfl)).trans (EX_if.trans (and_congr Iff.rfl (EX_if.trans (and_congr Iff.rfl (EX_call rfl)))))
set_option maxRecDepth 100000 in
theorem b25_73 {d : Nat} {w : vW} {x0 x1 y0 : Int} {Q : Int → vW → Prop} : VW d 25 73 [(2, x0), (0, x1), (9, 0), (9, 0), (9, 0), (9, 0), (9, 0), (9, 0)] [(1, y0)] w Q ↔ (vkd w x0 = 21) ∧ (vkd w (vct w x0 2) = 20) ∧ VC d 296 [(2, vct w x0 2), (0, 1)] w (fun r w1 => VW d 25 82 [(2, x0), (1, y0), (9, 0), (9, 0), (9, 0), (9, 0), (9, 0), (9, 0)] [(1, r)] w1 Q) :=
  (VW_b 5 (F := fun n => if vkd w x0 = 21 then if vkd w (vct w x0 2) = 20 then vclr (vrun n) d 25 82 296 2 1 [(2, x0), (1, y0), (9, 0), (9, 0), (9, 0), (9, 0), (9, 0), (9, 0)] [(0, 1), (2, vct w x0 2)] w else none else none) (fun _ => rfl)).trans (EX_if.trans (and_congr Iff.rfl (EX_if.trans (and_congr Iff.rfl (EX_call rfl)))))
set_option maxRecDepth 100000 in
theorem b25_82 {d : Nat} {w : vW} {x0 x1 y0 : Int} {Q : Int → vW → Prop} : VW d 25 82 [(2, x0), (1, x1), (9, 0), (9, 0), (9, 0), (9, 0), (9, 0), (9, 0)] [(1, y0)] w Q ↔ (vkd w x0 = 21) ∧ (vkd w (vct w x0 2) = 20) ∧ VC d 296 [(2, vct w x0 2), (0, 2)] w (fun r w1 => VW d 25 91 [(2, x0), (1, x1), (9, 0), (1, y0), (9, 0), (9, 0), (9, 0), (9, 0)] [(1, r)] w1 Q) :=
  (VW_b 5 (F := fun n => if vkd w x0 = 21 then if vkd w (vct w x0 2) = 20 then vclr (vrun n) d 25 91 296 2 1 [(2, x0), (1, x1), (9, 0), (1, y0), (9, 0), (9, 0), (9, 0), (9, 0)] [(0, 2), (2, vct w x0 2)] w else none else none) (fun _ => rfl)).trans (EX_if.trans (and_congr Iff.rfl (EX_if.trans (and_congr Iff.rfl (EX_call rfl)))))
set_option maxRecDepth 100000 in
theorem b25_91 {d : Nat} {w : vW} {x0 x1 x3 y0 : Int} {Q : Int → vW → Prop} : VW d 25 91 [(2, x0), (1, x1), (9, 0), (1, x3), (9, 0), (9, 0), (9, 0), (9, 0)] [(1, y0)] w Q ↔ (((vlc x1 x3) = 0 → VW d 25 99 [(2, x0), (1, x1), (9, 0), (1, x3), (9, 0), (1, y0), (9, 0), (9, 0)] [] w Q) ∧ (¬ ((vlc x1 x3) = 0) → VW d 25 103 [(2, x0), (1, x1), (9, 0), (1, x3), (9, 0), (1, y0), (9, 0), (9, 0)] [] w Q)) :=
  (VW_b 5 (F := fun n => (if (vlc x1 x3) = 0 then vrun n d 25 99 [(2, x0), (1, x1), (9, 0), (1, x3), (9, 0), (1, y0), (9, 0), (9, 0)] [] w else vrun n d 25 103 [(2, x0), (1, x1), (9, 0), (1, x3), (9, 0), (1, y0), (9, 0), (9, 0)] [] w)) (fun _ => rfl)).trans (EX_br.trans (and_congr (imp_congr Iff.rfl Iff.rfl) (imp_congr Iff.rfl Iff.rfl)))
set_option maxRecDepth 100000 in
theorem b25_99 {d : Nat} {w : vW} {x0 x1 x3 x5 : Int} {Q : Int → vW → Prop} : VW d 25 99 [(2, x0), (1, x1), (9, 0), (1, x3), (9, 0), (1, x5), (9, 0), (9, 0)] [] w Q ↔ VW d 25 104 [(2, x0), (1, x1), (9, 0), (1, x3), (9, 0), (1, x5), (9, 0), (9, 0)] [(0, 1)] w Q :=
  (VW_b 2 (F := fun n => vrun n d 25 104 [(2, x0), (1, x1), (9, 0), (1, x3), (9, 0), (1, x5), (9, 0), (9, 0)] [(0, 1)] w) (fun _ => rfl)).trans (Iff.rfl)
set_option maxRecDepth 100000 in
theorem b25_103 {d : Nat} {w : vW} {x0 x1 x3 x5 : Int} {Q : Int → vW → Prop} : VW d 25 103 [(2, x0), (1, x1), (9, 0), (1, x3), (9, 0), (1, x5), (9, 0), (9, 0)] [] w Q ↔ VW d 25 104 [(2, x0), (1, x1), (9, 0), (1, x3), (9, 0), (1, x5), (9, 0), (9, 0)] [(0, 2)] w Q :=
  (VW_b 1 (F := fun n => vrun n d 25 104 [(2, x0), (1, x1), (9, 0), (1, x3), (9, 0), (1, x5), (9, 0), (9, 0)] [(0, 2)] w) (fun _ => rfl)).trans (Iff.rfl)
set_option maxRecDepth 100000 in
theorem b25_104 {d : Nat} {w : vW} {x0 x1 x3 x5 y0 : Int} {Q : Int → vW → Prop} : VW d 25 104 [(2, x0), (1, x1), (9, 0), (1, x3), (9, 0), (1, x5), (9, 0), (9, 0)] [(0, y0)] w Q ↔ (((vlc x5 x1) = 0 → VW d 25 120 [(2, x0), (1, x1), (9, 0), (1, x3), (9, 0), (1, x5), (9, 0), (0, y0)] [] w Q) ∧ (¬ ((vlc x5 x1) = 0) → VW d 25 113 [(2, x0), (1, x1), (9, 0), (1, x3), (9, 0), (1, x5), (9, 0), (0, y0)] [] w Q)) :=
  (VW_b 5 (F := fun n => (if (vlc x5 x1) = 0 then vrun n d 25 120 [(2, x0), (1, x1), (9, 0), (1, x3), (9, 0), (1, x5), (9, 0), (0, y0)] [] w else vrun n d 25 113 [(2, x0), (1, x1), (9, 0), (1, x3), (9, 0), (1, x5), (9, 0), (0, y0)] [] w)) (fun _ => rfl)).trans (EX_br.trans (and_congr (imp_congr Iff.rfl Iff.rfl) (imp_congr Iff.rfl Iff.rfl)))
set_option maxRecDepth 100000 in
theorem b25_113 {d : Nat} {w : vW} {x0 x1 x3 x5 x7 : Int} {Q : Int → vW → Prop} : VW d 25 113 [(2, x0), (1, x1), (9, 0), (1, x3), (9, 0), (1, x5), (9, 0), (0, x7)] [] w Q ↔ (((vlc x5 x3) = 0 → VW d 25 120 [(2, x0), (1, x1), (9, 0), (1, x3), (9, 0), (1, x5), (9, 0), (0, x7)] [] w Q) ∧ (¬ ((vlc x5 x3) = 0) → VW d 25 125 [(2, x0), (1, x1), (9, 0), (1, x3), (9, 0), (1, x5), (9, 0), (0, x7)] [] w Q)) :=
  (VW_b 4 (F := fun n => (if (vlc x5 x3) = 0 then vrun n d 25 120 [(2, x0), (1, x1), (9, 0), (1, x3), (9, 0), (1, x5), (9, 0), (0, x7)] [] w else vrun n d 25 125 [(2, x0), (1, x1), (9, 0), (1, x3), (9, 0), (1, x5), (9, 0), (0, x7)] [] w)) (fun _ => rfl)).trans (EX_br.trans (and_congr (imp_congr Iff.rfl Iff.rfl) (imp_congr Iff.rfl Iff.rfl)))
set_option maxRecDepth 100000 in
theorem b25_120 {d : Nat} {w : vW} {x0 x1 x3 x5 x7 : Int} {Q : Int → vW → Prop} : VW d 25 120 [(2, x0), (1, x1), (9, 0), (1, x3), (9, 0), (1, x5), (9, 0), (0, x7)] [] w Q ↔ VW d 25 129 [(2, x0), (1, x1), (9, 0), (1, x3), (9, 0), (1, x5), (9, 0), (0, x7)] [(0, x7)] w Q :=
  (VW_b 2 (F := fun n => vrun n d 25 129 [(2, x0), (1, x1), (9, 0), (1, x3), (9, 0), (1, x5), (9, 0), (0, x7)] [(0, x7)] w) (fun _ => rfl)).trans (Iff.rfl)
set_option maxRecDepth 100000 in
theorem b25_125 {d : Nat} {w : vW} {x0 x1 x3 x5 x7 : Int} {Q : Int → vW → Prop} : VW d 25 125 [(2, x0), (1, x1), (9, 0), (1, x3), (9, 0), (1, x5), (9, 0), (0, x7)] [] w Q ↔ VW d 25 129 [(2, x0), (1, x1), (9, 0), (1, x3), (9, 0), (1, x5), (9, 0), (0, x7)] [(0, w32 (x7 + 1))] w Q :=
  (VW_b 3 (F := fun n => vrun n d 25 129 [(2, x0), (1, x1), (9, 0), (1, x3), (9, 0), (1, x5), (9, 0), (0, x7)] [(0, w32 (x7 + 1))] w) (fun _ => rfl)).trans (Iff.rfl)
set_option maxRecDepth 100000 in
theorem b25_129 {d : Nat} {w : vW} {x0 x1 x3 x5 x7 y0 : Int} {Q : Int → vW → Prop} : VW d 25 129 [(2, x0), (1, x1), (9, 0), (1, x3), (9, 0), (1, x5), (9, 0), (0, x7)] [(0, y0)] w Q ↔ Q y0 w :=
  (VW_b 1 (F := fun n => some (0, y0, w)) (fun _ => rfl)).trans (EX_ret0)
/-! 26: StrikeWhatCancels.meet(JJ)I -/
set_option maxRecDepth 100000 in
theorem b26_0 {d : Nat} {w : vW} {x0 x1 x3 : Int} {Q : Int → vW → Prop} : VW d 26 0 [(2, x0), (1, x1), (9, 0), (1, x3), (9, 0), (9, 0), (9, 0), (9, 0), (9, 0), (9, 0), (9, 0)] [] w Q ↔ VC d 280 [(1, x1)] w (fun r w1 => VW d 26 4 [(2, x0), (1, x1), (9, 0), (1, x3), (9, 0), (9, 0), (9, 0), (9, 0), (9, 0), (9, 0), (9, 0)] [(1, r)] w1 Q) :=
  (VW_b 2 (F := fun n => vclr (vrun n) d 26 4 280 1 1 [(2, x0), (1, x1), (9, 0), (1, x3), (9, 0), (9, 0), (9, 0), (9, 0), (9, 0), (9, 0), (9, 0)] [(1, x1)] w) (fun _ => rfl)).trans (EX_call rfl)
set_option maxRecDepth 100000 in
theorem b26_4 {d : Nat} {w : vW} {x0 x1 x3 y0 : Int} {Q : Int → vW → Prop} : VW d 26 4 [(2, x0), (1, x1), (9, 0), (1, x3), (9, 0), (9, 0), (9, 0), (9, 0), (9, 0), (9, 0), (9, 0)] [(1, y0)] w Q ↔ VC d 280 [(1, x3)] w (fun r w1 => VW d 26 10 [(2, x0), (1, x1), (9, 0), (1, x3), (9, 0), (1, y0), (9, 0), (9, 0), (9, 0), (9, 0), (9, 0)] [(1, r)] w1 Q) :=
  (VW_b 3 (F := fun n => vclr (vrun n) d 26 10 280 1 1 [(2, x0), (1, x1), (9, 0), (1, x3), (9, 0), (1, y0), (9, 0), (9, 0), (9, 0), (9, 0), (9, 0)] [(1, x3)] w) (fun _ => rfl)).trans (EX_call rfl)
set_option maxRecDepth 100000 in
theorem b26_10 {d : Nat} {w : vW} {x0 x1 x3 x5 y0 : Int} {Q : Int → vW → Prop} : VW d 26 10 [(2, x0), (1, x1), (9, 0), (1, x3), (9, 0), (1, x5), (9, 0), (9, 0), (9, 0), (9, 0), (9, 0)] [(1, y0)] w Q ↔ (((vlc x5 0) < 0 → VW d 26 26 [(2, x0), (1, x1), (9, 0), (1, x3), (9, 0), (1, x5), (9, 0), (1, y0), (9, 0), (9, 0), (9, 0)] [] w Q) ∧ (¬ ((vlc x5 0) < 0) → VW d 26 19 [(2, x0), (1, x1), (9, 0), (1, x3), (9, 0), (1, x5), (9, 0), (1, y0), (9, 0), (9, 0), (9, 0)] [] w Q)) :=
  (VW_b 5 (F := fun n => (if (vlc x5 0) < 0 then vrun n d 26 26 [(2, x0), (1, x1), (9, 0), (1, x3), (9, 0), (1, x5), (9, 0), (1, y0), (9, 0), (9, 0), (9, 0)] [] w else vrun n d 26 19 [(2, x0), (1, x1), (9, 0), (1, x3), (9, 0), (1, x5), (9, 0), (1, y0), (9, 0), (9, 0), (9, 0)] [] w)) (fun _ => rfl)).trans (EX_br.trans (and_congr (imp_congr Iff.rfl Iff.rfl) (imp_congr Iff.rfl Iff.rfl)))
set_option maxRecDepth 100000 in
theorem b26_19 {d : Nat} {w : vW} {x0 x1 x3 x5 x7 : Int} {Q : Int → vW → Prop} : VW d 26 19 [(2, x0), (1, x1), (9, 0), (1, x3), (9, 0), (1, x5), (9, 0), (1, x7), (9, 0), (9, 0), (9, 0)] [] w Q ↔ (((vlc x7 0) < 0 → VW d 26 26 [(2, x0), (1, x1), (9, 0), (1, x3), (9, 0), (1, x5), (9, 0), (1, x7), (9, 0), (9, 0), (9, 0)] [] w Q) ∧ (¬ ((vlc x7 0) < 0) → VW d 26 28 [(2, x0), (1, x1), (9, 0), (1, x3), (9, 0), (1, x5), (9, 0), (1, x7), (9, 0), (9, 0), (9, 0)] [] w Q)) :=
  (VW_b 4 (F := fun n => (if (vlc x7 0) < 0 then vrun n d 26 26 [(2, x0), (1, x1), (9, 0), (1, x3), (9, 0), (1, x5), (9, 0), (1, x7), (9, 0), (9, 0), (9, 0)] [] w else vrun n d 26 28 [(2, x0), (1, x1), (9, 0), (1, x3), (9, 0), (1, x5), (9, 0), (1, x7), (9, 0), (9, 0), (9, 0)] [] w)) (fun _ => rfl)).trans (EX_br.trans (and_congr (imp_congr Iff.rfl Iff.rfl) (imp_congr Iff.rfl Iff.rfl)))
set_option maxRecDepth 100000 in
theorem b26_26 {d : Nat} {w : vW} {x0 x1 x3 x5 x7 : Int} {Q : Int → vW → Prop} : VW d 26 26 [(2, x0), (1, x1), (9, 0), (1, x3), (9, 0), (1, x5), (9, 0), (1, x7), (9, 0), (9, 0), (9, 0)] [] w Q ↔ Q (-1) w :=
  (VW_b 2 (F := fun n => some (0, (-1), w)) (fun _ => rfl)).trans (EX_ret0)
set_option maxRecDepth 100000 in
theorem b26_28 {d : Nat} {w : vW} {x0 x1 x3 x5 x7 : Int} {Q : Int → vW → Prop} : VW d 26 28 [(2, x0), (1, x1), (9, 0), (1, x3), (9, 0), (1, x5), (9, 0), (1, x7), (9, 0), (9, 0), (9, 0)] [] w Q ↔ (vkd w x0 = 21) ∧ VC d 27 [(2, x0), (1, x5), (1, x7), (0, (-1))] w (fun r w1 => VW d 26 37 [(2, x0), (1, x1), (9, 0), (1, x3), (9, 0), (1, x5), (9, 0), (1, x7), (9, 0), (9, 0), (9, 0)] [(1, r)] w1 Q) :=
  (VW_b 5 (F := fun n => if vkd w x0 = 21 then vclr (vrun n) d 26 37 27 4 1 [(2, x0), (1, x1), (9, 0), (1, x3), (9, 0), (1, x5), (9, 0), (1, x7), (9, 0), (9, 0), (9, 0)] [(0, (-1)), (1, x7), (1, x5), (2, x0)] w else none) (fun _ => rfl)).trans (EX_if.trans (and_congr Iff.rfl (EX_call rfl)))
set_option maxRecDepth 100000 in
theorem b26_37 {d : Nat} {w : vW} {x0 x1 x3 x5 x7 y0 : Int} {Q : Int → vW → Prop} : VW d 26 37 [(2, x0), (1, x1), (9, 0), (1, x3), (9, 0), (1, x5), (9, 0), (1, x7), (9, 0), (9, 0), (9, 0)] [(1, y0)] w Q ↔ (((vlc y0 (-3)) = 0 → VW d 26 48 [(2, x0), (1, x1), (9, 0), (1, x3), (9, 0), (1, x5), (9, 0), (1, x7), (9, 0), (1, y0), (9, 0)] [] w Q) ∧ (¬ ((vlc y0 (-3)) = 0) → VW d 26 51 [(2, x0), (1, x1), (9, 0), (1, x3), (9, 0), (1, x5), (9, 0), (1, x7), (9, 0), (1, y0), (9, 0)] [] w Q)) :=
  (VW_b 5 (F := fun n => (if (vlc y0 (-3)) = 0 then vrun n d 26 48 [(2, x0), (1, x1), (9, 0), (1, x3), (9, 0), (1, x5), (9, 0), (1, x7), (9, 0), (1, y0), (9, 0)] [] w else vrun n d 26 51 [(2, x0), (1, x1), (9, 0), (1, x3), (9, 0), (1, x5), (9, 0), (1, x7), (9, 0), (1, y0), (9, 0)] [] w)) (fun _ => rfl)).trans (EX_br.trans (and_congr (imp_congr Iff.rfl Iff.rfl) (imp_congr Iff.rfl Iff.rfl)))
set_option maxRecDepth 100000 in
theorem b26_48 {d : Nat} {w : vW} {x0 x1 x3 x5 x7 x9 : Int} {Q : Int → vW → Prop} : VW d 26 48 [(2, x0), (1, x1), (9, 0), (1, x3), (9, 0), (1, x5), (9, 0), (1, x7), (9, 0), (1, x9), (9, 0)] [] w Q ↔ Q (-3) w :=
  (VW_b 2 (F := fun n => some (0, (-3), w)) (fun _ => rfl)).trans (EX_ret0)
set_option maxRecDepth 100000 in
theorem b26_51 {d : Nat} {w : vW} {x0 x1 x3 x5 x7 x9 : Int} {Q : Int → vW → Prop} : VW d 26 51 [(2, x0), (1, x1), (9, 0), (1, x3), (9, 0), (1, x5), (9, 0), (1, x7), (9, 0), (1, x9), (9, 0)] [] w Q ↔ (vkd w x0 = 21) ∧ (vkd w (vct w x0 2) = 20) ∧ VC d 291 [(2, vct w x0 2)] w (fun _ w1 => VW d 26 58 [(2, x0), (1, x1), (9, 0), (1, x3), (9, 0), (1, x5), (9, 0), (1, x7), (9, 0), (1, x9), (9, 0)] [] w1 Q) :=
  (VW_b 3 (F := fun n => if vkd w x0 = 21 then if vkd w (vct w x0 2) = 20 then vclr (vrun n) d 26 58 291 1 9 [(2, x0), (1, x1), (9, 0), (1, x3), (9, 0), (1, x5), (9, 0), (1, x7), (9, 0), (1, x9), (9, 0)] [(2, vct w x0 2)] w else none else none) (fun _ => rfl)).trans (EX_if.trans (and_congr Iff.rfl (EX_if.trans (and_congr Iff.rfl (EX_call rfl)))))
set_option maxRecDepth 100000 in
theorem b26_58 {d : Nat} {w : vW} {x0 x1 x3 x5 x7 x9 : Int} {Q : Int → vW → Prop} : VW d 26 58 [(2, x0), (1, x1), (9, 0), (1, x3), (9, 0), (1, x5), (9, 0), (1, x7), (9, 0), (1, x9), (9, 0)] [] w Q ↔ (((vlc x9 0) < 0 → VW d 26 65 [(2, x0), (1, x1), (9, 0), (1, x3), (9, 0), (1, x5), (9, 0), (1, x7), (9, 0), (1, x9), (9, 0)] [] w Q) ∧ (¬ ((vlc x9 0) < 0) → VW d 26 67 [(2, x0), (1, x1), (9, 0), (1, x3), (9, 0), (1, x5), (9, 0), (1, x7), (9, 0), (1, x9), (9, 0)] [] w Q)) :=
  (VW_b 4 (F := fun n => (if (vlc x9 0) < 0 then vrun n d 26 65 [(2, x0), (1, x1), (9, 0), (1, x3), (9, 0), (1, x5), (9, 0), (1, x7), (9, 0), (1, x9), (9, 0)] [] w else vrun n d 26 67 [(2, x0), (1, x1), (9, 0), (1, x3), (9, 0), (1, x5), (9, 0), (1, x7), (9, 0), (1, x9), (9, 0)] [] w)) (fun _ => rfl)).trans (EX_br.trans (and_congr (imp_congr Iff.rfl Iff.rfl) (imp_congr Iff.rfl Iff.rfl)))
set_option maxRecDepth 100000 in
theorem b26_65 {d : Nat} {w : vW} {x0 x1 x3 x5 x7 x9 : Int} {Q : Int → vW → Prop} : VW d 26 65 [(2, x0), (1, x1), (9, 0), (1, x3), (9, 0), (1, x5), (9, 0), (1, x7), (9, 0), (1, x9), (9, 0)] [] w Q ↔ Q 0 w :=
  (VW_b 2 (F := fun n => some (0, 0, w)) (fun _ => rfl)).trans (EX_ret0)
set_option maxRecDepth 100000 in
theorem b26_67 {d : Nat} {w : vW} {x0 x1 x3 x5 x7 x9 : Int} {Q : Int → vW → Prop} : VW d 26 67 [(2, x0), (1, x1), (9, 0), (1, x3), (9, 0), (1, x5), (9, 0), (1, x7), (9, 0), (1, x9), (9, 0)] [] w Q ↔ (vkd w x0 = 21) ∧ VC d 281 [(1, x9)] w (fun r w1 => VW d 26 76 [(2, x0), (1, x1), (9, 0), (1, x3), (9, 0), (1, x5), (9, 0), (1, x7), (9, 0), (1, x9), (9, 0)] [(1, r), (2, vct w x0 2)] w1 Q) :=
  (VW_b 4 (F := fun n => if vkd w x0 = 21 then vclr (vrun n) d 26 76 281 1 1 [(2, x0), (1, x1), (9, 0), (1, x3), (9, 0), (1, x5), (9, 0), (1, x7), (9, 0), (1, x9), (9, 0)] [(1, x9), (2, vct w x0 2)] w else none) (fun _ => rfl)).trans (EX_if.trans (and_congr Iff.rfl (EX_call rfl)))
set_option maxRecDepth 100000 in
theorem b26_76 {d : Nat} {w : vW} {x0 x1 x3 x5 x7 x9 y0 y1 : Int} {Q : Int → vW → Prop} : VW d 26 76 [(2, x0), (1, x1), (9, 0), (1, x3), (9, 0), (1, x5), (9, 0), (1, x7), (9, 0), (1, x9), (9, 0)] [(1, y1), (2, y0)] w Q ↔ (vkd w y0 = 20) ∧ VC d 293 [(2, y0), (1, y1)] w (fun _ w1 => VW d 26 79 [(2, x0), (1, x1), (9, 0), (1, x3), (9, 0), (1, x5), (9, 0), (1, x7), (9, 0), (1, x9), (9, 0)] [] w1 Q) :=
  (VW_b 1 (F := fun n => if vkd w y0 = 20 then vclr (vrun n) d 26 79 293 2 9 [(2, x0), (1, x1), (9, 0), (1, x3), (9, 0), (1, x5), (9, 0), (1, x7), (9, 0), (1, x9), (9, 0)] [(1, y1), (2, y0)] w else none) (fun _ => rfl)).trans (EX_if.trans (and_congr Iff.rfl (EX_call rfl)))
set_option maxRecDepth 100000 in
theorem b26_79 {d : Nat} {w : vW} {x0 x1 x3 x5 x7 x9 : Int} {Q : Int → vW → Prop} : VW d 26 79 [(2, x0), (1, x1), (9, 0), (1, x3), (9, 0), (1, x5), (9, 0), (1, x7), (9, 0), (1, x9), (9, 0)] [] w Q ↔ Q 1 w :=
  (VW_b 2 (F := fun n => some (0, 1, w)) (fun _ => rfl)).trans (EX_ret0)
/-! 27: StrikeWhatCancels.bothLeadTo(JJI)J -/
set_option maxRecDepth 100000 in
theorem b27_0 {d : Nat} {w : vW} {x0 x1 x3 x5 : Int} {Q : Int → vW → Prop} : VW d 27 0 [(2, x0), (1, x1), (9, 0), (1, x3), (9, 0), (0, x5), (9, 0), (9, 0)] [] w Q ↔ (vkd w x0 = 21) ∧ VC d 49 [(2, x0)] w (fun r w1 => VW d 27 4 [(2, x0), (1, x1), (9, 0), (1, x3), (9, 0), (0, x5), (9, 0), (9, 0)] [(2, r)] w1 Q) :=
  (VW_b 2 (F := fun n => if vkd w x0 = 21 then vclr (vrun n) d 27 4 49 1 2 [(2, x0), (1, x1), (9, 0), (1, x3), (9, 0), (0, x5), (9, 0), (9, 0)] [(2, x0)] w else none) (fun _ => rfl)).trans (EX_if.trans (and_congr Iff.rfl (EX_call rfl)))
set_option maxRecDepth 100000 in
theorem b27_4 {d : Nat} {w : vW} {x0 x1 x3 x5 y0 : Int} {Q : Int → vW → Prop} : VW d 27 4 [(2, x0), (1, x1), (9, 0), (1, x3), (9, 0), (0, x5), (9, 0), (9, 0)] [(2, y0)] w Q ↔ (vkd w x0 = 21) ∧ VC d 50 [(2, x0)] w (fun r w1 => VW d 27 10 [(2, x0), (1, x1), (9, 0), (1, x3), (9, 0), (0, x5), (2, y0), (9, 0)] [(2, r)] w1 Q) :=
  (VW_b 3 (F := fun n => if vkd w x0 = 21 then vclr (vrun n) d 27 10 50 1 2 [(2, x0), (1, x1), (9, 0), (1, x3), (9, 0), (0, x5), (2, y0), (9, 0)] [(2, x0)] w else none) (fun _ => rfl)).trans (EX_if.trans (and_congr Iff.rfl (EX_call rfl)))
set_option maxRecDepth 100000 in
theorem b27_10 {d : Nat} {w : vW} {x0 x1 x3 x5 x6 y0 : Int} {Q : Int → vW → Prop} : VW d 27 10 [(2, x0), (1, x1), (9, 0), (1, x3), (9, 0), (0, x5), (2, x6), (9, 0)] [(2, y0)] w Q ↔ (vkd w x0 = 21) ∧ (vkd w x6 = 15) ∧ VC d 201 [(2, x6), (2, vct w x0 0), (1, x1), (0, x5)] w (fun r w1 => VW d 27 24 [(2, x0), (1, x1), (9, 0), (1, x3), (9, 0), (0, x5), (2, x6), (2, y0)] [(0, r)] w1 Q) :=
  (VW_b 7 (F := fun n => if vkd w x0 = 21 then if vkd w x6 = 15 then vclr (vrun n) d 27 24 201 4 0 [(2, x0), (1, x1), (9, 0), (1, x3), (9, 0), (0, x5), (2, x6), (2, y0)] [(0, x5), (1, x1), (2, vct w x0 0), (2, x6)] w else none else none) (fun _ => rfl)).trans (EX_if.trans (and_congr Iff.rfl (EX_if.trans (and_congr Iff.rfl (EX_call rfl)))))
set_option maxRecDepth 100000 in
theorem b27_24 {d : Nat} {w : vW} {x0 x1 x3 x5 x6 x7 y0 : Int} {Q : Int → vW → Prop} : VW d 27 24 [(2, x0), (1, x1), (9, 0), (1, x3), (9, 0), (0, x5), (2, x6), (2, x7)] [(0, y0)] w Q ↔ ((y0 = 0 → VW d 27 42 [(2, x0), (1, x1), (9, 0), (1, x3), (9, 0), (0, x5), (2, x6), (2, x7)] [] w Q) ∧ (¬ (y0 = 0) → VW d 27 27 [(2, x0), (1, x1), (9, 0), (1, x3), (9, 0), (0, x5), (2, x6), (2, x7)] [] w Q)) :=
  (VW_b 1 (F := fun n => (if y0 = 0 then vrun n d 27 42 [(2, x0), (1, x1), (9, 0), (1, x3), (9, 0), (0, x5), (2, x6), (2, x7)] [] w else vrun n d 27 27 [(2, x0), (1, x1), (9, 0), (1, x3), (9, 0), (0, x5), (2, x6), (2, x7)] [] w)) (fun _ => rfl)).trans (EX_br.trans (and_congr (imp_congr Iff.rfl Iff.rfl) (imp_congr Iff.rfl Iff.rfl)))
set_option maxRecDepth 100000 in
theorem b27_27 {d : Nat} {w : vW} {x0 x1 x3 x5 x6 x7 : Int} {Q : Int → vW → Prop} : VW d 27 27 [(2, x0), (1, x1), (9, 0), (1, x3), (9, 0), (0, x5), (2, x6), (2, x7)] [] w Q ↔ (vkd w x0 = 21) ∧ (vkd w x7 = 15) ∧ VC d 201 [(2, x7), (2, vct w x0 0), (1, x3), (0, x5)] w (fun r w1 => VW d 27 39 [(2, x0), (1, x1), (9, 0), (1, x3), (9, 0), (0, x5), (2, x6), (2, x7)] [(0, r)] w1 Q) :=
  (VW_b 6 (F := fun n => if vkd w x0 = 21 then if vkd w x7 = 15 then vclr (vrun n) d 27 39 201 4 0 [(2, x0), (1, x1), (9, 0), (1, x3), (9, 0), (0, x5), (2, x6), (2, x7)] [(0, x5), (1, x3), (2, vct w x0 0), (2, x7)] w else none else none) (fun _ => rfl)).trans (EX_if.trans (and_congr Iff.rfl (EX_if.trans (and_congr Iff.rfl (EX_call rfl)))))
set_option maxRecDepth 100000 in
theorem b27_39 {d : Nat} {w : vW} {x0 x1 x3 x5 x6 x7 y0 : Int} {Q : Int → vW → Prop} : VW d 27 39 [(2, x0), (1, x1), (9, 0), (1, x3), (9, 0), (0, x5), (2, x6), (2, x7)] [(0, y0)] w Q ↔ ((y0 = 0 → VW d 27 42 [(2, x0), (1, x1), (9, 0), (1, x3), (9, 0), (0, x5), (2, x6), (2, x7)] [] w Q) ∧ (¬ (y0 = 0) → VW d 27 46 [(2, x0), (1, x1), (9, 0), (1, x3), (9, 0), (0, x5), (2, x6), (2, x7)] [] w Q)) :=
  (VW_b 1 (F := fun n => (if y0 = 0 then vrun n d 27 42 [(2, x0), (1, x1), (9, 0), (1, x3), (9, 0), (0, x5), (2, x6), (2, x7)] [] w else vrun n d 27 46 [(2, x0), (1, x1), (9, 0), (1, x3), (9, 0), (0, x5), (2, x6), (2, x7)] [] w)) (fun _ => rfl)).trans (EX_br.trans (and_congr (imp_congr Iff.rfl Iff.rfl) (imp_congr Iff.rfl Iff.rfl)))
set_option maxRecDepth 100000 in
theorem b27_42 {d : Nat} {w : vW} {x0 x1 x3 x5 x6 x7 : Int} {Q : Int → vW → Prop} : VW d 27 42 [(2, x0), (1, x1), (9, 0), (1, x3), (9, 0), (0, x5), (2, x6), (2, x7)] [] w Q ↔ Q (-3) w :=
  (VW_b 2 (F := fun n => some (0, (-3), w)) (fun _ => rfl)).trans (EX_ret0)
set_option maxRecDepth 100000 in
theorem b27_46 {d : Nat} {w : vW} {x0 x1 x3 x5 x6 x7 : Int} {Q : Int → vW → Prop} : VW d 27 46 [(2, x0), (1, x1), (9, 0), (1, x3), (9, 0), (0, x5), (2, x6), (2, x7)] [] w Q ↔ (vkd w x6 = 15) ∧ VC d 218 [(2, x6), (2, x7)] w (fun r w1 => VW d 27 53 [(2, x0), (1, x1), (9, 0), (1, x3), (9, 0), (0, x5), (2, x6), (2, x7)] [(1, r)] w1 Q) :=
  (VW_b 3 (F := fun n => if vkd w x6 = 15 then vclr (vrun n) d 27 53 218 2 1 [(2, x0), (1, x1), (9, 0), (1, x3), (9, 0), (0, x5), (2, x6), (2, x7)] [(2, x7), (2, x6)] w else none) (fun _ => rfl)).trans (EX_if.trans (and_congr Iff.rfl (EX_call rfl)))
set_option maxRecDepth 100000 in
theorem b27_53 {d : Nat} {w : vW} {x0 x1 x3 x5 x6 x7 y0 : Int} {Q : Int → vW → Prop} : VW d 27 53 [(2, x0), (1, x1), (9, 0), (1, x3), (9, 0), (0, x5), (2, x6), (2, x7)] [(1, y0)] w Q ↔ Q y0 w :=
  (VW_b 1 (F := fun n => some (0, y0, w)) (fun _ => rfl)).trans (EX_ret0)
/-! 28: StrikeWhatCancels.overlaps()I -/
set_option maxRecDepth 100000 in
theorem b28_0 {d : Nat} {w : vW} {x0 : Int} {Q : Int → vW → Prop} : VW d 28 0 [(2, x0), (9, 0), (9, 0), (9, 0), (9, 0), (9, 0), (9, 0)] [] w Q ↔ (vkd w x0 = 21) ∧ VC d 51 [(2, x0)] w (fun r w1 => VW d 28 4 [(2, x0), (9, 0), (9, 0), (9, 0), (9, 0), (9, 0), (9, 0)] [(2, r)] w1 Q) :=
  (VW_b 2 (F := fun n => if vkd w x0 = 21 then vclr (vrun n) d 28 4 51 1 2 [(2, x0), (9, 0), (9, 0), (9, 0), (9, 0), (9, 0), (9, 0)] [(2, x0)] w else none) (fun _ => rfl)).trans (EX_if.trans (and_congr Iff.rfl (EX_call rfl)))
set_option maxRecDepth 100000 in
theorem b28_4 {d : Nat} {w : vW} {x0 y0 : Int} {Q : Int → vW → Prop} : VW d 28 4 [(2, x0), (9, 0), (9, 0), (9, 0), (9, 0), (9, 0), (9, 0)] [(2, y0)] w Q ↔ (vkd w x0 = 21) ∧ (vkd w y0 = 16) ∧ VC d 226 [(2, y0), (2, vct w x0 0)] w (fun _ w1 => VW d 28 13 [(2, x0), (2, y0), (9, 0), (9, 0), (9, 0), (9, 0), (9, 0)] [] w1 Q) :=
  (VW_b 5 (F := fun n => if vkd w x0 = 21 then if vkd w y0 = 16 then vclr (vrun n) d 28 13 226 2 9 [(2, x0), (2, y0), (9, 0), (9, 0), (9, 0), (9, 0), (9, 0)] [(2, vct w x0 0), (2, y0)] w else none else none) (fun _ => rfl)).trans (EX_if.trans (and_congr Iff.rfl (EX_if.trans (and_congr Iff.rfl (EX_call rfl)))))
set_option maxRecDepth 100000 in
theorem b28_13 {d : Nat} {w : vW} {x0 x1 : Int} {Q : Int → vW → Prop} : VW d 28 13 [(2, x0), (2, x1), (9, 0), (9, 0), (9, 0), (9, 0), (9, 0)] [] w Q ↔ VW d 28 20 [(2, x0), (2, x1), (0, 0), (0, 0), (0, (-1)), (9, 0), (9, 0)] [] w Q :=
  (VW_b 6 (F := fun n => vrun n d 28 20 [(2, x0), (2, x1), (0, 0), (0, 0), (0, (-1)), (9, 0), (9, 0)] [] w) (fun _ => rfl)).trans (Iff.rfl)
set_option maxRecDepth 100000 in
theorem b28_20 {d : Nat} {w : vW} {x0 x1 x2 x3 x4 : Int} {v5 v6 : vV} {Q : Int → vW → Prop} : VW d 28 20 [(2, x0), (2, x1), (0, x2), (0, x3), (0, x4), v5, v6] [] w Q ↔ ((x2 < 9216 → VW d 28 27 [(2, x0), (2, x1), (0, x2), (0, x3), (0, x4), v5, v6] [] w Q) ∧ (¬ (x2 < 9216) → VW d 28 89 [(2, x0), (2, x1), (0, x2), (0, x3), (0, x4), v5, v6] [] w Q)) :=
  (VW_b 3 (F := fun n => (if x2 < 9216 then vrun n d 28 27 [(2, x0), (2, x1), (0, x2), (0, x3), (0, x4), v5, v6] [] w else vrun n d 28 89 [(2, x0), (2, x1), (0, x2), (0, x3), (0, x4), v5, v6] [] w)) (fun _ => rfl)).trans (EX_br.trans (and_congr (imp_congr Iff.rfl Iff.rfl) (imp_congr Iff.rfl Iff.rfl)))
set_option maxRecDepth 100000 in
theorem b28_27 {d : Nat} {w : vW} {x0 x1 x2 x3 x4 : Int} {v5 v6 : vV} {Q : Int → vW → Prop} : VW d 28 27 [(2, x0), (2, x1), (0, x2), (0, x3), (0, x4), v5, v6] [] w Q ↔ (vkd w x1 = 16) ∧ VC d 227 [(2, x1)] w (fun r w1 => VW d 28 31 [(2, x0), (2, x1), (0, x2), (0, x3), (0, x4), v5, v6] [(0, r)] w1 Q) :=
  (VW_b 2 (F := fun n => if vkd w x1 = 16 then vclr (vrun n) d 28 31 227 1 0 [(2, x0), (2, x1), (0, x2), (0, x3), (0, x4), v5, v6] [(2, x1)] w else none) (fun _ => rfl)).trans (EX_if.trans (and_congr Iff.rfl (EX_call rfl)))
set_option maxRecDepth 100000 in
theorem b28_31 {d : Nat} {w : vW} {x0 x1 x2 x3 x4 y0 : Int} {v5 v6 : vV} {Q : Int → vW → Prop} : VW d 28 31 [(2, x0), (2, x1), (0, x2), (0, x3), (0, x4), v5, v6] [(0, y0)] w Q ↔ ((y0 = 0 → VW d 28 89 [(2, x0), (2, x1), (0, x2), (0, x3), (0, x4), v5, v6] [] w Q) ∧ (¬ (y0 = 0) → VW d 28 34 [(2, x0), (2, x1), (0, x2), (0, x3), (0, x4), v5, v6] [] w Q)) :=
  (VW_b 1 (F := fun n => (if y0 = 0 then vrun n d 28 89 [(2, x0), (2, x1), (0, x2), (0, x3), (0, x4), v5, v6] [] w else vrun n d 28 34 [(2, x0), (2, x1), (0, x2), (0, x3), (0, x4), v5, v6] [] w)) (fun _ => rfl)).trans (EX_br.trans (and_congr (imp_congr Iff.rfl Iff.rfl) (imp_congr Iff.rfl Iff.rfl)))
set_option maxRecDepth 100000 in
theorem b28_34 {d : Nat} {w : vW} {x0 x1 x2 x3 x4 : Int} {v5 v6 : vV} {Q : Int → vW → Prop} : VW d 28 34 [(2, x0), (2, x1), (0, x2), (0, x3), (0, x4), v5, v6] [] w Q ↔ (vkd w x1 = 16) ∧ (vkd w x1 = 16) ∧ (vkd w x0 = 21) ∧ VC d 27 [(2, x0), (1, vct w x1 6), (1, vct w x1 7), (0, (-1))] w (fun r w1 => VW d 28 47 [(2, x0), (2, x1), (0, x2), (0, x3), (0, x4), v5, v6] [(1, r)] w1 Q) :=
  (VW_b 7 (F := fun n => if vkd w x1 = 16 then if vkd w x1 = 16 then if vkd w x0 = 21 then vclr (vrun n) d 28 47 27 4 1 [(2, x0), (2, x1), (0, x2), (0, x3), (0, x4), v5, v6] [(0, (-1)), (1, vct w x1 7), (1, vct w x1 6), (2, x0)] w else none else none else none) (fun _ => rfl)).trans (EX_if.trans (and_congr Iff.rfl (EX_if.trans (and_congr Iff.rfl (EX_if.trans (and_congr Iff.rfl (EX_call rfl)))))))
set_option maxRecDepth 100000 in
theorem b28_47 {d : Nat} {w : vW} {x0 x1 x2 x3 x4 y0 : Int} {v5 v6 : vV} {Q : Int → vW → Prop} : VW d 28 47 [(2, x0), (2, x1), (0, x2), (0, x3), (0, x4), v5, v6] [(1, y0)] w Q ↔ (((vlc y0 (-3)) = 0 → VW d 28 58 [(2, x0), (2, x1), (0, x2), (0, x3), (0, x4), (1, y0), (9, 0)] [] w Q) ∧ (¬ ((vlc y0 (-3)) = 0) → VW d 28 61 [(2, x0), (2, x1), (0, x2), (0, x3), (0, x4), (1, y0), (9, 0)] [] w Q)) :=
  (VW_b 5 (F := fun n => (if (vlc y0 (-3)) = 0 then vrun n d 28 58 [(2, x0), (2, x1), (0, x2), (0, x3), (0, x4), (1, y0), (9, 0)] [] w else vrun n d 28 61 [(2, x0), (2, x1), (0, x2), (0, x3), (0, x4), (1, y0), (9, 0)] [] w)) (fun _ => rfl)).trans (EX_br.trans (and_congr (imp_congr Iff.rfl Iff.rfl) (imp_congr Iff.rfl Iff.rfl)))
set_option maxRecDepth 100000 in
theorem b28_58 {d : Nat} {w : vW} {x0 x1 x2 x3 x4 x5 : Int} {Q : Int → vW → Prop} : VW d 28 58 [(2, x0), (2, x1), (0, x2), (0, x3), (0, x4), (1, x5), (9, 0)] [] w Q ↔ Q (-3) w :=
  (VW_b 2 (F := fun n => some (0, (-3), w)) (fun _ => rfl)).trans (EX_ret0)
set_option maxRecDepth 100000 in
theorem b28_61 {d : Nat} {w : vW} {x0 x1 x2 x3 x4 x5 : Int} {Q : Int → vW → Prop} : VW d 28 61 [(2, x0), (2, x1), (0, x2), (0, x3), (0, x4), (1, x5), (9, 0)] [] w Q ↔ (((vlc x5 0) < 0 → VW d 28 68 [(2, x0), (2, x1), (0, x2), (0, x3), (0, x4), (1, x5), (9, 0)] [] w Q) ∧ (¬ ((vlc x5 0) < 0) → VW d 28 83 [(2, x0), (2, x1), (0, x2), (0, x3), (0, x4), (1, x5), (9, 0)] [] w Q)) :=
  (VW_b 4 (F := fun n => (if (vlc x5 0) < 0 then vrun n d 28 68 [(2, x0), (2, x1), (0, x2), (0, x3), (0, x4), (1, x5), (9, 0)] [] w else vrun n d 28 83 [(2, x0), (2, x1), (0, x2), (0, x3), (0, x4), (1, x5), (9, 0)] [] w)) (fun _ => rfl)).trans (EX_br.trans (and_congr (imp_congr Iff.rfl Iff.rfl) (imp_congr Iff.rfl Iff.rfl)))
set_option maxRecDepth 100000 in
theorem b28_68 {d : Nat} {w : vW} {x0 x1 x2 x3 x4 x5 : Int} {Q : Int → vW → Prop} : VW d 28 68 [(2, x0), (2, x1), (0, x2), (0, x3), (0, x4), (1, x5), (9, 0)] [] w Q ↔ ((x3 = 0 → VW d 28 72 [(2, x0), (2, x1), (0, x2), (0, x3), (0, x4), (1, x5), (9, 0)] [] w Q) ∧ (¬ (x3 = 0) → VW d 28 76 [(2, x0), (2, x1), (0, x2), (0, x3), (0, x4), (1, x5), (9, 0)] [] w Q)) :=
  (VW_b 2 (F := fun n => (if x3 = 0 then vrun n d 28 72 [(2, x0), (2, x1), (0, x2), (0, x3), (0, x4), (1, x5), (9, 0)] [] w else vrun n d 28 76 [(2, x0), (2, x1), (0, x2), (0, x3), (0, x4), (1, x5), (9, 0)] [] w)) (fun _ => rfl)).trans (EX_br.trans (and_congr (imp_congr Iff.rfl Iff.rfl) (imp_congr Iff.rfl Iff.rfl)))
set_option maxRecDepth 100000 in
theorem b28_72 {d : Nat} {w : vW} {x0 x1 x2 x3 x4 x5 : Int} {Q : Int → vW → Prop} : VW d 28 72 [(2, x0), (2, x1), (0, x2), (0, x3), (0, x4), (1, x5), (9, 0)] [] w Q ↔ VW d 28 78 [(2, x0), (2, x1), (0, x2), (0, x3), (0, x4), (1, x5), (9, 0)] [(0, x2)] w Q :=
  (VW_b 2 (F := fun n => vrun n d 28 78 [(2, x0), (2, x1), (0, x2), (0, x3), (0, x4), (1, x5), (9, 0)] [(0, x2)] w) (fun _ => rfl)).trans (Iff.rfl)
set_option maxRecDepth 100000 in
theorem b28_76 {d : Nat} {w : vW} {x0 x1 x2 x3 x4 x5 : Int} {Q : Int → vW → Prop} : VW d 28 76 [(2, x0), (2, x1), (0, x2), (0, x3), (0, x4), (1, x5), (9, 0)] [] w Q ↔ VW d 28 78 [(2, x0), (2, x1), (0, x2), (0, x3), (0, x4), (1, x5), (9, 0)] [(0, x4)] w Q :=
  (VW_b 1 (F := fun n => vrun n d 28 78 [(2, x0), (2, x1), (0, x2), (0, x3), (0, x4), (1, x5), (9, 0)] [(0, x4)] w) (fun _ => rfl)).trans (Iff.rfl)
set_option maxRecDepth 100000 in
theorem b28_78 {d : Nat} {w : vW} {x0 x1 x2 x3 x4 x5 y0 : Int} {Q : Int → vW → Prop} : VW d 28 78 [(2, x0), (2, x1), (0, x2), (0, x3), (0, x4), (1, x5), (9, 0)] [(0, y0)] w Q ↔ VW d 28 83 [(2, x0), (2, x1), (0, x2), (0, w32 (x3 + 1)), (0, y0), (1, x5), (9, 0)] [] w Q :=
  (VW_b 2 (F := fun n => vrun n d 28 83 [(2, x0), (2, x1), (0, x2), (0, w32 (x3 + 1)), (0, y0), (1, x5), (9, 0)] [] w) (fun _ => rfl)).trans (Iff.rfl)
set_option maxRecDepth 100000 in
theorem b28_83 {d : Nat} {w : vW} {x0 x1 x2 x3 x4 x5 : Int} {Q : Int → vW → Prop} : VW d 28 83 [(2, x0), (2, x1), (0, x2), (0, x3), (0, x4), (1, x5), (9, 0)] [] w Q ↔ VW d 28 20 [(2, x0), (2, x1), (0, w32 (x2 + 1)), (0, x3), (0, x4), (1, x5), (9, 0)] [] w Q :=
  (VW_b 2 (F := fun n => vrun n d 28 20 [(2, x0), (2, x1), (0, w32 (x2 + 1)), (0, x3), (0, x4), (1, x5), (9, 0)] [] w) (fun _ => rfl)).trans (Iff.rfl)
set_option maxRecDepth 100000 in
theorem b28_89 {d : Nat} {w : vW} {x0 x1 x2 x3 x4 : Int} {v5 v6 : vV} {Q : Int → vW → Prop} : VW d 28 89 [(2, x0), (2, x1), (0, x2), (0, x3), (0, x4), v5, v6] [] w Q ↔ (vkd w x0 = 21) ∧ (vkd w (vct w x0 2) = 20) ∧ VC d 291 [(2, vct w x0 2)] w (fun _ w1 => VW d 28 96 [(2, x0), (2, x1), (0, x2), (0, x3), (0, x4), v5, v6] [] w1 Q) :=
  (VW_b 3 (F := fun n => if vkd w x0 = 21 then if vkd w (vct w x0 2) = 20 then vclr (vrun n) d 28 96 291 1 9 [(2, x0), (2, x1), (0, x2), (0, x3), (0, x4), v5, v6] [(2, vct w x0 2)] w else none else none) (fun _ => rfl)).trans (EX_if.trans (and_congr Iff.rfl (EX_if.trans (and_congr Iff.rfl (EX_call rfl)))))
set_option maxRecDepth 100000 in
theorem b28_96 {d : Nat} {w : vW} {x0 x1 x2 x3 x4 : Int} {v5 v6 : vV} {Q : Int → vW → Prop} : VW d 28 96 [(2, x0), (2, x1), (0, x2), (0, x3), (0, x4), v5, v6] [] w Q ↔ (vkd w x0 = 21) ∧ (vkd w (vct w x0 2) = 20) ∧ VC d 293 [(2, vct w x0 2), (1, x3)] w (fun _ w1 => VW d 28 105 [(2, x0), (2, x1), (0, x2), (0, x3), (0, x4), v5, v6] [] w1 Q) :=
  (VW_b 5 (F := fun n => if vkd w x0 = 21 then if vkd w (vct w x0 2) = 20 then vclr (vrun n) d 28 105 293 2 9 [(2, x0), (2, x1), (0, x2), (0, x3), (0, x4), v5, v6] [(1, x3), (2, vct w x0 2)] w else none else none) (fun _ => rfl)).trans (EX_if.trans (and_congr Iff.rfl (EX_if.trans (and_congr Iff.rfl (EX_call rfl)))))
set_option maxRecDepth 100000 in
theorem b28_105 {d : Nat} {w : vW} {x0 x1 x2 x3 x4 : Int} {v5 v6 : vV} {Q : Int → vW → Prop} : VW d 28 105 [(2, x0), (2, x1), (0, x2), (0, x3), (0, x4), v5, v6] [] w Q ↔ (vkd w x0 = 21) ∧ (vkd w (vct w x0 2) = 20) ∧ VC d 293 [(2, vct w x0 2), (1, x4)] w (fun _ w1 => VW d 28 115 [(2, x0), (2, x1), (0, x2), (0, x3), (0, x4), v5, v6] [] w1 Q) :=
  (VW_b 5 (F := fun n => if vkd w x0 = 21 then if vkd w (vct w x0 2) = 20 then vclr (vrun n) d 28 115 293 2 9 [(2, x0), (2, x1), (0, x2), (0, x3), (0, x4), v5, v6] [(1, x4), (2, vct w x0 2)] w else none else none) (fun _ => rfl)).trans (EX_if.trans (and_congr Iff.rfl (EX_if.trans (and_congr Iff.rfl (EX_call rfl)))))
set_option maxRecDepth 100000 in
theorem b28_115 {d : Nat} {w : vW} {x0 x1 x2 x3 x4 : Int} {v5 v6 : vV} {Q : Int → vW → Prop} : VW d 28 115 [(2, x0), (2, x1), (0, x2), (0, x3), (0, x4), v5, v6] [] w Q ↔ Q x2 w :=
  (VW_b 2 (F := fun n => some (0, x2, w)) (fun _ => rfl)).trans (EX_ret0)
/-! 29: StrikeWhatCancels.overlap(I)I -/
set_option maxRecDepth 100000 in
theorem b29_0 {d : Nat} {w : vW} {x0 x1 : Int} {Q : Int → vW → Prop} : VW d 29 0 [(2, x0), (0, x1), (9, 0), (9, 0), (9, 0)] [] w Q ↔ ((x1 < 0 → VW d 29 4 [(2, x0), (0, x1), (9, 0), (9, 0), (9, 0)] [] w Q) ∧ (¬ (x1 < 0) → VW d 29 6 [(2, x0), (0, x1), (9, 0), (9, 0), (9, 0)] [] w Q)) :=
  (VW_b 2 (F := fun n => (if x1 < 0 then vrun n d 29 4 [(2, x0), (0, x1), (9, 0), (9, 0), (9, 0)] [] w else vrun n d 29 6 [(2, x0), (0, x1), (9, 0), (9, 0), (9, 0)] [] w)) (fun _ => rfl)).trans (EX_br.trans (and_congr (imp_congr Iff.rfl Iff.rfl) (imp_congr Iff.rfl Iff.rfl)))
set_option maxRecDepth 100000 in
theorem b29_4 {d : Nat} {w : vW} {x0 x1 : Int} {Q : Int → vW → Prop} : VW d 29 4 [(2, x0), (0, x1), (9, 0), (9, 0), (9, 0)] [] w Q ↔ Q (-1) w :=
  (VW_b 2 (F := fun n => some (0, (-1), w)) (fun _ => rfl)).trans (EX_ret0)
set_option maxRecDepth 100000 in
theorem b29_6 {d : Nat} {w : vW} {x0 x1 : Int} {Q : Int → vW → Prop} : VW d 29 6 [(2, x0), (0, x1), (9, 0), (9, 0), (9, 0)] [] w Q ↔ (vkd w x0 = 21) ∧ VC d 51 [(2, x0)] w (fun r w1 => VW d 29 10 [(2, x0), (0, x1), (9, 0), (9, 0), (9, 0)] [(2, r)] w1 Q) :=
  (VW_b 2 (F := fun n => if vkd w x0 = 21 then vclr (vrun n) d 29 10 51 1 2 [(2, x0), (0, x1), (9, 0), (9, 0), (9, 0)] [(2, x0)] w else none) (fun _ => rfl)).trans (EX_if.trans (and_congr Iff.rfl (EX_call rfl)))
set_option maxRecDepth 100000 in
theorem b29_10 {d : Nat} {w : vW} {x0 x1 y0 : Int} {Q : Int → vW → Prop} : VW d 29 10 [(2, x0), (0, x1), (9, 0), (9, 0), (9, 0)] [(2, y0)] w Q ↔ (vkd w x0 = 21) ∧ (vkd w y0 = 16) ∧ VC d 226 [(2, y0), (2, vct w x0 0)] w (fun _ w1 => VW d 29 19 [(2, x0), (0, x1), (2, y0), (9, 0), (9, 0)] [] w1 Q) :=
  (VW_b 5 (F := fun n => if vkd w x0 = 21 then if vkd w y0 = 16 then vclr (vrun n) d 29 19 226 2 9 [(2, x0), (0, x1), (2, y0), (9, 0), (9, 0)] [(2, vct w x0 0), (2, y0)] w else none else none) (fun _ => rfl)).trans (EX_if.trans (and_congr Iff.rfl (EX_if.trans (and_congr Iff.rfl (EX_call rfl)))))
set_option maxRecDepth 100000 in
theorem b29_19 {d : Nat} {w : vW} {x0 x1 x2 : Int} {Q : Int → vW → Prop} : VW d 29 19 [(2, x0), (0, x1), (2, x2), (9, 0), (9, 0)] [] w Q ↔ (vkd w x2 = 16) ∧ VC d 228 [(2, x2), (0, x1)] w (fun r w1 => VW d 29 24 [(2, x0), (0, x1), (2, x2), (9, 0), (9, 0)] [(0, r)] w1 Q) :=
  (VW_b 3 (F := fun n => if vkd w x2 = 16 then vclr (vrun n) d 29 24 228 2 0 [(2, x0), (0, x1), (2, x2), (9, 0), (9, 0)] [(0, x1), (2, x2)] w else none) (fun _ => rfl)).trans (EX_if.trans (and_congr Iff.rfl (EX_call rfl)))
set_option maxRecDepth 100000 in
theorem b29_24 {d : Nat} {w : vW} {x0 x1 x2 y0 : Int} {Q : Int → vW → Prop} : VW d 29 24 [(2, x0), (0, x1), (2, x2), (9, 0), (9, 0)] [(0, y0)] w Q ↔ ((y0 = 0 → VW d 29 27 [(2, x0), (0, x1), (2, x2), (9, 0), (9, 0)] [] w Q) ∧ (¬ (y0 = 0) → VW d 29 30 [(2, x0), (0, x1), (2, x2), (9, 0), (9, 0)] [] w Q)) :=
  (VW_b 1 (F := fun n => (if y0 = 0 then vrun n d 29 27 [(2, x0), (0, x1), (2, x2), (9, 0), (9, 0)] [] w else vrun n d 29 30 [(2, x0), (0, x1), (2, x2), (9, 0), (9, 0)] [] w)) (fun _ => rfl)).trans (EX_br.trans (and_congr (imp_congr Iff.rfl Iff.rfl) (imp_congr Iff.rfl Iff.rfl)))
set_option maxRecDepth 100000 in
theorem b29_27 {d : Nat} {w : vW} {x0 x1 x2 : Int} {Q : Int → vW → Prop} : VW d 29 27 [(2, x0), (0, x1), (2, x2), (9, 0), (9, 0)] [] w Q ↔ Q (-2) w :=
  (VW_b 2 (F := fun n => some (0, (-2), w)) (fun _ => rfl)).trans (EX_ret0)
set_option maxRecDepth 100000 in
theorem b29_30 {d : Nat} {w : vW} {x0 x1 x2 : Int} {Q : Int → vW → Prop} : VW d 29 30 [(2, x0), (0, x1), (2, x2), (9, 0), (9, 0)] [] w Q ↔ (vkd w x2 = 16) ∧ (vkd w x2 = 16) ∧ (vkd w x0 = 21) ∧ VC d 27 [(2, x0), (1, vct w x2 6), (1, vct w x2 7), (0, (-1))] w (fun r w1 => VW d 29 43 [(2, x0), (0, x1), (2, x2), (9, 0), (9, 0)] [(1, r)] w1 Q) :=
  (VW_b 7 (F := fun n => if vkd w x2 = 16 then if vkd w x2 = 16 then if vkd w x0 = 21 then vclr (vrun n) d 29 43 27 4 1 [(2, x0), (0, x1), (2, x2), (9, 0), (9, 0)] [(0, (-1)), (1, vct w x2 7), (1, vct w x2 6), (2, x0)] w else none else none else none) (fun _ => rfl)).trans (EX_if.trans (and_congr Iff.rfl (EX_if.trans (and_congr Iff.rfl (EX_if.trans (and_congr Iff.rfl (EX_call rfl)))))))
set_option maxRecDepth 100000 in
theorem b29_43 {d : Nat} {w : vW} {x0 x1 x2 y0 : Int} {Q : Int → vW → Prop} : VW d 29 43 [(2, x0), (0, x1), (2, x2), (9, 0), (9, 0)] [(1, y0)] w Q ↔ (((vlc y0 (-3)) = 0 → VW d 29 52 [(2, x0), (0, x1), (2, x2), (1, y0), (9, 0)] [] w Q) ∧ (¬ ((vlc y0 (-3)) = 0) → VW d 29 55 [(2, x0), (0, x1), (2, x2), (1, y0), (9, 0)] [] w Q)) :=
  (VW_b 5 (F := fun n => (if (vlc y0 (-3)) = 0 then vrun n d 29 52 [(2, x0), (0, x1), (2, x2), (1, y0), (9, 0)] [] w else vrun n d 29 55 [(2, x0), (0, x1), (2, x2), (1, y0), (9, 0)] [] w)) (fun _ => rfl)).trans (EX_br.trans (and_congr (imp_congr Iff.rfl Iff.rfl) (imp_congr Iff.rfl Iff.rfl)))
set_option maxRecDepth 100000 in
theorem b29_52 {d : Nat} {w : vW} {x0 x1 x2 x3 : Int} {Q : Int → vW → Prop} : VW d 29 52 [(2, x0), (0, x1), (2, x2), (1, x3), (9, 0)] [] w Q ↔ Q (-3) w :=
  (VW_b 2 (F := fun n => some (0, (-3), w)) (fun _ => rfl)).trans (EX_ret0)
set_option maxRecDepth 100000 in
theorem b29_55 {d : Nat} {w : vW} {x0 x1 x2 x3 : Int} {Q : Int → vW → Prop} : VW d 29 55 [(2, x0), (0, x1), (2, x2), (1, x3), (9, 0)] [] w Q ↔ (vkd w x0 = 21) ∧ (vkd w (vct w x0 2) = 20) ∧ VC d 291 [(2, vct w x0 2)] w (fun _ w1 => VW d 29 62 [(2, x0), (0, x1), (2, x2), (1, x3), (9, 0)] [] w1 Q) :=
  (VW_b 3 (F := fun n => if vkd w x0 = 21 then if vkd w (vct w x0 2) = 20 then vclr (vrun n) d 29 62 291 1 9 [(2, x0), (0, x1), (2, x2), (1, x3), (9, 0)] [(2, vct w x0 2)] w else none else none) (fun _ => rfl)).trans (EX_if.trans (and_congr Iff.rfl (EX_if.trans (and_congr Iff.rfl (EX_call rfl)))))
set_option maxRecDepth 100000 in
theorem b29_62 {d : Nat} {w : vW} {x0 x1 x2 x3 : Int} {Q : Int → vW → Prop} : VW d 29 62 [(2, x0), (0, x1), (2, x2), (1, x3), (9, 0)] [] w Q ↔ (vkd w x0 = 21) ∧ (vkd w x2 = 16) ∧ (vkd w (vct w x0 2) = 20) ∧ VC d 293 [(2, vct w x0 2), (1, (vct w x2 2))] w (fun _ w1 => VW d 29 74 [(2, x0), (0, x1), (2, x2), (1, x3), (9, 0)] [] w1 Q) :=
  (VW_b 6 (F := fun n => if vkd w x0 = 21 then if vkd w x2 = 16 then if vkd w (vct w x0 2) = 20 then vclr (vrun n) d 29 74 293 2 9 [(2, x0), (0, x1), (2, x2), (1, x3), (9, 0)] [(1, (vct w x2 2)), (2, vct w x0 2)] w else none else none else none) (fun _ => rfl)).trans (EX_if.trans (and_congr Iff.rfl (EX_if.trans (and_congr Iff.rfl (EX_if.trans (and_congr Iff.rfl (EX_call rfl)))))))
set_option maxRecDepth 100000 in
theorem b29_74 {d : Nat} {w : vW} {x0 x1 x2 x3 : Int} {Q : Int → vW → Prop} : VW d 29 74 [(2, x0), (0, x1), (2, x2), (1, x3), (9, 0)] [] w Q ↔ (vkd w x0 = 21) ∧ (vkd w x2 = 16) ∧ (vkd w (vct w x0 2) = 20) ∧ VC d 293 [(2, vct w x0 2), (1, (vct w x2 3))] w (fun _ w1 => VW d 29 86 [(2, x0), (0, x1), (2, x2), (1, x3), (9, 0)] [] w1 Q) :=
  (VW_b 6 (F := fun n => if vkd w x0 = 21 then if vkd w x2 = 16 then if vkd w (vct w x0 2) = 20 then vclr (vrun n) d 29 86 293 2 9 [(2, x0), (0, x1), (2, x2), (1, x3), (9, 0)] [(1, (vct w x2 3)), (2, vct w x0 2)] w else none else none else none) (fun _ => rfl)).trans (EX_if.trans (and_congr Iff.rfl (EX_if.trans (and_congr Iff.rfl (EX_if.trans (and_congr Iff.rfl (EX_call rfl)))))))
set_option maxRecDepth 100000 in
theorem b29_86 {d : Nat} {w : vW} {x0 x1 x2 x3 : Int} {Q : Int → vW → Prop} : VW d 29 86 [(2, x0), (0, x1), (2, x2), (1, x3), (9, 0)] [] w Q ↔ (vkd w x0 = 21) ∧ (vkd w x2 = 16) ∧ (vkd w (vct w x0 2) = 20) ∧ VC d 293 [(2, vct w x0 2), (1, (vct w x2 4))] w (fun _ w1 => VW d 29 98 [(2, x0), (0, x1), (2, x2), (1, x3), (9, 0)] [] w1 Q) :=
  (VW_b 6 (F := fun n => if vkd w x0 = 21 then if vkd w x2 = 16 then if vkd w (vct w x0 2) = 20 then vclr (vrun n) d 29 98 293 2 9 [(2, x0), (0, x1), (2, x2), (1, x3), (9, 0)] [(1, (vct w x2 4)), (2, vct w x0 2)] w else none else none else none) (fun _ => rfl)).trans (EX_if.trans (and_congr Iff.rfl (EX_if.trans (and_congr Iff.rfl (EX_if.trans (and_congr Iff.rfl (EX_call rfl)))))))
set_option maxRecDepth 100000 in
theorem b29_98 {d : Nat} {w : vW} {x0 x1 x2 x3 : Int} {Q : Int → vW → Prop} : VW d 29 98 [(2, x0), (0, x1), (2, x2), (1, x3), (9, 0)] [] w Q ↔ (vkd w x0 = 21) ∧ (vkd w x2 = 16) ∧ VC d 281 [(1, vct w x2 5)] w (fun r w1 => VW d 29 109 [(2, x0), (0, x1), (2, x2), (1, x3), (9, 0)] [(1, r), (2, vct w x0 2)] w1 Q) :=
  (VW_b 5 (F := fun n => if vkd w x0 = 21 then if vkd w x2 = 16 then vclr (vrun n) d 29 109 281 1 1 [(2, x0), (0, x1), (2, x2), (1, x3), (9, 0)] [(1, vct w x2 5), (2, vct w x0 2)] w else none else none) (fun _ => rfl)).trans (EX_if.trans (and_congr Iff.rfl (EX_if.trans (and_congr Iff.rfl (EX_call rfl)))))
set_option maxRecDepth 100000 in
theorem b29_109 {d : Nat} {w : vW} {x0 x1 x2 x3 y0 y1 : Int} {Q : Int → vW → Prop} : VW d 29 109 [(2, x0), (0, x1), (2, x2), (1, x3), (9, 0)] [(1, y1), (2, y0)] w Q ↔ (vkd w y0 = 20) ∧ VC d 293 [(2, y0), (1, y1)] w (fun _ w1 => VW d 29 112 [(2, x0), (0, x1), (2, x2), (1, x3), (9, 0)] [] w1 Q) :=
  (VW_b 1 (F := fun n => if vkd w y0 = 20 then vclr (vrun n) d 29 112 293 2 9 [(2, x0), (0, x1), (2, x2), (1, x3), (9, 0)] [(1, y1), (2, y0)] w else none) (fun _ => rfl)).trans (EX_if.trans (and_congr Iff.rfl (EX_call rfl)))
set_option maxRecDepth 100000 in
theorem b29_112 {d : Nat} {w : vW} {x0 x1 x2 x3 : Int} {Q : Int → vW → Prop} : VW d 29 112 [(2, x0), (0, x1), (2, x2), (1, x3), (9, 0)] [] w Q ↔ (vkd w x0 = 21) ∧ (vkd w x2 = 16) ∧ VC d 281 [(1, vct w x2 6)] w (fun r w1 => VW d 29 123 [(2, x0), (0, x1), (2, x2), (1, x3), (9, 0)] [(1, r), (2, vct w x0 2)] w1 Q) :=
  (VW_b 5 (F := fun n => if vkd w x0 = 21 then if vkd w x2 = 16 then vclr (vrun n) d 29 123 281 1 1 [(2, x0), (0, x1), (2, x2), (1, x3), (9, 0)] [(1, vct w x2 6), (2, vct w x0 2)] w else none else none) (fun _ => rfl)).trans (EX_if.trans (and_congr Iff.rfl (EX_if.trans (and_congr Iff.rfl (EX_call rfl)))))
set_option maxRecDepth 100000 in
theorem b29_123 {d : Nat} {w : vW} {x0 x1 x2 x3 y0 y1 : Int} {Q : Int → vW → Prop} : VW d 29 123 [(2, x0), (0, x1), (2, x2), (1, x3), (9, 0)] [(1, y1), (2, y0)] w Q ↔ (vkd w y0 = 20) ∧ VC d 293 [(2, y0), (1, y1)] w (fun _ w1 => VW d 29 126 [(2, x0), (0, x1), (2, x2), (1, x3), (9, 0)] [] w1 Q) :=
  (VW_b 1 (F := fun n => if vkd w y0 = 20 then vclr (vrun n) d 29 126 293 2 9 [(2, x0), (0, x1), (2, x2), (1, x3), (9, 0)] [(1, y1), (2, y0)] w else none) (fun _ => rfl)).trans (EX_if.trans (and_congr Iff.rfl (EX_call rfl)))
set_option maxRecDepth 100000 in
theorem b29_126 {d : Nat} {w : vW} {x0 x1 x2 x3 : Int} {Q : Int → vW → Prop} : VW d 29 126 [(2, x0), (0, x1), (2, x2), (1, x3), (9, 0)] [] w Q ↔ (vkd w x0 = 21) ∧ (vkd w x2 = 16) ∧ VC d 281 [(1, vct w x2 7)] w (fun r w1 => VW d 29 137 [(2, x0), (0, x1), (2, x2), (1, x3), (9, 0)] [(1, r), (2, vct w x0 2)] w1 Q) :=
  (VW_b 5 (F := fun n => if vkd w x0 = 21 then if vkd w x2 = 16 then vclr (vrun n) d 29 137 281 1 1 [(2, x0), (0, x1), (2, x2), (1, x3), (9, 0)] [(1, vct w x2 7), (2, vct w x0 2)] w else none else none) (fun _ => rfl)).trans (EX_if.trans (and_congr Iff.rfl (EX_if.trans (and_congr Iff.rfl (EX_call rfl)))))
set_option maxRecDepth 100000 in
theorem b29_137 {d : Nat} {w : vW} {x0 x1 x2 x3 y0 y1 : Int} {Q : Int → vW → Prop} : VW d 29 137 [(2, x0), (0, x1), (2, x2), (1, x3), (9, 0)] [(1, y1), (2, y0)] w Q ↔ (vkd w y0 = 20) ∧ VC d 293 [(2, y0), (1, y1)] w (fun _ w1 => VW d 29 140 [(2, x0), (0, x1), (2, x2), (1, x3), (9, 0)] [] w1 Q) :=
  (VW_b 1 (F := fun n => if vkd w y0 = 20 then vclr (vrun n) d 29 140 293 2 9 [(2, x0), (0, x1), (2, x2), (1, x3), (9, 0)] [(1, y1), (2, y0)] w else none) (fun _ => rfl)).trans (EX_if.trans (and_congr Iff.rfl (EX_call rfl)))
set_option maxRecDepth 100000 in
theorem b29_140 {d : Nat} {w : vW} {x0 x1 x2 x3 : Int} {Q : Int → vW → Prop} : VW d 29 140 [(2, x0), (0, x1), (2, x2), (1, x3), (9, 0)] [] w Q ↔ (((vlc x3 0) < 0 → VW d 29 146 [(2, x0), (0, x1), (2, x2), (1, x3), (9, 0)] [] w Q) ∧ (¬ ((vlc x3 0) < 0) → VW d 29 150 [(2, x0), (0, x1), (2, x2), (1, x3), (9, 0)] [] w Q)) :=
  (VW_b 4 (F := fun n => (if (vlc x3 0) < 0 then vrun n d 29 146 [(2, x0), (0, x1), (2, x2), (1, x3), (9, 0)] [] w else vrun n d 29 150 [(2, x0), (0, x1), (2, x2), (1, x3), (9, 0)] [] w)) (fun _ => rfl)).trans (EX_br.trans (and_congr (imp_congr Iff.rfl Iff.rfl) (imp_congr Iff.rfl Iff.rfl)))
set_option maxRecDepth 100000 in
theorem b29_146 {d : Nat} {w : vW} {x0 x1 x2 x3 : Int} {Q : Int → vW → Prop} : VW d 29 146 [(2, x0), (0, x1), (2, x2), (1, x3), (9, 0)] [] w Q ↔ VW d 29 151 [(2, x0), (0, x1), (2, x2), (1, x3), (9, 0)] [(0, 0)] w Q :=
  (VW_b 2 (F := fun n => vrun n d 29 151 [(2, x0), (0, x1), (2, x2), (1, x3), (9, 0)] [(0, 0)] w) (fun _ => rfl)).trans (Iff.rfl)
set_option maxRecDepth 100000 in
theorem b29_150 {d : Nat} {w : vW} {x0 x1 x2 x3 : Int} {Q : Int → vW → Prop} : VW d 29 150 [(2, x0), (0, x1), (2, x2), (1, x3), (9, 0)] [] w Q ↔ VW d 29 151 [(2, x0), (0, x1), (2, x2), (1, x3), (9, 0)] [(0, 1)] w Q :=
  (VW_b 1 (F := fun n => vrun n d 29 151 [(2, x0), (0, x1), (2, x2), (1, x3), (9, 0)] [(0, 1)] w) (fun _ => rfl)).trans (Iff.rfl)
set_option maxRecDepth 100000 in
theorem b29_151 {d : Nat} {w : vW} {x0 x1 x2 x3 y0 : Int} {Q : Int → vW → Prop} : VW d 29 151 [(2, x0), (0, x1), (2, x2), (1, x3), (9, 0)] [(0, y0)] w Q ↔ Q y0 w :=
  (VW_b 1 (F := fun n => some (0, y0, w)) (fun _ => rfl)).trans (EX_ret0)
/-! 30: StrikeWhatCancels.idle()I -/
set_option maxRecDepth 100000 in
theorem b30_0 {d : Nat} {w : vW} {x0 : Int} {Q : Int → vW → Prop} : VW d 30 0 [(2, x0), (9, 0), (9, 0), (9, 0), (9, 0)] [] w Q ↔ VW d 30 4 [(2, x0), (0, 0), (0, 0), (9, 0), (9, 0)] [] w Q :=
  (VW_b 4 (F := fun n => vrun n d 30 4 [(2, x0), (0, 0), (0, 0), (9, 0), (9, 0)] [] w) (fun _ => rfl)).trans (Iff.rfl)
set_option maxRecDepth 100000 in
theorem b30_4 {d : Nat} {w : vW} {x0 x1 x2 : Int} {v3 v4 : vV} {Q : Int → vW → Prop} : VW d 30 4 [(2, x0), (0, x1), (0, x2), v3, v4] [] w Q ↔ (vkd w x0 = 21) ∧ (vkd w (vct w x0 0) = 18) ∧ ((x2 < (vct w (vct w x0 0) 3) → VW d 30 15 [(2, x0), (0, x1), (0, x2), v3, v4] [] w Q) ∧ (¬ (x2 < (vct w (vct w x0 0) 3)) → VW d 30 70 [(2, x0), (0, x1), (0, x2), v3, v4] [] w Q)) :=
  (VW_b 5 (F := fun n => if vkd w x0 = 21 then if vkd w (vct w x0 0) = 18 then (if x2 < (vct w (vct w x0 0) 3) then vrun n d 30 15 [(2, x0), (0, x1), (0, x2), v3, v4] [] w else vrun n d 30 70 [(2, x0), (0, x1), (0, x2), v3, v4] [] w) else none else none) (fun _ => rfl)).trans (EX_if.trans (and_congr Iff.rfl (EX_if.trans (and_congr Iff.rfl (EX_br.trans (and_congr (imp_congr Iff.rfl Iff.rfl) (imp_congr Iff.rfl Iff.rfl)))))))
set_option maxRecDepth 100000 in
theorem b30_15 {d : Nat} {w : vW} {x0 x1 x2 : Int} {v3 v4 : vV} {Q : Int → vW → Prop} : VW d 30 15 [(2, x0), (0, x1), (0, x2), v3, v4] [] w Q ↔ (vkd w x0 = 21) ∧ (vkd w (vct w x0 0) = 18) ∧ VC d 252 [(2, vct w x0 0), (0, x2)] w (fun r w1 => VW d 30 24 [(2, x0), (0, x1), (0, x2), v3, v4] [(1, r), (2, x0)] w1 Q) :=
  (VW_b 5 (F := fun n => if vkd w x0 = 21 then if vkd w (vct w x0 0) = 18 then vclr (vrun n) d 30 24 252 2 1 [(2, x0), (0, x1), (0, x2), v3, v4] [(0, x2), (2, vct w x0 0), (2, x0)] w else none else none) (fun _ => rfl)).trans (EX_if.trans (and_congr Iff.rfl (EX_if.trans (and_congr Iff.rfl (EX_call rfl)))))
set_option maxRecDepth 100000 in
theorem b30_24 {d : Nat} {w : vW} {x0 x1 x2 y0 y1 : Int} {v3 v4 : vV} {Q : Int → vW → Prop} : VW d 30 24 [(2, x0), (0, x1), (0, x2), v3, v4] [(1, y1), (2, y0)] w Q ↔ (vkd w x0 = 21) ∧ (vkd w (vct w x0 0) = 18) ∧ VC d 253 [(2, vct w x0 0), (0, x2)] w (fun r w1 => VW d 30 32 [(2, x0), (0, x1), (0, x2), v3, v4] [(1, r), (1, y1), (2, y0)] w1 Q) :=
  (VW_b 4 (F := fun n => if vkd w x0 = 21 then if vkd w (vct w x0 0) = 18 then vclr (vrun n) d 30 32 253 2 1 [(2, x0), (0, x1), (0, x2), v3, v4] [(0, x2), (2, vct w x0 0), (1, y1), (2, y0)] w else none else none) (fun _ => rfl)).trans (EX_if.trans (and_congr Iff.rfl (EX_if.trans (and_congr Iff.rfl (EX_call rfl)))))
set_option maxRecDepth 100000 in
theorem b30_32 {d : Nat} {w : vW} {x0 x1 x2 y0 y1 y2 : Int} {v3 v4 : vV} {Q : Int → vW → Prop} : VW d 30 32 [(2, x0), (0, x1), (0, x2), v3, v4] [(1, y2), (1, y1), (2, y0)] w Q ↔ (vkd w y0 = 21) ∧ VC d 27 [(2, y0), (1, y1), (1, y2), (0, x2)] w (fun r w1 => VW d 30 36 [(2, x0), (0, x1), (0, x2), v3, v4] [(1, r)] w1 Q) :=
  (VW_b 2 (F := fun n => if vkd w y0 = 21 then vclr (vrun n) d 30 36 27 4 1 [(2, x0), (0, x1), (0, x2), v3, v4] [(0, x2), (1, y2), (1, y1), (2, y0)] w else none) (fun _ => rfl)).trans (EX_if.trans (and_congr Iff.rfl (EX_call rfl)))
set_option maxRecDepth 100000 in
theorem b30_36 {d : Nat} {w : vW} {x0 x1 x2 y0 : Int} {v3 v4 : vV} {Q : Int → vW → Prop} : VW d 30 36 [(2, x0), (0, x1), (0, x2), v3, v4] [(1, y0)] w Q ↔ (((vlc y0 (-3)) = 0 → VW d 30 45 [(2, x0), (0, x1), (0, x2), (1, y0), (9, 0)] [] w Q) ∧ (¬ ((vlc y0 (-3)) = 0) → VW d 30 48 [(2, x0), (0, x1), (0, x2), (1, y0), (9, 0)] [] w Q)) :=
  (VW_b 5 (F := fun n => (if (vlc y0 (-3)) = 0 then vrun n d 30 45 [(2, x0), (0, x1), (0, x2), (1, y0), (9, 0)] [] w else vrun n d 30 48 [(2, x0), (0, x1), (0, x2), (1, y0), (9, 0)] [] w)) (fun _ => rfl)).trans (EX_br.trans (and_congr (imp_congr Iff.rfl Iff.rfl) (imp_congr Iff.rfl Iff.rfl)))
set_option maxRecDepth 100000 in
theorem b30_45 {d : Nat} {w : vW} {x0 x1 x2 x3 : Int} {Q : Int → vW → Prop} : VW d 30 45 [(2, x0), (0, x1), (0, x2), (1, x3), (9, 0)] [] w Q ↔ Q (-3) w :=
  (VW_b 2 (F := fun n => some (0, (-3), w)) (fun _ => rfl)).trans (EX_ret0)
set_option maxRecDepth 100000 in
theorem b30_48 {d : Nat} {w : vW} {x0 x1 x2 x3 : Int} {Q : Int → vW → Prop} : VW d 30 48 [(2, x0), (0, x1), (0, x2), (1, x3), (9, 0)] [] w Q ↔ (((vlc x3 0) < 0 → VW d 30 55 [(2, x0), (0, x1), (0, x2), (1, x3), (9, 0)] [(0, x1)] w Q) ∧ (¬ ((vlc x3 0) < 0) → VW d 30 59 [(2, x0), (0, x1), (0, x2), (1, x3), (9, 0)] [(0, x1)] w Q)) :=
  (VW_b 5 (F := fun n => (if (vlc x3 0) < 0 then vrun n d 30 55 [(2, x0), (0, x1), (0, x2), (1, x3), (9, 0)] [(0, x1)] w else vrun n d 30 59 [(2, x0), (0, x1), (0, x2), (1, x3), (9, 0)] [(0, x1)] w)) (fun _ => rfl)).trans (EX_br.trans (and_congr (imp_congr Iff.rfl Iff.rfl) (imp_congr Iff.rfl Iff.rfl)))
set_option maxRecDepth 100000 in
theorem b30_55 {d : Nat} {w : vW} {x0 x1 x2 x3 y0 : Int} {Q : Int → vW → Prop} : VW d 30 55 [(2, x0), (0, x1), (0, x2), (1, x3), (9, 0)] [(0, y0)] w Q ↔ VW d 30 62 [(2, x0), (0, x1), (0, x2), (1, x3), (9, 0)] [(0, 0), (0, y0)] w Q :=
  (VW_b 2 (F := fun n => vrun n d 30 62 [(2, x0), (0, x1), (0, x2), (1, x3), (9, 0)] [(0, 0), (0, y0)] w) (fun _ => rfl)).trans (Iff.rfl)
set_option maxRecDepth 100000 in
theorem b30_59 {d : Nat} {w : vW} {x0 x1 x2 x3 y0 : Int} {Q : Int → vW → Prop} : VW d 30 59 [(2, x0), (0, x1), (0, x2), (1, x3), (9, 0)] [(0, y0)] w Q ↔ VW d 30 62 [(2, x0), (0, x1), (0, x2), (1, x3), (9, 0)] [(0, i_shl 1 x2), (0, y0)] w Q :=
  (VW_b 3 (F := fun n => vrun n d 30 62 [(2, x0), (0, x1), (0, x2), (1, x3), (9, 0)] [(0, i_shl 1 x2), (0, y0)] w) (fun _ => rfl)).trans (Iff.rfl)
set_option maxRecDepth 100000 in
theorem b30_62 {d : Nat} {w : vW} {x0 x1 x2 x3 y0 y1 : Int} {Q : Int → vW → Prop} : VW d 30 62 [(2, x0), (0, x1), (0, x2), (1, x3), (9, 0)] [(0, y1), (0, y0)] w Q ↔ VW d 30 64 [(2, x0), (0, i_or y0 y1), (0, x2), (1, x3), (9, 0)] [] w Q :=
  (VW_b 2 (F := fun n => vrun n d 30 64 [(2, x0), (0, i_or y0 y1), (0, x2), (1, x3), (9, 0)] [] w) (fun _ => rfl)).trans (Iff.rfl)
set_option maxRecDepth 100000 in
theorem b30_64 {d : Nat} {w : vW} {x0 x1 x2 x3 : Int} {Q : Int → vW → Prop} : VW d 30 64 [(2, x0), (0, x1), (0, x2), (1, x3), (9, 0)] [] w Q ↔ VW d 30 4 [(2, x0), (0, x1), (0, w32 (x2 + 1)), (1, x3), (9, 0)] [] w Q :=
  (VW_b 2 (F := fun n => vrun n d 30 4 [(2, x0), (0, x1), (0, w32 (x2 + 1)), (1, x3), (9, 0)] [] w) (fun _ => rfl)).trans (Iff.rfl)
set_option maxRecDepth 100000 in
theorem b30_70 {d : Nat} {w : vW} {x0 x1 x2 : Int} {v3 v4 : vV} {Q : Int → vW → Prop} : VW d 30 70 [(2, x0), (0, x1), (0, x2), v3, v4] [] w Q ↔ Q x1 w :=
  (VW_b 2 (F := fun n => some (0, x1, w)) (fun _ => rfl)).trans (EX_ret0)
/-! 31: StrikeWhatCancels.lessens()I -/
set_option maxRecDepth 100000 in
theorem b31_0 {d : Nat} {w : vW} {x0 : Int} {Q : Int → vW → Prop} : VW d 31 0 [(2, x0), (9, 0), (9, 0), (9, 0), (9, 0)] [] w Q ↔ VW d 31 6 [(2, x0), (0, (-1)), (0, 0), (0, 0), (9, 0)] [] w Q :=
  (VW_b 6 (F := fun n => vrun n d 31 6 [(2, x0), (0, (-1)), (0, 0), (0, 0), (9, 0)] [] w) (fun _ => rfl)).trans (Iff.rfl)
set_option maxRecDepth 100000 in
theorem b31_6 {d : Nat} {w : vW} {x0 x1 x2 x3 : Int} {v4 : vV} {Q : Int → vW → Prop} : VW d 31 6 [(2, x0), (0, x1), (0, x2), (0, x3), v4] [] w Q ↔ (vkd w x0 = 21) ∧ (vkd w (vct w x0 0) = 18) ∧ ((x3 < (vct w (vct w x0 0) 3) → VW d 31 17 [(2, x0), (0, x1), (0, x2), (0, x3), v4] [] w Q) ∧ (¬ (x3 < (vct w (vct w x0 0) 3)) → VW d 31 53 [(2, x0), (0, x1), (0, x2), (0, x3), v4] [] w Q)) :=
  (VW_b 5 (F := fun n => if vkd w x0 = 21 then if vkd w (vct w x0 0) = 18 then (if x3 < (vct w (vct w x0 0) 3) then vrun n d 31 17 [(2, x0), (0, x1), (0, x2), (0, x3), v4] [] w else vrun n d 31 53 [(2, x0), (0, x1), (0, x2), (0, x3), v4] [] w) else none else none) (fun _ => rfl)).trans (EX_if.trans (and_congr Iff.rfl (EX_if.trans (and_congr Iff.rfl (EX_br.trans (and_congr (imp_congr Iff.rfl Iff.rfl) (imp_congr Iff.rfl Iff.rfl)))))))
set_option maxRecDepth 100000 in
theorem b31_17 {d : Nat} {w : vW} {x0 x1 x2 x3 : Int} {v4 : vV} {Q : Int → vW → Prop} : VW d 31 17 [(2, x0), (0, x1), (0, x2), (0, x3), v4] [] w Q ↔ (vkd w x0 = 21) ∧ (vkd w x0 = 21) ∧ (vkd w (vct w x0 0) = 18) ∧ VC d 259 [(2, vct w x0 0), (0, x3), (2, vct w x0 3)] w (fun r w1 => VW d 31 29 [(2, x0), (0, x1), (0, x2), (0, x3), v4] [(0, r)] w1 Q) :=
  (VW_b 6 (F := fun n => if vkd w x0 = 21 then if vkd w x0 = 21 then if vkd w (vct w x0 0) = 18 then vclr (vrun n) d 31 29 259 3 0 [(2, x0), (0, x1), (0, x2), (0, x3), v4] [(2, vct w x0 3), (0, x3), (2, vct w x0 0)] w else none else none else none) (fun _ => rfl)).trans (EX_if.trans (and_congr Iff.rfl (EX_if.trans (and_congr Iff.rfl (EX_if.trans (and_congr Iff.rfl (EX_call rfl)))))))
set_option maxRecDepth 100000 in
theorem b31_29 {d : Nat} {w : vW} {x0 x1 x2 x3 y0 : Int} {v4 : vV} {Q : Int → vW → Prop} : VW d 31 29 [(2, x0), (0, x1), (0, x2), (0, x3), v4] [(0, y0)] w Q ↔ ((x1 = (-1) → VW d 31 42 [(2, x0), (0, x1), (0, x2), (0, x3), (0, y0)] [] w Q) ∧ (¬ (x1 = (-1)) → VW d 31 36 [(2, x0), (0, x1), (0, x2), (0, x3), (0, y0)] [] w Q)) :=
  (VW_b 4 (F := fun n => (if x1 = (-1) then vrun n d 31 42 [(2, x0), (0, x1), (0, x2), (0, x3), (0, y0)] [] w else vrun n d 31 36 [(2, x0), (0, x1), (0, x2), (0, x3), (0, y0)] [] w)) (fun _ => rfl)).trans (EX_br.trans (and_congr (imp_congr Iff.rfl Iff.rfl) (imp_congr Iff.rfl Iff.rfl)))
set_option maxRecDepth 100000 in
theorem b31_36 {d : Nat} {w : vW} {x0 x1 x2 x3 x4 : Int} {Q : Int → vW → Prop} : VW d 31 36 [(2, x0), (0, x1), (0, x2), (0, x3), (0, x4)] [] w Q ↔ ((x4 < x2 → VW d 31 42 [(2, x0), (0, x1), (0, x2), (0, x3), (0, x4)] [] w Q) ∧ (¬ (x4 < x2) → VW d 31 47 [(2, x0), (0, x1), (0, x2), (0, x3), (0, x4)] [] w Q)) :=
  (VW_b 3 (F := fun n => (if x4 < x2 then vrun n d 31 42 [(2, x0), (0, x1), (0, x2), (0, x3), (0, x4)] [] w else vrun n d 31 47 [(2, x0), (0, x1), (0, x2), (0, x3), (0, x4)] [] w)) (fun _ => rfl)).trans (EX_br.trans (and_congr (imp_congr Iff.rfl Iff.rfl) (imp_congr Iff.rfl Iff.rfl)))
set_option maxRecDepth 100000 in
theorem b31_42 {d : Nat} {w : vW} {x0 x1 x2 x3 x4 : Int} {Q : Int → vW → Prop} : VW d 31 42 [(2, x0), (0, x1), (0, x2), (0, x3), (0, x4)] [] w Q ↔ VW d 31 47 [(2, x0), (0, x3), (0, x4), (0, x3), (0, x4)] [] w Q :=
  (VW_b 4 (F := fun n => vrun n d 31 47 [(2, x0), (0, x3), (0, x4), (0, x3), (0, x4)] [] w) (fun _ => rfl)).trans (Iff.rfl)
set_option maxRecDepth 100000 in
theorem b31_47 {d : Nat} {w : vW} {x0 x1 x2 x3 x4 : Int} {Q : Int → vW → Prop} : VW d 31 47 [(2, x0), (0, x1), (0, x2), (0, x3), (0, x4)] [] w Q ↔ VW d 31 6 [(2, x0), (0, x1), (0, x2), (0, w32 (x3 + 1)), (0, x4)] [] w Q :=
  (VW_b 2 (F := fun n => vrun n d 31 6 [(2, x0), (0, x1), (0, x2), (0, w32 (x3 + 1)), (0, x4)] [] w) (fun _ => rfl)).trans (Iff.rfl)
set_option maxRecDepth 100000 in
theorem b31_53 {d : Nat} {w : vW} {x0 x1 x2 x3 : Int} {v4 : vV} {Q : Int → vW → Prop} : VW d 31 53 [(2, x0), (0, x1), (0, x2), (0, x3), v4] [] w Q ↔ (vkd w x0 = 21) ∧ (vkd w (vct w x0 2) = 20) ∧ VC d 291 [(2, vct w x0 2)] w (fun _ w1 => VW d 31 60 [(2, x0), (0, x1), (0, x2), (0, x3), v4] [] w1 Q) :=
  (VW_b 3 (F := fun n => if vkd w x0 = 21 then if vkd w (vct w x0 2) = 20 then vclr (vrun n) d 31 60 291 1 9 [(2, x0), (0, x1), (0, x2), (0, x3), v4] [(2, vct w x0 2)] w else none else none) (fun _ => rfl)).trans (EX_if.trans (and_congr Iff.rfl (EX_if.trans (and_congr Iff.rfl (EX_call rfl)))))
set_option maxRecDepth 100000 in
theorem b31_60 {d : Nat} {w : vW} {x0 x1 x2 x3 : Int} {v4 : vV} {Q : Int → vW → Prop} : VW d 31 60 [(2, x0), (0, x1), (0, x2), (0, x3), v4] [] w Q ↔ (vkd w x0 = 21) ∧ (vkd w (vct w x0 2) = 20) ∧ VC d 293 [(2, vct w x0 2), (1, x1)] w (fun _ w1 => VW d 31 69 [(2, x0), (0, x1), (0, x2), (0, x3), v4] [] w1 Q) :=
  (VW_b 5 (F := fun n => if vkd w x0 = 21 then if vkd w (vct w x0 2) = 20 then vclr (vrun n) d 31 69 293 2 9 [(2, x0), (0, x1), (0, x2), (0, x3), v4] [(1, x1), (2, vct w x0 2)] w else none else none) (fun _ => rfl)).trans (EX_if.trans (and_congr Iff.rfl (EX_if.trans (and_congr Iff.rfl (EX_call rfl)))))
set_option maxRecDepth 100000 in
theorem b31_69 {d : Nat} {w : vW} {x0 x1 x2 x3 : Int} {v4 : vV} {Q : Int → vW → Prop} : VW d 31 69 [(2, x0), (0, x1), (0, x2), (0, x3), v4] [] w Q ↔ (vkd w x0 = 21) ∧ (vkd w (vct w x0 2) = 20) ∧ VC d 293 [(2, vct w x0 2), (1, x2)] w (fun _ w1 => VW d 31 78 [(2, x0), (0, x1), (0, x2), (0, x3), v4] [] w1 Q) :=
  (VW_b 5 (F := fun n => if vkd w x0 = 21 then if vkd w (vct w x0 2) = 20 then vclr (vrun n) d 31 78 293 2 9 [(2, x0), (0, x1), (0, x2), (0, x3), v4] [(1, x2), (2, vct w x0 2)] w else none else none) (fun _ => rfl)).trans (EX_if.trans (and_congr Iff.rfl (EX_if.trans (and_congr Iff.rfl (EX_call rfl)))))
set_option maxRecDepth 100000 in
theorem b31_78 {d : Nat} {w : vW} {x0 x1 x2 x3 : Int} {v4 : vV} {Q : Int → vW → Prop} : VW d 31 78 [(2, x0), (0, x1), (0, x2), (0, x3), v4] [] w Q ↔ ((x1 = (-1) → VW d 31 87 [(2, x0), (0, x1), (0, x2), (0, x3), v4] [] w Q) ∧ (¬ (x1 = (-1)) → VW d 31 83 [(2, x0), (0, x1), (0, x2), (0, x3), v4] [] w Q)) :=
  (VW_b 3 (F := fun n => (if x1 = (-1) then vrun n d 31 87 [(2, x0), (0, x1), (0, x2), (0, x3), v4] [] w else vrun n d 31 83 [(2, x0), (0, x1), (0, x2), (0, x3), v4] [] w)) (fun _ => rfl)).trans (EX_br.trans (and_congr (imp_congr Iff.rfl Iff.rfl) (imp_congr Iff.rfl Iff.rfl)))
set_option maxRecDepth 100000 in
theorem b31_83 {d : Nat} {w : vW} {x0 x1 x2 x3 : Int} {v4 : vV} {Q : Int → vW → Prop} : VW d 31 83 [(2, x0), (0, x1), (0, x2), (0, x3), v4] [] w Q ↔ ((0 < x2 → VW d 31 87 [(2, x0), (0, x1), (0, x2), (0, x3), v4] [] w Q) ∧ (¬ (0 < x2) → VW d 31 91 [(2, x0), (0, x1), (0, x2), (0, x3), v4] [] w Q)) :=
  (VW_b 2 (F := fun n => (if 0 < x2 then vrun n d 31 87 [(2, x0), (0, x1), (0, x2), (0, x3), v4] [] w else vrun n d 31 91 [(2, x0), (0, x1), (0, x2), (0, x3), v4] [] w)) (fun _ => rfl)).trans (EX_br.trans (and_congr (imp_congr Iff.rfl Iff.rfl) (imp_congr Iff.rfl Iff.rfl)))
set_option maxRecDepth 100000 in
theorem b31_87 {d : Nat} {w : vW} {x0 x1 x2 x3 : Int} {v4 : vV} {Q : Int → vW → Prop} : VW d 31 87 [(2, x0), (0, x1), (0, x2), (0, x3), v4] [] w Q ↔ VW d 31 92 [(2, x0), (0, x1), (0, x2), (0, x3), v4] [(0, 1)] w Q :=
  (VW_b 2 (F := fun n => vrun n d 31 92 [(2, x0), (0, x1), (0, x2), (0, x3), v4] [(0, 1)] w) (fun _ => rfl)).trans (Iff.rfl)
set_option maxRecDepth 100000 in
theorem b31_91 {d : Nat} {w : vW} {x0 x1 x2 x3 : Int} {v4 : vV} {Q : Int → vW → Prop} : VW d 31 91 [(2, x0), (0, x1), (0, x2), (0, x3), v4] [] w Q ↔ VW d 31 92 [(2, x0), (0, x1), (0, x2), (0, x3), v4] [(0, 0)] w Q :=
  (VW_b 1 (F := fun n => vrun n d 31 92 [(2, x0), (0, x1), (0, x2), (0, x3), v4] [(0, 0)] w) (fun _ => rfl)).trans (Iff.rfl)
set_option maxRecDepth 100000 in
theorem b31_92 {d : Nat} {w : vW} {x0 x1 x2 x3 y0 : Int} {v4 : vV} {Q : Int → vW → Prop} : VW d 31 92 [(2, x0), (0, x1), (0, x2), (0, x3), v4] [(0, y0)] w Q ↔ Q y0 w :=
  (VW_b 1 (F := fun n => some (0, y0, w)) (fun _ => rfl)).trans (EX_ret0)
/-! 32: StrikeWhatCancels.weights()I -/
set_option maxRecDepth 100000 in
theorem b32_0 {d : Nat} {w : vW} {x0 : Int} {Q : Int → vW → Prop} : VW d 32 0 [(2, x0), (9, 0), (9, 0)] [] w Q ↔ (vkd w x0 = 21) ∧ (((vct w x0 13) = (-1) → VW d 32 7 [(2, x0), (9, 0), (9, 0)] [] w Q) ∧ (¬ ((vct w x0 13) = (-1)) → VW d 32 18 [(2, x0), (9, 0), (9, 0)] [] w Q)) :=
  (VW_b 3 (F := fun n => if vkd w x0 = 21 then (if (vct w x0 13) = (-1) then vrun n d 32 7 [(2, x0), (9, 0), (9, 0)] [] w else vrun n d 32 18 [(2, x0), (9, 0), (9, 0)] [] w) else none) (fun _ => rfl)).trans (EX_if.trans (and_congr Iff.rfl (EX_br.trans (and_congr (imp_congr Iff.rfl Iff.rfl) (imp_congr Iff.rfl Iff.rfl)))))
set_option maxRecDepth 100000 in
theorem b32_7 {d : Nat} {w : vW} {x0 : Int} {Q : Int → vW → Prop} : VW d 32 7 [(2, x0), (9, 0), (9, 0)] [] w Q ↔ VW d 32 11 [(2, x0), (9, 0), (9, 0)] [(2, vnt w), (2, x0)] (vnw w 11 6 (vdfl 11) 6) Q :=
  (VW_b 2 (F := fun n => vrun n d 32 11 [(2, x0), (9, 0), (9, 0)] [(2, vnt w), (2, x0)] (vnw w 11 6 (vdfl 11) 6)) (fun _ => rfl)).trans (Iff.rfl)
set_option maxRecDepth 100000 in
theorem b32_11 {d : Nat} {w : vW} {x0 y0 y1 : Int} {Q : Int → vW → Prop} : VW d 32 11 [(2, x0), (9, 0), (9, 0)] [(2, y1), (2, y0)] w Q ↔ (vkd w y1 = 11) ∧ VC d 162 [(2, y1)] w (fun _ w1 => VW d 32 15 [(2, x0), (9, 0), (9, 0)] [(2, y1), (2, y0)] w1 Q) :=
  (VW_b 2 (F := fun n => if vkd w y1 = 11 then vclr (vrun n) d 32 15 162 1 9 [(2, x0), (9, 0), (9, 0)] [(2, y1), (2, y1), (2, y0)] w else none) (fun _ => rfl)).trans (EX_if.trans (and_congr Iff.rfl (EX_call rfl)))
set_option maxRecDepth 100000 in
theorem b32_15 {d : Nat} {w : vW} {x0 y0 y1 : Int} {Q : Int → vW → Prop} : VW d 32 15 [(2, x0), (9, 0), (9, 0)] [(2, y1), (2, y0)] w Q ↔ (vkd w y0 = 21) ∧ VW d 32 18 [(2, x0), (9, 0), (9, 0)] [] (vsv w y0 13 y1) Q :=
  (VW_b 1 (F := fun n => if vkd w y0 = 21 then vrun n d 32 18 [(2, x0), (9, 0), (9, 0)] [] (vsv w y0 13 y1) else none) (fun _ => rfl)).trans (EX_if.trans (and_congr Iff.rfl (Iff.rfl)))
set_option maxRecDepth 100000 in
theorem b32_18 {d : Nat} {w : vW} {x0 : Int} {Q : Int → vW → Prop} : VW d 32 18 [(2, x0), (9, 0), (9, 0)] [] w Q ↔ (vkd w x0 = 21) ∧ (vkd w x0 = 21) ∧ (vkd w (vct w x0 13) = 11) ∧ VC d 163 [(2, vct w x0 13), (2, vct w x0 0)] w (fun r w1 => VW d 32 29 [(2, x0), (9, 0), (9, 0)] [(0, r)] w1 Q) :=
  (VW_b 5 (F := fun n => if vkd w x0 = 21 then if vkd w x0 = 21 then if vkd w (vct w x0 13) = 11 then vclr (vrun n) d 32 29 163 2 0 [(2, x0), (9, 0), (9, 0)] [(2, vct w x0 0), (2, vct w x0 13)] w else none else none else none) (fun _ => rfl)).trans (EX_if.trans (and_congr Iff.rfl (EX_if.trans (and_congr Iff.rfl (EX_if.trans (and_congr Iff.rfl (EX_call rfl)))))))
set_option maxRecDepth 100000 in
theorem b32_29 {d : Nat} {w : vW} {x0 y0 : Int} {Q : Int → vW → Prop} : VW d 32 29 [(2, x0), (9, 0), (9, 0)] [(0, y0)] w Q ↔ (vkd w x0 = 21) ∧ (vkd w (vct w x0 2) = 20) ∧ VC d 291 [(2, vct w x0 2)] w (fun _ w1 => VW d 32 37 [(2, x0), (0, y0), (9, 0)] [] w1 Q) :=
  (VW_b 4 (F := fun n => if vkd w x0 = 21 then if vkd w (vct w x0 2) = 20 then vclr (vrun n) d 32 37 291 1 9 [(2, x0), (0, y0), (9, 0)] [(2, vct w x0 2)] w else none else none) (fun _ => rfl)).trans (EX_if.trans (and_congr Iff.rfl (EX_if.trans (and_congr Iff.rfl (EX_call rfl)))))
set_option maxRecDepth 100000 in
theorem b32_37 {d : Nat} {w : vW} {x0 x1 : Int} {Q : Int → vW → Prop} : VW d 32 37 [(2, x0), (0, x1), (9, 0)] [] w Q ↔ VW d 32 39 [(2, x0), (0, x1), (0, 0)] [] w Q :=
  (VW_b 2 (F := fun n => vrun n d 32 39 [(2, x0), (0, x1), (0, 0)] [] w) (fun _ => rfl)).trans (Iff.rfl)
set_option maxRecDepth 100000 in
theorem b32_39 {d : Nat} {w : vW} {x0 x1 x2 : Int} {Q : Int → vW → Prop} : VW d 32 39 [(2, x0), (0, x1), (0, x2)] [] w Q ↔ ((x1 = 0 → VW d 32 71 [(2, x0), (0, x1), (0, x2)] [] w Q) ∧ (¬ (x1 = 0) → VW d 32 43 [(2, x0), (0, x1), (0, x2)] [] w Q)) :=
  (VW_b 2 (F := fun n => (if x1 = 0 then vrun n d 32 71 [(2, x0), (0, x1), (0, x2)] [] w else vrun n d 32 43 [(2, x0), (0, x1), (0, x2)] [] w)) (fun _ => rfl)).trans (EX_br.trans (and_congr (imp_congr Iff.rfl Iff.rfl) (imp_congr Iff.rfl Iff.rfl)))
set_option maxRecDepth 100000 in
theorem b32_43 {d : Nat} {w : vW} {x0 x1 x2 : Int} {Q : Int → vW → Prop} : VW d 32 43 [(2, x0), (0, x1), (0, x2)] [] w Q ↔ ((x2 < 8 → VW d 32 49 [(2, x0), (0, x1), (0, x2)] [] w Q) ∧ (¬ (x2 < 8) → VW d 32 71 [(2, x0), (0, x1), (0, x2)] [] w Q)) :=
  (VW_b 3 (F := fun n => (if x2 < 8 then vrun n d 32 49 [(2, x0), (0, x1), (0, x2)] [] w else vrun n d 32 71 [(2, x0), (0, x1), (0, x2)] [] w)) (fun _ => rfl)).trans (EX_br.trans (and_congr (imp_congr Iff.rfl Iff.rfl) (imp_congr Iff.rfl Iff.rfl)))
set_option maxRecDepth 100000 in
theorem b32_49 {d : Nat} {w : vW} {x0 x1 x2 : Int} {Q : Int → vW → Prop} : VW d 32 49 [(2, x0), (0, x1), (0, x2)] [] w Q ↔ (vkd w x0 = 21) ∧ (vkd w x0 = 21) ∧ (vkd w (vct w x0 13) = 11) ∧ VC d 165 [(2, vct w x0 13), (0, x2)] w (fun r w1 => VW d 32 61 [(2, x0), (0, x1), (0, x2)] [(0, r), (2, vct w x0 2)] w1 Q) :=
  (VW_b 6 (F := fun n => if vkd w x0 = 21 then if vkd w x0 = 21 then if vkd w (vct w x0 13) = 11 then vclr (vrun n) d 32 61 165 2 0 [(2, x0), (0, x1), (0, x2)] [(0, x2), (2, vct w x0 13), (2, vct w x0 2)] w else none else none else none) (fun _ => rfl)).trans (EX_if.trans (and_congr Iff.rfl (EX_if.trans (and_congr Iff.rfl (EX_if.trans (and_congr Iff.rfl (EX_call rfl)))))))
set_option maxRecDepth 100000 in
theorem b32_61 {d : Nat} {w : vW} {x0 x1 x2 y0 y1 : Int} {Q : Int → vW → Prop} : VW d 32 61 [(2, x0), (0, x1), (0, x2)] [(0, y1), (2, y0)] w Q ↔ (vkd w y0 = 20) ∧ VC d 293 [(2, y0), (1, y1)] w (fun _ w1 => VW d 32 65 [(2, x0), (0, x1), (0, x2)] [] w1 Q) :=
  (VW_b 2 (F := fun n => if vkd w y0 = 20 then vclr (vrun n) d 32 65 293 2 9 [(2, x0), (0, x1), (0, x2)] [(1, y1), (2, y0)] w else none) (fun _ => rfl)).trans (EX_if.trans (and_congr Iff.rfl (EX_call rfl)))
set_option maxRecDepth 100000 in
theorem b32_65 {d : Nat} {w : vW} {x0 x1 x2 : Int} {Q : Int → vW → Prop} : VW d 32 65 [(2, x0), (0, x1), (0, x2)] [] w Q ↔ VW d 32 39 [(2, x0), (0, x1), (0, w32 (x2 + 1))] [] w Q :=
  (VW_b 2 (F := fun n => vrun n d 32 39 [(2, x0), (0, x1), (0, w32 (x2 + 1))] [] w) (fun _ => rfl)).trans (Iff.rfl)
set_option maxRecDepth 100000 in
theorem b32_71 {d : Nat} {w : vW} {x0 x1 x2 : Int} {Q : Int → vW → Prop} : VW d 32 71 [(2, x0), (0, x1), (0, x2)] [] w Q ↔ ((x1 = 0 → VW d 32 79 [(2, x0), (0, x1), (0, x2)] [] w Q) ∧ (¬ (x1 = 0) → VW d 32 75 [(2, x0), (0, x1), (0, x2)] [] w Q)) :=
  (VW_b 2 (F := fun n => (if x1 = 0 then vrun n d 32 79 [(2, x0), (0, x1), (0, x2)] [] w else vrun n d 32 75 [(2, x0), (0, x1), (0, x2)] [] w)) (fun _ => rfl)).trans (EX_br.trans (and_congr (imp_congr Iff.rfl Iff.rfl) (imp_congr Iff.rfl Iff.rfl)))
set_option maxRecDepth 100000 in
theorem b32_75 {d : Nat} {w : vW} {x0 x1 x2 : Int} {Q : Int → vW → Prop} : VW d 32 75 [(2, x0), (0, x1), (0, x2)] [] w Q ↔ VW d 32 80 [(2, x0), (0, x1), (0, x2)] [(0, 1)] w Q :=
  (VW_b 2 (F := fun n => vrun n d 32 80 [(2, x0), (0, x1), (0, x2)] [(0, 1)] w) (fun _ => rfl)).trans (Iff.rfl)
set_option maxRecDepth 100000 in
theorem b32_79 {d : Nat} {w : vW} {x0 x1 x2 : Int} {Q : Int → vW → Prop} : VW d 32 79 [(2, x0), (0, x1), (0, x2)] [] w Q ↔ VW d 32 80 [(2, x0), (0, x1), (0, x2)] [(0, 0)] w Q :=
  (VW_b 1 (F := fun n => vrun n d 32 80 [(2, x0), (0, x1), (0, x2)] [(0, 0)] w) (fun _ => rfl)).trans (Iff.rfl)
set_option maxRecDepth 100000 in
theorem b32_80 {d : Nat} {w : vW} {x0 x1 x2 y0 : Int} {Q : Int → vW → Prop} : VW d 32 80 [(2, x0), (0, x1), (0, x2)] [(0, y0)] w Q ↔ Q y0 w :=
  (VW_b 1 (F := fun n => some (0, y0, w)) (fun _ => rfl)).trans (EX_ret0)
/-! 33: StrikeWhatCancels.complete(I)I -/
set_option maxRecDepth 100000 in
theorem b33_0 {d : Nat} {w : vW} {x0 x1 : Int} {Q : Int → vW → Prop} : VW d 33 0 [(2, x0), (0, x1), (9, 0), (9, 0), (9, 0)] [] w Q ↔ ((x1 < 0 → VW d 33 10 [(2, x0), (0, x1), (9, 0), (9, 0), (9, 0)] [] w Q) ∧ (¬ (x1 < 0) → VW d 33 4 [(2, x0), (0, x1), (9, 0), (9, 0), (9, 0)] [] w Q)) :=
  (VW_b 2 (F := fun n => (if x1 < 0 then vrun n d 33 10 [(2, x0), (0, x1), (9, 0), (9, 0), (9, 0)] [] w else vrun n d 33 4 [(2, x0), (0, x1), (9, 0), (9, 0), (9, 0)] [] w)) (fun _ => rfl)).trans (EX_br.trans (and_congr (imp_congr Iff.rfl Iff.rfl) (imp_congr Iff.rfl Iff.rfl)))
set_option maxRecDepth 100000 in
theorem b33_4 {d : Nat} {w : vW} {x0 x1 : Int} {Q : Int → vW → Prop} : VW d 33 4 [(2, x0), (0, x1), (9, 0), (9, 0), (9, 0)] [] w Q ↔ ((12 < x1 → VW d 33 10 [(2, x0), (0, x1), (9, 0), (9, 0), (9, 0)] [] w Q) ∧ (¬ (12 < x1) → VW d 33 12 [(2, x0), (0, x1), (9, 0), (9, 0), (9, 0)] [] w Q)) :=
  (VW_b 3 (F := fun n => (if 12 < x1 then vrun n d 33 10 [(2, x0), (0, x1), (9, 0), (9, 0), (9, 0)] [] w else vrun n d 33 12 [(2, x0), (0, x1), (9, 0), (9, 0), (9, 0)] [] w)) (fun _ => rfl)).trans (EX_br.trans (and_congr (imp_congr Iff.rfl Iff.rfl) (imp_congr Iff.rfl Iff.rfl)))
set_option maxRecDepth 100000 in
theorem b33_10 {d : Nat} {w : vW} {x0 x1 : Int} {Q : Int → vW → Prop} : VW d 33 10 [(2, x0), (0, x1), (9, 0), (9, 0), (9, 0)] [] w Q ↔ Q (-1) w :=
  (VW_b 2 (F := fun n => some (0, (-1), w)) (fun _ => rfl)).trans (EX_ret0)
set_option maxRecDepth 100000 in
theorem b33_12 {d : Nat} {w : vW} {x0 x1 : Int} {Q : Int → vW → Prop} : VW d 33 12 [(2, x0), (0, x1), (9, 0), (9, 0), (9, 0)] [] w Q ↔ (vkd w x0 = 21) ∧ VC d 52 [(2, x0)] w (fun r w1 => VW d 33 16 [(2, x0), (0, x1), (9, 0), (9, 0), (9, 0)] [(2, r)] w1 Q) :=
  (VW_b 2 (F := fun n => if vkd w x0 = 21 then vclr (vrun n) d 33 16 52 1 2 [(2, x0), (0, x1), (9, 0), (9, 0), (9, 0)] [(2, x0)] w else none) (fun _ => rfl)).trans (EX_if.trans (and_congr Iff.rfl (EX_call rfl)))
set_option maxRecDepth 100000 in
theorem b33_16 {d : Nat} {w : vW} {x0 x1 y0 : Int} {Q : Int → vW → Prop} : VW d 33 16 [(2, x0), (0, x1), (9, 0), (9, 0), (9, 0)] [(2, y0)] w Q ↔ (vkd w x0 = 21) ∧ (vkd w y0 = 10) ∧ VC d 158 [(2, y0), (2, vct w x0 0), (0, x1)] w (fun _ w1 => VW d 33 26 [(2, x0), (0, x1), (2, y0), (9, 0), (9, 0)] [] w1 Q) :=
  (VW_b 6 (F := fun n => if vkd w x0 = 21 then if vkd w y0 = 10 then vclr (vrun n) d 33 26 158 3 9 [(2, x0), (0, x1), (2, y0), (9, 0), (9, 0)] [(0, x1), (2, vct w x0 0), (2, y0)] w else none else none) (fun _ => rfl)).trans (EX_if.trans (and_congr Iff.rfl (EX_if.trans (and_congr Iff.rfl (EX_call rfl)))))
set_option maxRecDepth 100000 in
theorem b33_26 {d : Nat} {w : vW} {x0 x1 x2 : Int} {Q : Int → vW → Prop} : VW d 33 26 [(2, x0), (0, x1), (2, x2), (9, 0), (9, 0)] [] w Q ↔ (vkd w x2 = 10) ∧ (vkd w x0 = 21) ∧ (vkd w (vct w x0 2) = 20) ∧ VC d 291 [(2, vct w x0 2)] w (fun _ w1 => VW d 33 42 [(2, x0), (0, x1), (2, x2), (0, min x1 (vct w x2 5)), (9, 0)] [] w1 Q) :=
  (VW_b 8 (F := fun n => if vkd w x2 = 10 then if vkd w x0 = 21 then if vkd w (vct w x0 2) = 20 then vclr (vrun n) d 33 42 291 1 9 [(2, x0), (0, x1), (2, x2), (0, min x1 (vct w x2 5)), (9, 0)] [(2, vct w x0 2)] w else none else none else none) (fun _ => rfl)).trans (EX_if.trans (and_congr Iff.rfl (EX_if.trans (and_congr Iff.rfl (EX_if.trans (and_congr Iff.rfl (EX_call rfl)))))))
set_option maxRecDepth 100000 in
theorem b33_42 {d : Nat} {w : vW} {x0 x1 x2 x3 : Int} {Q : Int → vW → Prop} : VW d 33 42 [(2, x0), (0, x1), (2, x2), (0, x3), (9, 0)] [] w Q ↔ VW d 33 45 [(2, x0), (0, x1), (2, x2), (0, x3), (0, 0)] [] w Q :=
  (VW_b 2 (F := fun n => vrun n d 33 45 [(2, x0), (0, x1), (2, x2), (0, x3), (0, 0)] [] w) (fun _ => rfl)).trans (Iff.rfl)
set_option maxRecDepth 100000 in
theorem b33_45 {d : Nat} {w : vW} {x0 x1 x2 x3 x4 : Int} {Q : Int → vW → Prop} : VW d 33 45 [(2, x0), (0, x1), (2, x2), (0, x3), (0, x4)] [] w Q ↔ ((x4 < x3 → VW d 33 51 [(2, x0), (0, x1), (2, x2), (0, x3), (0, x4)] [] w Q) ∧ (¬ (x4 < x3) → VW d 33 111 [(2, x0), (0, x1), (2, x2), (0, x3), (0, x4)] [] w Q)) :=
  (VW_b 3 (F := fun n => (if x4 < x3 then vrun n d 33 51 [(2, x0), (0, x1), (2, x2), (0, x3), (0, x4)] [] w else vrun n d 33 111 [(2, x0), (0, x1), (2, x2), (0, x3), (0, x4)] [] w)) (fun _ => rfl)).trans (EX_br.trans (and_congr (imp_congr Iff.rfl Iff.rfl) (imp_congr Iff.rfl Iff.rfl)))
set_option maxRecDepth 100000 in
theorem b33_51 {d : Nat} {w : vW} {x0 x1 x2 x3 x4 : Int} {Q : Int → vW → Prop} : VW d 33 51 [(2, x0), (0, x1), (2, x2), (0, x3), (0, x4)] [] w Q ↔ (vkd w x0 = 21) ∧ (vkd w x2 = 10) ∧ (vkd w x0 = 21) ∧ (vkd w (vct w x0 0) = 18) ∧ (vkd w (vct w x2 0) = 18) ∧ VC d 252 [(2, vct w x2 0), (0, w32 ((vct w (vct w x0 0) 3) + x4))] w (fun r w1 => VW d 33 72 [(2, x0), (0, x1), (2, x2), (0, x3), (0, x4)] [(1, r), (2, vct w x0 2)] w1 Q) :=
  (VW_b 10 (F := fun n => if vkd w x0 = 21 then if vkd w x2 = 10 then if vkd w x0 = 21 then if vkd w (vct w x0 0) = 18 then if vkd w (vct w x2 0) = 18 then vclr (vrun n) d 33 72 252 2 1 [(2, x0), (0, x1), (2, x2), (0, x3), (0, x4)] [(0, w32 ((vct w (vct w x0 0) 3) + x4)), (2, vct w x2 0), (2, vct w x0 2)] w else none else none else none else none else none) (fun _ => rfl)).trans (EX_if.trans (and_congr Iff.rfl (EX_if.trans (and_congr Iff.rfl (EX_if.trans (and_congr Iff.rfl (EX_if.trans (and_congr Iff.rfl (EX_if.trans (and_congr Iff.rfl (EX_call rfl)))))))))))
set_option maxRecDepth 100000 in
theorem b33_72 {d : Nat} {w : vW} {x0 x1 x2 x3 x4 y0 y1 : Int} {Q : Int → vW → Prop} : VW d 33 72 [(2, x0), (0, x1), (2, x2), (0, x3), (0, x4)] [(1, y1), (2, y0)] w Q ↔ VC d 281 [(1, y1)] w (fun r w1 => VW d 33 75 [(2, x0), (0, x1), (2, x2), (0, x3), (0, x4)] [(1, r), (2, y0)] w1 Q) :=
  (VW_b 1 (F := fun n => vclr (vrun n) d 33 75 281 1 1 [(2, x0), (0, x1), (2, x2), (0, x3), (0, x4)] [(1, y1), (2, y0)] w) (fun _ => rfl)).trans (EX_call rfl)
set_option maxRecDepth 100000 in
theorem b33_75 {d : Nat} {w : vW} {x0 x1 x2 x3 x4 y0 y1 : Int} {Q : Int → vW → Prop} : VW d 33 75 [(2, x0), (0, x1), (2, x2), (0, x3), (0, x4)] [(1, y1), (2, y0)] w Q ↔ (vkd w y0 = 20) ∧ VC d 293 [(2, y0), (1, y1)] w (fun _ w1 => VW d 33 78 [(2, x0), (0, x1), (2, x2), (0, x3), (0, x4)] [] w1 Q) :=
  (VW_b 1 (F := fun n => if vkd w y0 = 20 then vclr (vrun n) d 33 78 293 2 9 [(2, x0), (0, x1), (2, x2), (0, x3), (0, x4)] [(1, y1), (2, y0)] w else none) (fun _ => rfl)).trans (EX_if.trans (and_congr Iff.rfl (EX_call rfl)))
set_option maxRecDepth 100000 in
theorem b33_78 {d : Nat} {w : vW} {x0 x1 x2 x3 x4 : Int} {Q : Int → vW → Prop} : VW d 33 78 [(2, x0), (0, x1), (2, x2), (0, x3), (0, x4)] [] w Q ↔ (vkd w x0 = 21) ∧ (vkd w x2 = 10) ∧ (vkd w x0 = 21) ∧ (vkd w (vct w x0 0) = 18) ∧ (vkd w (vct w x2 0) = 18) ∧ VC d 253 [(2, vct w x2 0), (0, w32 ((vct w (vct w x0 0) 3) + x4))] w (fun r w1 => VW d 33 99 [(2, x0), (0, x1), (2, x2), (0, x3), (0, x4)] [(1, r), (2, vct w x0 2)] w1 Q) :=
  (VW_b 10 (F := fun n => if vkd w x0 = 21 then if vkd w x2 = 10 then if vkd w x0 = 21 then if vkd w (vct w x0 0) = 18 then if vkd w (vct w x2 0) = 18 then vclr (vrun n) d 33 99 253 2 1 [(2, x0), (0, x1), (2, x2), (0, x3), (0, x4)] [(0, w32 ((vct w (vct w x0 0) 3) + x4)), (2, vct w x2 0), (2, vct w x0 2)] w else none else none else none else none else none) (fun _ => rfl)).trans (EX_if.trans (and_congr Iff.rfl (EX_if.trans (and_congr Iff.rfl (EX_if.trans (and_congr Iff.rfl (EX_if.trans (and_congr Iff.rfl (EX_if.trans (and_congr Iff.rfl (EX_call rfl)))))))))))
set_option maxRecDepth 100000 in
theorem b33_99 {d : Nat} {w : vW} {x0 x1 x2 x3 x4 y0 y1 : Int} {Q : Int → vW → Prop} : VW d 33 99 [(2, x0), (0, x1), (2, x2), (0, x3), (0, x4)] [(1, y1), (2, y0)] w Q ↔ VC d 281 [(1, y1)] w (fun r w1 => VW d 33 102 [(2, x0), (0, x1), (2, x2), (0, x3), (0, x4)] [(1, r), (2, y0)] w1 Q) :=
  (VW_b 1 (F := fun n => vclr (vrun n) d 33 102 281 1 1 [(2, x0), (0, x1), (2, x2), (0, x3), (0, x4)] [(1, y1), (2, y0)] w) (fun _ => rfl)).trans (EX_call rfl)
set_option maxRecDepth 100000 in
theorem b33_102 {d : Nat} {w : vW} {x0 x1 x2 x3 x4 y0 y1 : Int} {Q : Int → vW → Prop} : VW d 33 102 [(2, x0), (0, x1), (2, x2), (0, x3), (0, x4)] [(1, y1), (2, y0)] w Q ↔ (vkd w y0 = 20) ∧ VC d 293 [(2, y0), (1, y1)] w (fun _ w1 => VW d 33 105 [(2, x0), (0, x1), (2, x2), (0, x3), (0, x4)] [] w1 Q) :=
  (VW_b 1 (F := fun n => if vkd w y0 = 20 then vclr (vrun n) d 33 105 293 2 9 [(2, x0), (0, x1), (2, x2), (0, x3), (0, x4)] [(1, y1), (2, y0)] w else none) (fun _ => rfl)).trans (EX_if.trans (and_congr Iff.rfl (EX_call rfl)))
set_option maxRecDepth 100000 in
theorem b33_105 {d : Nat} {w : vW} {x0 x1 x2 x3 x4 : Int} {Q : Int → vW → Prop} : VW d 33 105 [(2, x0), (0, x1), (2, x2), (0, x3), (0, x4)] [] w Q ↔ VW d 33 45 [(2, x0), (0, x1), (2, x2), (0, x3), (0, w32 (x4 + 1))] [] w Q :=
  (VW_b 2 (F := fun n => vrun n d 33 45 [(2, x0), (0, x1), (2, x2), (0, x3), (0, w32 (x4 + 1))] [] w) (fun _ => rfl)).trans (Iff.rfl)
set_option maxRecDepth 100000 in
theorem b33_111 {d : Nat} {w : vW} {x0 x1 x2 x3 x4 : Int} {Q : Int → vW → Prop} : VW d 33 111 [(2, x0), (0, x1), (2, x2), (0, x3), (0, x4)] [] w Q ↔ (vkd w x2 = 10) ∧ (((vct w x2 4) = 0 → VW d 33 130 [(2, x0), (0, x1), (2, x2), (0, x3), (0, x4)] [] w Q) ∧ (¬ ((vct w x2 4) = 0) → VW d 33 118 [(2, x0), (0, x1), (2, x2), (0, x3), (0, x4)] [] w Q)) :=
  (VW_b 3 (F := fun n => if vkd w x2 = 10 then (if (vct w x2 4) = 0 then vrun n d 33 130 [(2, x0), (0, x1), (2, x2), (0, x3), (0, x4)] [] w else vrun n d 33 118 [(2, x0), (0, x1), (2, x2), (0, x3), (0, x4)] [] w) else none) (fun _ => rfl)).trans (EX_if.trans (and_congr Iff.rfl (EX_br.trans (and_congr (imp_congr Iff.rfl Iff.rfl) (imp_congr Iff.rfl Iff.rfl)))))
set_option maxRecDepth 100000 in
theorem b33_118 {d : Nat} {w : vW} {x0 x1 x2 x3 x4 : Int} {Q : Int → vW → Prop} : VW d 33 118 [(2, x0), (0, x1), (2, x2), (0, x3), (0, x4)] [] w Q ↔ (vkd w x2 = 10) ∧ ((x1 < (vct w x2 5) → VW d 33 130 [(2, x0), (0, x1), (2, x2), (0, x3), (0, x4)] [] w Q) ∧ (¬ (x1 < (vct w x2 5)) → VW d 33 126 [(2, x0), (0, x1), (2, x2), (0, x3), (0, x4)] [] w Q)) :=
  (VW_b 4 (F := fun n => if vkd w x2 = 10 then (if x1 < (vct w x2 5) then vrun n d 33 130 [(2, x0), (0, x1), (2, x2), (0, x3), (0, x4)] [] w else vrun n d 33 126 [(2, x0), (0, x1), (2, x2), (0, x3), (0, x4)] [] w) else none) (fun _ => rfl)).trans (EX_if.trans (and_congr Iff.rfl (EX_br.trans (and_congr (imp_congr Iff.rfl Iff.rfl) (imp_congr Iff.rfl Iff.rfl)))))
set_option maxRecDepth 100000 in
theorem b33_126 {d : Nat} {w : vW} {x0 x1 x2 x3 x4 : Int} {Q : Int → vW → Prop} : VW d 33 126 [(2, x0), (0, x1), (2, x2), (0, x3), (0, x4)] [] w Q ↔ VW d 33 132 [(2, x0), (0, x1), (2, x2), (0, x3), (0, x4)] [(0, x3)] w Q :=
  (VW_b 2 (F := fun n => vrun n d 33 132 [(2, x0), (0, x1), (2, x2), (0, x3), (0, x4)] [(0, x3)] w) (fun _ => rfl)).trans (Iff.rfl)
set_option maxRecDepth 100000 in
theorem b33_130 {d : Nat} {w : vW} {x0 x1 x2 x3 x4 : Int} {Q : Int → vW → Prop} : VW d 33 130 [(2, x0), (0, x1), (2, x2), (0, x3), (0, x4)] [] w Q ↔ VW d 33 132 [(2, x0), (0, x1), (2, x2), (0, x3), (0, x4)] [(0, (-2))] w Q :=
  (VW_b 1 (F := fun n => vrun n d 33 132 [(2, x0), (0, x1), (2, x2), (0, x3), (0, x4)] [(0, (-2))] w) (fun _ => rfl)).trans (Iff.rfl)
set_option maxRecDepth 100000 in
theorem b33_132 {d : Nat} {w : vW} {x0 x1 x2 x3 x4 y0 : Int} {Q : Int → vW → Prop} : VW d 33 132 [(2, x0), (0, x1), (2, x2), (0, x3), (0, x4)] [(0, y0)] w Q ↔ Q y0 w :=
  (VW_b 1 (F := fun n => some (0, y0, w)) (fun _ => rfl)).trans (EX_ret0)
/-! 34: StrikeWhatCancels.same(JJ)I -/
set_option maxRecDepth 100000 in
theorem b34_0 {d : Nat} {w : vW} {x0 x1 x3 : Int} {Q : Int → vW → Prop} : VW d 34 0 [(2, x0), (1, x1), (9, 0), (1, x3), (9, 0), (9, 0), (9, 0), (9, 0), (9, 0), (9, 0), (9, 0), (9, 0), (9, 0), (9, 0)] [] w Q ↔ VC d 280 [(1, x1)] w (fun r w1 => VW d 34 4 [(2, x0), (1, x1), (9, 0), (1, x3), (9, 0), (9, 0), (9, 0), (9, 0), (9, 0), (9, 0), (9, 0), (9, 0), (9, 0), (9, 0)] [(1, r)] w1 Q) :=
  (VW_b 2 (F := fun n => vclr (vrun n) d 34 4 280 1 1 [(2, x0), (1, x1), (9, 0), (1, x3), (9, 0), (9, 0), (9, 0), (9, 0), (9, 0), (9, 0), (9, 0), (9, 0), (9, 0), (9, 0)] [(1, x1)] w) (fun _ => rfl)).trans (EX_call rfl)
set_option maxRecDepth 100000 in
theorem b34_4 {d : Nat} {w : vW} {x0 x1 x3 y0 : Int} {Q : Int → vW → Prop} : VW d 34 4 [(2, x0), (1, x1), (9, 0), (1, x3), (9, 0), (9, 0), (9, 0), (9, 0), (9, 0), (9, 0), (9, 0), (9, 0), (9, 0), (9, 0)] [(1, y0)] w Q ↔ VC d 280 [(1, x3)] w (fun r w1 => VW d 34 10 [(2, x0), (1, x1), (9, 0), (1, x3), (9, 0), (1, y0), (9, 0), (9, 0), (9, 0), (9, 0), (9, 0), (9, 0), (9, 0), (9, 0)] [(1, r)] w1 Q) :=
  (VW_b 3 (F := fun n => vclr (vrun n) d 34 10 280 1 1 [(2, x0), (1, x1), (9, 0), (1, x3), (9, 0), (1, y0), (9, 0), (9, 0), (9, 0), (9, 0), (9, 0), (9, 0), (9, 0), (9, 0)] [(1, x3)] w) (fun _ => rfl)).trans (EX_call rfl)
set_option maxRecDepth 100000 in
theorem b34_10 {d : Nat} {w : vW} {x0 x1 x3 x5 y0 : Int} {Q : Int → vW → Prop} : VW d 34 10 [(2, x0), (1, x1), (9, 0), (1, x3), (9, 0), (1, x5), (9, 0), (9, 0), (9, 0), (9, 0), (9, 0), (9, 0), (9, 0), (9, 0)] [(1, y0)] w Q ↔ (((vlc x5 0) < 0 → VW d 34 26 [(2, x0), (1, x1), (9, 0), (1, x3), (9, 0), (1, x5), (9, 0), (1, y0), (9, 0), (9, 0), (9, 0), (9, 0), (9, 0), (9, 0)] [] w Q) ∧ (¬ ((vlc x5 0) < 0) → VW d 34 19 [(2, x0), (1, x1), (9, 0), (1, x3), (9, 0), (1, x5), (9, 0), (1, y0), (9, 0), (9, 0), (9, 0), (9, 0), (9, 0), (9, 0)] [] w Q)) :=
  (VW_b 5 (F := fun n => (if (vlc x5 0) < 0 then vrun n d 34 26 [(2, x0), (1, x1), (9, 0), (1, x3), (9, 0), (1, x5), (9, 0), (1, y0), (9, 0), (9, 0), (9, 0), (9, 0), (9, 0), (9, 0)] [] w else vrun n d 34 19 [(2, x0), (1, x1), (9, 0), (1, x3), (9, 0), (1, x5), (9, 0), (1, y0), (9, 0), (9, 0), (9, 0), (9, 0), (9, 0), (9, 0)] [] w)) (fun _ => rfl)).trans (EX_br.trans (and_congr (imp_congr Iff.rfl Iff.rfl) (imp_congr Iff.rfl Iff.rfl)))
set_option maxRecDepth 100000 in
theorem b34_19 {d : Nat} {w : vW} {x0 x1 x3 x5 x7 : Int} {Q : Int → vW → Prop} : VW d 34 19 [(2, x0), (1, x1), (9, 0), (1, x3), (9, 0), (1, x5), (9, 0), (1, x7), (9, 0), (9, 0), (9, 0), (9, 0), (9, 0), (9, 0)] [] w Q ↔ (((vlc x7 0) < 0 → VW d 34 26 [(2, x0), (1, x1), (9, 0), (1, x3), (9, 0), (1, x5), (9, 0), (1, x7), (9, 0), (9, 0), (9, 0), (9, 0), (9, 0), (9, 0)] [] w Q) ∧ (¬ ((vlc x7 0) < 0) → VW d 34 28 [(2, x0), (1, x1), (9, 0), (1, x3), (9, 0), (1, x5), (9, 0), (1, x7), (9, 0), (9, 0), (9, 0), (9, 0), (9, 0), (9, 0)] [] w Q)) :=
  (VW_b 4 (F := fun n => (if (vlc x7 0) < 0 then vrun n d 34 26 [(2, x0), (1, x1), (9, 0), (1, x3), (9, 0), (1, x5), (9, 0), (1, x7), (9, 0), (9, 0), (9, 0), (9, 0), (9, 0), (9, 0)] [] w else vrun n d 34 28 [(2, x0), (1, x1), (9, 0), (1, x3), (9, 0), (1, x5), (9, 0), (1, x7), (9, 0), (9, 0), (9, 0), (9, 0), (9, 0), (9, 0)] [] w)) (fun _ => rfl)).trans (EX_br.trans (and_congr (imp_congr Iff.rfl Iff.rfl) (imp_congr Iff.rfl Iff.rfl)))
set_option maxRecDepth 100000 in
theorem b34_26 {d : Nat} {w : vW} {x0 x1 x3 x5 x7 : Int} {Q : Int → vW → Prop} : VW d 34 26 [(2, x0), (1, x1), (9, 0), (1, x3), (9, 0), (1, x5), (9, 0), (1, x7), (9, 0), (9, 0), (9, 0), (9, 0), (9, 0), (9, 0)] [] w Q ↔ Q (-1) w :=
  (VW_b 2 (F := fun n => some (0, (-1), w)) (fun _ => rfl)).trans (EX_ret0)
set_option maxRecDepth 100000 in
theorem b34_28 {d : Nat} {w : vW} {x0 x1 x3 x5 x7 : Int} {Q : Int → vW → Prop} : VW d 34 28 [(2, x0), (1, x1), (9, 0), (1, x3), (9, 0), (1, x5), (9, 0), (1, x7), (9, 0), (9, 0), (9, 0), (9, 0), (9, 0), (9, 0)] [] w Q ↔ (vkd w x0 = 21) ∧ VC d 52 [(2, x0)] w (fun r w1 => VW d 34 32 [(2, x0), (1, x1), (9, 0), (1, x3), (9, 0), (1, x5), (9, 0), (1, x7), (9, 0), (9, 0), (9, 0), (9, 0), (9, 0), (9, 0)] [(2, r)] w1 Q) :=
  (VW_b 2 (F := fun n => if vkd w x0 = 21 then vclr (vrun n) d 34 32 52 1 2 [(2, x0), (1, x1), (9, 0), (1, x3), (9, 0), (1, x5), (9, 0), (1, x7), (9, 0), (9, 0), (9, 0), (9, 0), (9, 0), (9, 0)] [(2, x0)] w else none) (fun _ => rfl)).trans (EX_if.trans (and_congr Iff.rfl (EX_call rfl)))
set_option maxRecDepth 100000 in
theorem b34_32 {d : Nat} {w : vW} {x0 x1 x3 x5 x7 y0 : Int} {Q : Int → vW → Prop} : VW d 34 32 [(2, x0), (1, x1), (9, 0), (1, x3), (9, 0), (1, x5), (9, 0), (1, x7), (9, 0), (9, 0), (9, 0), (9, 0), (9, 0), (9, 0)] [(2, y0)] w Q ↔ (vkd w x0 = 21) ∧ (vkd w y0 = 10) ∧ VC d 158 [(2, y0), (2, vct w x0 0), (0, 12)] w (fun _ w1 => VW d 34 45 [(2, x0), (1, x1), (9, 0), (1, x3), (9, 0), (1, x5), (9, 0), (1, x7), (9, 0), (2, y0), (9, 0), (9, 0), (9, 0), (9, 0)] [] w1 Q) :=
  (VW_b 6 (F := fun n => if vkd w x0 = 21 then if vkd w y0 = 10 then vclr (vrun n) d 34 45 158 3 9 [(2, x0), (1, x1), (9, 0), (1, x3), (9, 0), (1, x5), (9, 0), (1, x7), (9, 0), (2, y0), (9, 0), (9, 0), (9, 0), (9, 0)] [(0, 12), (2, vct w x0 0), (2, y0)] w else none else none) (fun _ => rfl)).trans (EX_if.trans (and_congr Iff.rfl (EX_if.trans (and_congr Iff.rfl (EX_call rfl)))))
set_option maxRecDepth 100000 in
theorem b34_45 {d : Nat} {w : vW} {x0 x1 x3 x5 x7 x9 : Int} {Q : Int → vW → Prop} : VW d 34 45 [(2, x0), (1, x1), (9, 0), (1, x3), (9, 0), (1, x5), (9, 0), (1, x7), (9, 0), (2, x9), (9, 0), (9, 0), (9, 0), (9, 0)] [] w Q ↔ (vkd w x9 = 10) ∧ (vkd w (vct w x9 0) = 18) ∧ VC d 265 [(2, vct w x9 0), (0, 0), (1, x5)] w (fun r w1 => VW d 34 56 [(2, x0), (1, x1), (9, 0), (1, x3), (9, 0), (1, x5), (9, 0), (1, x7), (9, 0), (2, x9), (9, 0), (9, 0), (9, 0), (9, 0)] [(1, r)] w1 Q) :=
  (VW_b 5 (F := fun n => if vkd w x9 = 10 then if vkd w (vct w x9 0) = 18 then vclr (vrun n) d 34 56 265 3 1 [(2, x0), (1, x1), (9, 0), (1, x3), (9, 0), (1, x5), (9, 0), (1, x7), (9, 0), (2, x9), (9, 0), (9, 0), (9, 0), (9, 0)] [(1, x5), (0, 0), (2, vct w x9 0)] w else none else none) (fun _ => rfl)).trans (EX_if.trans (and_congr Iff.rfl (EX_if.trans (and_congr Iff.rfl (EX_call rfl)))))
set_option maxRecDepth 100000 in
theorem b34_56 {d : Nat} {w : vW} {x0 x1 x3 x5 x7 x9 y0 : Int} {Q : Int → vW → Prop} : VW d 34 56 [(2, x0), (1, x1), (9, 0), (1, x3), (9, 0), (1, x5), (9, 0), (1, x7), (9, 0), (2, x9), (9, 0), (9, 0), (9, 0), (9, 0)] [(1, y0)] w Q ↔ (vkd w x9 = 10) ∧ (vkd w (vct w x9 0) = 18) ∧ VC d 265 [(2, vct w x9 0), (0, 0), (1, x7)] w (fun r w1 => VW d 34 69 [(2, x0), (1, x1), (9, 0), (1, x3), (9, 0), (1, x5), (9, 0), (1, x7), (9, 0), (2, x9), (1, y0), (9, 0), (9, 0), (9, 0)] [(1, r)] w1 Q) :=
  (VW_b 6 (F := fun n => if vkd w x9 = 10 then if vkd w (vct w x9 0) = 18 then vclr (vrun n) d 34 69 265 3 1 [(2, x0), (1, x1), (9, 0), (1, x3), (9, 0), (1, x5), (9, 0), (1, x7), (9, 0), (2, x9), (1, y0), (9, 0), (9, 0), (9, 0)] [(1, x7), (0, 0), (2, vct w x9 0)] w else none else none) (fun _ => rfl)).trans (EX_if.trans (and_congr Iff.rfl (EX_if.trans (and_congr Iff.rfl (EX_call rfl)))))
set_option maxRecDepth 100000 in
theorem b34_69 {d : Nat} {w : vW} {x0 x1 x3 x5 x7 x9 x10 y0 : Int} {Q : Int → vW → Prop} : VW d 34 69 [(2, x0), (1, x1), (9, 0), (1, x3), (9, 0), (1, x5), (9, 0), (1, x7), (9, 0), (2, x9), (1, x10), (9, 0), (9, 0), (9, 0)] [(1, y0)] w Q ↔ (vkd w x0 = 21) ∧ (vkd w (vct w x0 2) = 20) ∧ VC d 291 [(2, vct w x0 2)] w (fun _ w1 => VW d 34 78 [(2, x0), (1, x1), (9, 0), (1, x3), (9, 0), (1, x5), (9, 0), (1, x7), (9, 0), (2, x9), (1, x10), (9, 0), (1, y0), (9, 0)] [] w1 Q) :=
  (VW_b 4 (F := fun n => if vkd w x0 = 21 then if vkd w (vct w x0 2) = 20 then vclr (vrun n) d 34 78 291 1 9 [(2, x0), (1, x1), (9, 0), (1, x3), (9, 0), (1, x5), (9, 0), (1, x7), (9, 0), (2, x9), (1, x10), (9, 0), (1, y0), (9, 0)] [(2, vct w x0 2)] w else none else none) (fun _ => rfl)).trans (EX_if.trans (and_congr Iff.rfl (EX_if.trans (and_congr Iff.rfl (EX_call rfl)))))
set_option maxRecDepth 100000 in
theorem b34_78 {d : Nat} {w : vW} {x0 x1 x3 x5 x7 x9 x10 x12 : Int} {Q : Int → vW → Prop} : VW d 34 78 [(2, x0), (1, x1), (9, 0), (1, x3), (9, 0), (1, x5), (9, 0), (1, x7), (9, 0), (2, x9), (1, x10), (9, 0), (1, x12), (9, 0)] [] w Q ↔ (vkd w x0 = 21) ∧ VC d 281 [(1, x10)] w (fun r w1 => VW d 34 87 [(2, x0), (1, x1), (9, 0), (1, x3), (9, 0), (1, x5), (9, 0), (1, x7), (9, 0), (2, x9), (1, x10), (9, 0), (1, x12), (9, 0)] [(1, r), (2, vct w x0 2)] w1 Q) :=
  (VW_b 4 (F := fun n => if vkd w x0 = 21 then vclr (vrun n) d 34 87 281 1 1 [(2, x0), (1, x1), (9, 0), (1, x3), (9, 0), (1, x5), (9, 0), (1, x7), (9, 0), (2, x9), (1, x10), (9, 0), (1, x12), (9, 0)] [(1, x10), (2, vct w x0 2)] w else none) (fun _ => rfl)).trans (EX_if.trans (and_congr Iff.rfl (EX_call rfl)))
set_option maxRecDepth 100000 in
theorem b34_87 {d : Nat} {w : vW} {x0 x1 x3 x5 x7 x9 x10 x12 y0 y1 : Int} {Q : Int → vW → Prop} : VW d 34 87 [(2, x0), (1, x1), (9, 0), (1, x3), (9, 0), (1, x5), (9, 0), (1, x7), (9, 0), (2, x9), (1, x10), (9, 0), (1, x12), (9, 0)] [(1, y1), (2, y0)] w Q ↔ (vkd w y0 = 20) ∧ VC d 293 [(2, y0), (1, y1)] w (fun _ w1 => VW d 34 90 [(2, x0), (1, x1), (9, 0), (1, x3), (9, 0), (1, x5), (9, 0), (1, x7), (9, 0), (2, x9), (1, x10), (9, 0), (1, x12), (9, 0)] [] w1 Q) :=
  (VW_b 1 (F := fun n => if vkd w y0 = 20 then vclr (vrun n) d 34 90 293 2 9 [(2, x0), (1, x1), (9, 0), (1, x3), (9, 0), (1, x5), (9, 0), (1, x7), (9, 0), (2, x9), (1, x10), (9, 0), (1, x12), (9, 0)] [(1, y1), (2, y0)] w else none) (fun _ => rfl)).trans (EX_if.trans (and_congr Iff.rfl (EX_call rfl)))
set_option maxRecDepth 100000 in
theorem b34_90 {d : Nat} {w : vW} {x0 x1 x3 x5 x7 x9 x10 x12 : Int} {Q : Int → vW → Prop} : VW d 34 90 [(2, x0), (1, x1), (9, 0), (1, x3), (9, 0), (1, x5), (9, 0), (1, x7), (9, 0), (2, x9), (1, x10), (9, 0), (1, x12), (9, 0)] [] w Q ↔ (vkd w x0 = 21) ∧ VC d 281 [(1, x12)] w (fun r w1 => VW d 34 99 [(2, x0), (1, x1), (9, 0), (1, x3), (9, 0), (1, x5), (9, 0), (1, x7), (9, 0), (2, x9), (1, x10), (9, 0), (1, x12), (9, 0)] [(1, r), (2, vct w x0 2)] w1 Q) :=
  (VW_b 4 (F := fun n => if vkd w x0 = 21 then vclr (vrun n) d 34 99 281 1 1 [(2, x0), (1, x1), (9, 0), (1, x3), (9, 0), (1, x5), (9, 0), (1, x7), (9, 0), (2, x9), (1, x10), (9, 0), (1, x12), (9, 0)] [(1, x12), (2, vct w x0 2)] w else none) (fun _ => rfl)).trans (EX_if.trans (and_congr Iff.rfl (EX_call rfl)))
set_option maxRecDepth 100000 in
theorem b34_99 {d : Nat} {w : vW} {x0 x1 x3 x5 x7 x9 x10 x12 y0 y1 : Int} {Q : Int → vW → Prop} : VW d 34 99 [(2, x0), (1, x1), (9, 0), (1, x3), (9, 0), (1, x5), (9, 0), (1, x7), (9, 0), (2, x9), (1, x10), (9, 0), (1, x12), (9, 0)] [(1, y1), (2, y0)] w Q ↔ (vkd w y0 = 20) ∧ VC d 293 [(2, y0), (1, y1)] w (fun _ w1 => VW d 34 102 [(2, x0), (1, x1), (9, 0), (1, x3), (9, 0), (1, x5), (9, 0), (1, x7), (9, 0), (2, x9), (1, x10), (9, 0), (1, x12), (9, 0)] [] w1 Q) :=
  (VW_b 1 (F := fun n => if vkd w y0 = 20 then vclr (vrun n) d 34 102 293 2 9 [(2, x0), (1, x1), (9, 0), (1, x3), (9, 0), (1, x5), (9, 0), (1, x7), (9, 0), (2, x9), (1, x10), (9, 0), (1, x12), (9, 0)] [(1, y1), (2, y0)] w else none) (fun _ => rfl)).trans (EX_if.trans (and_congr Iff.rfl (EX_call rfl)))
set_option maxRecDepth 100000 in
theorem b34_102 {d : Nat} {w : vW} {x0 x1 x3 x5 x7 x9 x10 x12 : Int} {Q : Int → vW → Prop} : VW d 34 102 [(2, x0), (1, x1), (9, 0), (1, x3), (9, 0), (1, x5), (9, 0), (1, x7), (9, 0), (2, x9), (1, x10), (9, 0), (1, x12), (9, 0)] [] w Q ↔ (((vlc x10 x12) = 0 → VW d 34 110 [(2, x0), (1, x1), (9, 0), (1, x3), (9, 0), (1, x5), (9, 0), (1, x7), (9, 0), (2, x9), (1, x10), (9, 0), (1, x12), (9, 0)] [] w Q) ∧ (¬ ((vlc x10 x12) = 0) → VW d 34 112 [(2, x0), (1, x1), (9, 0), (1, x3), (9, 0), (1, x5), (9, 0), (1, x7), (9, 0), (2, x9), (1, x10), (9, 0), (1, x12), (9, 0)] [] w Q)) :=
  (VW_b 4 (F := fun n => (if (vlc x10 x12) = 0 then vrun n d 34 110 [(2, x0), (1, x1), (9, 0), (1, x3), (9, 0), (1, x5), (9, 0), (1, x7), (9, 0), (2, x9), (1, x10), (9, 0), (1, x12), (9, 0)] [] w else vrun n d 34 112 [(2, x0), (1, x1), (9, 0), (1, x3), (9, 0), (1, x5), (9, 0), (1, x7), (9, 0), (2, x9), (1, x10), (9, 0), (1, x12), (9, 0)] [] w)) (fun _ => rfl)).trans (EX_br.trans (and_congr (imp_congr Iff.rfl Iff.rfl) (imp_congr Iff.rfl Iff.rfl)))
set_option maxRecDepth 100000 in
theorem b34_110 {d : Nat} {w : vW} {x0 x1 x3 x5 x7 x9 x10 x12 : Int} {Q : Int → vW → Prop} : VW d 34 110 [(2, x0), (1, x1), (9, 0), (1, x3), (9, 0), (1, x5), (9, 0), (1, x7), (9, 0), (2, x9), (1, x10), (9, 0), (1, x12), (9, 0)] [] w Q ↔ Q 1 w :=
  (VW_b 2 (F := fun n => some (0, 1, w)) (fun _ => rfl)).trans (EX_ret0)
set_option maxRecDepth 100000 in
theorem b34_112 {d : Nat} {w : vW} {x0 x1 x3 x5 x7 x9 x10 x12 : Int} {Q : Int → vW → Prop} : VW d 34 112 [(2, x0), (1, x1), (9, 0), (1, x3), (9, 0), (1, x5), (9, 0), (1, x7), (9, 0), (2, x9), (1, x10), (9, 0), (1, x12), (9, 0)] [] w Q ↔ (vkd w x9 = 10) ∧ (((vct w x9 4) = 0 → VW d 34 124 [(2, x0), (1, x1), (9, 0), (1, x3), (9, 0), (1, x5), (9, 0), (1, x7), (9, 0), (2, x9), (1, x10), (9, 0), (1, x12), (9, 0)] [] w Q) ∧ (¬ ((vct w x9 4) = 0) → VW d 34 120 [(2, x0), (1, x1), (9, 0), (1, x3), (9, 0), (1, x5), (9, 0), (1, x7), (9, 0), (2, x9), (1, x10), (9, 0), (1, x12), (9, 0)] [] w Q)) :=
  (VW_b 3 (F := fun n => if vkd w x9 = 10 then (if (vct w x9 4) = 0 then vrun n d 34 124 [(2, x0), (1, x1), (9, 0), (1, x3), (9, 0), (1, x5), (9, 0), (1, x7), (9, 0), (2, x9), (1, x10), (9, 0), (1, x12), (9, 0)] [] w else vrun n d 34 120 [(2, x0), (1, x1), (9, 0), (1, x3), (9, 0), (1, x5), (9, 0), (1, x7), (9, 0), (2, x9), (1, x10), (9, 0), (1, x12), (9, 0)] [] w) else none) (fun _ => rfl)).trans (EX_if.trans (and_congr Iff.rfl (EX_br.trans (and_congr (imp_congr Iff.rfl Iff.rfl) (imp_congr Iff.rfl Iff.rfl)))))
set_option maxRecDepth 100000 in
theorem b34_120 {d : Nat} {w : vW} {x0 x1 x3 x5 x7 x9 x10 x12 : Int} {Q : Int → vW → Prop} : VW d 34 120 [(2, x0), (1, x1), (9, 0), (1, x3), (9, 0), (1, x5), (9, 0), (1, x7), (9, 0), (2, x9), (1, x10), (9, 0), (1, x12), (9, 0)] [] w Q ↔ VW d 34 126 [(2, x0), (1, x1), (9, 0), (1, x3), (9, 0), (1, x5), (9, 0), (1, x7), (9, 0), (2, x9), (1, x10), (9, 0), (1, x12), (9, 0)] [(0, 0)] w Q :=
  (VW_b 2 (F := fun n => vrun n d 34 126 [(2, x0), (1, x1), (9, 0), (1, x3), (9, 0), (1, x5), (9, 0), (1, x7), (9, 0), (2, x9), (1, x10), (9, 0), (1, x12), (9, 0)] [(0, 0)] w) (fun _ => rfl)).trans (Iff.rfl)
set_option maxRecDepth 100000 in
theorem b34_124 {d : Nat} {w : vW} {x0 x1 x3 x5 x7 x9 x10 x12 : Int} {Q : Int → vW → Prop} : VW d 34 124 [(2, x0), (1, x1), (9, 0), (1, x3), (9, 0), (1, x5), (9, 0), (1, x7), (9, 0), (2, x9), (1, x10), (9, 0), (1, x12), (9, 0)] [] w Q ↔ VW d 34 126 [(2, x0), (1, x1), (9, 0), (1, x3), (9, 0), (1, x5), (9, 0), (1, x7), (9, 0), (2, x9), (1, x10), (9, 0), (1, x12), (9, 0)] [(0, (-2))] w Q :=
  (VW_b 1 (F := fun n => vrun n d 34 126 [(2, x0), (1, x1), (9, 0), (1, x3), (9, 0), (1, x5), (9, 0), (1, x7), (9, 0), (2, x9), (1, x10), (9, 0), (1, x12), (9, 0)] [(0, (-2))] w) (fun _ => rfl)).trans (Iff.rfl)
set_option maxRecDepth 100000 in
theorem b34_126 {d : Nat} {w : vW} {x0 x1 x3 x5 x7 x9 x10 x12 y0 : Int} {Q : Int → vW → Prop} : VW d 34 126 [(2, x0), (1, x1), (9, 0), (1, x3), (9, 0), (1, x5), (9, 0), (1, x7), (9, 0), (2, x9), (1, x10), (9, 0), (1, x12), (9, 0)] [(0, y0)] w Q ↔ Q y0 w :=
  (VW_b 1 (F := fun n => some (0, y0, w)) (fun _ => rfl)).trans (EX_ret0)
/-! 35: StrikeWhatCancels.between(JJI)I -/
set_option maxRecDepth 100000 in
theorem b35_0 {d : Nat} {w : vW} {x0 x1 x3 x5 : Int} {Q : Int → vW → Prop} : VW d 35 0 [(2, x0), (1, x1), (9, 0), (1, x3), (9, 0), (0, x5), (9, 0), (9, 0), (9, 0), (9, 0), (9, 0), (9, 0), (9, 0), (9, 0)] [] w Q ↔ VC d 280 [(1, x1)] w (fun r w1 => VW d 35 4 [(2, x0), (1, x1), (9, 0), (1, x3), (9, 0), (0, x5), (9, 0), (9, 0), (9, 0), (9, 0), (9, 0), (9, 0), (9, 0), (9, 0)] [(1, r)] w1 Q) :=
  (VW_b 2 (F := fun n => vclr (vrun n) d 35 4 280 1 1 [(2, x0), (1, x1), (9, 0), (1, x3), (9, 0), (0, x5), (9, 0), (9, 0), (9, 0), (9, 0), (9, 0), (9, 0), (9, 0), (9, 0)] [(1, x1)] w) (fun _ => rfl)).trans (EX_call rfl)
set_option maxRecDepth 100000 in
theorem b35_4 {d : Nat} {w : vW} {x0 x1 x3 x5 y0 : Int} {Q : Int → vW → Prop} : VW d 35 4 [(2, x0), (1, x1), (9, 0), (1, x3), (9, 0), (0, x5), (9, 0), (9, 0), (9, 0), (9, 0), (9, 0), (9, 0), (9, 0), (9, 0)] [(1, y0)] w Q ↔ VC d 280 [(1, x3)] w (fun r w1 => VW d 35 10 [(2, x0), (1, x1), (9, 0), (1, x3), (9, 0), (0, x5), (1, y0), (9, 0), (9, 0), (9, 0), (9, 0), (9, 0), (9, 0), (9, 0)] [(1, r)] w1 Q) :=
  (VW_b 3 (F := fun n => vclr (vrun n) d 35 10 280 1 1 [(2, x0), (1, x1), (9, 0), (1, x3), (9, 0), (0, x5), (1, y0), (9, 0), (9, 0), (9, 0), (9, 0), (9, 0), (9, 0), (9, 0)] [(1, x3)] w) (fun _ => rfl)).trans (EX_call rfl)
set_option maxRecDepth 100000 in
theorem b35_10 {d : Nat} {w : vW} {x0 x1 x3 x5 x6 y0 : Int} {Q : Int → vW → Prop} : VW d 35 10 [(2, x0), (1, x1), (9, 0), (1, x3), (9, 0), (0, x5), (1, x6), (9, 0), (9, 0), (9, 0), (9, 0), (9, 0), (9, 0), (9, 0)] [(1, y0)] w Q ↔ ((x5 < 0 → VW d 35 58 [(2, x0), (1, x1), (9, 0), (1, x3), (9, 0), (0, x5), (1, x6), (9, 0), (1, y0), (9, 0), (9, 0), (9, 0), (9, 0), (9, 0)] [] w Q) ∧ (¬ (x5 < 0) → VW d 35 17 [(2, x0), (1, x1), (9, 0), (1, x3), (9, 0), (0, x5), (1, x6), (9, 0), (1, y0), (9, 0), (9, 0), (9, 0), (9, 0), (9, 0)] [] w Q)) :=
  (VW_b 3 (F := fun n => (if x5 < 0 then vrun n d 35 58 [(2, x0), (1, x1), (9, 0), (1, x3), (9, 0), (0, x5), (1, x6), (9, 0), (1, y0), (9, 0), (9, 0), (9, 0), (9, 0), (9, 0)] [] w else vrun n d 35 17 [(2, x0), (1, x1), (9, 0), (1, x3), (9, 0), (0, x5), (1, x6), (9, 0), (1, y0), (9, 0), (9, 0), (9, 0), (9, 0), (9, 0)] [] w)) (fun _ => rfl)).trans (EX_br.trans (and_congr (imp_congr Iff.rfl Iff.rfl) (imp_congr Iff.rfl Iff.rfl)))
set_option maxRecDepth 100000 in
theorem b35_17 {d : Nat} {w : vW} {x0 x1 x3 x5 x6 x8 : Int} {Q : Int → vW → Prop} : VW d 35 17 [(2, x0), (1, x1), (9, 0), (1, x3), (9, 0), (0, x5), (1, x6), (9, 0), (1, x8), (9, 0), (9, 0), (9, 0), (9, 0), (9, 0)] [] w Q ↔ ((8 < x5 → VW d 35 58 [(2, x0), (1, x1), (9, 0), (1, x3), (9, 0), (0, x5), (1, x6), (9, 0), (1, x8), (9, 0), (9, 0), (9, 0), (9, 0), (9, 0)] [] w Q) ∧ (¬ (8 < x5) → VW d 35 24 [(2, x0), (1, x1), (9, 0), (1, x3), (9, 0), (0, x5), (1, x6), (9, 0), (1, x8), (9, 0), (9, 0), (9, 0), (9, 0), (9, 0)] [] w Q)) :=
  (VW_b 3 (F := fun n => (if 8 < x5 then vrun n d 35 58 [(2, x0), (1, x1), (9, 0), (1, x3), (9, 0), (0, x5), (1, x6), (9, 0), (1, x8), (9, 0), (9, 0), (9, 0), (9, 0), (9, 0)] [] w else vrun n d 35 24 [(2, x0), (1, x1), (9, 0), (1, x3), (9, 0), (0, x5), (1, x6), (9, 0), (1, x8), (9, 0), (9, 0), (9, 0), (9, 0), (9, 0)] [] w)) (fun _ => rfl)).trans (EX_br.trans (and_congr (imp_congr Iff.rfl Iff.rfl) (imp_congr Iff.rfl Iff.rfl)))
set_option maxRecDepth 100000 in
theorem b35_24 {d : Nat} {w : vW} {x0 x1 x3 x5 x6 x8 : Int} {Q : Int → vW → Prop} : VW d 35 24 [(2, x0), (1, x1), (9, 0), (1, x3), (9, 0), (0, x5), (1, x6), (9, 0), (1, x8), (9, 0), (9, 0), (9, 0), (9, 0), (9, 0)] [] w Q ↔ (((vlc x6 0) < 0 → VW d 35 58 [(2, x0), (1, x1), (9, 0), (1, x3), (9, 0), (0, x5), (1, x6), (9, 0), (1, x8), (9, 0), (9, 0), (9, 0), (9, 0), (9, 0)] [] w Q) ∧ (¬ ((vlc x6 0) < 0) → VW d 35 31 [(2, x0), (1, x1), (9, 0), (1, x3), (9, 0), (0, x5), (1, x6), (9, 0), (1, x8), (9, 0), (9, 0), (9, 0), (9, 0), (9, 0)] [] w Q)) :=
  (VW_b 4 (F := fun n => (if (vlc x6 0) < 0 then vrun n d 35 58 [(2, x0), (1, x1), (9, 0), (1, x3), (9, 0), (0, x5), (1, x6), (9, 0), (1, x8), (9, 0), (9, 0), (9, 0), (9, 0), (9, 0)] [] w else vrun n d 35 31 [(2, x0), (1, x1), (9, 0), (1, x3), (9, 0), (0, x5), (1, x6), (9, 0), (1, x8), (9, 0), (9, 0), (9, 0), (9, 0), (9, 0)] [] w)) (fun _ => rfl)).trans (EX_br.trans (and_congr (imp_congr Iff.rfl Iff.rfl) (imp_congr Iff.rfl Iff.rfl)))
set_option maxRecDepth 100000 in
theorem b35_31 {d : Nat} {w : vW} {x0 x1 x3 x5 x6 x8 : Int} {Q : Int → vW → Prop} : VW d 35 31 [(2, x0), (1, x1), (9, 0), (1, x3), (9, 0), (0, x5), (1, x6), (9, 0), (1, x8), (9, 0), (9, 0), (9, 0), (9, 0), (9, 0)] [] w Q ↔ (((vlc x8 0) < 0 → VW d 35 58 [(2, x0), (1, x1), (9, 0), (1, x3), (9, 0), (0, x5), (1, x6), (9, 0), (1, x8), (9, 0), (9, 0), (9, 0), (9, 0), (9, 0)] [] w Q) ∧ (¬ ((vlc x8 0) < 0) → VW d 35 38 [(2, x0), (1, x1), (9, 0), (1, x3), (9, 0), (0, x5), (1, x6), (9, 0), (1, x8), (9, 0), (9, 0), (9, 0), (9, 0), (9, 0)] [] w Q)) :=
  (VW_b 4 (F := fun n => (if (vlc x8 0) < 0 then vrun n d 35 58 [(2, x0), (1, x1), (9, 0), (1, x3), (9, 0), (0, x5), (1, x6), (9, 0), (1, x8), (9, 0), (9, 0), (9, 0), (9, 0), (9, 0)] [] w else vrun n d 35 38 [(2, x0), (1, x1), (9, 0), (1, x3), (9, 0), (0, x5), (1, x6), (9, 0), (1, x8), (9, 0), (9, 0), (9, 0), (9, 0), (9, 0)] [] w)) (fun _ => rfl)).trans (EX_br.trans (and_congr (imp_congr Iff.rfl Iff.rfl) (imp_congr Iff.rfl Iff.rfl)))
set_option maxRecDepth 100000 in
theorem b35_38 {d : Nat} {w : vW} {x0 x1 x3 x5 x6 x8 : Int} {Q : Int → vW → Prop} : VW d 35 38 [(2, x0), (1, x1), (9, 0), (1, x3), (9, 0), (0, x5), (1, x6), (9, 0), (1, x8), (9, 0), (9, 0), (9, 0), (9, 0), (9, 0)] [] w Q ↔ VC d 273 [(1, x6)] w (fun r w1 => VW d 35 43 [(2, x0), (1, x1), (9, 0), (1, x3), (9, 0), (0, x5), (1, x6), (9, 0), (1, x8), (9, 0), (9, 0), (9, 0), (9, 0), (9, 0)] [(0, r)] w1 Q) :=
  (VW_b 2 (F := fun n => vclr (vrun n) d 35 43 273 1 0 [(2, x0), (1, x1), (9, 0), (1, x3), (9, 0), (0, x5), (1, x6), (9, 0), (1, x8), (9, 0), (9, 0), (9, 0), (9, 0), (9, 0)] [(1, x6)] w) (fun _ => rfl)).trans (EX_call rfl)
set_option maxRecDepth 100000 in
theorem b35_43 {d : Nat} {w : vW} {x0 x1 x3 x5 x6 x8 y0 : Int} {Q : Int → vW → Prop} : VW d 35 43 [(2, x0), (1, x1), (9, 0), (1, x3), (9, 0), (0, x5), (1, x6), (9, 0), (1, x8), (9, 0), (9, 0), (9, 0), (9, 0), (9, 0)] [(0, y0)] w Q ↔ ((x5 < y0 → VW d 35 58 [(2, x0), (1, x1), (9, 0), (1, x3), (9, 0), (0, x5), (1, x6), (9, 0), (1, x8), (9, 0), (9, 0), (9, 0), (9, 0), (9, 0)] [] w Q) ∧ (¬ (x5 < y0) → VW d 35 48 [(2, x0), (1, x1), (9, 0), (1, x3), (9, 0), (0, x5), (1, x6), (9, 0), (1, x8), (9, 0), (9, 0), (9, 0), (9, 0), (9, 0)] [] w Q)) :=
  (VW_b 2 (F := fun n => (if x5 < y0 then vrun n d 35 58 [(2, x0), (1, x1), (9, 0), (1, x3), (9, 0), (0, x5), (1, x6), (9, 0), (1, x8), (9, 0), (9, 0), (9, 0), (9, 0), (9, 0)] [] w else vrun n d 35 48 [(2, x0), (1, x1), (9, 0), (1, x3), (9, 0), (0, x5), (1, x6), (9, 0), (1, x8), (9, 0), (9, 0), (9, 0), (9, 0), (9, 0)] [] w)) (fun _ => rfl)).trans (EX_br.trans (and_congr (imp_congr Iff.rfl Iff.rfl) (imp_congr Iff.rfl Iff.rfl)))
set_option maxRecDepth 100000 in
theorem b35_48 {d : Nat} {w : vW} {x0 x1 x3 x5 x6 x8 : Int} {Q : Int → vW → Prop} : VW d 35 48 [(2, x0), (1, x1), (9, 0), (1, x3), (9, 0), (0, x5), (1, x6), (9, 0), (1, x8), (9, 0), (9, 0), (9, 0), (9, 0), (9, 0)] [] w Q ↔ VC d 273 [(1, x8)] w (fun r w1 => VW d 35 53 [(2, x0), (1, x1), (9, 0), (1, x3), (9, 0), (0, x5), (1, x6), (9, 0), (1, x8), (9, 0), (9, 0), (9, 0), (9, 0), (9, 0)] [(0, r)] w1 Q) :=
  (VW_b 2 (F := fun n => vclr (vrun n) d 35 53 273 1 0 [(2, x0), (1, x1), (9, 0), (1, x3), (9, 0), (0, x5), (1, x6), (9, 0), (1, x8), (9, 0), (9, 0), (9, 0), (9, 0), (9, 0)] [(1, x8)] w) (fun _ => rfl)).trans (EX_call rfl)
set_option maxRecDepth 100000 in
theorem b35_53 {d : Nat} {w : vW} {x0 x1 x3 x5 x6 x8 y0 : Int} {Q : Int → vW → Prop} : VW d 35 53 [(2, x0), (1, x1), (9, 0), (1, x3), (9, 0), (0, x5), (1, x6), (9, 0), (1, x8), (9, 0), (9, 0), (9, 0), (9, 0), (9, 0)] [(0, y0)] w Q ↔ ((x5 < y0 → VW d 35 58 [(2, x0), (1, x1), (9, 0), (1, x3), (9, 0), (0, x5), (1, x6), (9, 0), (1, x8), (9, 0), (9, 0), (9, 0), (9, 0), (9, 0)] [] w Q) ∧ (¬ (x5 < y0) → VW d 35 60 [(2, x0), (1, x1), (9, 0), (1, x3), (9, 0), (0, x5), (1, x6), (9, 0), (1, x8), (9, 0), (9, 0), (9, 0), (9, 0), (9, 0)] [] w Q)) :=
  (VW_b 2 (F := fun n => (if x5 < y0 then vrun n d 35 58 [(2, x0), (1, x1), (9, 0), (1, x3), (9, 0), (0, x5), (1, x6), (9, 0), (1, x8), (9, 0), (9, 0), (9, 0), (9, 0), (9, 0)] [] w else vrun n d 35 60 [(2, x0), (1, x1), (9, 0), (1, x3), (9, 0), (0, x5), (1, x6), (9, 0), (1, x8), (9, 0), (9, 0), (9, 0), (9, 0), (9, 0)] [] w)) (fun _ => rfl)).trans (EX_br.trans (and_congr (imp_congr Iff.rfl Iff.rfl) (imp_congr Iff.rfl Iff.rfl)))
set_option maxRecDepth 100000 in
theorem b35_58 {d : Nat} {w : vW} {x0 x1 x3 x5 x6 x8 : Int} {Q : Int → vW → Prop} : VW d 35 58 [(2, x0), (1, x1), (9, 0), (1, x3), (9, 0), (0, x5), (1, x6), (9, 0), (1, x8), (9, 0), (9, 0), (9, 0), (9, 0), (9, 0)] [] w Q ↔ Q (-1) w :=
  (VW_b 2 (F := fun n => some (0, (-1), w)) (fun _ => rfl)).trans (EX_ret0)
set_option maxRecDepth 100000 in
theorem b35_60 {d : Nat} {w : vW} {x0 x1 x3 x5 x6 x8 : Int} {Q : Int → vW → Prop} : VW d 35 60 [(2, x0), (1, x1), (9, 0), (1, x3), (9, 0), (0, x5), (1, x6), (9, 0), (1, x8), (9, 0), (9, 0), (9, 0), (9, 0), (9, 0)] [] w Q ↔ (((vlc x6 x8) = 0 → VW d 35 68 [(2, x0), (1, x1), (9, 0), (1, x3), (9, 0), (0, x5), (1, x6), (9, 0), (1, x8), (9, 0), (9, 0), (9, 0), (9, 0), (9, 0)] [] w Q) ∧ (¬ ((vlc x6 x8) = 0) → VW d 35 77 [(2, x0), (1, x1), (9, 0), (1, x3), (9, 0), (0, x5), (1, x6), (9, 0), (1, x8), (9, 0), (9, 0), (9, 0), (9, 0), (9, 0)] [] w Q)) :=
  (VW_b 4 (F := fun n => (if (vlc x6 x8) = 0 then vrun n d 35 68 [(2, x0), (1, x1), (9, 0), (1, x3), (9, 0), (0, x5), (1, x6), (9, 0), (1, x8), (9, 0), (9, 0), (9, 0), (9, 0), (9, 0)] [] w else vrun n d 35 77 [(2, x0), (1, x1), (9, 0), (1, x3), (9, 0), (0, x5), (1, x6), (9, 0), (1, x8), (9, 0), (9, 0), (9, 0), (9, 0), (9, 0)] [] w)) (fun _ => rfl)).trans (EX_br.trans (and_congr (imp_congr Iff.rfl Iff.rfl) (imp_congr Iff.rfl Iff.rfl)))
set_option maxRecDepth 100000 in
theorem b35_68 {d : Nat} {w : vW} {x0 x1 x3 x5 x6 x8 : Int} {Q : Int → vW → Prop} : VW d 35 68 [(2, x0), (1, x1), (9, 0), (1, x3), (9, 0), (0, x5), (1, x6), (9, 0), (1, x8), (9, 0), (9, 0), (9, 0), (9, 0), (9, 0)] [] w Q ↔ (vkd w x0 = 21) ∧ (vkd w (vct w x0 2) = 20) ∧ VC d 291 [(2, vct w x0 2)] w (fun _ w1 => VW d 35 75 [(2, x0), (1, x1), (9, 0), (1, x3), (9, 0), (0, x5), (1, x6), (9, 0), (1, x8), (9, 0), (9, 0), (9, 0), (9, 0), (9, 0)] [] w1 Q) :=
  (VW_b 3 (F := fun n => if vkd w x0 = 21 then if vkd w (vct w x0 2) = 20 then vclr (vrun n) d 35 75 291 1 9 [(2, x0), (1, x1), (9, 0), (1, x3), (9, 0), (0, x5), (1, x6), (9, 0), (1, x8), (9, 0), (9, 0), (9, 0), (9, 0), (9, 0)] [(2, vct w x0 2)] w else none else none) (fun _ => rfl)).trans (EX_if.trans (and_congr Iff.rfl (EX_if.trans (and_congr Iff.rfl (EX_call rfl)))))
set_option maxRecDepth 100000 in
theorem b35_75 {d : Nat} {w : vW} {x0 x1 x3 x5 x6 x8 : Int} {Q : Int → vW → Prop} : VW d 35 75 [(2, x0), (1, x1), (9, 0), (1, x3), (9, 0), (0, x5), (1, x6), (9, 0), (1, x8), (9, 0), (9, 0), (9, 0), (9, 0), (9, 0)] [] w Q ↔ Q 0 w :=
  (VW_b 2 (F := fun n => some (0, 0, w)) (fun _ => rfl)).trans (EX_ret0)
set_option maxRecDepth 100000 in
theorem b35_77 {d : Nat} {w : vW} {x0 x1 x3 x5 x6 x8 : Int} {Q : Int → vW → Prop} : VW d 35 77 [(2, x0), (1, x1), (9, 0), (1, x3), (9, 0), (0, x5), (1, x6), (9, 0), (1, x8), (9, 0), (9, 0), (9, 0), (9, 0), (9, 0)] [] w Q ↔ (vkd w x0 = 21) ∧ VC d 49 [(2, x0)] w (fun r w1 => VW d 35 81 [(2, x0), (1, x1), (9, 0), (1, x3), (9, 0), (0, x5), (1, x6), (9, 0), (1, x8), (9, 0), (9, 0), (9, 0), (9, 0), (9, 0)] [(2, r)] w1 Q) :=
  (VW_b 2 (F := fun n => if vkd w x0 = 21 then vclr (vrun n) d 35 81 49 1 2 [(2, x0), (1, x1), (9, 0), (1, x3), (9, 0), (0, x5), (1, x6), (9, 0), (1, x8), (9, 0), (9, 0), (9, 0), (9, 0), (9, 0)] [(2, x0)] w else none) (fun _ => rfl)).trans (EX_if.trans (and_congr Iff.rfl (EX_call rfl)))
set_option maxRecDepth 100000 in
theorem b35_81 {d : Nat} {w : vW} {x0 x1 x3 x5 x6 x8 y0 : Int} {Q : Int → vW → Prop} : VW d 35 81 [(2, x0), (1, x1), (9, 0), (1, x3), (9, 0), (0, x5), (1, x6), (9, 0), (1, x8), (9, 0), (9, 0), (9, 0), (9, 0), (9, 0)] [(2, y0)] w Q ↔ (vkd w x0 = 21) ∧ (vkd w y0 = 15) ∧ VC d 202 [(2, y0), (2, vct w x0 0), (1, x6), (1, x8), (0, x5)] w (fun r w1 => VW d 35 98 [(2, x0), (1, x1), (9, 0), (1, x3), (9, 0), (0, x5), (1, x6), (9, 0), (1, x8), (9, 0), (2, y0), (9, 0), (9, 0), (9, 0)] [(0, r)] w1 Q) :=
  (VW_b 8 (F := fun n => if vkd w x0 = 21 then if vkd w y0 = 15 then vclr (vrun n) d 35 98 202 5 0 [(2, x0), (1, x1), (9, 0), (1, x3), (9, 0), (0, x5), (1, x6), (9, 0), (1, x8), (9, 0), (2, y0), (9, 0), (9, 0), (9, 0)] [(0, x5), (1, x8), (1, x6), (2, vct w x0 0), (2, y0)] w else none else none) (fun _ => rfl)).trans (EX_if.trans (and_congr Iff.rfl (EX_if.trans (and_congr Iff.rfl (EX_call rfl)))))
set_option maxRecDepth 100000 in
theorem b35_98 {d : Nat} {w : vW} {x0 x1 x3 x5 x6 x8 x10 y0 : Int} {Q : Int → vW → Prop} : VW d 35 98 [(2, x0), (1, x1), (9, 0), (1, x3), (9, 0), (0, x5), (1, x6), (9, 0), (1, x8), (9, 0), (2, x10), (9, 0), (9, 0), (9, 0)] [(0, y0)] w Q ↔ ((y0 < 0 → VW d 35 105 [(2, x0), (1, x1), (9, 0), (1, x3), (9, 0), (0, x5), (1, x6), (9, 0), (1, x8), (9, 0), (2, x10), (0, y0), (9, 0), (9, 0)] [] w Q) ∧ (¬ (y0 < 0) → VW d 35 108 [(2, x0), (1, x1), (9, 0), (1, x3), (9, 0), (0, x5), (1, x6), (9, 0), (1, x8), (9, 0), (2, x10), (0, y0), (9, 0), (9, 0)] [] w Q)) :=
  (VW_b 3 (F := fun n => (if y0 < 0 then vrun n d 35 105 [(2, x0), (1, x1), (9, 0), (1, x3), (9, 0), (0, x5), (1, x6), (9, 0), (1, x8), (9, 0), (2, x10), (0, y0), (9, 0), (9, 0)] [] w else vrun n d 35 108 [(2, x0), (1, x1), (9, 0), (1, x3), (9, 0), (0, x5), (1, x6), (9, 0), (1, x8), (9, 0), (2, x10), (0, y0), (9, 0), (9, 0)] [] w)) (fun _ => rfl)).trans (EX_br.trans (and_congr (imp_congr Iff.rfl Iff.rfl) (imp_congr Iff.rfl Iff.rfl)))
set_option maxRecDepth 100000 in
theorem b35_105 {d : Nat} {w : vW} {x0 x1 x3 x5 x6 x8 x10 x11 : Int} {Q : Int → vW → Prop} : VW d 35 105 [(2, x0), (1, x1), (9, 0), (1, x3), (9, 0), (0, x5), (1, x6), (9, 0), (1, x8), (9, 0), (2, x10), (0, x11), (9, 0), (9, 0)] [] w Q ↔ Q x11 w :=
  (VW_b 2 (F := fun n => some (0, x11, w)) (fun _ => rfl)).trans (EX_ret0)
set_option maxRecDepth 100000 in
theorem b35_108 {d : Nat} {w : vW} {x0 x1 x3 x5 x6 x8 x10 x11 : Int} {Q : Int → vW → Prop} : VW d 35 108 [(2, x0), (1, x1), (9, 0), (1, x3), (9, 0), (0, x5), (1, x6), (9, 0), (1, x8), (9, 0), (2, x10), (0, x11), (9, 0), (9, 0)] [] w Q ↔ (vkd w x10 = 15) ∧ VC d 222 [(2, x10), (0, x11)] w (fun r w1 => VW d 35 115 [(2, x0), (1, x1), (9, 0), (1, x3), (9, 0), (0, x5), (1, x6), (9, 0), (1, x8), (9, 0), (2, x10), (0, x11), (9, 0), (9, 0)] [(0, r)] w1 Q) :=
  (VW_b 3 (F := fun n => if vkd w x10 = 15 then vclr (vrun n) d 35 115 222 2 0 [(2, x0), (1, x1), (9, 0), (1, x3), (9, 0), (0, x5), (1, x6), (9, 0), (1, x8), (9, 0), (2, x10), (0, x11), (9, 0), (9, 0)] [(0, x11), (2, x10)] w else none) (fun _ => rfl)).trans (EX_if.trans (and_congr Iff.rfl (EX_call rfl)))
set_option maxRecDepth 100000 in
theorem b35_115 {d : Nat} {w : vW} {x0 x1 x3 x5 x6 x8 x10 x11 y0 : Int} {Q : Int → vW → Prop} : VW d 35 115 [(2, x0), (1, x1), (9, 0), (1, x3), (9, 0), (0, x5), (1, x6), (9, 0), (1, x8), (9, 0), (2, x10), (0, x11), (9, 0), (9, 0)] [(0, y0)] w Q ↔ (vkd w x0 = 21) ∧ (vkd w (vct w x0 2) = 20) ∧ VC d 292 [(2, vct w x0 2), (0, min 8 (w32 (y0 + 1)))] w (fun _ w1 => VW d 35 133 [(2, x0), (1, x1), (9, 0), (1, x3), (9, 0), (0, x5), (1, x6), (9, 0), (1, x8), (9, 0), (2, x10), (0, x11), (0, w32 (y0 + 1)), (9, 0)] [] w1 Q) :=
  (VW_b 9 (F := fun n => if vkd w x0 = 21 then if vkd w (vct w x0 2) = 20 then vclr (vrun n) d 35 133 292 2 9 [(2, x0), (1, x1), (9, 0), (1, x3), (9, 0), (0, x5), (1, x6), (9, 0), (1, x8), (9, 0), (2, x10), (0, x11), (0, w32 (y0 + 1)), (9, 0)] [(0, min 8 (w32 (y0 + 1))), (2, vct w x0 2)] w else none else none) (fun _ => rfl)).trans (EX_if.trans (and_congr Iff.rfl (EX_if.trans (and_congr Iff.rfl (EX_call rfl)))))
set_option maxRecDepth 100000 in
theorem b35_133 {d : Nat} {w : vW} {x0 x1 x3 x5 x6 x8 x10 x11 x12 : Int} {Q : Int → vW → Prop} : VW d 35 133 [(2, x0), (1, x1), (9, 0), (1, x3), (9, 0), (0, x5), (1, x6), (9, 0), (1, x8), (9, 0), (2, x10), (0, x11), (0, x12), (9, 0)] [] w Q ↔ (vkd w x0 = 21) ∧ (vkd w (vct w x0 2) = 20) ∧ VC d 294 [(2, vct w x0 2), (0, w32 (x12 - 1)), (1, x3)] w (fun _ w1 => VW d 35 145 [(2, x0), (1, x1), (9, 0), (1, x3), (9, 0), (0, x5), (1, x6), (9, 0), (1, x8), (9, 0), (2, x10), (0, x11), (0, x12), (9, 0)] [] w1 Q) :=
  (VW_b 7 (F := fun n => if vkd w x0 = 21 then if vkd w (vct w x0 2) = 20 then vclr (vrun n) d 35 145 294 3 9 [(2, x0), (1, x1), (9, 0), (1, x3), (9, 0), (0, x5), (1, x6), (9, 0), (1, x8), (9, 0), (2, x10), (0, x11), (0, x12), (9, 0)] [(1, x3), (0, w32 (x12 - 1)), (2, vct w x0 2)] w else none else none) (fun _ => rfl)).trans (EX_if.trans (and_congr Iff.rfl (EX_if.trans (and_congr Iff.rfl (EX_call rfl)))))
set_option maxRecDepth 100000 in
theorem b35_145 {d : Nat} {w : vW} {x0 x1 x3 x5 x6 x8 x10 x11 x12 : Int} {Q : Int → vW → Prop} : VW d 35 145 [(2, x0), (1, x1), (9, 0), (1, x3), (9, 0), (0, x5), (1, x6), (9, 0), (1, x8), (9, 0), (2, x10), (0, x11), (0, x12), (9, 0)] [] w Q ↔ VW d 35 151 [(2, x0), (1, x1), (9, 0), (1, x3), (9, 0), (0, x5), (1, x6), (9, 0), (1, x8), (9, 0), (2, x10), (0, x11), (0, x12), (0, w32 (x12 - 2))] [] w Q :=
  (VW_b 4 (F := fun n => vrun n d 35 151 [(2, x0), (1, x1), (9, 0), (1, x3), (9, 0), (0, x5), (1, x6), (9, 0), (1, x8), (9, 0), (2, x10), (0, x11), (0, x12), (0, w32 (x12 - 2))] [] w) (fun _ => rfl)).trans (Iff.rfl)
set_option maxRecDepth 100000 in
theorem b35_151 {d : Nat} {w : vW} {x0 x1 x3 x5 x6 x8 x10 x11 x12 x13 : Int} {Q : Int → vW → Prop} : VW d 35 151 [(2, x0), (1, x1), (9, 0), (1, x3), (9, 0), (0, x5), (1, x6), (9, 0), (1, x8), (9, 0), (2, x10), (0, x11), (0, x12), (0, x13)] [] w Q ↔ ((x13 < 0 → VW d 35 190 [(2, x0), (1, x1), (9, 0), (1, x3), (9, 0), (0, x5), (1, x6), (9, 0), (1, x8), (9, 0), (2, x10), (0, x11), (0, x12), (0, x13)] [] w Q) ∧ (¬ (x13 < 0) → VW d 35 156 [(2, x0), (1, x1), (9, 0), (1, x3), (9, 0), (0, x5), (1, x6), (9, 0), (1, x8), (9, 0), (2, x10), (0, x11), (0, x12), (0, x13)] [] w Q)) :=
  (VW_b 2 (F := fun n => (if x13 < 0 then vrun n d 35 190 [(2, x0), (1, x1), (9, 0), (1, x3), (9, 0), (0, x5), (1, x6), (9, 0), (1, x8), (9, 0), (2, x10), (0, x11), (0, x12), (0, x13)] [] w else vrun n d 35 156 [(2, x0), (1, x1), (9, 0), (1, x3), (9, 0), (0, x5), (1, x6), (9, 0), (1, x8), (9, 0), (2, x10), (0, x11), (0, x12), (0, x13)] [] w)) (fun _ => rfl)).trans (EX_br.trans (and_congr (imp_congr Iff.rfl Iff.rfl) (imp_congr Iff.rfl Iff.rfl)))
set_option maxRecDepth 100000 in
theorem b35_156 {d : Nat} {w : vW} {x0 x1 x3 x5 x6 x8 x10 x11 x12 x13 : Int} {Q : Int → vW → Prop} : VW d 35 156 [(2, x0), (1, x1), (9, 0), (1, x3), (9, 0), (0, x5), (1, x6), (9, 0), (1, x8), (9, 0), (2, x10), (0, x11), (0, x12), (0, x13)] [] w Q ↔ (vkd w x0 = 21) ∧ (vkd w x10 = 15) ∧ VC d 220 [(2, x10), (0, x11)] w (fun r w1 => VW d 35 169 [(2, x0), (1, x1), (9, 0), (1, x3), (9, 0), (0, x5), (1, x6), (9, 0), (1, x8), (9, 0), (2, x10), (0, x11), (0, x12), (0, x13)] [(1, r), (0, x13), (2, vct w x0 2)] w1 Q) :=
  (VW_b 6 (F := fun n => if vkd w x0 = 21 then if vkd w x10 = 15 then vclr (vrun n) d 35 169 220 2 1 [(2, x0), (1, x1), (9, 0), (1, x3), (9, 0), (0, x5), (1, x6), (9, 0), (1, x8), (9, 0), (2, x10), (0, x11), (0, x12), (0, x13)] [(0, x11), (2, x10), (0, x13), (2, vct w x0 2)] w else none else none) (fun _ => rfl)).trans (EX_if.trans (and_congr Iff.rfl (EX_if.trans (and_congr Iff.rfl (EX_call rfl)))))
set_option maxRecDepth 100000 in
theorem b35_169 {d : Nat} {w : vW} {x0 x1 x3 x5 x6 x8 x10 x11 x12 x13 y0 y1 y2 : Int} {Q : Int → vW → Prop} : VW d 35 169 [(2, x0), (1, x1), (9, 0), (1, x3), (9, 0), (0, x5), (1, x6), (9, 0), (1, x8), (9, 0), (2, x10), (0, x11), (0, x12), (0, x13)] [(1, y2), (0, y1), (2, y0)] w Q ↔ VC d 281 [(1, y2)] w (fun r w1 => VW d 35 172 [(2, x0), (1, x1), (9, 0), (1, x3), (9, 0), (0, x5), (1, x6), (9, 0), (1, x8), (9, 0), (2, x10), (0, x11), (0, x12), (0, x13)] [(1, r), (0, y1), (2, y0)] w1 Q) :=
  (VW_b 1 (F := fun n => vclr (vrun n) d 35 172 281 1 1 [(2, x0), (1, x1), (9, 0), (1, x3), (9, 0), (0, x5), (1, x6), (9, 0), (1, x8), (9, 0), (2, x10), (0, x11), (0, x12), (0, x13)] [(1, y2), (0, y1), (2, y0)] w) (fun _ => rfl)).trans (EX_call rfl)
set_option maxRecDepth 100000 in
theorem b35_172 {d : Nat} {w : vW} {x0 x1 x3 x5 x6 x8 x10 x11 x12 x13 y0 y1 y2 : Int} {Q : Int → vW → Prop} : VW d 35 172 [(2, x0), (1, x1), (9, 0), (1, x3), (9, 0), (0, x5), (1, x6), (9, 0), (1, x8), (9, 0), (2, x10), (0, x11), (0, x12), (0, x13)] [(1, y2), (0, y1), (2, y0)] w Q ↔ (vkd w y0 = 20) ∧ VC d 294 [(2, y0), (0, y1), (1, y2)] w (fun _ w1 => VW d 35 175 [(2, x0), (1, x1), (9, 0), (1, x3), (9, 0), (0, x5), (1, x6), (9, 0), (1, x8), (9, 0), (2, x10), (0, x11), (0, x12), (0, x13)] [] w1 Q) :=
  (VW_b 1 (F := fun n => if vkd w y0 = 20 then vclr (vrun n) d 35 175 294 3 9 [(2, x0), (1, x1), (9, 0), (1, x3), (9, 0), (0, x5), (1, x6), (9, 0), (1, x8), (9, 0), (2, x10), (0, x11), (0, x12), (0, x13)] [(1, y2), (0, y1), (2, y0)] w else none) (fun _ => rfl)).trans (EX_if.trans (and_congr Iff.rfl (EX_call rfl)))
set_option maxRecDepth 100000 in
theorem b35_175 {d : Nat} {w : vW} {x0 x1 x3 x5 x6 x8 x10 x11 x12 x13 : Int} {Q : Int → vW → Prop} : VW d 35 175 [(2, x0), (1, x1), (9, 0), (1, x3), (9, 0), (0, x5), (1, x6), (9, 0), (1, x8), (9, 0), (2, x10), (0, x11), (0, x12), (0, x13)] [] w Q ↔ (vkd w x10 = 15) ∧ VC d 224 [(2, x10), (0, x11)] w (fun r w1 => VW d 35 182 [(2, x0), (1, x1), (9, 0), (1, x3), (9, 0), (0, x5), (1, x6), (9, 0), (1, x8), (9, 0), (2, x10), (0, x11), (0, x12), (0, x13)] [(0, r)] w1 Q) :=
  (VW_b 3 (F := fun n => if vkd w x10 = 15 then vclr (vrun n) d 35 182 224 2 0 [(2, x0), (1, x1), (9, 0), (1, x3), (9, 0), (0, x5), (1, x6), (9, 0), (1, x8), (9, 0), (2, x10), (0, x11), (0, x12), (0, x13)] [(0, x11), (2, x10)] w else none) (fun _ => rfl)).trans (EX_if.trans (and_congr Iff.rfl (EX_call rfl)))
set_option maxRecDepth 100000 in
theorem b35_182 {d : Nat} {w : vW} {x0 x1 x3 x5 x6 x8 x10 x11 x12 x13 y0 : Int} {Q : Int → vW → Prop} : VW d 35 182 [(2, x0), (1, x1), (9, 0), (1, x3), (9, 0), (0, x5), (1, x6), (9, 0), (1, x8), (9, 0), (2, x10), (0, x11), (0, x12), (0, x13)] [(0, y0)] w Q ↔ VW d 35 151 [(2, x0), (1, x1), (9, 0), (1, x3), (9, 0), (0, x5), (1, x6), (9, 0), (1, x8), (9, 0), (2, x10), (0, y0), (0, x12), (0, w32 (x13 + (-1)))] [] w Q :=
  (VW_b 3 (F := fun n => vrun n d 35 151 [(2, x0), (1, x1), (9, 0), (1, x3), (9, 0), (0, x5), (1, x6), (9, 0), (1, x8), (9, 0), (2, x10), (0, y0), (0, x12), (0, w32 (x13 + (-1)))] [] w) (fun _ => rfl)).trans (Iff.rfl)
set_option maxRecDepth 100000 in
theorem b35_190 {d : Nat} {w : vW} {x0 x1 x3 x5 x6 x8 x10 x11 x12 x13 : Int} {Q : Int → vW → Prop} : VW d 35 190 [(2, x0), (1, x1), (9, 0), (1, x3), (9, 0), (0, x5), (1, x6), (9, 0), (1, x8), (9, 0), (2, x10), (0, x11), (0, x12), (0, x13)] [] w Q ↔ Q x12 w :=
  (VW_b 2 (F := fun n => some (0, x12, w)) (fun _ => rfl)).trans (EX_ret0)
/-! 36: StrikeWhatCancels.come(IIJ)I -/
set_option maxRecDepth 100000 in
theorem b36_0 {d : Nat} {w : vW} {x0 x1 x2 x3 : Int} {Q : Int → vW → Prop} : VW d 36 0 [(2, x0), (0, x1), (0, x2), (1, x3), (9, 0), (9, 0), (9, 0), (9, 0), (9, 0), (9, 0)] [] w Q ↔ VC d 280 [(1, x3)] w (fun r w1 => VW d 36 4 [(2, x0), (0, x1), (0, x2), (1, x3), (9, 0), (9, 0), (9, 0), (9, 0), (9, 0), (9, 0)] [(1, r)] w1 Q) :=
  (VW_b 2 (F := fun n => vclr (vrun n) d 36 4 280 1 1 [(2, x0), (0, x1), (0, x2), (1, x3), (9, 0), (9, 0), (9, 0), (9, 0), (9, 0), (9, 0)] [(1, x3)] w) (fun _ => rfl)).trans (EX_call rfl)
set_option maxRecDepth 100000 in
theorem b36_4 {d : Nat} {w : vW} {x0 x1 x2 x3 y0 : Int} {Q : Int → vW → Prop} : VW d 36 4 [(2, x0), (0, x1), (0, x2), (1, x3), (9, 0), (9, 0), (9, 0), (9, 0), (9, 0), (9, 0)] [(1, y0)] w Q ↔ (((vlc y0 0) < 0 → VW d 36 13 [(2, x0), (0, x1), (0, x2), (1, x3), (9, 0), (1, y0), (9, 0), (9, 0), (9, 0), (9, 0)] [] w Q) ∧ (¬ ((vlc y0 0) < 0) → VW d 36 17 [(2, x0), (0, x1), (0, x2), (1, x3), (9, 0), (1, y0), (9, 0), (9, 0), (9, 0), (9, 0)] [] w Q)) :=
  (VW_b 5 (F := fun n => (if (vlc y0 0) < 0 then vrun n d 36 13 [(2, x0), (0, x1), (0, x2), (1, x3), (9, 0), (1, y0), (9, 0), (9, 0), (9, 0), (9, 0)] [] w else vrun n d 36 17 [(2, x0), (0, x1), (0, x2), (1, x3), (9, 0), (1, y0), (9, 0), (9, 0), (9, 0), (9, 0)] [] w)) (fun _ => rfl)).trans (EX_br.trans (and_congr (imp_congr Iff.rfl Iff.rfl) (imp_congr Iff.rfl Iff.rfl)))
set_option maxRecDepth 100000 in
theorem b36_13 {d : Nat} {w : vW} {x0 x1 x2 x3 x5 : Int} {Q : Int → vW → Prop} : VW d 36 13 [(2, x0), (0, x1), (0, x2), (1, x3), (9, 0), (1, x5), (9, 0), (9, 0), (9, 0), (9, 0)] [] w Q ↔ VW d 36 23 [(2, x0), (0, x1), (0, x2), (1, x3), (9, 0), (1, x5), (9, 0), (9, 0), (9, 0), (9, 0)] [(0, (-1))] w Q :=
  (VW_b 2 (F := fun n => vrun n d 36 23 [(2, x0), (0, x1), (0, x2), (1, x3), (9, 0), (1, x5), (9, 0), (9, 0), (9, 0), (9, 0)] [(0, (-1))] w) (fun _ => rfl)).trans (Iff.rfl)
set_option maxRecDepth 100000 in
theorem b36_17 {d : Nat} {w : vW} {x0 x1 x2 x3 x5 : Int} {Q : Int → vW → Prop} : VW d 36 17 [(2, x0), (0, x1), (0, x2), (1, x3), (9, 0), (1, x5), (9, 0), (9, 0), (9, 0), (9, 0)] [] w Q ↔ (vkd w x0 = 21) ∧ VC d 42 [(2, x0), (0, x1), (0, x2)] w (fun r w1 => VW d 36 23 [(2, x0), (0, x1), (0, x2), (1, x3), (9, 0), (1, x5), (9, 0), (9, 0), (9, 0), (9, 0)] [(0, r)] w1 Q) :=
  (VW_b 4 (F := fun n => if vkd w x0 = 21 then vclr (vrun n) d 36 23 42 3 0 [(2, x0), (0, x1), (0, x2), (1, x3), (9, 0), (1, x5), (9, 0), (9, 0), (9, 0), (9, 0)] [(0, x2), (0, x1), (2, x0)] w else none) (fun _ => rfl)).trans (EX_if.trans (and_congr Iff.rfl (EX_call rfl)))
set_option maxRecDepth 100000 in
theorem b36_23 {d : Nat} {w : vW} {x0 x1 x2 x3 x5 y0 : Int} {Q : Int → vW → Prop} : VW d 36 23 [(2, x0), (0, x1), (0, x2), (1, x3), (9, 0), (1, x5), (9, 0), (9, 0), (9, 0), (9, 0)] [(0, y0)] w Q ↔ ((y0 < 0 → VW d 36 30 [(2, x0), (0, x1), (0, x2), (1, x3), (9, 0), (1, x5), (9, 0), (0, y0), (9, 0), (9, 0)] [] w Q) ∧ (¬ (y0 < 0) → VW d 36 33 [(2, x0), (0, x1), (0, x2), (1, x3), (9, 0), (1, x5), (9, 0), (0, y0), (9, 0), (9, 0)] [] w Q)) :=
  (VW_b 3 (F := fun n => (if y0 < 0 then vrun n d 36 30 [(2, x0), (0, x1), (0, x2), (1, x3), (9, 0), (1, x5), (9, 0), (0, y0), (9, 0), (9, 0)] [] w else vrun n d 36 33 [(2, x0), (0, x1), (0, x2), (1, x3), (9, 0), (1, x5), (9, 0), (0, y0), (9, 0), (9, 0)] [] w)) (fun _ => rfl)).trans (EX_br.trans (and_congr (imp_congr Iff.rfl Iff.rfl) (imp_congr Iff.rfl Iff.rfl)))
set_option maxRecDepth 100000 in
theorem b36_30 {d : Nat} {w : vW} {x0 x1 x2 x3 x5 x7 : Int} {Q : Int → vW → Prop} : VW d 36 30 [(2, x0), (0, x1), (0, x2), (1, x3), (9, 0), (1, x5), (9, 0), (0, x7), (9, 0), (9, 0)] [] w Q ↔ Q x7 w :=
  (VW_b 2 (F := fun n => some (0, x7, w)) (fun _ => rfl)).trans (EX_ret0)
set_option maxRecDepth 100000 in
theorem b36_33 {d : Nat} {w : vW} {x0 x1 x2 x3 x5 x7 : Int} {Q : Int → vW → Prop} : VW d 36 33 [(2, x0), (0, x1), (0, x2), (1, x3), (9, 0), (1, x5), (9, 0), (0, x7), (9, 0), (9, 0)] [] w Q ↔ (vkd w x0 = 21) ∧ VC d 53 [(2, x0), (0, x1), (0, x2)] w (fun r w1 => VW d 36 39 [(2, x0), (0, x1), (0, x2), (1, x3), (9, 0), (1, x5), (9, 0), (0, x7), (9, 0), (9, 0)] [(2, r)] w1 Q) :=
  (VW_b 4 (F := fun n => if vkd w x0 = 21 then vclr (vrun n) d 36 39 53 3 2 [(2, x0), (0, x1), (0, x2), (1, x3), (9, 0), (1, x5), (9, 0), (0, x7), (9, 0), (9, 0)] [(0, x2), (0, x1), (2, x0)] w else none) (fun _ => rfl)).trans (EX_if.trans (and_congr Iff.rfl (EX_call rfl)))
set_option maxRecDepth 100000 in
theorem b36_39 {d : Nat} {w : vW} {x0 x1 x2 x3 x5 x7 y0 : Int} {Q : Int → vW → Prop} : VW d 36 39 [(2, x0), (0, x1), (0, x2), (1, x3), (9, 0), (1, x5), (9, 0), (0, x7), (9, 0), (9, 0)] [(2, y0)] w Q ↔ (vkd w y0 = 13) ∧ VC d 186 [(2, y0), (0, x2), (1, x5)] w (fun r w1 => VW d 36 49 [(2, x0), (0, x1), (0, x2), (1, x3), (9, 0), (1, x5), (9, 0), (0, x7), (2, y0), (9, 0)] [(0, r)] w1 Q) :=
  (VW_b 5 (F := fun n => if vkd w y0 = 13 then vclr (vrun n) d 36 49 186 3 0 [(2, x0), (0, x1), (0, x2), (1, x3), (9, 0), (1, x5), (9, 0), (0, x7), (2, y0), (9, 0)] [(1, x5), (0, x2), (2, y0)] w else none) (fun _ => rfl)).trans (EX_if.trans (and_congr Iff.rfl (EX_call rfl)))
set_option maxRecDepth 100000 in
theorem b36_49 {d : Nat} {w : vW} {x0 x1 x2 x3 x5 x7 x8 y0 : Int} {Q : Int → vW → Prop} : VW d 36 49 [(2, x0), (0, x1), (0, x2), (1, x3), (9, 0), (1, x5), (9, 0), (0, x7), (2, x8), (9, 0)] [(0, y0)] w Q ↔ (vkd w x0 = 21) ∧ (vkd w (vct w x0 2) = 20) ∧ VC d 291 [(2, vct w x0 2)] w (fun _ w1 => VW d 36 58 [(2, x0), (0, x1), (0, x2), (1, x3), (9, 0), (1, x5), (9, 0), (0, x7), (2, x8), (0, y0)] [] w1 Q) :=
  (VW_b 4 (F := fun n => if vkd w x0 = 21 then if vkd w (vct w x0 2) = 20 then vclr (vrun n) d 36 58 291 1 9 [(2, x0), (0, x1), (0, x2), (1, x3), (9, 0), (1, x5), (9, 0), (0, x7), (2, x8), (0, y0)] [(2, vct w x0 2)] w else none else none) (fun _ => rfl)).trans (EX_if.trans (and_congr Iff.rfl (EX_if.trans (and_congr Iff.rfl (EX_call rfl)))))
set_option maxRecDepth 100000 in
theorem b36_58 {d : Nat} {w : vW} {x0 x1 x2 x3 x5 x7 x8 x9 : Int} {Q : Int → vW → Prop} : VW d 36 58 [(2, x0), (0, x1), (0, x2), (1, x3), (9, 0), (1, x5), (9, 0), (0, x7), (2, x8), (0, x9)] [] w Q ↔ ((0 < x9 → VW d 36 63 [(2, x0), (0, x1), (0, x2), (1, x3), (9, 0), (1, x5), (9, 0), (0, x7), (2, x8), (0, x9)] [] w Q) ∧ (¬ (0 < x9) → VW d 36 78 [(2, x0), (0, x1), (0, x2), (1, x3), (9, 0), (1, x5), (9, 0), (0, x7), (2, x8), (0, x9)] [] w Q)) :=
  (VW_b 2 (F := fun n => (if 0 < x9 then vrun n d 36 63 [(2, x0), (0, x1), (0, x2), (1, x3), (9, 0), (1, x5), (9, 0), (0, x7), (2, x8), (0, x9)] [] w else vrun n d 36 78 [(2, x0), (0, x1), (0, x2), (1, x3), (9, 0), (1, x5), (9, 0), (0, x7), (2, x8), (0, x9)] [] w)) (fun _ => rfl)).trans (EX_br.trans (and_congr (imp_congr Iff.rfl Iff.rfl) (imp_congr Iff.rfl Iff.rfl)))
set_option maxRecDepth 100000 in
theorem b36_63 {d : Nat} {w : vW} {x0 x1 x2 x3 x5 x7 x8 x9 : Int} {Q : Int → vW → Prop} : VW d 36 63 [(2, x0), (0, x1), (0, x2), (1, x3), (9, 0), (1, x5), (9, 0), (0, x7), (2, x8), (0, x9)] [] w Q ↔ (vkd w x0 = 21) ∧ (vkd w x8 = 13) ∧ VC d 281 [(1, vct w x8 8)] w (fun r w1 => VW d 36 75 [(2, x0), (0, x1), (0, x2), (1, x3), (9, 0), (1, x5), (9, 0), (0, x7), (2, x8), (0, x9)] [(1, r), (2, vct w x0 2)] w1 Q) :=
  (VW_b 5 (F := fun n => if vkd w x0 = 21 then if vkd w x8 = 13 then vclr (vrun n) d 36 75 281 1 1 [(2, x0), (0, x1), (0, x2), (1, x3), (9, 0), (1, x5), (9, 0), (0, x7), (2, x8), (0, x9)] [(1, vct w x8 8), (2, vct w x0 2)] w else none else none) (fun _ => rfl)).trans (EX_if.trans (and_congr Iff.rfl (EX_if.trans (and_congr Iff.rfl (EX_call rfl)))))
set_option maxRecDepth 100000 in
theorem b36_75 {d : Nat} {w : vW} {x0 x1 x2 x3 x5 x7 x8 x9 y0 y1 : Int} {Q : Int → vW → Prop} : VW d 36 75 [(2, x0), (0, x1), (0, x2), (1, x3), (9, 0), (1, x5), (9, 0), (0, x7), (2, x8), (0, x9)] [(1, y1), (2, y0)] w Q ↔ (vkd w y0 = 20) ∧ VC d 293 [(2, y0), (1, y1)] w (fun _ w1 => VW d 36 78 [(2, x0), (0, x1), (0, x2), (1, x3), (9, 0), (1, x5), (9, 0), (0, x7), (2, x8), (0, x9)] [] w1 Q) :=
  (VW_b 1 (F := fun n => if vkd w y0 = 20 then vclr (vrun n) d 36 78 293 2 9 [(2, x0), (0, x1), (0, x2), (1, x3), (9, 0), (1, x5), (9, 0), (0, x7), (2, x8), (0, x9)] [(1, y1), (2, y0)] w else none) (fun _ => rfl)).trans (EX_if.trans (and_congr Iff.rfl (EX_call rfl)))
set_option maxRecDepth 100000 in
theorem b36_78 {d : Nat} {w : vW} {x0 x1 x2 x3 x5 x7 x8 x9 : Int} {Q : Int → vW → Prop} : VW d 36 78 [(2, x0), (0, x1), (0, x2), (1, x3), (9, 0), (1, x5), (9, 0), (0, x7), (2, x8), (0, x9)] [] w Q ↔ Q x9 w :=
  (VW_b 2 (F := fun n => some (0, x9, w)) (fun _ => rfl)).trans (EX_ret0)
