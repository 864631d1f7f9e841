/-! 241: StrikeWhatCancels$Reader.takes(I)Z -/
set_option maxRecDepth 100000 in
theorem b241_0 {d : Nat} {w : vW} {x0 x1 : Int} {Q : Int → vW → Prop} : VW d 241 0 [(2, x0), (0, x1), (9, 0)] [] w Q ↔ VC d 236 [(0, x1)] w (fun r w1 => VW d 241 4 [(2, x0), (0, x1), (9, 0)] [(0, r)] w1 Q) :=
  (VW_b 2 (F := fun n => vclr (vrun n) d 241 4 236 1 0 [(2, x0), (0, x1), (9, 0)] [(0, x1)] w) (fun _ => rfl)).trans (EX_call rfl)
set_option maxRecDepth 100000 in
theorem b241_4 {d : Nat} {w : vW} {x0 x1 y0 : Int} {Q : Int → vW → Prop} : VW d 241 4 [(2, x0), (0, x1), (9, 0)] [(0, y0)] w Q ↔ (vkd w x0 = 17) ∧ VW d 241 (vswt 2 (vct w x0 4)) [(2, x0), (0, x1), (0, y0)] [] w Q :=
  (VW_b 4 (F := fun n => if vkd w x0 = 17 then vrun n d 241 (vswt 2 (vct w x0 4)) [(2, x0), (0, x1), (0, y0)] [] w else none) (fun _ => rfl)).trans (EX_if.trans (and_congr Iff.rfl (Iff.rfl)))
set_option maxRecDepth 100000 in
theorem b241_40 {d : Nat} {w : vW} {x0 x1 x2 : Int} {Q : Int → vW → Prop} : VW d 241 40 [(2, x0), (0, x1), (0, x2)] [] w Q ↔ VC d 274 [(0, 1), (1, x2)] w (fun r w1 => VW d 241 47 [(2, x0), (0, x1), (0, x2)] [(1, r), (2, x0)] w1 Q) :=
  (VW_b 5 (F := fun n => vclr (vrun n) d 241 47 274 2 1 [(2, x0), (0, x1), (0, x2)] [(1, x2), (0, 1), (2, x0)] w) (fun _ => rfl)).trans (EX_call rfl)
set_option maxRecDepth 100000 in
theorem b241_47 {d : Nat} {w : vW} {x0 x1 x2 y0 y1 : Int} {Q : Int → vW → Prop} : VW d 241 47 [(2, x0), (0, x1), (0, x2)] [(1, y1), (2, y0)] w Q ↔ (vkd w y0 = 17) ∧ VW d 241 50 [(2, x0), (0, x1), (0, x2)] [] (vsv w y0 7 y1) Q :=
  (VW_b 1 (F := fun n => if vkd w y0 = 17 then vrun n d 241 50 [(2, x0), (0, x1), (0, x2)] [] (vsv w y0 7 y1) else none) (fun _ => rfl)).trans (EX_if.trans (and_congr Iff.rfl (Iff.rfl)))
set_option maxRecDepth 100000 in
theorem b241_50 {d : Nat} {w : vW} {x0 x1 x2 : Int} {Q : Int → vW → Prop} : VW d 241 50 [(2, x0), (0, x1), (0, x2)] [] w Q ↔ (vkd w x0 = 17) ∧ VW d 241 55 [(2, x0), (0, x1), (0, x2)] [] (vsv w x0 8 0) Q :=
  (VW_b 3 (F := fun n => if vkd w x0 = 17 then vrun n d 241 55 [(2, x0), (0, x1), (0, x2)] [] (vsv w x0 8 0) else none) (fun _ => rfl)).trans (EX_if.trans (and_congr Iff.rfl (Iff.rfl)))
set_option maxRecDepth 100000 in
theorem b241_55 {d : Nat} {w : vW} {x0 x1 x2 : Int} {Q : Int → vW → Prop} : VW d 241 55 [(2, x0), (0, x1), (0, x2)] [] w Q ↔ (vkd w x0 = 17) ∧ VW d 241 60 [(2, x0), (0, x1), (0, x2)] [] (vsv w x0 4 1) Q :=
  (VW_b 3 (F := fun n => if vkd w x0 = 17 then vrun n d 241 60 [(2, x0), (0, x1), (0, x2)] [] (vsv w x0 4 1) else none) (fun _ => rfl)).trans (EX_if.trans (and_congr Iff.rfl (Iff.rfl)))
set_option maxRecDepth 100000 in
theorem b241_60 {d : Nat} {w : vW} {x0 x1 x2 : Int} {Q : Int → vW → Prop} : VW d 241 60 [(2, x0), (0, x1), (0, x2)] [] w Q ↔ ((0 < x2 → VW d 241 64 [(2, x0), (0, x1), (0, x2)] [] w Q) ∧ (¬ (0 < x2) → VW d 241 68 [(2, x0), (0, x1), (0, x2)] [] w Q)) :=
  (VW_b 2 (F := fun n => (if 0 < x2 then vrun n d 241 64 [(2, x0), (0, x1), (0, x2)] [] w else vrun n d 241 68 [(2, x0), (0, x1), (0, x2)] [] w)) (fun _ => rfl)).trans (EX_br.trans (and_congr (imp_congr Iff.rfl Iff.rfl) (imp_congr Iff.rfl Iff.rfl)))
set_option maxRecDepth 100000 in
theorem b241_64 {d : Nat} {w : vW} {x0 x1 x2 : Int} {Q : Int → vW → Prop} : VW d 241 64 [(2, x0), (0, x1), (0, x2)] [] w Q ↔ VW d 241 69 [(2, x0), (0, x1), (0, x2)] [(0, 1)] w Q :=
  (VW_b 2 (F := fun n => vrun n d 241 69 [(2, x0), (0, x1), (0, x2)] [(0, 1)] w) (fun _ => rfl)).trans (Iff.rfl)
set_option maxRecDepth 100000 in
theorem b241_68 {d : Nat} {w : vW} {x0 x1 x2 : Int} {Q : Int → vW → Prop} : VW d 241 68 [(2, x0), (0, x1), (0, x2)] [] w Q ↔ VW d 241 69 [(2, x0), (0, x1), (0, x2)] [(0, 0)] w Q :=
  (VW_b 1 (F := fun n => vrun n d 241 69 [(2, x0), (0, x1), (0, x2)] [(0, 0)] w) (fun _ => rfl)).trans (Iff.rfl)
set_option maxRecDepth 100000 in
theorem b241_69 {d : Nat} {w : vW} {x0 x1 x2 y0 : Int} {Q : Int → vW → Prop} : VW d 241 69 [(2, x0), (0, x1), (0, x2)] [(0, y0)] w Q ↔ ((0 : Int) ≤ y0 ∧ y0 ≤ 1) ∧ Q y0 w :=
  (VW_b 1 (F := fun n => if (0 : Int) ≤ y0 ∧ y0 ≤ 1 then some (0, y0, w) else none) (fun _ => rfl)).trans (EX_if.trans (and_congr Iff.rfl (EX_ret0)))
set_option maxRecDepth 100000 in
theorem b241_70 {d : Nat} {w : vW} {x0 x1 x2 : Int} {Q : Int → vW → Prop} : VW d 241 70 [(2, x0), (0, x1), (0, x2)] [] w Q ↔ (vkd w x0 = 17) ∧ VC d 242 [(2, x0), (0, x1), (0, x2)] w (fun r w1 => VW d 241 76 [(2, x0), (0, x1), (0, x2)] [(0, r)] w1 Q) :=
  (VW_b 4 (F := fun n => if vkd w x0 = 17 then vclr (vrun n) d 241 76 242 3 0 [(2, x0), (0, x1), (0, x2)] [(0, x2), (0, x1), (2, x0)] w else none) (fun _ => rfl)).trans (EX_if.trans (and_congr Iff.rfl (EX_call rfl)))
set_option maxRecDepth 100000 in
theorem b241_76 {d : Nat} {w : vW} {x0 x1 x2 y0 : Int} {Q : Int → vW → Prop} : VW d 241 76 [(2, x0), (0, x1), (0, x2)] [(0, y0)] w Q ↔ ((0 : Int) ≤ y0 ∧ y0 ≤ 1) ∧ Q y0 w :=
  (VW_b 1 (F := fun n => if (0 : Int) ≤ y0 ∧ y0 ≤ 1 then some (0, y0, w) else none) (fun _ => rfl)).trans (EX_if.trans (and_congr Iff.rfl (EX_ret0)))
set_option maxRecDepth 100000 in
theorem b241_77 {d : Nat} {w : vW} {x0 x1 x2 : Int} {Q : Int → vW → Prop} : VW d 241 77 [(2, x0), (0, x1), (0, x2)] [] w Q ↔ ((0 < x2 → VW d 241 81 [(2, x0), (0, x1), (0, x2)] [] w Q) ∧ (¬ (0 < x2) → VW d 241 89 [(2, x0), (0, x1), (0, x2)] [] w Q)) :=
  (VW_b 2 (F := fun n => (if 0 < x2 then vrun n d 241 81 [(2, x0), (0, x1), (0, x2)] [] w else vrun n d 241 89 [(2, x0), (0, x1), (0, x2)] [] w)) (fun _ => rfl)).trans (EX_br.trans (and_congr (imp_congr Iff.rfl Iff.rfl) (imp_congr Iff.rfl Iff.rfl)))
set_option maxRecDepth 100000 in
theorem b241_81 {d : Nat} {w : vW} {x0 x1 x2 : Int} {Q : Int → vW → Prop} : VW d 241 81 [(2, x0), (0, x1), (0, x2)] [] w Q ↔ (vkd w x0 = 17) ∧ VC d 243 [(2, x0), (0, x2)] w (fun r w1 => VW d 241 86 [(2, x0), (0, x1), (0, x2)] [(0, r)] w1 Q) :=
  (VW_b 3 (F := fun n => if vkd w x0 = 17 then vclr (vrun n) d 241 86 243 2 0 [(2, x0), (0, x1), (0, x2)] [(0, x2), (2, x0)] w else none) (fun _ => rfl)).trans (EX_if.trans (and_congr Iff.rfl (EX_call rfl)))
set_option maxRecDepth 100000 in
theorem b241_86 {d : Nat} {w : vW} {x0 x1 x2 y0 : Int} {Q : Int → vW → Prop} : VW d 241 86 [(2, x0), (0, x1), (0, x2)] [(0, y0)] w Q ↔ VW d 241 94 [(2, x0), (0, x1), (0, x2)] [(0, y0)] w Q :=
  (VW_b 1 (F := fun n => vrun n d 241 94 [(2, x0), (0, x1), (0, x2)] [(0, y0)] w) (fun _ => rfl)).trans (Iff.rfl)
set_option maxRecDepth 100000 in
theorem b241_89 {d : Nat} {w : vW} {x0 x1 x2 : Int} {Q : Int → vW → Prop} : VW d 241 89 [(2, x0), (0, x1), (0, x2)] [] w Q ↔ (vkd w x0 = 17) ∧ VC d 245 [(2, x0), (0, x1)] w (fun r w1 => VW d 241 94 [(2, x0), (0, x1), (0, x2)] [(0, r)] w1 Q) :=
  (VW_b 3 (F := fun n => if vkd w x0 = 17 then vclr (vrun n) d 241 94 245 2 0 [(2, x0), (0, x1), (0, x2)] [(0, x1), (2, x0)] w else none) (fun _ => rfl)).trans (EX_if.trans (and_congr Iff.rfl (EX_call rfl)))
set_option maxRecDepth 100000 in
theorem b241_94 {d : Nat} {w : vW} {x0 x1 x2 y0 : Int} {Q : Int → vW → Prop} : VW d 241 94 [(2, x0), (0, x1), (0, x2)] [(0, y0)] w Q ↔ ((0 : Int) ≤ y0 ∧ y0 ≤ 1) ∧ Q y0 w :=
  (VW_b 1 (F := fun n => if (0 : Int) ≤ y0 ∧ y0 ≤ 1 then some (0, y0, w) else none) (fun _ => rfl)).trans (EX_if.trans (and_congr Iff.rfl (EX_ret0)))
set_option maxRecDepth 100000 in
theorem b241_95 {d : Nat} {w : vW} {x0 x1 x2 : Int} {Q : Int → vW → Prop} : VW d 241 95 [(2, x0), (0, x1), (0, x2)] [] w Q ↔ (vkd w x0 = 17) ∧ VC d 244 [(2, x0), (0, w32 (x1 - 48))] w (fun r w1 => VW d 241 103 [(2, x0), (0, x1), (0, x2)] [(0, r)] w1 Q) :=
  (VW_b 5 (F := fun n => if vkd w x0 = 17 then vclr (vrun n) d 241 103 244 2 0 [(2, x0), (0, x1), (0, x2)] [(0, w32 (x1 - 48)), (2, x0)] w else none) (fun _ => rfl)).trans (EX_if.trans (and_congr Iff.rfl (EX_call rfl)))
set_option maxRecDepth 100000 in
theorem b241_103 {d : Nat} {w : vW} {x0 x1 x2 y0 : Int} {Q : Int → vW → Prop} : VW d 241 103 [(2, x0), (0, x1), (0, x2)] [(0, y0)] w Q ↔ ((0 : Int) ≤ y0 ∧ y0 ≤ 1) ∧ Q y0 w :=
  (VW_b 1 (F := fun n => if (0 : Int) ≤ y0 ∧ y0 ≤ 1 then some (0, y0, w) else none) (fun _ => rfl)).trans (EX_if.trans (and_congr Iff.rfl (EX_ret0)))
set_option maxRecDepth 100000 in
theorem b241_104 {d : Nat} {w : vW} {x0 x1 x2 : Int} {Q : Int → vW → Prop} : VW d 241 104 [(2, x0), (0, x1), (0, x2)] [] w Q ↔ (vkd w x0 = 17) ∧ VC d 245 [(2, x0), (0, x1)] w (fun r w1 => VW d 241 109 [(2, x0), (0, x1), (0, x2)] [(0, r)] w1 Q) :=
  (VW_b 3 (F := fun n => if vkd w x0 = 17 then vclr (vrun n) d 241 109 245 2 0 [(2, x0), (0, x1), (0, x2)] [(0, x1), (2, x0)] w else none) (fun _ => rfl)).trans (EX_if.trans (and_congr Iff.rfl (EX_call rfl)))
set_option maxRecDepth 100000 in
theorem b241_109 {d : Nat} {w : vW} {x0 x1 x2 y0 : Int} {Q : Int → vW → Prop} : VW d 241 109 [(2, x0), (0, x1), (0, x2)] [(0, y0)] w Q ↔ ((0 : Int) ≤ y0 ∧ y0 ≤ 1) ∧ Q y0 w :=
  (VW_b 1 (F := fun n => if (0 : Int) ≤ y0 ∧ y0 ≤ 1 then some (0, y0, w) else none) (fun _ => rfl)).trans (EX_if.trans (and_congr Iff.rfl (EX_ret0)))
/-! 242: StrikeWhatCancels$Reader.takesInLeft(II)Z -/
set_option maxRecDepth 100000 in
theorem b242_0 {d : Nat} {w : vW} {x0 x1 x2 : Int} {Q : Int → vW → Prop} : VW d 242 0 [(2, x0), (0, x1), (0, x2)] [] w Q ↔ ((0 < x2 → VW d 242 4 [(2, x0), (0, x1), (0, x2)] [] w Q) ∧ (¬ (0 < x2) → VW d 242 42 [(2, x0), (0, x1), (0, x2)] [] w Q)) :=
  (VW_b 2 (F := fun n => (if 0 < x2 then vrun n d 242 4 [(2, x0), (0, x1), (0, x2)] [] w else vrun n d 242 42 [(2, x0), (0, x1), (0, x2)] [] w)) (fun _ => rfl)).trans (EX_br.trans (and_congr (imp_congr Iff.rfl Iff.rfl) (imp_congr Iff.rfl Iff.rfl)))
set_option maxRecDepth 100000 in
theorem b242_4 {d : Nat} {w : vW} {x0 x1 x2 : Int} {Q : Int → vW → Prop} : VW d 242 4 [(2, x0), (0, x1), (0, x2)] [] w Q ↔ (vkd w x0 = 17) ∧ VC d 273 [(1, vct w x0 7)] w (fun r w1 => VW d 242 11 [(2, x0), (0, x1), (0, x2)] [(0, r)] w1 Q) :=
  (VW_b 3 (F := fun n => if vkd w x0 = 17 then vclr (vrun n) d 242 11 273 1 0 [(2, x0), (0, x1), (0, x2)] [(1, vct w x0 7)] w else none) (fun _ => rfl)).trans (EX_if.trans (and_congr Iff.rfl (EX_call rfl)))
set_option maxRecDepth 100000 in
theorem b242_11 {d : Nat} {w : vW} {x0 x1 x2 y0 : Int} {Q : Int → vW → Prop} : VW d 242 11 [(2, x0), (0, x1), (0, x2)] [(0, y0)] w Q ↔ ((y0 < 5 → VW d 242 15 [(2, x0), (0, x1), (0, x2)] [] w Q) ∧ (¬ (y0 < 5) → VW d 242 42 [(2, x0), (0, x1), (0, x2)] [] w Q)) :=
  (VW_b 2 (F := fun n => (if y0 < 5 then vrun n d 242 15 [(2, x0), (0, x1), (0, x2)] [] w else vrun n d 242 42 [(2, x0), (0, x1), (0, x2)] [] w)) (fun _ => rfl)).trans (EX_br.trans (and_congr (imp_congr Iff.rfl Iff.rfl) (imp_congr Iff.rfl Iff.rfl)))
set_option maxRecDepth 100000 in
theorem b242_15 {d : Nat} {w : vW} {x0 x1 x2 : Int} {Q : Int → vW → Prop} : VW d 242 15 [(2, x0), (0, x1), (0, x2)] [] w Q ↔ (vkd w x0 = 17) ∧ (vkd w x0 = 17) ∧ VC d 273 [(1, vct w x0 7)] w (fun r w1 => VW d 242 27 [(2, x0), (0, x1), (0, x2)] [(0, r), (1, vct w x0 7), (2, x0)] w1 Q) :=
  (VW_b 6 (F := fun n => if vkd w x0 = 17 then if vkd w x0 = 17 then vclr (vrun n) d 242 27 273 1 0 [(2, x0), (0, x1), (0, x2)] [(1, vct w x0 7), (1, vct w x0 7), (2, x0)] w else none else none) (fun _ => rfl)).trans (EX_if.trans (and_congr Iff.rfl (EX_if.trans (and_congr Iff.rfl (EX_call rfl)))))
set_option maxRecDepth 100000 in
theorem b242_27 {d : Nat} {w : vW} {x0 x1 x2 y0 y1 y2 : Int} {Q : Int → vW → Prop} : VW d 242 27 [(2, x0), (0, x1), (0, x2)] [(0, y2), (1, y1), (2, y0)] w Q ↔ VC d 274 [(0, 1), (1, x2)] w (fun r w1 => VW d 242 34 [(2, x0), (0, x1), (0, x2)] [(1, r), (0, 0), (0, y2), (1, y1), (2, y0)] w1 Q) :=
  (VW_b 5 (F := fun n => vclr (vrun n) d 242 34 274 2 1 [(2, x0), (0, x1), (0, x2)] [(1, x2), (0, 1), (0, 0), (0, y2), (1, y1), (2, y0)] w) (fun _ => rfl)).trans (EX_call rfl)
set_option maxRecDepth 100000 in
theorem b242_34 {d : Nat} {w : vW} {x0 x1 x2 y0 y1 y2 y3 y4 : Int} {Q : Int → vW → Prop} : VW d 242 34 [(2, x0), (0, x1), (0, x2)] [(1, y4), (0, y3), (0, y2), (1, y1), (2, y0)] w Q ↔ VC d 278 [(1, y1), (0, y2), (0, y3), (1, y4)] w (fun r w1 => VW d 242 37 [(2, x0), (0, x1), (0, x2)] [(1, r), (2, y0)] w1 Q) :=
  (VW_b 1 (F := fun n => vclr (vrun n) d 242 37 278 4 1 [(2, x0), (0, x1), (0, x2)] [(1, y4), (0, y3), (0, y2), (1, y1), (2, y0)] w) (fun _ => rfl)).trans (EX_call rfl)
set_option maxRecDepth 100000 in
theorem b242_37 {d : Nat} {w : vW} {x0 x1 x2 y0 y1 : Int} {Q : Int → vW → Prop} : VW d 242 37 [(2, x0), (0, x1), (0, x2)] [(1, y1), (2, y0)] w Q ↔ (vkd w y0 = 17) ∧ VW d 242 40 [(2, x0), (0, x1), (0, x2)] [] (vsv w y0 7 y1) Q :=
  (VW_b 1 (F := fun n => if vkd w y0 = 17 then vrun n d 242 40 [(2, x0), (0, x1), (0, x2)] [] (vsv w y0 7 y1) else none) (fun _ => rfl)).trans (EX_if.trans (and_congr Iff.rfl (Iff.rfl)))
set_option maxRecDepth 100000 in
theorem b242_40 {d : Nat} {w : vW} {x0 x1 x2 : Int} {Q : Int → vW → Prop} : VW d 242 40 [(2, x0), (0, x1), (0, x2)] [] w Q ↔ Q 1 w :=
  (VW_b 2 (F := fun n => some (0, 1, w)) (fun _ => rfl)).trans (EX_ret0)
set_option maxRecDepth 100000 in
theorem b242_42 {d : Nat} {w : vW} {x0 x1 x2 : Int} {Q : Int → vW → Prop} : VW d 242 42 [(2, x0), (0, x1), (0, x2)] [] w Q ↔ ((x1 = 62 → VW d 242 48 [(2, x0), (0, x1), (0, x2)] [] w Q) ∧ (¬ (x1 = 62) → VW d 242 69 [(2, x0), (0, x1), (0, x2)] [] w Q)) :=
  (VW_b 3 (F := fun n => (if x1 = 62 then vrun n d 242 48 [(2, x0), (0, x1), (0, x2)] [] w else vrun n d 242 69 [(2, x0), (0, x1), (0, x2)] [] w)) (fun _ => rfl)).trans (EX_br.trans (and_congr (imp_congr Iff.rfl Iff.rfl) (imp_congr Iff.rfl Iff.rfl)))
set_option maxRecDepth 100000 in
theorem b242_48 {d : Nat} {w : vW} {x0 x1 x2 : Int} {Q : Int → vW → Prop} : VW d 242 48 [(2, x0), (0, x1), (0, x2)] [] w Q ↔ (vkd w x0 = 17) ∧ (vkd w (vct w x0 2) = 18) ∧ (vkd w x0 = 17) ∧ (((vct w (vct w x0 2) 3) < (vct w x0 5) → VW d 242 62 [(2, x0), (0, x1), (0, x2)] [] w Q) ∧ (¬ ((vct w (vct w x0 2) 3) < (vct w x0 5)) → VW d 242 69 [(2, x0), (0, x1), (0, x2)] [] w Q)) :=
  (VW_b 6 (F := fun n => if vkd w x0 = 17 then if vkd w (vct w x0 2) = 18 then if vkd w x0 = 17 then (if (vct w (vct w x0 2) 3) < (vct w x0 5) then vrun n d 242 62 [(2, x0), (0, x1), (0, x2)] [] w else vrun n d 242 69 [(2, x0), (0, x1), (0, x2)] [] w) else none else none else none) (fun _ => rfl)).trans (EX_if.trans (and_congr Iff.rfl (EX_if.trans (and_congr Iff.rfl (EX_if.trans (and_congr Iff.rfl (EX_br.trans (and_congr (imp_congr Iff.rfl Iff.rfl) (imp_congr Iff.rfl Iff.rfl)))))))))
set_option maxRecDepth 100000 in
theorem b242_62 {d : Nat} {w : vW} {x0 x1 x2 : Int} {Q : Int → vW → Prop} : VW d 242 62 [(2, x0), (0, x1), (0, x2)] [] w Q ↔ (vkd w x0 = 17) ∧ VW d 242 67 [(2, x0), (0, x1), (0, x2)] [] (vsv w x0 4 2) Q :=
  (VW_b 3 (F := fun n => if vkd w x0 = 17 then vrun n d 242 67 [(2, x0), (0, x1), (0, x2)] [] (vsv w x0 4 2) else none) (fun _ => rfl)).trans (EX_if.trans (and_congr Iff.rfl (Iff.rfl)))
set_option maxRecDepth 100000 in
theorem b242_67 {d : Nat} {w : vW} {x0 x1 x2 : Int} {Q : Int → vW → Prop} : VW d 242 67 [(2, x0), (0, x1), (0, x2)] [] w Q ↔ Q 1 w :=
  (VW_b 2 (F := fun n => some (0, 1, w)) (fun _ => rfl)).trans (EX_ret0)
set_option maxRecDepth 100000 in
theorem b242_69 {d : Nat} {w : vW} {x0 x1 x2 : Int} {Q : Int → vW → Prop} : VW d 242 69 [(2, x0), (0, x1), (0, x2)] [] w Q ↔ ((x1 = 61 → VW d 242 75 [(2, x0), (0, x1), (0, x2)] [] w Q) ∧ (¬ (x1 = 61) → VW d 242 93 [(2, x0), (0, x1), (0, x2)] [] w Q)) :=
  (VW_b 3 (F := fun n => (if x1 = 61 then vrun n d 242 75 [(2, x0), (0, x1), (0, x2)] [] w else vrun n d 242 93 [(2, x0), (0, x1), (0, x2)] [] w)) (fun _ => rfl)).trans (EX_br.trans (and_congr (imp_congr Iff.rfl Iff.rfl) (imp_congr Iff.rfl Iff.rfl)))
set_option maxRecDepth 100000 in
theorem b242_75 {d : Nat} {w : vW} {x0 x1 x2 : Int} {Q : Int → vW → Prop} : VW d 242 75 [(2, x0), (0, x1), (0, x2)] [] w Q ↔ (vkd w x0 = 17) ∧ VC d 273 [(1, vct w x0 7)] w (fun r w1 => VW d 242 82 [(2, x0), (0, x1), (0, x2)] [(0, r)] w1 Q) :=
  (VW_b 3 (F := fun n => if vkd w x0 = 17 then vclr (vrun n) d 242 82 273 1 0 [(2, x0), (0, x1), (0, x2)] [(1, vct w x0 7)] w else none) (fun _ => rfl)).trans (EX_if.trans (and_congr Iff.rfl (EX_call rfl)))
set_option maxRecDepth 100000 in
theorem b242_82 {d : Nat} {w : vW} {x0 x1 x2 y0 : Int} {Q : Int → vW → Prop} : VW d 242 82 [(2, x0), (0, x1), (0, x2)] [(0, y0)] w Q ↔ ((y0 = 1 → VW d 242 86 [(2, x0), (0, x1), (0, x2)] [] w Q) ∧ (¬ (y0 = 1) → VW d 242 93 [(2, x0), (0, x1), (0, x2)] [] w Q)) :=
  (VW_b 2 (F := fun n => (if y0 = 1 then vrun n d 242 86 [(2, x0), (0, x1), (0, x2)] [] w else vrun n d 242 93 [(2, x0), (0, x1), (0, x2)] [] w)) (fun _ => rfl)).trans (EX_br.trans (and_congr (imp_congr Iff.rfl Iff.rfl) (imp_congr Iff.rfl Iff.rfl)))
set_option maxRecDepth 100000 in
theorem b242_86 {d : Nat} {w : vW} {x0 x1 x2 : Int} {Q : Int → vW → Prop} : VW d 242 86 [(2, x0), (0, x1), (0, x2)] [] w Q ↔ (vkd w x0 = 17) ∧ VW d 242 91 [(2, x0), (0, x1), (0, x2)] [] (vsv w x0 4 3) Q :=
  (VW_b 3 (F := fun n => if vkd w x0 = 17 then vrun n d 242 91 [(2, x0), (0, x1), (0, x2)] [] (vsv w x0 4 3) else none) (fun _ => rfl)).trans (EX_if.trans (and_congr Iff.rfl (Iff.rfl)))
set_option maxRecDepth 100000 in
theorem b242_91 {d : Nat} {w : vW} {x0 x1 x2 : Int} {Q : Int → vW → Prop} : VW d 242 91 [(2, x0), (0, x1), (0, x2)] [] w Q ↔ Q 1 w :=
  (VW_b 2 (F := fun n => some (0, 1, w)) (fun _ => rfl)).trans (EX_ret0)
set_option maxRecDepth 100000 in
theorem b242_93 {d : Nat} {w : vW} {x0 x1 x2 : Int} {Q : Int → vW → Prop} : VW d 242 93 [(2, x0), (0, x1), (0, x2)] [] w Q ↔ Q 0 w :=
  (VW_b 2 (F := fun n => some (0, 0, w)) (fun _ => rfl)).trans (EX_ret0)
/-! 243: StrikeWhatCancels$Reader.takesInRight(I)Z -/
set_option maxRecDepth 100000 in
theorem b243_0 {d : Nat} {w : vW} {x0 x1 : Int} {Q : Int → vW → Prop} : VW d 243 0 [(2, x0), (0, x1)] [] w Q ↔ (vkd w x0 = 17) ∧ VC d 273 [(1, vct w x0 8)] w (fun r w1 => VW d 243 7 [(2, x0), (0, x1)] [(0, r)] w1 Q) :=
  (VW_b 3 (F := fun n => if vkd w x0 = 17 then vclr (vrun n) d 243 7 273 1 0 [(2, x0), (0, x1)] [(1, vct w x0 8)] w else none) (fun _ => rfl)).trans (EX_if.trans (and_congr Iff.rfl (EX_call rfl)))
set_option maxRecDepth 100000 in
theorem b243_7 {d : Nat} {w : vW} {x0 x1 y0 : Int} {Q : Int → vW → Prop} : VW d 243 7 [(2, x0), (0, x1)] [(0, y0)] w Q ↔ ((y0 < 5 → VW d 243 13 [(2, x0), (0, x1)] [] w Q) ∧ (¬ (y0 < 5) → VW d 243 11 [(2, x0), (0, x1)] [] w Q)) :=
  (VW_b 2 (F := fun n => (if y0 < 5 then vrun n d 243 13 [(2, x0), (0, x1)] [] w else vrun n d 243 11 [(2, x0), (0, x1)] [] w)) (fun _ => rfl)).trans (EX_br.trans (and_congr (imp_congr Iff.rfl Iff.rfl) (imp_congr Iff.rfl Iff.rfl)))
set_option maxRecDepth 100000 in
theorem b243_11 {d : Nat} {w : vW} {x0 x1 : Int} {Q : Int → vW → Prop} : VW d 243 11 [(2, x0), (0, x1)] [] w Q ↔ Q 0 w :=
  (VW_b 2 (F := fun n => some (0, 0, w)) (fun _ => rfl)).trans (EX_ret0)
set_option maxRecDepth 100000 in
theorem b243_13 {d : Nat} {w : vW} {x0 x1 : Int} {Q : Int → vW → Prop} : VW d 243 13 [(2, x0), (0, x1)] [] w Q ↔ (vkd w x0 = 17) ∧ (vkd w x0 = 17) ∧ VC d 273 [(1, vct w x0 8)] w (fun r w1 => VW d 243 25 [(2, x0), (0, x1)] [(0, r), (1, vct w x0 8), (2, x0)] w1 Q) :=
  (VW_b 6 (F := fun n => if vkd w x0 = 17 then if vkd w x0 = 17 then vclr (vrun n) d 243 25 273 1 0 [(2, x0), (0, x1)] [(1, vct w x0 8), (1, vct w x0 8), (2, x0)] w else none else none) (fun _ => rfl)).trans (EX_if.trans (and_congr Iff.rfl (EX_if.trans (and_congr Iff.rfl (EX_call rfl)))))
set_option maxRecDepth 100000 in
theorem b243_25 {d : Nat} {w : vW} {x0 x1 y0 y1 y2 : Int} {Q : Int → vW → Prop} : VW d 243 25 [(2, x0), (0, x1)] [(0, y2), (1, y1), (2, y0)] w Q ↔ VC d 274 [(0, 1), (1, x1)] w (fun r w1 => VW d 243 32 [(2, x0), (0, x1)] [(1, r), (0, 0), (0, y2), (1, y1), (2, y0)] w1 Q) :=
  (VW_b 5 (F := fun n => vclr (vrun n) d 243 32 274 2 1 [(2, x0), (0, x1)] [(1, x1), (0, 1), (0, 0), (0, y2), (1, y1), (2, y0)] w) (fun _ => rfl)).trans (EX_call rfl)
set_option maxRecDepth 100000 in
theorem b243_32 {d : Nat} {w : vW} {x0 x1 y0 y1 y2 y3 y4 : Int} {Q : Int → vW → Prop} : VW d 243 32 [(2, x0), (0, x1)] [(1, y4), (0, y3), (0, y2), (1, y1), (2, y0)] w Q ↔ VC d 278 [(1, y1), (0, y2), (0, y3), (1, y4)] w (fun r w1 => VW d 243 35 [(2, x0), (0, x1)] [(1, r), (2, y0)] w1 Q) :=
  (VW_b 1 (F := fun n => vclr (vrun n) d 243 35 278 4 1 [(2, x0), (0, x1)] [(1, y4), (0, y3), (0, y2), (1, y1), (2, y0)] w) (fun _ => rfl)).trans (EX_call rfl)
set_option maxRecDepth 100000 in
theorem b243_35 {d : Nat} {w : vW} {x0 x1 y0 y1 : Int} {Q : Int → vW → Prop} : VW d 243 35 [(2, x0), (0, x1)] [(1, y1), (2, y0)] w Q ↔ (vkd w y0 = 17) ∧ VW d 243 38 [(2, x0), (0, x1)] [] (vsv w y0 8 y1) Q :=
  (VW_b 1 (F := fun n => if vkd w y0 = 17 then vrun n d 243 38 [(2, x0), (0, x1)] [] (vsv w y0 8 y1) else none) (fun _ => rfl)).trans (EX_if.trans (and_congr Iff.rfl (Iff.rfl)))
set_option maxRecDepth 100000 in
theorem b243_38 {d : Nat} {w : vW} {x0 x1 : Int} {Q : Int → vW → Prop} : VW d 243 38 [(2, x0), (0, x1)] [] w Q ↔ Q 1 w :=
  (VW_b 2 (F := fun n => some (0, 1, w)) (fun _ => rfl)).trans (EX_ret0)
/-! 244: StrikeWhatCancels$Reader.takesWeight(I)Z -/
set_option maxRecDepth 100000 in
theorem b244_0 {d : Nat} {w : vW} {x0 x1 : Int} {Q : Int → vW → Prop} : VW d 244 0 [(2, x0), (0, x1), (9, 0)] [] w Q ↔ (vkd w x0 = 17) ∧ VC d 276 [(1, vct w x0 7), (0, 0)] w (fun r w1 => VW d 244 8 [(2, x0), (0, x1), (9, 0)] [(0, r)] w1 Q) :=
  (VW_b 4 (F := fun n => if vkd w x0 = 17 then vclr (vrun n) d 244 8 276 2 0 [(2, x0), (0, x1), (9, 0)] [(0, 0), (1, vct w x0 7)] w else none) (fun _ => rfl)).trans (EX_if.trans (and_congr Iff.rfl (EX_call rfl)))
set_option maxRecDepth 100000 in
theorem b244_8 {d : Nat} {w : vW} {x0 x1 y0 : Int} {Q : Int → vW → Prop} : VW d 244 8 [(2, x0), (0, x1), (9, 0)] [(0, y0)] w Q ↔ ((x1 < 1 → VW d 244 35 [(2, x0), (0, x1), (0, w32 (y0 - 1))] [] w Q) ∧ (¬ (x1 < 1) → VW d 244 16 [(2, x0), (0, x1), (0, w32 (y0 - 1))] [] w Q)) :=
  (VW_b 6 (F := fun n => (if x1 < 1 then vrun n d 244 35 [(2, x0), (0, x1), (0, w32 (y0 - 1))] [] w else vrun n d 244 16 [(2, x0), (0, x1), (0, w32 (y0 - 1))] [] w)) (fun _ => rfl)).trans (EX_br.trans (and_congr (imp_congr Iff.rfl Iff.rfl) (imp_congr Iff.rfl Iff.rfl)))
set_option maxRecDepth 100000 in
theorem b244_16 {d : Nat} {w : vW} {x0 x1 x2 : Int} {Q : Int → vW → Prop} : VW d 244 16 [(2, x0), (0, x1), (0, x2)] [] w Q ↔ ((9 < x1 → VW d 244 35 [(2, x0), (0, x1), (0, x2)] [] w Q) ∧ (¬ (9 < x1) → VW d 244 22 [(2, x0), (0, x1), (0, x2)] [] w Q)) :=
  (VW_b 3 (F := fun n => (if 9 < x1 then vrun n d 244 35 [(2, x0), (0, x1), (0, x2)] [] w else vrun n d 244 22 [(2, x0), (0, x1), (0, x2)] [] w)) (fun _ => rfl)).trans (EX_br.trans (and_congr (imp_congr Iff.rfl Iff.rfl) (imp_congr Iff.rfl Iff.rfl)))
set_option maxRecDepth 100000 in
theorem b244_22 {d : Nat} {w : vW} {x0 x1 x2 : Int} {Q : Int → vW → Prop} : VW d 244 22 [(2, x0), (0, x1), (0, x2)] [] w Q ↔ ((x2 < 0 → VW d 244 35 [(2, x0), (0, x1), (0, x2)] [] w Q) ∧ (¬ (x2 < 0) → VW d 244 26 [(2, x0), (0, x1), (0, x2)] [] w Q)) :=
  (VW_b 2 (F := fun n => (if x2 < 0 then vrun n d 244 35 [(2, x0), (0, x1), (0, x2)] [] w else vrun n d 244 26 [(2, x0), (0, x1), (0, x2)] [] w)) (fun _ => rfl)).trans (EX_br.trans (and_congr (imp_congr Iff.rfl Iff.rfl) (imp_congr Iff.rfl Iff.rfl)))
set_option maxRecDepth 100000 in
theorem b244_26 {d : Nat} {w : vW} {x0 x1 x2 : Int} {Q : Int → vW → Prop} : VW d 244 26 [(2, x0), (0, x1), (0, x2)] [] w Q ↔ (vkd w x0 = 17) ∧ (vkd w (vct w x0 3) = 1) ∧ ((x2 < (vln w (vct w x0 3)) → VW d 244 37 [(2, x0), (0, x1), (0, x2)] [] w Q) ∧ (¬ (x2 < (vln w (vct w x0 3))) → VW d 244 35 [(2, x0), (0, x1), (0, x2)] [] w Q)) :=
  (VW_b 5 (F := fun n => if vkd w x0 = 17 then if vkd w (vct w x0 3) = 1 then (if x2 < (vln w (vct w x0 3)) then vrun n d 244 37 [(2, x0), (0, x1), (0, x2)] [] w else vrun n d 244 35 [(2, x0), (0, x1), (0, x2)] [] w) else none else none) (fun _ => rfl)).trans (EX_if.trans (and_congr Iff.rfl (EX_if.trans (and_congr Iff.rfl (EX_br.trans (and_congr (imp_congr Iff.rfl Iff.rfl) (imp_congr Iff.rfl Iff.rfl)))))))
set_option maxRecDepth 100000 in
theorem b244_35 {d : Nat} {w : vW} {x0 x1 x2 : Int} {Q : Int → vW → Prop} : VW d 244 35 [(2, x0), (0, x1), (0, x2)] [] w Q ↔ Q 0 w :=
  (VW_b 2 (F := fun n => some (0, 0, w)) (fun _ => rfl)).trans (EX_ret0)
set_option maxRecDepth 100000 in
theorem b244_37 {d : Nat} {w : vW} {x0 x1 x2 : Int} {Q : Int → vW → Prop} : VW d 244 37 [(2, x0), (0, x1), (0, x2)] [] w Q ↔ (vkd w x0 = 17) ∧ (vkd w (vct w x0 3) = 1 ∧ (0 : Int) ≤ x2 ∧ x2 < vln w (vct w x0 3)) ∧ VW d 244 44 [(2, x0), (0, x1), (0, x2)] [] (vsv w (vct w x0 3) x2 x1) Q :=
  (VW_b 5 (F := fun n => if vkd w x0 = 17 then if vkd w (vct w x0 3) = 1 ∧ (0 : Int) ≤ x2 ∧ x2 < vln w (vct w x0 3) then vrun n d 244 44 [(2, x0), (0, x1), (0, x2)] [] (vsv w (vct w x0 3) x2 x1) else none else none) (fun _ => rfl)).trans (EX_if.trans (and_congr Iff.rfl (EX_if.trans (and_congr Iff.rfl (Iff.rfl)))))
set_option maxRecDepth 100000 in
theorem b244_44 {d : Nat} {w : vW} {x0 x1 x2 : Int} {Q : Int → vW → Prop} : VW d 244 44 [(2, x0), (0, x1), (0, x2)] [] w Q ↔ (vkd w x0 = 17) ∧ VW d 244 49 [(2, x0), (0, x1), (0, x2)] [] (vsv w x0 4 4) Q :=
  (VW_b 3 (F := fun n => if vkd w x0 = 17 then vrun n d 244 49 [(2, x0), (0, x1), (0, x2)] [] (vsv w x0 4 4) else none) (fun _ => rfl)).trans (EX_if.trans (and_congr Iff.rfl (Iff.rfl)))
set_option maxRecDepth 100000 in
theorem b244_49 {d : Nat} {w : vW} {x0 x1 x2 : Int} {Q : Int → vW → Prop} : VW d 244 49 [(2, x0), (0, x1), (0, x2)] [] w Q ↔ Q 1 w :=
  (VW_b 2 (F := fun n => some (0, 1, w)) (fun _ => rfl)).trans (EX_ret0)
/-! 245: StrikeWhatCancels$Reader.endsAt(I)Z -/
set_option maxRecDepth 100000 in
theorem b245_0 {d : Nat} {w : vW} {x0 x1 : Int} {Q : Int → vW → Prop} : VW d 245 0 [(2, x0), (0, x1)] [] w Q ↔ ((x1 = 59 → VW d 245 6 [(2, x0), (0, x1)] [] w Q) ∧ (¬ (x1 = 59) → VW d 245 17 [(2, x0), (0, x1)] [] w Q)) :=
  (VW_b 3 (F := fun n => (if x1 = 59 then vrun n d 245 6 [(2, x0), (0, x1)] [] w else vrun n d 245 17 [(2, x0), (0, x1)] [] w)) (fun _ => rfl)).trans (EX_br.trans (and_congr (imp_congr Iff.rfl Iff.rfl) (imp_congr Iff.rfl Iff.rfl)))
set_option maxRecDepth 100000 in
theorem b245_6 {d : Nat} {w : vW} {x0 x1 : Int} {Q : Int → vW → Prop} : VW d 245 6 [(2, x0), (0, x1)] [] w Q ↔ (vkd w x0 = 17) ∧ VC d 246 [(2, x0)] w (fun r w1 => VW d 245 10 [(2, x0), (0, x1)] [(0, r)] w1 Q) :=
  (VW_b 2 (F := fun n => if vkd w x0 = 17 then vclr (vrun n) d 245 10 246 1 0 [(2, x0), (0, x1)] [(2, x0)] w else none) (fun _ => rfl)).trans (EX_if.trans (and_congr Iff.rfl (EX_call rfl)))
set_option maxRecDepth 100000 in
theorem b245_10 {d : Nat} {w : vW} {x0 x1 y0 : Int} {Q : Int → vW → Prop} : VW d 245 10 [(2, x0), (0, x1)] [(0, y0)] w Q ↔ ((y0 = 0 → VW d 245 17 [(2, x0), (0, x1)] [] w Q) ∧ (¬ (y0 = 0) → VW d 245 13 [(2, x0), (0, x1)] [] w Q)) :=
  (VW_b 1 (F := fun n => (if y0 = 0 then vrun n d 245 17 [(2, x0), (0, x1)] [] w else vrun n d 245 13 [(2, x0), (0, x1)] [] w)) (fun _ => rfl)).trans (EX_br.trans (and_congr (imp_congr Iff.rfl Iff.rfl) (imp_congr Iff.rfl Iff.rfl)))
set_option maxRecDepth 100000 in
theorem b245_13 {d : Nat} {w : vW} {x0 x1 : Int} {Q : Int → vW → Prop} : VW d 245 13 [(2, x0), (0, x1)] [] w Q ↔ VW d 245 18 [(2, x0), (0, x1)] [(0, 1)] w Q :=
  (VW_b 2 (F := fun n => vrun n d 245 18 [(2, x0), (0, x1)] [(0, 1)] w) (fun _ => rfl)).trans (Iff.rfl)
set_option maxRecDepth 100000 in
theorem b245_17 {d : Nat} {w : vW} {x0 x1 : Int} {Q : Int → vW → Prop} : VW d 245 17 [(2, x0), (0, x1)] [] w Q ↔ VW d 245 18 [(2, x0), (0, x1)] [(0, 0)] w Q :=
  (VW_b 1 (F := fun n => vrun n d 245 18 [(2, x0), (0, x1)] [(0, 0)] w) (fun _ => rfl)).trans (Iff.rfl)
set_option maxRecDepth 100000 in
theorem b245_18 {d : Nat} {w : vW} {x0 x1 y0 : Int} {Q : Int → vW → Prop} : VW d 245 18 [(2, x0), (0, x1)] [(0, y0)] w Q ↔ ((0 : Int) ≤ y0 ∧ y0 ≤ 1) ∧ Q y0 w :=
  (VW_b 1 (F := fun n => if (0 : Int) ≤ y0 ∧ y0 ≤ 1 then some (0, y0, w) else none) (fun _ => rfl)).trans (EX_if.trans (and_congr Iff.rfl (EX_ret0)))
/-! 246: StrikeWhatCancels$Reader.endsLine()Z -/
set_option maxRecDepth 100000 in
theorem b246_0 {d : Nat} {w : vW} {x0 : Int} {Q : Int → vW → Prop} : VW d 246 0 [(2, x0)] [] w Q ↔ (vkd w x0 = 17) ∧ (((vct w x0 4) = 2 → VW d 246 8 [(2, x0)] [] w Q) ∧ (¬ ((vct w x0 4) = 2) → VW d 246 38 [(2, x0)] [] w Q)) :=
  (VW_b 4 (F := fun n => if vkd w x0 = 17 then (if (vct w x0 4) = 2 then vrun n d 246 8 [(2, x0)] [] w else vrun n d 246 38 [(2, x0)] [] w) else none) (fun _ => rfl)).trans (EX_if.trans (and_congr Iff.rfl (EX_br.trans (and_congr (imp_congr Iff.rfl Iff.rfl) (imp_congr Iff.rfl Iff.rfl)))))
set_option maxRecDepth 100000 in
theorem b246_8 {d : Nat} {w : vW} {x0 : Int} {Q : Int → vW → Prop} : VW d 246 8 [(2, x0)] [] w Q ↔ (vkd w x0 = 17) ∧ (vkd w x0 = 17) ∧ (((vlc (vct w x0 8) (vct w x0 7)) < 0 → VW d 246 20 [(2, x0)] [] w Q) ∧ (¬ ((vlc (vct w x0 8) (vct w x0 7)) < 0) → VW d 246 38 [(2, x0)] [] w Q)) :=
  (VW_b 6 (F := fun n => if vkd w x0 = 17 then if vkd w x0 = 17 then (if (vlc (vct w x0 8) (vct w x0 7)) < 0 then vrun n d 246 20 [(2, x0)] [] w else vrun n d 246 38 [(2, x0)] [] w) else none else none) (fun _ => rfl)).trans (EX_if.trans (and_congr Iff.rfl (EX_if.trans (and_congr Iff.rfl (EX_br.trans (and_congr (imp_congr Iff.rfl Iff.rfl) (imp_congr Iff.rfl Iff.rfl)))))))
set_option maxRecDepth 100000 in
theorem b246_20 {d : Nat} {w : vW} {x0 : Int} {Q : Int → vW → Prop} : VW d 246 20 [(2, x0)] [] w Q ↔ (vkd w x0 = 17) ∧ (vkd w x0 = 17) ∧ (vkd w x0 = 17) ∧ (vkd w (vct w x0 2) = 18) ∧ VC d 255 [(2, vct w x0 2), (1, vct w x0 7), (1, vct w x0 8)] w (fun _ w1 => VW d 246 35 [(2, x0)] [] w1 Q) :=
  (VW_b 7 (F := fun n => if vkd w x0 = 17 then if vkd w x0 = 17 then if vkd w x0 = 17 then if vkd w (vct w x0 2) = 18 then vclr (vrun n) d 246 35 255 3 9 [(2, x0)] [(1, vct w x0 8), (1, vct w x0 7), (2, vct w x0 2)] w else none else none else none else none) (fun _ => rfl)).trans (EX_if.trans (and_congr Iff.rfl (EX_if.trans (and_congr Iff.rfl (EX_if.trans (and_congr Iff.rfl (EX_if.trans (and_congr Iff.rfl (EX_call rfl)))))))))
set_option maxRecDepth 100000 in
theorem b246_35 {d : Nat} {w : vW} {x0 : Int} {Q : Int → vW → Prop} : VW d 246 35 [(2, x0)] [] w Q ↔ VW d 246 48 [(2, x0)] [] w Q :=
  (VW_b 1 (F := fun n => vrun n d 246 48 [(2, x0)] [] w) (fun _ => rfl)).trans (Iff.rfl)
set_option maxRecDepth 100000 in
theorem b246_38 {d : Nat} {w : vW} {x0 : Int} {Q : Int → vW → Prop} : VW d 246 38 [(2, x0)] [] w Q ↔ (vkd w x0 = 17) ∧ (((vct w x0 4) = 4 → VW d 246 48 [(2, x0)] [] w Q) ∧ (¬ ((vct w x0 4) = 4) → VW d 246 46 [(2, x0)] [] w Q)) :=
  (VW_b 4 (F := fun n => if vkd w x0 = 17 then (if (vct w x0 4) = 4 then vrun n d 246 48 [(2, x0)] [] w else vrun n d 246 46 [(2, x0)] [] w) else none) (fun _ => rfl)).trans (EX_if.trans (and_congr Iff.rfl (EX_br.trans (and_congr (imp_congr Iff.rfl Iff.rfl) (imp_congr Iff.rfl Iff.rfl)))))
set_option maxRecDepth 100000 in
theorem b246_46 {d : Nat} {w : vW} {x0 : Int} {Q : Int → vW → Prop} : VW d 246 46 [(2, x0)] [] w Q ↔ Q 0 w :=
  (VW_b 2 (F := fun n => some (0, 0, w)) (fun _ => rfl)).trans (EX_ret0)
set_option maxRecDepth 100000 in
theorem b246_48 {d : Nat} {w : vW} {x0 : Int} {Q : Int → vW → Prop} : VW d 246 48 [(2, x0)] [] w Q ↔ (vkd w x0 = 17) ∧ VW d 246 53 [(2, x0)] [] (vsv w x0 4 0) Q :=
  (VW_b 3 (F := fun n => if vkd w x0 = 17 then vrun n d 246 53 [(2, x0)] [] (vsv w x0 4 0) else none) (fun _ => rfl)).trans (EX_if.trans (and_congr Iff.rfl (Iff.rfl)))
set_option maxRecDepth 100000 in
theorem b246_53 {d : Nat} {w : vW} {x0 : Int} {Q : Int → vW → Prop} : VW d 246 53 [(2, x0)] [] w Q ↔ (vkd w x0 = 17) ∧ (vkd w x0 = 17) ∧ VW d 246 63 [(2, x0)] [] (vsv w x0 6 (w32 ((vct w x0 6) + 1))) Q :=
  (VW_b 6 (F := fun n => if vkd w x0 = 17 then if vkd w x0 = 17 then vrun n d 246 63 [(2, x0)] [] (vsv w x0 6 (w32 ((vct w x0 6) + 1))) else none else none) (fun _ => rfl)).trans (EX_if.trans (and_congr Iff.rfl (EX_if.trans (and_congr Iff.rfl (Iff.rfl)))))
set_option maxRecDepth 100000 in
theorem b246_63 {d : Nat} {w : vW} {x0 : Int} {Q : Int → vW → Prop} : VW d 246 63 [(2, x0)] [] w Q ↔ Q 1 w :=
  (VW_b 2 (F := fun n => some (0, 1, w)) (fun _ => rfl)).trans (EX_ret0)
/-! 247: StrikeWhatCancels$Reader.handOver(LStrikeWhatCancels$Rules;LStrikeWhatCancels$Desk;)V -/
set_option maxRecDepth 100000 in
theorem b247_0 {d : Nat} {w : vW} {x0 x1 x2 : Int} {Q : Int → vW → Prop} : VW d 247 0 [(2, x0), (2, x1), (2, x2), (9, 0)] [] w Q ↔ (vkd w x0 = 17) ∧ (vkd w x1 = 18) ∧ VC d 256 [(2, x1), (2, vct w x0 2)] w (fun _ w1 => VW d 247 8 [(2, x0), (2, x1), (2, x2), (9, 0)] [] w1 Q) :=
  (VW_b 4 (F := fun n => if vkd w x0 = 17 then if vkd w x1 = 18 then vclr (vrun n) d 247 8 256 2 9 [(2, x0), (2, x1), (2, x2), (9, 0)] [(2, vct w x0 2), (2, x1)] w else none else none) (fun _ => rfl)).trans (EX_if.trans (and_congr Iff.rfl (EX_if.trans (and_congr Iff.rfl (EX_call rfl)))))
set_option maxRecDepth 100000 in
theorem b247_8 {d : Nat} {w : vW} {x0 x1 x2 : Int} {Q : Int → vW → Prop} : VW d 247 8 [(2, x0), (2, x1), (2, x2), (9, 0)] [] w Q ↔ VW d 247 10 [(2, x0), (2, x1), (2, x2), (0, 0)] [] w Q :=
  (VW_b 2 (F := fun n => vrun n d 247 10 [(2, x0), (2, x1), (2, x2), (0, 0)] [] w) (fun _ => rfl)).trans (Iff.rfl)
set_option maxRecDepth 100000 in
theorem b247_10 {d : Nat} {w : vW} {x0 x1 x2 x3 : Int} {Q : Int → vW → Prop} : VW d 247 10 [(2, x0), (2, x1), (2, x2), (0, x3)] [] w Q ↔ (vkd w x0 = 17) ∧ (vkd w (vct w x0 3) = 1) ∧ ((x3 < (vln w (vct w x0 3)) → VW d 247 19 [(2, x0), (2, x1), (2, x2), (0, x3)] [] w Q) ∧ (¬ (x3 < (vln w (vct w x0 3))) → VW d 247 45 [(2, x0), (2, x1), (2, x2), (0, x3)] [] w Q)) :=
  (VW_b 5 (F := fun n => if vkd w x0 = 17 then if vkd w (vct w x0 3) = 1 then (if x3 < (vln w (vct w x0 3)) then vrun n d 247 19 [(2, x0), (2, x1), (2, x2), (0, x3)] [] w else vrun n d 247 45 [(2, x0), (2, x1), (2, x2), (0, x3)] [] w) else none else none) (fun _ => rfl)).trans (EX_if.trans (and_congr Iff.rfl (EX_if.trans (and_congr Iff.rfl (EX_br.trans (and_congr (imp_congr Iff.rfl Iff.rfl) (imp_congr Iff.rfl Iff.rfl)))))))
set_option maxRecDepth 100000 in
theorem b247_19 {d : Nat} {w : vW} {x0 x1 x2 x3 : Int} {Q : Int → vW → Prop} : VW d 247 19 [(2, x0), (2, x1), (2, x2), (0, x3)] [] w Q ↔ (vkd w x0 = 17) ∧ (vkd w (vct w x0 3) = 1 ∧ (0 : Int) ≤ x3 ∧ x3 < vln w (vct w x0 3)) ∧ ((0 < (vct w (vct w x0 3) x3) → VW d 247 28 [(2, x0), (2, x1), (2, x2), (0, x3)] [] w Q) ∧ (¬ (0 < (vct w (vct w x0 3) x3)) → VW d 247 39 [(2, x0), (2, x1), (2, x2), (0, x3)] [] w Q)) :=
  (VW_b 5 (F := fun n => if vkd w x0 = 17 then if vkd w (vct w x0 3) = 1 ∧ (0 : Int) ≤ x3 ∧ x3 < vln w (vct w x0 3) then (if 0 < (vct w (vct w x0 3) x3) then vrun n d 247 28 [(2, x0), (2, x1), (2, x2), (0, x3)] [] w else vrun n d 247 39 [(2, x0), (2, x1), (2, x2), (0, x3)] [] w) else none else none) (fun _ => rfl)).trans (EX_if.trans (and_congr Iff.rfl (EX_if.trans (and_congr Iff.rfl (EX_br.trans (and_congr (imp_congr Iff.rfl Iff.rfl) (imp_congr Iff.rfl Iff.rfl)))))))
set_option maxRecDepth 100000 in
theorem b247_28 {d : Nat} {w : vW} {x0 x1 x2 x3 : Int} {Q : Int → vW → Prop} : VW d 247 28 [(2, x0), (2, x1), (2, x2), (0, x3)] [] w Q ↔ (vkd w x0 = 17) ∧ (vkd w (vct w x0 3) = 1 ∧ (0 : Int) ≤ x3 ∧ x3 < vln w (vct w x0 3)) ∧ (vkd w x2 = 12) ∧ VC d 175 [(2, x2), (0, x3), (0, vct w (vct w x0 3) x3)] w (fun _ w1 => VW d 247 39 [(2, x0), (2, x1), (2, x2), (0, x3)] [] w1 Q) :=
  (VW_b 7 (F := fun n => if vkd w x0 = 17 then if vkd w (vct w x0 3) = 1 ∧ (0 : Int) ≤ x3 ∧ x3 < vln w (vct w x0 3) then if vkd w x2 = 12 then vclr (vrun n) d 247 39 175 3 9 [(2, x0), (2, x1), (2, x2), (0, x3)] [(0, vct w (vct w x0 3) x3), (0, x3), (2, x2)] w else none else none else none) (fun _ => rfl)).trans (EX_if.trans (and_congr Iff.rfl (EX_if.trans (and_congr Iff.rfl (EX_if.trans (and_congr Iff.rfl (EX_call rfl)))))))
set_option maxRecDepth 100000 in
theorem b247_39 {d : Nat} {w : vW} {x0 x1 x2 x3 : Int} {Q : Int → vW → Prop} : VW d 247 39 [(2, x0), (2, x1), (2, x2), (0, x3)] [] w Q ↔ VW d 247 10 [(2, x0), (2, x1), (2, x2), (0, w32 (x3 + 1))] [] w Q :=
  (VW_b 2 (F := fun n => vrun n d 247 10 [(2, x0), (2, x1), (2, x2), (0, w32 (x3 + 1))] [] w) (fun _ => rfl)).trans (Iff.rfl)
set_option maxRecDepth 100000 in
theorem b247_45 {d : Nat} {w : vW} {x0 x1 x2 x3 : Int} {Q : Int → vW → Prop} : VW d 247 45 [(2, x0), (2, x1), (2, x2), (0, x3)] [] w Q ↔ Q 0 w :=
  (VW_b 1 (F := fun n => some (0, 0, w)) (fun _ => rfl)).trans (EX_ret0)
/-! 248: StrikeWhatCancels$Rules.<init>()V -/
set_option maxRecDepth 100000 in
theorem b248_0 {d : Nat} {w : vW} {x0 : Int} {Q : Int → vW → Prop} : VW d 248 0 [(2, x0)] [] w Q ↔ (vkd w x0 ≠ 0) ∧ VW d 248 9 [(2, x0)] [(2, vnt w), (2, x0)] (vnw w 2 24 (fun _ => 0) (24 : Int).toNat) Q :=
  (VW_b 5 (F := fun n => if vkd w x0 ≠ 0 then vrun n d 248 9 [(2, x0)] [(2, vnt w), (2, x0)] (vnw w 2 24 (fun _ => 0) (24 : Int).toNat) else none) (fun _ => rfl)).trans (EX_if.trans (and_congr Iff.rfl (Iff.rfl)))
set_option maxRecDepth 100000 in
theorem b248_9 {d : Nat} {w : vW} {x0 y0 y1 : Int} {Q : Int → vW → Prop} : VW d 248 9 [(2, x0)] [(2, y1), (2, y0)] w Q ↔ (vkd w y0 = 18) ∧ VW d 248 12 [(2, x0)] [] (vsv w y0 0 y1) Q :=
  (VW_b 1 (F := fun n => if vkd w y0 = 18 then vrun n d 248 12 [(2, x0)] [] (vsv w y0 0 y1) else none) (fun _ => rfl)).trans (EX_if.trans (and_congr Iff.rfl (Iff.rfl)))
set_option maxRecDepth 100000 in
theorem b248_12 {d : Nat} {w : vW} {x0 : Int} {Q : Int → vW → Prop} : VW d 248 12 [(2, x0)] [] w Q ↔ VW d 248 17 [(2, x0)] [(2, vnt w), (2, x0)] (vnw w 2 24 (fun _ => 0) (24 : Int).toNat) Q :=
  (VW_b 3 (F := fun n => vrun n d 248 17 [(2, x0)] [(2, vnt w), (2, x0)] (vnw w 2 24 (fun _ => 0) (24 : Int).toNat)) (fun _ => rfl)).trans (Iff.rfl)
set_option maxRecDepth 100000 in
theorem b248_17 {d : Nat} {w : vW} {x0 y0 y1 : Int} {Q : Int → vW → Prop} : VW d 248 17 [(2, x0)] [(2, y1), (2, y0)] w Q ↔ (vkd w y0 = 18) ∧ VW d 248 20 [(2, x0)] [] (vsv w y0 1 y1) Q :=
  (VW_b 1 (F := fun n => if vkd w y0 = 18 then vrun n d 248 20 [(2, x0)] [] (vsv w y0 1 y1) else none) (fun _ => rfl)).trans (EX_if.trans (and_congr Iff.rfl (Iff.rfl)))
set_option maxRecDepth 100000 in
theorem b248_20 {d : Nat} {w : vW} {x0 : Int} {Q : Int → vW → Prop} : VW d 248 20 [(2, x0)] [] w Q ↔ VW d 248 25 [(2, x0)] [(2, vnt w), (2, x0)] (vnw w 1 9 (fun _ => 0) (9 : Int).toNat) Q :=
  (VW_b 3 (F := fun n => vrun n d 248 25 [(2, x0)] [(2, vnt w), (2, x0)] (vnw w 1 9 (fun _ => 0) (9 : Int).toNat)) (fun _ => rfl)).trans (Iff.rfl)
set_option maxRecDepth 100000 in
theorem b248_25 {d : Nat} {w : vW} {x0 y0 y1 : Int} {Q : Int → vW → Prop} : VW d 248 25 [(2, x0)] [(2, y1), (2, y0)] w Q ↔ (vkd w y0 = 18) ∧ VW d 248 28 [(2, x0)] [] (vsv w y0 2 y1) Q :=
  (VW_b 1 (F := fun n => if vkd w y0 = 18 then vrun n d 248 28 [(2, x0)] [] (vsv w y0 2 y1) else none) (fun _ => rfl)).trans (EX_if.trans (and_congr Iff.rfl (Iff.rfl)))
set_option maxRecDepth 100000 in
theorem b248_28 {d : Nat} {w : vW} {x0 : Int} {Q : Int → vW → Prop} : VW d 248 28 [(2, x0)] [] w Q ↔ (vkd w x0 = 18) ∧ VW d 248 33 [(2, x0)] [] (vsv w x0 3 0) Q :=
  (VW_b 3 (F := fun n => if vkd w x0 = 18 then vrun n d 248 33 [(2, x0)] [] (vsv w x0 3 0) else none) (fun _ => rfl)).trans (EX_if.trans (and_congr Iff.rfl (Iff.rfl)))
set_option maxRecDepth 100000 in
theorem b248_33 {d : Nat} {w : vW} {x0 : Int} {Q : Int → vW → Prop} : VW d 248 33 [(2, x0)] [] w Q ↔ (vkd w x0 = 18) ∧ VW d 248 38 [(2, x0)] [] (vsv w x0 4 0) Q :=
  (VW_b 3 (F := fun n => if vkd w x0 = 18 then vrun n d 248 38 [(2, x0)] [] (vsv w x0 4 0) else none) (fun _ => rfl)).trans (EX_if.trans (and_congr Iff.rfl (Iff.rfl)))
set_option maxRecDepth 100000 in
theorem b248_38 {d : Nat} {w : vW} {x0 : Int} {Q : Int → vW → Prop} : VW d 248 38 [(2, x0)] [] w Q ↔ (vkd w x0 = 18) ∧ VW d 248 43 [(2, x0)] [] (vsv w x0 5 0) Q :=
  (VW_b 3 (F := fun n => if vkd w x0 = 18 then vrun n d 248 43 [(2, x0)] [] (vsv w x0 5 0) else none) (fun _ => rfl)).trans (EX_if.trans (and_congr Iff.rfl (Iff.rfl)))
set_option maxRecDepth 100000 in
theorem b248_43 {d : Nat} {w : vW} {x0 : Int} {Q : Int → vW → Prop} : VW d 248 43 [(2, x0)] [] w Q ↔ (vkd w x0 = 18) ∧ VW d 248 48 [(2, x0)] [] (vsv w x0 6 (-1)) Q :=
  (VW_b 3 (F := fun n => if vkd w x0 = 18 then vrun n d 248 48 [(2, x0)] [] (vsv w x0 6 (-1)) else none) (fun _ => rfl)).trans (EX_if.trans (and_congr Iff.rfl (Iff.rfl)))
set_option maxRecDepth 100000 in
theorem b248_48 {d : Nat} {w : vW} {x0 : Int} {Q : Int → vW → Prop} : VW d 248 48 [(2, x0)] [] w Q ↔ Q 0 w :=
  (VW_b 1 (F := fun n => some (0, 0, w)) (fun _ => rfl)).trans (EX_ret0)
/-! 249: StrikeWhatCancels$Rules.strikeBy(II)I -/
set_option maxRecDepth 100000 in
theorem b249_0 {d : Nat} {w : vW} {x0 x1 : Int} {Q : Int → vW → Prop} : VW d 249 0 [(0, x0), (0, x1)] [] w Q ↔ Q (i_or (i_shl x0 4) x1) w :=
  (VW_b 6 (F := fun n => some (0, i_or (i_shl x0 4) x1, w)) (fun _ => rfl)).trans (EX_ret0)
/-! 250: StrikeWhatCancels$Rules.ruleOf(I)I -/
set_option maxRecDepth 100000 in
theorem b250_0 {d : Nat} {w : vW} {x0 : Int} {Q : Int → vW → Prop} : VW d 250 0 [(0, x0)] [] w Q ↔ Q (i_shr x0 4) w :=
  (VW_b 4 (F := fun n => some (0, i_shr x0 4, w)) (fun _ => rfl)).trans (EX_ret0)
/-! 251: StrikeWhatCancels$Rules.placeOf(I)I -/
set_option maxRecDepth 100000 in
theorem b251_0 {d : Nat} {w : vW} {x0 : Int} {Q : Int → vW → Prop} : VW d 251 0 [(0, x0)] [] w Q ↔ Q (i_and x0 15) w :=
  (VW_b 4 (F := fun n => some (0, i_and x0 15, w)) (fun _ => rfl)).trans (EX_ret0)
/-! 252: StrikeWhatCancels$Rules.leftOf(I)J -/
set_option maxRecDepth 100000 in
theorem b252_0 {d : Nat} {w : vW} {x0 x1 : Int} {Q : Int → vW → Prop} : VW d 252 0 [(2, x0), (0, x1)] [] w Q ↔ ((x1 < 0 → VW d 252 30 [(2, x0), (0, x1)] [] w Q) ∧ (¬ (x1 < 0) → VW d 252 4 [(2, x0), (0, x1)] [] w Q)) :=
  (VW_b 2 (F := fun n => (if x1 < 0 then vrun n d 252 30 [(2, x0), (0, x1)] [] w else vrun n d 252 4 [(2, x0), (0, x1)] [] w)) (fun _ => rfl)).trans (EX_br.trans (and_congr (imp_congr Iff.rfl Iff.rfl) (imp_congr Iff.rfl Iff.rfl)))
set_option maxRecDepth 100000 in
theorem b252_4 {d : Nat} {w : vW} {x0 x1 : Int} {Q : Int → vW → Prop} : VW d 252 4 [(2, x0), (0, x1)] [] w Q ↔ (vkd w x0 = 18) ∧ ((x1 < (vct w x0 3) → VW d 252 12 [(2, x0), (0, x1)] [] w Q) ∧ (¬ (x1 < (vct w x0 3)) → VW d 252 30 [(2, x0), (0, x1)] [] w Q)) :=
  (VW_b 4 (F := fun n => if vkd w x0 = 18 then (if x1 < (vct w x0 3) then vrun n d 252 12 [(2, x0), (0, x1)] [] w else vrun n d 252 30 [(2, x0), (0, x1)] [] w) else none) (fun _ => rfl)).trans (EX_if.trans (and_congr Iff.rfl (EX_br.trans (and_congr (imp_congr Iff.rfl Iff.rfl) (imp_congr Iff.rfl Iff.rfl)))))
set_option maxRecDepth 100000 in
theorem b252_12 {d : Nat} {w : vW} {x0 x1 : Int} {Q : Int → vW → Prop} : VW d 252 12 [(2, x0), (0, x1)] [] w Q ↔ (vkd w x0 = 18) ∧ (vkd w (vct w x0 0) = 2) ∧ ((x1 < (vln w (vct w x0 0)) → VW d 252 21 [(2, x0), (0, x1)] [] w Q) ∧ (¬ (x1 < (vln w (vct w x0 0))) → VW d 252 30 [(2, x0), (0, x1)] [] w Q)) :=
  (VW_b 5 (F := fun n => if vkd w x0 = 18 then if vkd w (vct w x0 0) = 2 then (if x1 < (vln w (vct w x0 0)) then vrun n d 252 21 [(2, x0), (0, x1)] [] w else vrun n d 252 30 [(2, x0), (0, x1)] [] w) else none else none) (fun _ => rfl)).trans (EX_if.trans (and_congr Iff.rfl (EX_if.trans (and_congr Iff.rfl (EX_br.trans (and_congr (imp_congr Iff.rfl Iff.rfl) (imp_congr Iff.rfl Iff.rfl)))))))
set_option maxRecDepth 100000 in
theorem b252_21 {d : Nat} {w : vW} {x0 x1 : Int} {Q : Int → vW → Prop} : VW d 252 21 [(2, x0), (0, x1)] [] w Q ↔ (vkd w x0 = 18) ∧ (vkd w (vct w x0 0) = 2 ∧ (0 : Int) ≤ x1 ∧ x1 < vln w (vct w x0 0)) ∧ VW d 252 31 [(2, x0), (0, x1)] [(1, vct w (vct w x0 0) x1)] w Q :=
  (VW_b 5 (F := fun n => if vkd w x0 = 18 then if vkd w (vct w x0 0) = 2 ∧ (0 : Int) ≤ x1 ∧ x1 < vln w (vct w x0 0) then vrun n d 252 31 [(2, x0), (0, x1)] [(1, vct w (vct w x0 0) x1)] w else none else none) (fun _ => rfl)).trans (EX_if.trans (and_congr Iff.rfl (EX_if.trans (and_congr Iff.rfl (Iff.rfl)))))
set_option maxRecDepth 100000 in
theorem b252_30 {d : Nat} {w : vW} {x0 x1 : Int} {Q : Int → vW → Prop} : VW d 252 30 [(2, x0), (0, x1)] [] w Q ↔ VW d 252 31 [(2, x0), (0, x1)] [(1, 0)] w Q :=
  (VW_b 1 (F := fun n => vrun n d 252 31 [(2, x0), (0, x1)] [(1, 0)] w) (fun _ => rfl)).trans (Iff.rfl)
set_option maxRecDepth 100000 in
theorem b252_31 {d : Nat} {w : vW} {x0 x1 y0 : Int} {Q : Int → vW → Prop} : VW d 252 31 [(2, x0), (0, x1)] [(1, y0)] w Q ↔ Q y0 w :=
  (VW_b 1 (F := fun n => some (0, y0, w)) (fun _ => rfl)).trans (EX_ret0)
/-! 253: StrikeWhatCancels$Rules.rightOf(I)J -/
set_option maxRecDepth 100000 in
theorem b253_0 {d : Nat} {w : vW} {x0 x1 : Int} {Q : Int → vW → Prop} : VW d 253 0 [(2, x0), (0, x1)] [] w Q ↔ ((x1 < 0 → VW d 253 30 [(2, x0), (0, x1)] [] w Q) ∧ (¬ (x1 < 0) → VW d 253 4 [(2, x0), (0, x1)] [] w Q)) :=
  (VW_b 2 (F := fun n => (if x1 < 0 then vrun n d 253 30 [(2, x0), (0, x1)] [] w else vrun n d 253 4 [(2, x0), (0, x1)] [] w)) (fun _ => rfl)).trans (EX_br.trans (and_congr (imp_congr Iff.rfl Iff.rfl) (imp_congr Iff.rfl Iff.rfl)))
set_option maxRecDepth 100000 in
theorem b253_4 {d : Nat} {w : vW} {x0 x1 : Int} {Q : Int → vW → Prop} : VW d 253 4 [(2, x0), (0, x1)] [] w Q ↔ (vkd w x0 = 18) ∧ ((x1 < (vct w x0 3) → VW d 253 12 [(2, x0), (0, x1)] [] w Q) ∧ (¬ (x1 < (vct w x0 3)) → VW d 253 30 [(2, x0), (0, x1)] [] w Q)) :=
  (VW_b 4 (F := fun n => if vkd w x0 = 18 then (if x1 < (vct w x0 3) then vrun n d 253 12 [(2, x0), (0, x1)] [] w else vrun n d 253 30 [(2, x0), (0, x1)] [] w) else none) (fun _ => rfl)).trans (EX_if.trans (and_congr Iff.rfl (EX_br.trans (and_congr (imp_congr Iff.rfl Iff.rfl) (imp_congr Iff.rfl Iff.rfl)))))
set_option maxRecDepth 100000 in
theorem b253_12 {d : Nat} {w : vW} {x0 x1 : Int} {Q : Int → vW → Prop} : VW d 253 12 [(2, x0), (0, x1)] [] w Q ↔ (vkd w x0 = 18) ∧ (vkd w (vct w x0 1) = 2) ∧ ((x1 < (vln w (vct w x0 1)) → VW d 253 21 [(2, x0), (0, x1)] [] w Q) ∧ (¬ (x1 < (vln w (vct w x0 1))) → VW d 253 30 [(2, x0), (0, x1)] [] w Q)) :=
  (VW_b 5 (F := fun n => if vkd w x0 = 18 then if vkd w (vct w x0 1) = 2 then (if x1 < (vln w (vct w x0 1)) then vrun n d 253 21 [(2, x0), (0, x1)] [] w else vrun n d 253 30 [(2, x0), (0, x1)] [] w) else none else none) (fun _ => rfl)).trans (EX_if.trans (and_congr Iff.rfl (EX_if.trans (and_congr Iff.rfl (EX_br.trans (and_congr (imp_congr Iff.rfl Iff.rfl) (imp_congr Iff.rfl Iff.rfl)))))))
set_option maxRecDepth 100000 in
theorem b253_21 {d : Nat} {w : vW} {x0 x1 : Int} {Q : Int → vW → Prop} : VW d 253 21 [(2, x0), (0, x1)] [] w Q ↔ (vkd w x0 = 18) ∧ (vkd w (vct w x0 1) = 2 ∧ (0 : Int) ≤ x1 ∧ x1 < vln w (vct w x0 1)) ∧ VW d 253 31 [(2, x0), (0, x1)] [(1, vct w (vct w x0 1) x1)] w Q :=
  (VW_b 5 (F := fun n => if vkd w x0 = 18 then if vkd w (vct w x0 1) = 2 ∧ (0 : Int) ≤ x1 ∧ x1 < vln w (vct w x0 1) then vrun n d 253 31 [(2, x0), (0, x1)] [(1, vct w (vct w x0 1) x1)] w else none else none) (fun _ => rfl)).trans (EX_if.trans (and_congr Iff.rfl (EX_if.trans (and_congr Iff.rfl (Iff.rfl)))))
set_option maxRecDepth 100000 in
theorem b253_30 {d : Nat} {w : vW} {x0 x1 : Int} {Q : Int → vW → Prop} : VW d 253 30 [(2, x0), (0, x1)] [] w Q ↔ VW d 253 31 [(2, x0), (0, x1)] [(1, 0)] w Q :=
  (VW_b 1 (F := fun n => vrun n d 253 31 [(2, x0), (0, x1)] [(1, 0)] w) (fun _ => rfl)).trans (Iff.rfl)
set_option maxRecDepth 100000 in
theorem b253_31 {d : Nat} {w : vW} {x0 x1 y0 : Int} {Q : Int → vW → Prop} : VW d 253 31 [(2, x0), (0, x1)] [(1, y0)] w Q ↔ Q y0 w :=
  (VW_b 1 (F := fun n => some (0, y0, w)) (fun _ => rfl)).trans (EX_ret0)
/-! 254: StrikeWhatCancels$Rules.clear()V -/
set_option maxRecDepth 100000 in
theorem b254_0 {d : Nat} {w : vW} {x0 : Int} {Q : Int → vW → Prop} : VW d 254 0 [(2, x0)] [] w Q ↔ (vkd w x0 = 18) ∧ VW d 254 5 [(2, x0)] [] (vsv w x0 3 0) Q :=
  (VW_b 3 (F := fun n => if vkd w x0 = 18 then vrun n d 254 5 [(2, x0)] [] (vsv w x0 3 0) else none) (fun _ => rfl)).trans (EX_if.trans (and_congr Iff.rfl (Iff.rfl)))
set_option maxRecDepth 100000 in
theorem b254_5 {d : Nat} {w : vW} {x0 : Int} {Q : Int → vW → Prop} : VW d 254 5 [(2, x0)] [] w Q ↔ (vkd w x0 = 18) ∧ VC d 258 [(2, x0)] w (fun _ w1 => VW d 254 9 [(2, x0)] [] w1 Q) :=
  (VW_b 2 (F := fun n => if vkd w x0 = 18 then vclr (vrun n) d 254 9 258 1 9 [(2, x0)] [(2, x0)] w else none) (fun _ => rfl)).trans (EX_if.trans (and_congr Iff.rfl (EX_call rfl)))
set_option maxRecDepth 100000 in
theorem b254_9 {d : Nat} {w : vW} {x0 : Int} {Q : Int → vW → Prop} : VW d 254 9 [(2, x0)] [] w Q ↔ Q 0 w :=
  (VW_b 1 (F := fun n => some (0, 0, w)) (fun _ => rfl)).trans (EX_ret0)
/-! 255: StrikeWhatCancels$Rules.add(JJ)V -/
set_option maxRecDepth 100000 in
theorem b255_0 {d : Nat} {w : vW} {x0 x1 x3 : Int} {Q : Int → vW → Prop} : VW d 255 0 [(2, x0), (1, x1), (9, 0), (1, x3), (9, 0)] [] w Q ↔ (vkd w x0 = 18) ∧ (vkd w x0 = 18) ∧ (vkd w (vct w x0 0) = 2) ∧ (((vct w x0 3) < (vln w (vct w x0 0)) → VW d 255 12 [(2, x0), (1, x1), (9, 0), (1, x3), (9, 0)] [] w Q) ∧ (¬ ((vct w x0 3) < (vln w (vct w x0 0))) → VW d 255 58 [(2, x0), (1, x1), (9, 0), (1, x3), (9, 0)] [] w Q)) :=
  (VW_b 6 (F := fun n => if vkd w x0 = 18 then if vkd w x0 = 18 then if vkd w (vct w x0 0) = 2 then (if (vct w x0 3) < (vln w (vct w x0 0)) then vrun n d 255 12 [(2, x0), (1, x1), (9, 0), (1, x3), (9, 0)] [] w else vrun n d 255 58 [(2, x0), (1, x1), (9, 0), (1, x3), (9, 0)] [] w) else none else none else none) (fun _ => rfl)).trans (EX_if.trans (and_congr Iff.rfl (EX_if.trans (and_congr Iff.rfl (EX_if.trans (and_congr Iff.rfl (EX_br.trans (and_congr (imp_congr Iff.rfl Iff.rfl) (imp_congr Iff.rfl Iff.rfl)))))))))
set_option maxRecDepth 100000 in
theorem b255_12 {d : Nat} {w : vW} {x0 x1 x3 : Int} {Q : Int → vW → Prop} : VW d 255 12 [(2, x0), (1, x1), (9, 0), (1, x3), (9, 0)] [] w Q ↔ (vkd w x0 = 18) ∧ (vkd w x0 = 18) ∧ (vkd w (vct w x0 1) = 2) ∧ (((vct w x0 3) < (vln w (vct w x0 1)) → VW d 255 24 [(2, x0), (1, x1), (9, 0), (1, x3), (9, 0)] [] w Q) ∧ (¬ ((vct w x0 3) < (vln w (vct w x0 1))) → VW d 255 58 [(2, x0), (1, x1), (9, 0), (1, x3), (9, 0)] [] w Q)) :=
  (VW_b 6 (F := fun n => if vkd w x0 = 18 then if vkd w x0 = 18 then if vkd w (vct w x0 1) = 2 then (if (vct w x0 3) < (vln w (vct w x0 1)) then vrun n d 255 24 [(2, x0), (1, x1), (9, 0), (1, x3), (9, 0)] [] w else vrun n d 255 58 [(2, x0), (1, x1), (9, 0), (1, x3), (9, 0)] [] w) else none else none else none) (fun _ => rfl)).trans (EX_if.trans (and_congr Iff.rfl (EX_if.trans (and_congr Iff.rfl (EX_if.trans (and_congr Iff.rfl (EX_br.trans (and_congr (imp_congr Iff.rfl Iff.rfl) (imp_congr Iff.rfl Iff.rfl)))))))))
set_option maxRecDepth 100000 in
theorem b255_24 {d : Nat} {w : vW} {x0 x1 x3 : Int} {Q : Int → vW → Prop} : VW d 255 24 [(2, x0), (1, x1), (9, 0), (1, x3), (9, 0)] [] w Q ↔ (vkd w x0 = 18) ∧ (vkd w x0 = 18) ∧ (vkd w (vct w x0 0) = 2 ∧ (0 : Int) ≤ (vct w x0 3) ∧ (vct w x0 3) < vln w (vct w x0 0)) ∧ VW d 255 34 [(2, x0), (1, x1), (9, 0), (1, x3), (9, 0)] [] (vsv w (vct w x0 0) (vct w x0 3) x1) Q :=
  (VW_b 6 (F := fun n => if vkd w x0 = 18 then if vkd w x0 = 18 then if vkd w (vct w x0 0) = 2 ∧ (0 : Int) ≤ (vct w x0 3) ∧ (vct w x0 3) < vln w (vct w x0 0) then vrun n d 255 34 [(2, x0), (1, x1), (9, 0), (1, x3), (9, 0)] [] (vsv w (vct w x0 0) (vct w x0 3) x1) else none else none else none) (fun _ => rfl)).trans (EX_if.trans (and_congr Iff.rfl (EX_if.trans (and_congr Iff.rfl (EX_if.trans (and_congr Iff.rfl (Iff.rfl)))))))
set_option maxRecDepth 100000 in
theorem b255_34 {d : Nat} {w : vW} {x0 x1 x3 : Int} {Q : Int → vW → Prop} : VW d 255 34 [(2, x0), (1, x1), (9, 0), (1, x3), (9, 0)] [] w Q ↔ (vkd w x0 = 18) ∧ (vkd w x0 = 18) ∧ (vkd w (vct w x0 1) = 2 ∧ (0 : Int) ≤ (vct w x0 3) ∧ (vct w x0 3) < vln w (vct w x0 1)) ∧ VW d 255 44 [(2, x0), (1, x1), (9, 0), (1, x3), (9, 0)] [] (vsv w (vct w x0 1) (vct w x0 3) x3) Q :=
  (VW_b 6 (F := fun n => if vkd w x0 = 18 then if vkd w x0 = 18 then if vkd w (vct w x0 1) = 2 ∧ (0 : Int) ≤ (vct w x0 3) ∧ (vct w x0 3) < vln w (vct w x0 1) then vrun n d 255 44 [(2, x0), (1, x1), (9, 0), (1, x3), (9, 0)] [] (vsv w (vct w x0 1) (vct w x0 3) x3) else none else none else none) (fun _ => rfl)).trans (EX_if.trans (and_congr Iff.rfl (EX_if.trans (and_congr Iff.rfl (EX_if.trans (and_congr Iff.rfl (Iff.rfl)))))))
set_option maxRecDepth 100000 in
theorem b255_44 {d : Nat} {w : vW} {x0 x1 x3 : Int} {Q : Int → vW → Prop} : VW d 255 44 [(2, x0), (1, x1), (9, 0), (1, x3), (9, 0)] [] w Q ↔ (vkd w x0 = 18) ∧ (vkd w x0 = 18) ∧ VW d 255 54 [(2, x0), (1, x1), (9, 0), (1, x3), (9, 0)] [] (vsv w x0 3 (w32 ((vct w x0 3) + 1))) Q :=
  (VW_b 6 (F := fun n => if vkd w x0 = 18 then if vkd w x0 = 18 then vrun n d 255 54 [(2, x0), (1, x1), (9, 0), (1, x3), (9, 0)] [] (vsv w x0 3 (w32 ((vct w x0 3) + 1))) else none else none) (fun _ => rfl)).trans (EX_if.trans (and_congr Iff.rfl (EX_if.trans (and_congr Iff.rfl (Iff.rfl)))))
set_option maxRecDepth 100000 in
theorem b255_54 {d : Nat} {w : vW} {x0 x1 x3 : Int} {Q : Int → vW → Prop} : VW d 255 54 [(2, x0), (1, x1), (9, 0), (1, x3), (9, 0)] [] w Q ↔ (vkd w x0 = 18) ∧ VC d 258 [(2, x0)] w (fun _ w1 => VW d 255 58 [(2, x0), (1, x1), (9, 0), (1, x3), (9, 0)] [] w1 Q) :=
  (VW_b 2 (F := fun n => if vkd w x0 = 18 then vclr (vrun n) d 255 58 258 1 9 [(2, x0), (1, x1), (9, 0), (1, x3), (9, 0)] [(2, x0)] w else none) (fun _ => rfl)).trans (EX_if.trans (and_congr Iff.rfl (EX_call rfl)))
set_option maxRecDepth 100000 in
theorem b255_58 {d : Nat} {w : vW} {x0 x1 x3 : Int} {Q : Int → vW → Prop} : VW d 255 58 [(2, x0), (1, x1), (9, 0), (1, x3), (9, 0)] [] w Q ↔ Q 0 w :=
  (VW_b 1 (F := fun n => some (0, 0, w)) (fun _ => rfl)).trans (EX_ret0)
/-! 256: StrikeWhatCancels$Rules.addAll(LStrikeWhatCancels$Rules;)V -/
set_option maxRecDepth 100000 in
theorem b256_0 {d : Nat} {w : vW} {x0 x1 : Int} {Q : Int → vW → Prop} : VW d 256 0 [(2, x0), (2, x1), (9, 0)] [] w Q ↔ VW d 256 2 [(2, x0), (2, x1), (0, 0)] [] w Q :=
  (VW_b 2 (F := fun n => vrun n d 256 2 [(2, x0), (2, x1), (0, 0)] [] w) (fun _ => rfl)).trans (Iff.rfl)
set_option maxRecDepth 100000 in
theorem b256_2 {d : Nat} {w : vW} {x0 x1 x2 : Int} {Q : Int → vW → Prop} : VW d 256 2 [(2, x0), (2, x1), (0, x2)] [] w Q ↔ (vkd w x1 = 18) ∧ ((x2 < (vct w x1 3) → VW d 256 10 [(2, x0), (2, x1), (0, x2)] [] w Q) ∧ (¬ (x2 < (vct w x1 3)) → VW d 256 30 [(2, x0), (2, x1), (0, x2)] [] w Q)) :=
  (VW_b 4 (F := fun n => if vkd w x1 = 18 then (if x2 < (vct w x1 3) then vrun n d 256 10 [(2, x0), (2, x1), (0, x2)] [] w else vrun n d 256 30 [(2, x0), (2, x1), (0, x2)] [] w) else none) (fun _ => rfl)).trans (EX_if.trans (and_congr Iff.rfl (EX_br.trans (and_congr (imp_congr Iff.rfl Iff.rfl) (imp_congr Iff.rfl Iff.rfl)))))
set_option maxRecDepth 100000 in
theorem b256_10 {d : Nat} {w : vW} {x0 x1 x2 : Int} {Q : Int → vW → Prop} : VW d 256 10 [(2, x0), (2, x1), (0, x2)] [] w Q ↔ (vkd w x1 = 18) ∧ VC d 252 [(2, x1), (0, x2)] w (fun r w1 => VW d 256 16 [(2, x0), (2, x1), (0, x2)] [(1, r), (2, x0)] w1 Q) :=
  (VW_b 4 (F := fun n => if vkd w x1 = 18 then vclr (vrun n) d 256 16 252 2 1 [(2, x0), (2, x1), (0, x2)] [(0, x2), (2, x1), (2, x0)] w else none) (fun _ => rfl)).trans (EX_if.trans (and_congr Iff.rfl (EX_call rfl)))
set_option maxRecDepth 100000 in
theorem b256_16 {d : Nat} {w : vW} {x0 x1 x2 y0 y1 : Int} {Q : Int → vW → Prop} : VW d 256 16 [(2, x0), (2, x1), (0, x2)] [(1, y1), (2, y0)] w Q ↔ (vkd w x1 = 18) ∧ VC d 253 [(2, x1), (0, x2)] w (fun r w1 => VW d 256 21 [(2, x0), (2, x1), (0, x2)] [(1, r), (1, y1), (2, y0)] w1 Q) :=
  (VW_b 3 (F := fun n => if vkd w x1 = 18 then vclr (vrun n) d 256 21 253 2 1 [(2, x0), (2, x1), (0, x2)] [(0, x2), (2, x1), (1, y1), (2, y0)] w else none) (fun _ => rfl)).trans (EX_if.trans (and_congr Iff.rfl (EX_call rfl)))
set_option maxRecDepth 100000 in
theorem b256_21 {d : Nat} {w : vW} {x0 x1 x2 y0 y1 y2 : Int} {Q : Int → vW → Prop} : VW d 256 21 [(2, x0), (2, x1), (0, x2)] [(1, y2), (1, y1), (2, y0)] w Q ↔ (vkd w y0 = 18) ∧ VC d 255 [(2, y0), (1, y1), (1, y2)] w (fun _ w1 => VW d 256 24 [(2, x0), (2, x1), (0, x2)] [] w1 Q) :=
  (VW_b 1 (F := fun n => if vkd w y0 = 18 then vclr (vrun n) d 256 24 255 3 9 [(2, x0), (2, x1), (0, x2)] [(1, y2), (1, y1), (2, y0)] w else none) (fun _ => rfl)).trans (EX_if.trans (and_congr Iff.rfl (EX_call rfl)))
set_option maxRecDepth 100000 in
theorem b256_24 {d : Nat} {w : vW} {x0 x1 x2 : Int} {Q : Int → vW → Prop} : VW d 256 24 [(2, x0), (2, x1), (0, x2)] [] w Q ↔ VW d 256 2 [(2, x0), (2, x1), (0, w32 (x2 + 1))] [] w Q :=
  (VW_b 2 (F := fun n => vrun n d 256 2 [(2, x0), (2, x1), (0, w32 (x2 + 1))] [] w) (fun _ => rfl)).trans (Iff.rfl)
set_option maxRecDepth 100000 in
theorem b256_30 {d : Nat} {w : vW} {x0 x1 x2 : Int} {Q : Int → vW → Prop} : VW d 256 30 [(2, x0), (2, x1), (0, x2)] [] w Q ↔ Q 0 w :=
  (VW_b 1 (F := fun n => some (0, 0, w)) (fun _ => rfl)).trans (EX_ret0)
/-! 257: StrikeWhatCancels$Rules.exchange(II)Z -/
set_option maxRecDepth 100000 in
theorem b257_0 {d : Nat} {w : vW} {x0 x1 x2 : Int} {Q : Int → vW → Prop} : VW d 257 0 [(2, x0), (0, x1), (0, x2), (9, 0), (9, 0), (9, 0), (9, 0)] [] w Q ↔ ((x1 < 0 → VW d 257 29 [(2, x0), (0, x1), (0, x2), (9, 0), (9, 0), (9, 0), (9, 0)] [] w Q) ∧ (¬ (x1 < 0) → VW d 257 4 [(2, x0), (0, x1), (0, x2), (9, 0), (9, 0), (9, 0), (9, 0)] [] w Q)) :=
  (VW_b 2 (F := fun n => (if x1 < 0 then vrun n d 257 29 [(2, x0), (0, x1), (0, x2), (9, 0), (9, 0), (9, 0), (9, 0)] [] w else vrun n d 257 4 [(2, x0), (0, x1), (0, x2), (9, 0), (9, 0), (9, 0), (9, 0)] [] w)) (fun _ => rfl)).trans (EX_br.trans (and_congr (imp_congr Iff.rfl Iff.rfl) (imp_congr Iff.rfl Iff.rfl)))
set_option maxRecDepth 100000 in
theorem b257_4 {d : Nat} {w : vW} {x0 x1 x2 : Int} {Q : Int → vW → Prop} : VW d 257 4 [(2, x0), (0, x1), (0, x2), (9, 0), (9, 0), (9, 0), (9, 0)] [] w Q ↔ ((x2 < 0 → VW d 257 29 [(2, x0), (0, x1), (0, x2), (9, 0), (9, 0), (9, 0), (9, 0)] [] w Q) ∧ (¬ (x2 < 0) → VW d 257 8 [(2, x0), (0, x1), (0, x2), (9, 0), (9, 0), (9, 0), (9, 0)] [] w Q)) :=
  (VW_b 2 (F := fun n => (if x2 < 0 then vrun n d 257 29 [(2, x0), (0, x1), (0, x2), (9, 0), (9, 0), (9, 0), (9, 0)] [] w else vrun n d 257 8 [(2, x0), (0, x1), (0, x2), (9, 0), (9, 0), (9, 0), (9, 0)] [] w)) (fun _ => rfl)).trans (EX_br.trans (and_congr (imp_congr Iff.rfl Iff.rfl) (imp_congr Iff.rfl Iff.rfl)))
set_option maxRecDepth 100000 in
theorem b257_8 {d : Nat} {w : vW} {x0 x1 x2 : Int} {Q : Int → vW → Prop} : VW d 257 8 [(2, x0), (0, x1), (0, x2), (9, 0), (9, 0), (9, 0), (9, 0)] [] w Q ↔ (vkd w x0 = 18) ∧ ((x1 < (vct w x0 3) → VW d 257 16 [(2, x0), (0, x1), (0, x2), (9, 0), (9, 0), (9, 0), (9, 0)] [] w Q) ∧ (¬ (x1 < (vct w x0 3)) → VW d 257 29 [(2, x0), (0, x1), (0, x2), (9, 0), (9, 0), (9, 0), (9, 0)] [] w Q)) :=
  (VW_b 4 (F := fun n => if vkd w x0 = 18 then (if x1 < (vct w x0 3) then vrun n d 257 16 [(2, x0), (0, x1), (0, x2), (9, 0), (9, 0), (9, 0), (9, 0)] [] w else vrun n d 257 29 [(2, x0), (0, x1), (0, x2), (9, 0), (9, 0), (9, 0), (9, 0)] [] w) else none) (fun _ => rfl)).trans (EX_if.trans (and_congr Iff.rfl (EX_br.trans (and_congr (imp_congr Iff.rfl Iff.rfl) (imp_congr Iff.rfl Iff.rfl)))))
set_option maxRecDepth 100000 in
theorem b257_16 {d : Nat} {w : vW} {x0 x1 x2 : Int} {Q : Int → vW → Prop} : VW d 257 16 [(2, x0), (0, x1), (0, x2), (9, 0), (9, 0), (9, 0), (9, 0)] [] w Q ↔ (vkd w x0 = 18) ∧ ((x2 < (vct w x0 3) → VW d 257 24 [(2, x0), (0, x1), (0, x2), (9, 0), (9, 0), (9, 0), (9, 0)] [] w Q) ∧ (¬ (x2 < (vct w x0 3)) → VW d 257 29 [(2, x0), (0, x1), (0, x2), (9, 0), (9, 0), (9, 0), (9, 0)] [] w Q)) :=
  (VW_b 4 (F := fun n => if vkd w x0 = 18 then (if x2 < (vct w x0 3) then vrun n d 257 24 [(2, x0), (0, x1), (0, x2), (9, 0), (9, 0), (9, 0), (9, 0)] [] w else vrun n d 257 29 [(2, x0), (0, x1), (0, x2), (9, 0), (9, 0), (9, 0), (9, 0)] [] w) else none) (fun _ => rfl)).trans (EX_if.trans (and_congr Iff.rfl (EX_br.trans (and_congr (imp_congr Iff.rfl Iff.rfl) (imp_congr Iff.rfl Iff.rfl)))))
set_option maxRecDepth 100000 in
theorem b257_24 {d : Nat} {w : vW} {x0 x1 x2 : Int} {Q : Int → vW → Prop} : VW d 257 24 [(2, x0), (0, x1), (0, x2), (9, 0), (9, 0), (9, 0), (9, 0)] [] w Q ↔ ((x1 = x2 → VW d 257 29 [(2, x0), (0, x1), (0, x2), (9, 0), (9, 0), (9, 0), (9, 0)] [] w Q) ∧ (¬ (x1 = x2) → VW d 257 31 [(2, x0), (0, x1), (0, x2), (9, 0), (9, 0), (9, 0), (9, 0)] [] w Q)) :=
  (VW_b 3 (F := fun n => (if x1 = x2 then vrun n d 257 29 [(2, x0), (0, x1), (0, x2), (9, 0), (9, 0), (9, 0), (9, 0)] [] w else vrun n d 257 31 [(2, x0), (0, x1), (0, x2), (9, 0), (9, 0), (9, 0), (9, 0)] [] w)) (fun _ => rfl)).trans (EX_br.trans (and_congr (imp_congr Iff.rfl Iff.rfl) (imp_congr Iff.rfl Iff.rfl)))
set_option maxRecDepth 100000 in
theorem b257_29 {d : Nat} {w : vW} {x0 x1 x2 : Int} {Q : Int → vW → Prop} : VW d 257 29 [(2, x0), (0, x1), (0, x2), (9, 0), (9, 0), (9, 0), (9, 0)] [] w Q ↔ Q 0 w :=
  (VW_b 2 (F := fun n => some (0, 0, w)) (fun _ => rfl)).trans (EX_ret0)
set_option maxRecDepth 100000 in
theorem b257_31 {d : Nat} {w : vW} {x0 x1 x2 : Int} {Q : Int → vW → Prop} : VW d 257 31 [(2, x0), (0, x1), (0, x2), (9, 0), (9, 0), (9, 0), (9, 0)] [] w Q ↔ (vkd w x0 = 18) ∧ VC d 252 [(2, x0), (0, x1)] w (fun r w1 => VW d 257 36 [(2, x0), (0, x1), (0, x2), (9, 0), (9, 0), (9, 0), (9, 0)] [(1, r)] w1 Q) :=
  (VW_b 3 (F := fun n => if vkd w x0 = 18 then vclr (vrun n) d 257 36 252 2 1 [(2, x0), (0, x1), (0, x2), (9, 0), (9, 0), (9, 0), (9, 0)] [(0, x1), (2, x0)] w else none) (fun _ => rfl)).trans (EX_if.trans (and_congr Iff.rfl (EX_call rfl)))
set_option maxRecDepth 100000 in
theorem b257_36 {d : Nat} {w : vW} {x0 x1 x2 y0 : Int} {Q : Int → vW → Prop} : VW d 257 36 [(2, x0), (0, x1), (0, x2), (9, 0), (9, 0), (9, 0), (9, 0)] [(1, y0)] w Q ↔ (vkd w x0 = 18) ∧ VC d 253 [(2, x0), (0, x1)] w (fun r w1 => VW d 257 42 [(2, x0), (0, x1), (0, x2), (1, y0), (9, 0), (9, 0), (9, 0)] [(1, r)] w1 Q) :=
  (VW_b 4 (F := fun n => if vkd w x0 = 18 then vclr (vrun n) d 257 42 253 2 1 [(2, x0), (0, x1), (0, x2), (1, y0), (9, 0), (9, 0), (9, 0)] [(0, x1), (2, x0)] w else none) (fun _ => rfl)).trans (EX_if.trans (and_congr Iff.rfl (EX_call rfl)))
set_option maxRecDepth 100000 in
theorem b257_42 {d : Nat} {w : vW} {x0 x1 x2 x3 y0 : Int} {Q : Int → vW → Prop} : VW d 257 42 [(2, x0), (0, x1), (0, x2), (1, x3), (9, 0), (9, 0), (9, 0)] [(1, y0)] w Q ↔ (vkd w x0 = 18) ∧ (vkd w x0 = 18) ∧ VC d 252 [(2, x0), (0, x2)] w (fun r w1 => VW d 257 54 [(2, x0), (0, x1), (0, x2), (1, x3), (9, 0), (1, y0), (9, 0)] [(1, r), (0, x1), (2, vct w x0 0)] w1 Q) :=
  (VW_b 7 (F := fun n => if vkd w x0 = 18 then if vkd w x0 = 18 then vclr (vrun n) d 257 54 252 2 1 [(2, x0), (0, x1), (0, x2), (1, x3), (9, 0), (1, y0), (9, 0)] [(0, x2), (2, x0), (0, x1), (2, vct w x0 0)] w else none else none) (fun _ => rfl)).trans (EX_if.trans (and_congr Iff.rfl (EX_if.trans (and_congr Iff.rfl (EX_call rfl)))))
set_option maxRecDepth 100000 in
theorem b257_54 {d : Nat} {w : vW} {x0 x1 x2 x3 x5 y0 y1 y2 : Int} {Q : Int → vW → Prop} : VW d 257 54 [(2, x0), (0, x1), (0, x2), (1, x3), (9, 0), (1, x5), (9, 0)] [(1, y2), (0, y1), (2, y0)] w Q ↔ (vkd w y0 = 2 ∧ (0 : Int) ≤ y1 ∧ y1 < vln w y0) ∧ VW d 257 55 [(2, x0), (0, x1), (0, x2), (1, x3), (9, 0), (1, x5), (9, 0)] [] (vsv w y0 y1 y2) Q :=
  (VW_b 1 (F := fun n => if vkd w y0 = 2 ∧ (0 : Int) ≤ y1 ∧ y1 < vln w y0 then vrun n d 257 55 [(2, x0), (0, x1), (0, x2), (1, x3), (9, 0), (1, x5), (9, 0)] [] (vsv w y0 y1 y2) else none) (fun _ => rfl)).trans (EX_if.trans (and_congr Iff.rfl (Iff.rfl)))
set_option maxRecDepth 100000 in
theorem b257_55 {d : Nat} {w : vW} {x0 x1 x2 x3 x5 : Int} {Q : Int → vW → Prop} : VW d 257 55 [(2, x0), (0, x1), (0, x2), (1, x3), (9, 0), (1, x5), (9, 0)] [] w Q ↔ (vkd w x0 = 18) ∧ (vkd w x0 = 18) ∧ VC d 253 [(2, x0), (0, x2)] w (fun r w1 => VW d 257 65 [(2, x0), (0, x1), (0, x2), (1, x3), (9, 0), (1, x5), (9, 0)] [(1, r), (0, x1), (2, vct w x0 1)] w1 Q) :=
  (VW_b 6 (F := fun n => if vkd w x0 = 18 then if vkd w x0 = 18 then vclr (vrun n) d 257 65 253 2 1 [(2, x0), (0, x1), (0, x2), (1, x3), (9, 0), (1, x5), (9, 0)] [(0, x2), (2, x0), (0, x1), (2, vct w x0 1)] w else none else none) (fun _ => rfl)).trans (EX_if.trans (and_congr Iff.rfl (EX_if.trans (and_congr Iff.rfl (EX_call rfl)))))
set_option maxRecDepth 100000 in
theorem b257_65 {d : Nat} {w : vW} {x0 x1 x2 x3 x5 y0 y1 y2 : Int} {Q : Int → vW → Prop} : VW d 257 65 [(2, x0), (0, x1), (0, x2), (1, x3), (9, 0), (1, x5), (9, 0)] [(1, y2), (0, y1), (2, y0)] w Q ↔ (vkd w y0 = 2 ∧ (0 : Int) ≤ y1 ∧ y1 < vln w y0) ∧ VW d 257 66 [(2, x0), (0, x1), (0, x2), (1, x3), (9, 0), (1, x5), (9, 0)] [] (vsv w y0 y1 y2) Q :=
  (VW_b 1 (F := fun n => if vkd w y0 = 2 ∧ (0 : Int) ≤ y1 ∧ y1 < vln w y0 then vrun n d 257 66 [(2, x0), (0, x1), (0, x2), (1, x3), (9, 0), (1, x5), (9, 0)] [] (vsv w y0 y1 y2) else none) (fun _ => rfl)).trans (EX_if.trans (and_congr Iff.rfl (Iff.rfl)))
set_option maxRecDepth 100000 in
theorem b257_66 {d : Nat} {w : vW} {x0 x1 x2 x3 x5 : Int} {Q : Int → vW → Prop} : VW d 257 66 [(2, x0), (0, x1), (0, x2), (1, x3), (9, 0), (1, x5), (9, 0)] [] w Q ↔ (vkd w x0 = 18) ∧ (vkd w (vct w x0 0) = 2 ∧ (0 : Int) ≤ x2 ∧ x2 < vln w (vct w x0 0)) ∧ VW d 257 73 [(2, x0), (0, x1), (0, x2), (1, x3), (9, 0), (1, x5), (9, 0)] [] (vsv w (vct w x0 0) x2 x3) Q :=
  (VW_b 5 (F := fun n => if vkd w x0 = 18 then if vkd w (vct w x0 0) = 2 ∧ (0 : Int) ≤ x2 ∧ x2 < vln w (vct w x0 0) then vrun n d 257 73 [(2, x0), (0, x1), (0, x2), (1, x3), (9, 0), (1, x5), (9, 0)] [] (vsv w (vct w x0 0) x2 x3) else none else none) (fun _ => rfl)).trans (EX_if.trans (and_congr Iff.rfl (EX_if.trans (and_congr Iff.rfl (Iff.rfl)))))
set_option maxRecDepth 100000 in
theorem b257_73 {d : Nat} {w : vW} {x0 x1 x2 x3 x5 : Int} {Q : Int → vW → Prop} : VW d 257 73 [(2, x0), (0, x1), (0, x2), (1, x3), (9, 0), (1, x5), (9, 0)] [] w Q ↔ (vkd w x0 = 18) ∧ (vkd w (vct w x0 1) = 2 ∧ (0 : Int) ≤ x2 ∧ x2 < vln w (vct w x0 1)) ∧ VW d 257 81 [(2, x0), (0, x1), (0, x2), (1, x3), (9, 0), (1, x5), (9, 0)] [] (vsv w (vct w x0 1) x2 x5) Q :=
  (VW_b 5 (F := fun n => if vkd w x0 = 18 then if vkd w (vct w x0 1) = 2 ∧ (0 : Int) ≤ x2 ∧ x2 < vln w (vct w x0 1) then vrun n d 257 81 [(2, x0), (0, x1), (0, x2), (1, x3), (9, 0), (1, x5), (9, 0)] [] (vsv w (vct w x0 1) x2 x5) else none else none) (fun _ => rfl)).trans (EX_if.trans (and_congr Iff.rfl (EX_if.trans (and_congr Iff.rfl (Iff.rfl)))))
set_option maxRecDepth 100000 in
theorem b257_81 {d : Nat} {w : vW} {x0 x1 x2 x3 x5 : Int} {Q : Int → vW → Prop} : VW d 257 81 [(2, x0), (0, x1), (0, x2), (1, x3), (9, 0), (1, x5), (9, 0)] [] w Q ↔ (vkd w x0 = 18) ∧ VC d 258 [(2, x0)] w (fun _ w1 => VW d 257 85 [(2, x0), (0, x1), (0, x2), (1, x3), (9, 0), (1, x5), (9, 0)] [] w1 Q) :=
  (VW_b 2 (F := fun n => if vkd w x0 = 18 then vclr (vrun n) d 257 85 258 1 9 [(2, x0), (0, x1), (0, x2), (1, x3), (9, 0), (1, x5), (9, 0)] [(2, x0)] w else none) (fun _ => rfl)).trans (EX_if.trans (and_congr Iff.rfl (EX_call rfl)))
set_option maxRecDepth 100000 in
theorem b257_85 {d : Nat} {w : vW} {x0 x1 x2 x3 x5 : Int} {Q : Int → vW → Prop} : VW d 257 85 [(2, x0), (0, x1), (0, x2), (1, x3), (9, 0), (1, x5), (9, 0)] [] w Q ↔ Q 1 w :=
  (VW_b 2 (F := fun n => some (0, 1, w)) (fun _ => rfl)).trans (EX_ret0)
/-! 258: StrikeWhatCancels$Rules.remark()V -/
set_option maxRecDepth 100000 in
theorem b258_0 {d : Nat} {w : vW} {x0 : Int} {Q : Int → vW → Prop} : VW d 258 0 [(2, x0), (9, 0), (9, 0)] [] w Q ↔ (vkd w x0 = 18) ∧ (vkd w x0 = 18) ∧ VW d 258 10 [(2, x0), (9, 0), (9, 0)] [] (vsv w x0 4 (w32 ((vct w x0 4) + 1))) Q :=
  (VW_b 6 (F := fun n => if vkd w x0 = 18 then if vkd w x0 = 18 then vrun n d 258 10 [(2, x0), (9, 0), (9, 0)] [] (vsv w x0 4 (w32 ((vct w x0 4) + 1))) else none else none) (fun _ => rfl)).trans (EX_if.trans (and_congr Iff.rfl (EX_if.trans (and_congr Iff.rfl (Iff.rfl)))))
set_option maxRecDepth 100000 in
theorem b258_10 {d : Nat} {w : vW} {x0 : Int} {Q : Int → vW → Prop} : VW d 258 10 [(2, x0), (9, 0), (9, 0)] [] w Q ↔ VW d 258 12 [(2, x0), (0, 0), (9, 0)] [] w Q :=
  (VW_b 2 (F := fun n => vrun n d 258 12 [(2, x0), (0, 0), (9, 0)] [] w) (fun _ => rfl)).trans (Iff.rfl)
set_option maxRecDepth 100000 in
theorem b258_12 {d : Nat} {w : vW} {x0 x1 : Int} {Q : Int → vW → Prop} : VW d 258 12 [(2, x0), (0, x1), (9, 0)] [] w Q ↔ (vkd w x0 = 18) ∧ (vkd w (vct w x0 2) = 1) ∧ ((x1 < (vln w (vct w x0 2)) → VW d 258 21 [(2, x0), (0, x1), (9, 0)] [] w Q) ∧ (¬ (x1 < (vln w (vct w x0 2))) → VW d 258 34 [(2, x0), (0, x1), (9, 0)] [] w Q)) :=
  (VW_b 5 (F := fun n => if vkd w x0 = 18 then if vkd w (vct w x0 2) = 1 then (if x1 < (vln w (vct w x0 2)) then vrun n d 258 21 [(2, x0), (0, x1), (9, 0)] [] w else vrun n d 258 34 [(2, x0), (0, x1), (9, 0)] [] w) else none else none) (fun _ => rfl)).trans (EX_if.trans (and_congr Iff.rfl (EX_if.trans (and_congr Iff.rfl (EX_br.trans (and_congr (imp_congr Iff.rfl Iff.rfl) (imp_congr Iff.rfl Iff.rfl)))))))
set_option maxRecDepth 100000 in
theorem b258_21 {d : Nat} {w : vW} {x0 x1 : Int} {Q : Int → vW → Prop} : VW d 258 21 [(2, x0), (0, x1), (9, 0)] [] w Q ↔ (vkd w x0 = 18) ∧ (vkd w (vct w x0 2) = 1 ∧ (0 : Int) ≤ x1 ∧ x1 < vln w (vct w x0 2)) ∧ VW d 258 28 [(2, x0), (0, x1), (9, 0)] [] (vsv w (vct w x0 2) x1 0) Q :=
  (VW_b 5 (F := fun n => if vkd w x0 = 18 then if vkd w (vct w x0 2) = 1 ∧ (0 : Int) ≤ x1 ∧ x1 < vln w (vct w x0 2) then vrun n d 258 28 [(2, x0), (0, x1), (9, 0)] [] (vsv w (vct w x0 2) x1 0) else none else none) (fun _ => rfl)).trans (EX_if.trans (and_congr Iff.rfl (EX_if.trans (and_congr Iff.rfl (Iff.rfl)))))
set_option maxRecDepth 100000 in
theorem b258_28 {d : Nat} {w : vW} {x0 x1 : Int} {Q : Int → vW → Prop} : VW d 258 28 [(2, x0), (0, x1), (9, 0)] [] w Q ↔ VW d 258 12 [(2, x0), (0, w32 (x1 + 1)), (9, 0)] [] w Q :=
  (VW_b 2 (F := fun n => vrun n d 258 12 [(2, x0), (0, w32 (x1 + 1)), (9, 0)] [] w) (fun _ => rfl)).trans (Iff.rfl)
set_option maxRecDepth 100000 in
theorem b258_34 {d : Nat} {w : vW} {x0 x1 : Int} {Q : Int → vW → Prop} : VW d 258 34 [(2, x0), (0, x1), (9, 0)] [] w Q ↔ VW d 258 36 [(2, x0), (0, 0), (9, 0)] [] w Q :=
  (VW_b 2 (F := fun n => vrun n d 258 36 [(2, x0), (0, 0), (9, 0)] [] w) (fun _ => rfl)).trans (Iff.rfl)
set_option maxRecDepth 100000 in
theorem b258_36 {d : Nat} {w : vW} {x0 x1 : Int} {v2 : vV} {Q : Int → vW → Prop} : VW d 258 36 [(2, x0), (0, x1), v2] [] w Q ↔ (vkd w x0 = 18) ∧ ((x1 < (vct w x0 3) → VW d 258 44 [(2, x0), (0, x1), v2] [] w Q) ∧ (¬ (x1 < (vct w x0 3)) → VW d 258 81 [(2, x0), (0, x1), v2] [] w Q)) :=
  (VW_b 4 (F := fun n => if vkd w x0 = 18 then (if x1 < (vct w x0 3) then vrun n d 258 44 [(2, x0), (0, x1), v2] [] w else vrun n d 258 81 [(2, x0), (0, x1), v2] [] w) else none) (fun _ => rfl)).trans (EX_if.trans (and_congr Iff.rfl (EX_br.trans (and_congr (imp_congr Iff.rfl Iff.rfl) (imp_congr Iff.rfl Iff.rfl)))))
set_option maxRecDepth 100000 in
theorem b258_44 {d : Nat} {w : vW} {x0 x1 : Int} {v2 : vV} {Q : Int → vW → Prop} : VW d 258 44 [(2, x0), (0, x1), v2] [] w Q ↔ (vkd w x0 = 18) ∧ VC d 252 [(2, x0), (0, x1)] w (fun r w1 => VW d 258 49 [(2, x0), (0, x1), v2] [(1, r)] w1 Q) :=
  (VW_b 3 (F := fun n => if vkd w x0 = 18 then vclr (vrun n) d 258 49 252 2 1 [(2, x0), (0, x1), v2] [(0, x1), (2, x0)] w else none) (fun _ => rfl)).trans (EX_if.trans (and_congr Iff.rfl (EX_call rfl)))
set_option maxRecDepth 100000 in
theorem b258_49 {d : Nat} {w : vW} {x0 x1 y0 : Int} {v2 : vV} {Q : Int → vW → Prop} : VW d 258 49 [(2, x0), (0, x1), v2] [(1, y0)] w Q ↔ VC d 276 [(1, y0), (0, 0)] w (fun r w1 => VW d 258 53 [(2, x0), (0, x1), v2] [(0, r)] w1 Q) :=
  (VW_b 2 (F := fun n => vclr (vrun n) d 258 53 276 2 0 [(2, x0), (0, x1), v2] [(0, 0), (1, y0)] w) (fun _ => rfl)).trans (EX_call rfl)
set_option maxRecDepth 100000 in
theorem b258_53 {d : Nat} {w : vW} {x0 x1 y0 : Int} {v2 : vV} {Q : Int → vW → Prop} : VW d 258 53 [(2, x0), (0, x1), v2] [(0, y0)] w Q ↔ (vkd w x0 = 18) ∧ (vkd w (vct w x0 2) = 1) ∧ ((y0 < (vln w (vct w x0 2)) → VW d 258 63 [(2, x0), (0, x1), (0, y0)] [] w Q) ∧ (¬ (y0 < (vln w (vct w x0 2))) → VW d 258 75 [(2, x0), (0, x1), (0, y0)] [] w Q)) :=
  (VW_b 6 (F := fun n => if vkd w x0 = 18 then if vkd w (vct w x0 2) = 1 then (if y0 < (vln w (vct w x0 2)) then vrun n d 258 63 [(2, x0), (0, x1), (0, y0)] [] w else vrun n d 258 75 [(2, x0), (0, x1), (0, y0)] [] w) else none else none) (fun _ => rfl)).trans (EX_if.trans (and_congr Iff.rfl (EX_if.trans (and_congr Iff.rfl (EX_br.trans (and_congr (imp_congr Iff.rfl Iff.rfl) (imp_congr Iff.rfl Iff.rfl)))))))
set_option maxRecDepth 100000 in
theorem b258_63 {d : Nat} {w : vW} {x0 x1 x2 : Int} {Q : Int → vW → Prop} : VW d 258 63 [(2, x0), (0, x1), (0, x2)] [] w Q ↔ (vkd w x0 = 18) ∧ (vkd w (vct w x0 2) = 1 ∧ (0 : Int) ≤ x2 ∧ x2 < vln w (vct w x0 2)) ∧ (vkd w (vct w x0 2) = 1 ∧ (0 : Int) ≤ x2 ∧ x2 < vln w (vct w x0 2)) ∧ VW d 258 75 [(2, x0), (0, x1), (0, x2)] [] (vsv w (vct w x0 2) x2 (i_or (vct w (vct w x0 2) x2) (i_shl 1 x1))) Q :=
  (VW_b 10 (F := fun n => if vkd w x0 = 18 then if vkd w (vct w x0 2) = 1 ∧ (0 : Int) ≤ x2 ∧ x2 < vln w (vct w x0 2) then if vkd w (vct w x0 2) = 1 ∧ (0 : Int) ≤ x2 ∧ x2 < vln w (vct w x0 2) then vrun n d 258 75 [(2, x0), (0, x1), (0, x2)] [] (vsv w (vct w x0 2) x2 (i_or (vct w (vct w x0 2) x2) (i_shl 1 x1))) else none else none else none) (fun _ => rfl)).trans (EX_if.trans (and_congr Iff.rfl (EX_if.trans (and_congr Iff.rfl (EX_if.trans (and_congr Iff.rfl (Iff.rfl)))))))
set_option maxRecDepth 100000 in
theorem b258_75 {d : Nat} {w : vW} {x0 x1 x2 : Int} {Q : Int → vW → Prop} : VW d 258 75 [(2, x0), (0, x1), (0, x2)] [] w Q ↔ VW d 258 36 [(2, x0), (0, w32 (x1 + 1)), (0, x2)] [] w Q :=
  (VW_b 2 (F := fun n => vrun n d 258 36 [(2, x0), (0, w32 (x1 + 1)), (0, x2)] [] w) (fun _ => rfl)).trans (Iff.rfl)
set_option maxRecDepth 100000 in
theorem b258_81 {d : Nat} {w : vW} {x0 x1 : Int} {v2 : vV} {Q : Int → vW → Prop} : VW d 258 81 [(2, x0), (0, x1), v2] [] w Q ↔ Q 0 w :=
  (VW_b 1 (F := fun n => some (0, 0, w)) (fun _ => rfl)).trans (EX_ret0)
/-! 259: StrikeWhatCancels$Rules.lessBy(ILStrikeWhatCancels$Desk;)I -/
set_option maxRecDepth 100000 in
theorem b259_0 {d : Nat} {w : vW} {x0 x1 x2 : Int} {Q : Int → vW → Prop} : VW d 259 0 [(2, x0), (0, x1), (2, x2)] [] w Q ↔ (vkd w x0 = 18) ∧ VC d 252 [(2, x0), (0, x1)] w (fun r w1 => VW d 259 6 [(2, x0), (0, x1), (2, x2)] [(1, r), (2, x2)] w1 Q) :=
  (VW_b 4 (F := fun n => if vkd w x0 = 18 then vclr (vrun n) d 259 6 252 2 1 [(2, x0), (0, x1), (2, x2)] [(0, x1), (2, x0), (2, x2)] w else none) (fun _ => rfl)).trans (EX_if.trans (and_congr Iff.rfl (EX_call rfl)))
set_option maxRecDepth 100000 in
theorem b259_6 {d : Nat} {w : vW} {x0 x1 x2 y0 y1 : Int} {Q : Int → vW → Prop} : VW d 259 6 [(2, x0), (0, x1), (2, x2)] [(1, y1), (2, y0)] w Q ↔ (vkd w y0 = 12) ∧ VC d 176 [(2, y0), (1, y1)] w (fun r w1 => VW d 259 9 [(2, x0), (0, x1), (2, x2)] [(0, r)] w1 Q) :=
  (VW_b 1 (F := fun n => if vkd w y0 = 12 then vclr (vrun n) d 259 9 176 2 0 [(2, x0), (0, x1), (2, x2)] [(1, y1), (2, y0)] w else none) (fun _ => rfl)).trans (EX_if.trans (and_congr Iff.rfl (EX_call rfl)))
set_option maxRecDepth 100000 in
theorem b259_9 {d : Nat} {w : vW} {x0 x1 x2 y0 : Int} {Q : Int → vW → Prop} : VW d 259 9 [(2, x0), (0, x1), (2, x2)] [(0, y0)] w Q ↔ (vkd w x0 = 18) ∧ VC d 253 [(2, x0), (0, x1)] w (fun r w1 => VW d 259 15 [(2, x0), (0, x1), (2, x2)] [(1, r), (2, x2), (0, y0)] w1 Q) :=
  (VW_b 4 (F := fun n => if vkd w x0 = 18 then vclr (vrun n) d 259 15 253 2 1 [(2, x0), (0, x1), (2, x2)] [(0, x1), (2, x0), (2, x2), (0, y0)] w else none) (fun _ => rfl)).trans (EX_if.trans (and_congr Iff.rfl (EX_call rfl)))
set_option maxRecDepth 100000 in
theorem b259_15 {d : Nat} {w : vW} {x0 x1 x2 y0 y1 y2 : Int} {Q : Int → vW → Prop} : VW d 259 15 [(2, x0), (0, x1), (2, x2)] [(1, y2), (2, y1), (0, y0)] w Q ↔ (vkd w y1 = 12) ∧ VC d 176 [(2, y1), (1, y2)] w (fun r w1 => VW d 259 18 [(2, x0), (0, x1), (2, x2)] [(0, r), (0, y0)] w1 Q) :=
  (VW_b 1 (F := fun n => if vkd w y1 = 12 then vclr (vrun n) d 259 18 176 2 0 [(2, x0), (0, x1), (2, x2)] [(1, y2), (2, y1), (0, y0)] w else none) (fun _ => rfl)).trans (EX_if.trans (and_congr Iff.rfl (EX_call rfl)))
set_option maxRecDepth 100000 in
theorem b259_18 {d : Nat} {w : vW} {x0 x1 x2 y0 y1 : Int} {Q : Int → vW → Prop} : VW d 259 18 [(2, x0), (0, x1), (2, x2)] [(0, y1), (0, y0)] w Q ↔ Q (w32 (y0 - y1)) w :=
  (VW_b 2 (F := fun n => some (0, w32 (y0 - y1), w)) (fun _ => rfl)).trans (EX_ret0)
/-! 260: StrikeWhatCancels$Rules.fits(IJI)Z -/
set_option maxRecDepth 100000 in
theorem b260_0 {d : Nat} {w : vW} {x0 x1 x2 x4 : Int} {Q : Int → vW → Prop} : VW d 260 0 [(2, x0), (0, x1), (1, x2), (9, 0), (0, x4)] [] w Q ↔ ((x1 < 0 → VW d 260 40 [(2, x0), (0, x1), (1, x2), (9, 0), (0, x4)] [] w Q) ∧ (¬ (x1 < 0) → VW d 260 4 [(2, x0), (0, x1), (1, x2), (9, 0), (0, x4)] [] w Q)) :=
  (VW_b 2 (F := fun n => (if x1 < 0 then vrun n d 260 40 [(2, x0), (0, x1), (1, x2), (9, 0), (0, x4)] [] w else vrun n d 260 4 [(2, x0), (0, x1), (1, x2), (9, 0), (0, x4)] [] w)) (fun _ => rfl)).trans (EX_br.trans (and_congr (imp_congr Iff.rfl Iff.rfl) (imp_congr Iff.rfl Iff.rfl)))
set_option maxRecDepth 100000 in
theorem b260_4 {d : Nat} {w : vW} {x0 x1 x2 x4 : Int} {Q : Int → vW → Prop} : VW d 260 4 [(2, x0), (0, x1), (1, x2), (9, 0), (0, x4)] [] w Q ↔ (vkd w x0 = 18) ∧ ((x1 < (vct w x0 3) → VW d 260 12 [(2, x0), (0, x1), (1, x2), (9, 0), (0, x4)] [] w Q) ∧ (¬ (x1 < (vct w x0 3)) → VW d 260 40 [(2, x0), (0, x1), (1, x2), (9, 0), (0, x4)] [] w Q)) :=
  (VW_b 4 (F := fun n => if vkd w x0 = 18 then (if x1 < (vct w x0 3) then vrun n d 260 12 [(2, x0), (0, x1), (1, x2), (9, 0), (0, x4)] [] w else vrun n d 260 40 [(2, x0), (0, x1), (1, x2), (9, 0), (0, x4)] [] w) else none) (fun _ => rfl)).trans (EX_if.trans (and_congr Iff.rfl (EX_br.trans (and_congr (imp_congr Iff.rfl Iff.rfl) (imp_congr Iff.rfl Iff.rfl)))))
set_option maxRecDepth 100000 in
theorem b260_12 {d : Nat} {w : vW} {x0 x1 x2 x4 : Int} {Q : Int → vW → Prop} : VW d 260 12 [(2, x0), (0, x1), (1, x2), (9, 0), (0, x4)] [] w Q ↔ (vkd w x0 = 18) ∧ (vkd w (vct w x0 0) = 2) ∧ ((x1 < (vln w (vct w x0 0)) → VW d 260 21 [(2, x0), (0, x1), (1, x2), (9, 0), (0, x4)] [] w Q) ∧ (¬ (x1 < (vln w (vct w x0 0))) → VW d 260 40 [(2, x0), (0, x1), (1, x2), (9, 0), (0, x4)] [] w Q)) :=
  (VW_b 5 (F := fun n => if vkd w x0 = 18 then if vkd w (vct w x0 0) = 2 then (if x1 < (vln w (vct w x0 0)) then vrun n d 260 21 [(2, x0), (0, x1), (1, x2), (9, 0), (0, x4)] [] w else vrun n d 260 40 [(2, x0), (0, x1), (1, x2), (9, 0), (0, x4)] [] w) else none else none) (fun _ => rfl)).trans (EX_if.trans (and_congr Iff.rfl (EX_if.trans (and_congr Iff.rfl (EX_br.trans (and_congr (imp_congr Iff.rfl Iff.rfl) (imp_congr Iff.rfl Iff.rfl)))))))
set_option maxRecDepth 100000 in
theorem b260_21 {d : Nat} {w : vW} {x0 x1 x2 x4 : Int} {Q : Int → vW → Prop} : VW d 260 21 [(2, x0), (0, x1), (1, x2), (9, 0), (0, x4)] [] w Q ↔ (vkd w x0 = 18) ∧ (vkd w (vct w x0 0) = 2 ∧ (0 : Int) ≤ x1 ∧ x1 < vln w (vct w x0 0)) ∧ VC d 279 [(1, x2), (0, x4), (1, vct w (vct w x0 0) x1)] w (fun r w1 => VW d 260 33 [(2, x0), (0, x1), (1, x2), (9, 0), (0, x4)] [(0, r)] w1 Q) :=
  (VW_b 7 (F := fun n => if vkd w x0 = 18 then if vkd w (vct w x0 0) = 2 ∧ (0 : Int) ≤ x1 ∧ x1 < vln w (vct w x0 0) then vclr (vrun n) d 260 33 279 3 0 [(2, x0), (0, x1), (1, x2), (9, 0), (0, x4)] [(1, vct w (vct w x0 0) x1), (0, x4), (1, x2)] w else none else none) (fun _ => rfl)).trans (EX_if.trans (and_congr Iff.rfl (EX_if.trans (and_congr Iff.rfl (EX_call rfl)))))
set_option maxRecDepth 100000 in
theorem b260_33 {d : Nat} {w : vW} {x0 x1 x2 x4 y0 : Int} {Q : Int → vW → Prop} : VW d 260 33 [(2, x0), (0, x1), (1, x2), (9, 0), (0, x4)] [(0, y0)] w Q ↔ ((y0 = 0 → VW d 260 40 [(2, x0), (0, x1), (1, x2), (9, 0), (0, x4)] [] w Q) ∧ (¬ (y0 = 0) → VW d 260 36 [(2, x0), (0, x1), (1, x2), (9, 0), (0, x4)] [] w Q)) :=
  (VW_b 1 (F := fun n => (if y0 = 0 then vrun n d 260 40 [(2, x0), (0, x1), (1, x2), (9, 0), (0, x4)] [] w else vrun n d 260 36 [(2, x0), (0, x1), (1, x2), (9, 0), (0, x4)] [] w)) (fun _ => rfl)).trans (EX_br.trans (and_congr (imp_congr Iff.rfl Iff.rfl) (imp_congr Iff.rfl Iff.rfl)))
set_option maxRecDepth 100000 in
theorem b260_36 {d : Nat} {w : vW} {x0 x1 x2 x4 : Int} {Q : Int → vW → Prop} : VW d 260 36 [(2, x0), (0, x1), (1, x2), (9, 0), (0, x4)] [] w Q ↔ VW d 260 41 [(2, x0), (0, x1), (1, x2), (9, 0), (0, x4)] [(0, 1)] w Q :=
  (VW_b 2 (F := fun n => vrun n d 260 41 [(2, x0), (0, x1), (1, x2), (9, 0), (0, x4)] [(0, 1)] w) (fun _ => rfl)).trans (Iff.rfl)
set_option maxRecDepth 100000 in
theorem b260_40 {d : Nat} {w : vW} {x0 x1 x2 x4 : Int} {Q : Int → vW → Prop} : VW d 260 40 [(2, x0), (0, x1), (1, x2), (9, 0), (0, x4)] [] w Q ↔ VW d 260 41 [(2, x0), (0, x1), (1, x2), (9, 0), (0, x4)] [(0, 0)] w Q :=
  (VW_b 1 (F := fun n => vrun n d 260 41 [(2, x0), (0, x1), (1, x2), (9, 0), (0, x4)] [(0, 0)] w) (fun _ => rfl)).trans (Iff.rfl)
set_option maxRecDepth 100000 in
theorem b260_41 {d : Nat} {w : vW} {x0 x1 x2 x4 y0 : Int} {Q : Int → vW → Prop} : VW d 260 41 [(2, x0), (0, x1), (1, x2), (9, 0), (0, x4)] [(0, y0)] w Q ↔ ((0 : Int) ≤ y0 ∧ y0 ≤ 1) ∧ Q y0 w :=
  (VW_b 1 (F := fun n => if (0 : Int) ≤ y0 ∧ y0 ≤ 1 then some (0, y0, w) else none) (fun _ => rfl)).trans (EX_if.trans (and_congr Iff.rfl (EX_ret0)))
/-! 261: StrikeWhatCancels$Rules.struck(JI)J -/
set_option maxRecDepth 100000 in
theorem b261_0 {d : Nat} {w : vW} {x0 x1 x3 : Int} {Q : Int → vW → Prop} : VW d 261 0 [(2, x0), (1, x1), (9, 0), (0, x3), (9, 0)] [] w Q ↔ VC d 250 [(0, x3)] w (fun r w1 => VW d 261 4 [(2, x0), (1, x1), (9, 0), (0, x3), (9, 0)] [(0, r)] w1 Q) :=
  (VW_b 2 (F := fun n => vclr (vrun n) d 261 4 250 1 0 [(2, x0), (1, x1), (9, 0), (0, x3), (9, 0)] [(0, x3)] w) (fun _ => rfl)).trans (EX_call rfl)
set_option maxRecDepth 100000 in
theorem b261_4 {d : Nat} {w : vW} {x0 x1 x3 y0 : Int} {Q : Int → vW → Prop} : VW d 261 4 [(2, x0), (1, x1), (9, 0), (0, x3), (9, 0)] [(0, y0)] w Q ↔ VC d 251 [(0, x3)] w (fun r w1 => VW d 261 11 [(2, x0), (1, x1), (9, 0), (0, x3), (0, y0)] [(0, r), (1, x1)] w1 Q) :=
  (VW_b 4 (F := fun n => vclr (vrun n) d 261 11 251 1 0 [(2, x0), (1, x1), (9, 0), (0, x3), (0, y0)] [(0, x3), (1, x1)] w) (fun _ => rfl)).trans (EX_call rfl)
set_option maxRecDepth 100000 in
theorem b261_11 {d : Nat} {w : vW} {x0 x1 x3 x4 y0 y1 : Int} {Q : Int → vW → Prop} : VW d 261 11 [(2, x0), (1, x1), (9, 0), (0, x3), (0, x4)] [(0, y1), (1, y0)] w Q ↔ (vkd w x0 = 18) ∧ VC d 252 [(2, x0), (0, x4)] w (fun r w1 => VW d 261 17 [(2, x0), (1, x1), (9, 0), (0, x3), (0, x4)] [(1, r), (0, y1), (1, y0)] w1 Q) :=
  (VW_b 3 (F := fun n => if vkd w x0 = 18 then vclr (vrun n) d 261 17 252 2 1 [(2, x0), (1, x1), (9, 0), (0, x3), (0, x4)] [(0, x4), (2, x0), (0, y1), (1, y0)] w else none) (fun _ => rfl)).trans (EX_if.trans (and_congr Iff.rfl (EX_call rfl)))
set_option maxRecDepth 100000 in
theorem b261_17 {d : Nat} {w : vW} {x0 x1 x3 x4 y0 y1 y2 : Int} {Q : Int → vW → Prop} : VW d 261 17 [(2, x0), (1, x1), (9, 0), (0, x3), (0, x4)] [(1, y2), (0, y1), (1, y0)] w Q ↔ VC d 273 [(1, y2)] w (fun r w1 => VW d 261 20 [(2, x0), (1, x1), (9, 0), (0, x3), (0, x4)] [(0, r), (0, y1), (1, y0)] w1 Q) :=
  (VW_b 1 (F := fun n => vclr (vrun n) d 261 20 273 1 0 [(2, x0), (1, x1), (9, 0), (0, x3), (0, x4)] [(1, y2), (0, y1), (1, y0)] w) (fun _ => rfl)).trans (EX_call rfl)
set_option maxRecDepth 100000 in
theorem b261_20 {d : Nat} {w : vW} {x0 x1 x3 x4 y0 y1 y2 : Int} {Q : Int → vW → Prop} : VW d 261 20 [(2, x0), (1, x1), (9, 0), (0, x3), (0, x4)] [(0, y2), (0, y1), (1, y0)] w Q ↔ (vkd w x0 = 18) ∧ VC d 253 [(2, x0), (0, x4)] w (fun r w1 => VW d 261 26 [(2, x0), (1, x1), (9, 0), (0, x3), (0, x4)] [(1, r), (0, y2), (0, y1), (1, y0)] w1 Q) :=
  (VW_b 3 (F := fun n => if vkd w x0 = 18 then vclr (vrun n) d 261 26 253 2 1 [(2, x0), (1, x1), (9, 0), (0, x3), (0, x4)] [(0, x4), (2, x0), (0, y2), (0, y1), (1, y0)] w else none) (fun _ => rfl)).trans (EX_if.trans (and_congr Iff.rfl (EX_call rfl)))
set_option maxRecDepth 100000 in
theorem b261_26 {d : Nat} {w : vW} {x0 x1 x3 x4 y0 y1 y2 y3 : Int} {Q : Int → vW → Prop} : VW d 261 26 [(2, x0), (1, x1), (9, 0), (0, x3), (0, x4)] [(1, y3), (0, y2), (0, y1), (1, y0)] w Q ↔ VC d 278 [(1, y0), (0, y1), (0, y2), (1, y3)] w (fun r w1 => VW d 261 29 [(2, x0), (1, x1), (9, 0), (0, x3), (0, x4)] [(1, r)] w1 Q) :=
  (VW_b 1 (F := fun n => vclr (vrun n) d 261 29 278 4 1 [(2, x0), (1, x1), (9, 0), (0, x3), (0, x4)] [(1, y3), (0, y2), (0, y1), (1, y0)] w) (fun _ => rfl)).trans (EX_call rfl)
set_option maxRecDepth 100000 in
theorem b261_29 {d : Nat} {w : vW} {x0 x1 x3 x4 y0 : Int} {Q : Int → vW → Prop} : VW d 261 29 [(2, x0), (1, x1), (9, 0), (0, x3), (0, x4)] [(1, y0)] w Q ↔ Q y0 w :=
  (VW_b 1 (F := fun n => some (0, y0, w)) (fun _ => rfl)).trans (EX_ret0)
/-! 262: StrikeWhatCancels$Rules.firstAt(JI)I -/
set_option maxRecDepth 100000 in
theorem b262_0 {d : Nat} {w : vW} {x0 x1 x3 : Int} {Q : Int → vW → Prop} : VW d 262 0 [(2, x0), (1, x1), (9, 0), (0, x3), (9, 0), (9, 0), (9, 0)] [] w Q ↔ VC d 276 [(1, x1), (0, x3)] w (fun r w1 => VW d 262 5 [(2, x0), (1, x1), (9, 0), (0, x3), (9, 0), (9, 0), (9, 0)] [(0, r)] w1 Q) :=
  (VW_b 3 (F := fun n => vclr (vrun n) d 262 5 276 2 0 [(2, x0), (1, x1), (9, 0), (0, x3), (9, 0), (9, 0), (9, 0)] [(0, x3), (1, x1)] w) (fun _ => rfl)).trans (EX_call rfl)
set_option maxRecDepth 100000 in
theorem b262_5 {d : Nat} {w : vW} {x0 x1 x3 y0 : Int} {Q : Int → vW → Prop} : VW d 262 5 [(2, x0), (1, x1), (9, 0), (0, x3), (9, 0), (9, 0), (9, 0)] [(0, y0)] w Q ↔ (vkd w x0 = 18) ∧ (vkd w (vct w x0 2) = 1) ∧ ((y0 < (vln w (vct w x0 2)) → VW d 262 17 [(2, x0), (1, x1), (9, 0), (0, x3), (0, y0), (9, 0), (9, 0)] [] w Q) ∧ (¬ (y0 < (vln w (vct w x0 2))) → VW d 262 27 [(2, x0), (1, x1), (9, 0), (0, x3), (0, y0), (9, 0), (9, 0)] [] w Q)) :=
  (VW_b 6 (F := fun n => if vkd w x0 = 18 then if vkd w (vct w x0 2) = 1 then (if y0 < (vln w (vct w x0 2)) then vrun n d 262 17 [(2, x0), (1, x1), (9, 0), (0, x3), (0, y0), (9, 0), (9, 0)] [] w else vrun n d 262 27 [(2, x0), (1, x1), (9, 0), (0, x3), (0, y0), (9, 0), (9, 0)] [] w) else none else none) (fun _ => rfl)).trans (EX_if.trans (and_congr Iff.rfl (EX_if.trans (and_congr Iff.rfl (EX_br.trans (and_congr (imp_congr Iff.rfl Iff.rfl) (imp_congr Iff.rfl Iff.rfl)))))))
set_option maxRecDepth 100000 in
theorem b262_17 {d : Nat} {w : vW} {x0 x1 x3 x4 : Int} {Q : Int → vW → Prop} : VW d 262 17 [(2, x0), (1, x1), (9, 0), (0, x3), (0, x4), (9, 0), (9, 0)] [] w Q ↔ (vkd w x0 = 18) ∧ (vkd w (vct w x0 2) = 1 ∧ (0 : Int) ≤ x4 ∧ x4 < vln w (vct w x0 2)) ∧ VW d 262 28 [(2, x0), (1, x1), (9, 0), (0, x3), (0, x4), (9, 0), (9, 0)] [(0, vct w (vct w x0 2) x4)] w Q :=
  (VW_b 5 (F := fun n => if vkd w x0 = 18 then if vkd w (vct w x0 2) = 1 ∧ (0 : Int) ≤ x4 ∧ x4 < vln w (vct w x0 2) then vrun n d 262 28 [(2, x0), (1, x1), (9, 0), (0, x3), (0, x4), (9, 0), (9, 0)] [(0, vct w (vct w x0 2) x4)] w else none else none) (fun _ => rfl)).trans (EX_if.trans (and_congr Iff.rfl (EX_if.trans (and_congr Iff.rfl (Iff.rfl)))))
set_option maxRecDepth 100000 in
theorem b262_27 {d : Nat} {w : vW} {x0 x1 x3 x4 : Int} {Q : Int → vW → Prop} : VW d 262 27 [(2, x0), (1, x1), (9, 0), (0, x3), (0, x4), (9, 0), (9, 0)] [] w Q ↔ VW d 262 28 [(2, x0), (1, x1), (9, 0), (0, x3), (0, x4), (9, 0), (9, 0)] [(0, 0)] w Q :=
  (VW_b 1 (F := fun n => vrun n d 262 28 [(2, x0), (1, x1), (9, 0), (0, x3), (0, x4), (9, 0), (9, 0)] [(0, 0)] w) (fun _ => rfl)).trans (Iff.rfl)
set_option maxRecDepth 100000 in
theorem b262_28 {d : Nat} {w : vW} {x0 x1 x3 x4 y0 : Int} {Q : Int → vW → Prop} : VW d 262 28 [(2, x0), (1, x1), (9, 0), (0, x3), (0, x4), (9, 0), (9, 0)] [(0, y0)] w Q ↔ VW d 262 33 [(2, x0), (1, x1), (9, 0), (0, x3), (0, x4), (0, y0), (0, 0)] [] w Q :=
  (VW_b 3 (F := fun n => vrun n d 262 33 [(2, x0), (1, x1), (9, 0), (0, x3), (0, x4), (0, y0), (0, 0)] [] w) (fun _ => rfl)).trans (Iff.rfl)
set_option maxRecDepth 100000 in
theorem b262_33 {d : Nat} {w : vW} {x0 x1 x3 x4 x5 x6 : Int} {Q : Int → vW → Prop} : VW d 262 33 [(2, x0), (1, x1), (9, 0), (0, x3), (0, x4), (0, x5), (0, x6)] [] w Q ↔ (vkd w x0 = 18) ∧ ((x6 < (vct w x0 3) → VW d 262 42 [(2, x0), (1, x1), (9, 0), (0, x3), (0, x4), (0, x5), (0, x6)] [] w Q) ∧ (¬ (x6 < (vct w x0 3)) → VW d 262 94 [(2, x0), (1, x1), (9, 0), (0, x3), (0, x4), (0, x5), (0, x6)] [] w Q)) :=
  (VW_b 4 (F := fun n => if vkd w x0 = 18 then (if x6 < (vct w x0 3) then vrun n d 262 42 [(2, x0), (1, x1), (9, 0), (0, x3), (0, x4), (0, x5), (0, x6)] [] w else vrun n d 262 94 [(2, x0), (1, x1), (9, 0), (0, x3), (0, x4), (0, x5), (0, x6)] [] w) else none) (fun _ => rfl)).trans (EX_if.trans (and_congr Iff.rfl (EX_br.trans (and_congr (imp_congr Iff.rfl Iff.rfl) (imp_congr Iff.rfl Iff.rfl)))))
set_option maxRecDepth 100000 in
theorem b262_42 {d : Nat} {w : vW} {x0 x1 x3 x4 x5 x6 : Int} {Q : Int → vW → Prop} : VW d 262 42 [(2, x0), (1, x1), (9, 0), (0, x3), (0, x4), (0, x5), (0, x6)] [] w Q ↔ (((i_ushr x5 x6) = 0 → VW d 262 94 [(2, x0), (1, x1), (9, 0), (0, x3), (0, x4), (0, x5), (0, x6)] [] w Q) ∧ (¬ ((i_ushr x5 x6) = 0) → VW d 262 50 [(2, x0), (1, x1), (9, 0), (0, x3), (0, x4), (0, x5), (0, x6)] [] w Q)) :=
  (VW_b 4 (F := fun n => (if (i_ushr x5 x6) = 0 then vrun n d 262 94 [(2, x0), (1, x1), (9, 0), (0, x3), (0, x4), (0, x5), (0, x6)] [] w else vrun n d 262 50 [(2, x0), (1, x1), (9, 0), (0, x3), (0, x4), (0, x5), (0, x6)] [] w)) (fun _ => rfl)).trans (EX_br.trans (and_congr (imp_congr Iff.rfl Iff.rfl) (imp_congr Iff.rfl Iff.rfl)))
set_option maxRecDepth 100000 in
theorem b262_50 {d : Nat} {w : vW} {x0 x1 x3 x4 x5 x6 : Int} {Q : Int → vW → Prop} : VW d 262 50 [(2, x0), (1, x1), (9, 0), (0, x3), (0, x4), (0, x5), (0, x6)] [] w Q ↔ (((i_and (i_ushr x5 x6) 1) = 0 → VW d 262 88 [(2, x0), (1, x1), (9, 0), (0, x3), (0, x4), (0, x5), (0, x6)] [] w Q) ∧ (¬ ((i_and (i_ushr x5 x6) 1) = 0) → VW d 262 60 [(2, x0), (1, x1), (9, 0), (0, x3), (0, x4), (0, x5), (0, x6)] [] w Q)) :=
  (VW_b 6 (F := fun n => (if (i_and (i_ushr x5 x6) 1) = 0 then vrun n d 262 88 [(2, x0), (1, x1), (9, 0), (0, x3), (0, x4), (0, x5), (0, x6)] [] w else vrun n d 262 60 [(2, x0), (1, x1), (9, 0), (0, x3), (0, x4), (0, x5), (0, x6)] [] w)) (fun _ => rfl)).trans (EX_br.trans (and_congr (imp_congr Iff.rfl Iff.rfl) (imp_congr Iff.rfl Iff.rfl)))
set_option maxRecDepth 100000 in
theorem b262_60 {d : Nat} {w : vW} {x0 x1 x3 x4 x5 x6 : Int} {Q : Int → vW → Prop} : VW d 262 60 [(2, x0), (1, x1), (9, 0), (0, x3), (0, x4), (0, x5), (0, x6)] [] w Q ↔ (vkd w x0 = 18) ∧ (vkd w (vct w x0 0) = 2) ∧ ((x6 < (vln w (vct w x0 0)) → VW d 262 70 [(2, x0), (1, x1), (9, 0), (0, x3), (0, x4), (0, x5), (0, x6)] [] w Q) ∧ (¬ (x6 < (vln w (vct w x0 0))) → VW d 262 88 [(2, x0), (1, x1), (9, 0), (0, x3), (0, x4), (0, x5), (0, x6)] [] w Q)) :=
  (VW_b 5 (F := fun n => if vkd w x0 = 18 then if vkd w (vct w x0 0) = 2 then (if x6 < (vln w (vct w x0 0)) then vrun n d 262 70 [(2, x0), (1, x1), (9, 0), (0, x3), (0, x4), (0, x5), (0, x6)] [] w else vrun n d 262 88 [(2, x0), (1, x1), (9, 0), (0, x3), (0, x4), (0, x5), (0, x6)] [] w) else none else none) (fun _ => rfl)).trans (EX_if.trans (and_congr Iff.rfl (EX_if.trans (and_congr Iff.rfl (EX_br.trans (and_congr (imp_congr Iff.rfl Iff.rfl) (imp_congr Iff.rfl Iff.rfl)))))))
set_option maxRecDepth 100000 in
theorem b262_70 {d : Nat} {w : vW} {x0 x1 x3 x4 x5 x6 : Int} {Q : Int → vW → Prop} : VW d 262 70 [(2, x0), (1, x1), (9, 0), (0, x3), (0, x4), (0, x5), (0, x6)] [] w Q ↔ (vkd w x0 = 18) ∧ (vkd w (vct w x0 0) = 2 ∧ (0 : Int) ≤ x6 ∧ x6 < vln w (vct w x0 0)) ∧ VC d 279 [(1, x1), (0, x3), (1, vct w (vct w x0 0) x6)] w (fun r w1 => VW d 262 82 [(2, x0), (1, x1), (9, 0), (0, x3), (0, x4), (0, x5), (0, x6)] [(0, r)] w1 Q) :=
  (VW_b 7 (F := fun n => if vkd w x0 = 18 then if vkd w (vct w x0 0) = 2 ∧ (0 : Int) ≤ x6 ∧ x6 < vln w (vct w x0 0) then vclr (vrun n) d 262 82 279 3 0 [(2, x0), (1, x1), (9, 0), (0, x3), (0, x4), (0, x5), (0, x6)] [(1, vct w (vct w x0 0) x6), (0, x3), (1, x1)] w else none else none) (fun _ => rfl)).trans (EX_if.trans (and_congr Iff.rfl (EX_if.trans (and_congr Iff.rfl (EX_call rfl)))))
set_option maxRecDepth 100000 in
theorem b262_82 {d : Nat} {w : vW} {x0 x1 x3 x4 x5 x6 y0 : Int} {Q : Int → vW → Prop} : VW d 262 82 [(2, x0), (1, x1), (9, 0), (0, x3), (0, x4), (0, x5), (0, x6)] [(0, y0)] w Q ↔ ((y0 = 0 → VW d 262 88 [(2, x0), (1, x1), (9, 0), (0, x3), (0, x4), (0, x5), (0, x6)] [] w Q) ∧ (¬ (y0 = 0) → VW d 262 85 [(2, x0), (1, x1), (9, 0), (0, x3), (0, x4), (0, x5), (0, x6)] [] w Q)) :=
  (VW_b 1 (F := fun n => (if y0 = 0 then vrun n d 262 88 [(2, x0), (1, x1), (9, 0), (0, x3), (0, x4), (0, x5), (0, x6)] [] w else vrun n d 262 85 [(2, x0), (1, x1), (9, 0), (0, x3), (0, x4), (0, x5), (0, x6)] [] w)) (fun _ => rfl)).trans (EX_br.trans (and_congr (imp_congr Iff.rfl Iff.rfl) (imp_congr Iff.rfl Iff.rfl)))
set_option maxRecDepth 100000 in
theorem b262_85 {d : Nat} {w : vW} {x0 x1 x3 x4 x5 x6 : Int} {Q : Int → vW → Prop} : VW d 262 85 [(2, x0), (1, x1), (9, 0), (0, x3), (0, x4), (0, x5), (0, x6)] [] w Q ↔ Q x6 w :=
  (VW_b 2 (F := fun n => some (0, x6, w)) (fun _ => rfl)).trans (EX_ret0)
set_option maxRecDepth 100000 in
theorem b262_88 {d : Nat} {w : vW} {x0 x1 x3 x4 x5 x6 : Int} {Q : Int → vW → Prop} : VW d 262 88 [(2, x0), (1, x1), (9, 0), (0, x3), (0, x4), (0, x5), (0, x6)] [] w Q ↔ VW d 262 33 [(2, x0), (1, x1), (9, 0), (0, x3), (0, x4), (0, x5), (0, w32 (x6 + 1))] [] w Q :=
  (VW_b 2 (F := fun n => vrun n d 262 33 [(2, x0), (1, x1), (9, 0), (0, x3), (0, x4), (0, x5), (0, w32 (x6 + 1))] [] w) (fun _ => rfl)).trans (Iff.rfl)
set_option maxRecDepth 100000 in
theorem b262_94 {d : Nat} {w : vW} {x0 x1 x3 x4 x5 x6 : Int} {Q : Int → vW → Prop} : VW d 262 94 [(2, x0), (1, x1), (9, 0), (0, x3), (0, x4), (0, x5), (0, x6)] [] w Q ↔ Q (-1) w :=
  (VW_b 2 (F := fun n => some (0, (-1), w)) (fun _ => rfl)).trans (EX_ret0)
/-! 263: StrikeWhatCancels$Rules.next(IJ)I -/
set_option maxRecDepth 100000 in
theorem b263_0 {d : Nat} {w : vW} {x0 x1 x2 : Int} {Q : Int → vW → Prop} : VW d 263 0 [(2, x0), (0, x1), (1, x2), (9, 0), (9, 0), (9, 0), (9, 0), (9, 0)] [] w Q ↔ ((x1 = 2 → VW d 263 5 [(2, x0), (0, x1), (1, x2), (9, 0), (9, 0), (9, 0), (9, 0), (9, 0)] [] w Q) ∧ (¬ (x1 = 2) → VW d 263 11 [(2, x0), (0, x1), (1, x2), (9, 0), (9, 0), (9, 0), (9, 0), (9, 0)] [] w Q)) :=
  (VW_b 3 (F := fun n => (if x1 = 2 then vrun n d 263 5 [(2, x0), (0, x1), (1, x2), (9, 0), (9, 0), (9, 0), (9, 0), (9, 0)] [] w else vrun n d 263 11 [(2, x0), (0, x1), (1, x2), (9, 0), (9, 0), (9, 0), (9, 0), (9, 0)] [] w)) (fun _ => rfl)).trans (EX_br.trans (and_congr (imp_congr Iff.rfl Iff.rfl) (imp_congr Iff.rfl Iff.rfl)))
set_option maxRecDepth 100000 in
theorem b263_5 {d : Nat} {w : vW} {x0 x1 x2 : Int} {Q : Int → vW → Prop} : VW d 263 5 [(2, x0), (0, x1), (1, x2), (9, 0), (9, 0), (9, 0), (9, 0), (9, 0)] [] w Q ↔ (vkd w x0 = 18) ∧ VC d 264 [(2, x0), (1, x2)] w (fun r w1 => VW d 263 10 [(2, x0), (0, x1), (1, x2), (9, 0), (9, 0), (9, 0), (9, 0), (9, 0)] [(0, r)] w1 Q) :=
  (VW_b 3 (F := fun n => if vkd w x0 = 18 then vclr (vrun n) d 263 10 264 2 0 [(2, x0), (0, x1), (1, x2), (9, 0), (9, 0), (9, 0), (9, 0), (9, 0)] [(1, x2), (2, x0)] w else none) (fun _ => rfl)).trans (EX_if.trans (and_congr Iff.rfl (EX_call rfl)))
set_option maxRecDepth 100000 in
theorem b263_10 {d : Nat} {w : vW} {x0 x1 x2 y0 : Int} {Q : Int → vW → Prop} : VW d 263 10 [(2, x0), (0, x1), (1, x2), (9, 0), (9, 0), (9, 0), (9, 0), (9, 0)] [(0, y0)] w Q ↔ Q y0 w :=
  (VW_b 1 (F := fun n => some (0, y0, w)) (fun _ => rfl)).trans (EX_ret0)
set_option maxRecDepth 100000 in
theorem b263_11 {d : Nat} {w : vW} {x0 x1 x2 : Int} {Q : Int → vW → Prop} : VW d 263 11 [(2, x0), (0, x1), (1, x2), (9, 0), (9, 0), (9, 0), (9, 0), (9, 0)] [] w Q ↔ VC d 273 [(1, x2)] w (fun r w1 => VW d 263 15 [(2, x0), (0, x1), (1, x2), (9, 0), (9, 0), (9, 0), (9, 0), (9, 0)] [(0, r)] w1 Q) :=
  (VW_b 2 (F := fun n => vclr (vrun n) d 263 15 273 1 0 [(2, x0), (0, x1), (1, x2), (9, 0), (9, 0), (9, 0), (9, 0), (9, 0)] [(1, x2)] w) (fun _ => rfl)).trans (EX_call rfl)
set_option maxRecDepth 100000 in
theorem b263_15 {d : Nat} {w : vW} {x0 x1 x2 y0 : Int} {Q : Int → vW → Prop} : VW d 263 15 [(2, x0), (0, x1), (1, x2), (9, 0), (9, 0), (9, 0), (9, 0), (9, 0)] [(0, y0)] w Q ↔ VW d 263 20 [(2, x0), (0, x1), (1, x2), (9, 0), (0, y0), (0, 0), (9, 0), (9, 0)] [] w Q :=
  (VW_b 3 (F := fun n => vrun n d 263 20 [(2, x0), (0, x1), (1, x2), (9, 0), (0, y0), (0, 0), (9, 0), (9, 0)] [] w) (fun _ => rfl)).trans (Iff.rfl)
set_option maxRecDepth 100000 in
theorem b263_20 {d : Nat} {w : vW} {x0 x1 x2 x4 x5 : Int} {v6 v7 : vV} {Q : Int → vW → Prop} : VW d 263 20 [(2, x0), (0, x1), (1, x2), (9, 0), (0, x4), (0, x5), v6, v7] [] w Q ↔ ((x5 < x4 → VW d 263 27 [(2, x0), (0, x1), (1, x2), (9, 0), (0, x4), (0, x5), v6, v7] [] w Q) ∧ (¬ (x5 < x4) → VW d 263 73 [(2, x0), (0, x1), (1, x2), (9, 0), (0, x4), (0, x5), v6, v7] [] w Q)) :=
  (VW_b 3 (F := fun n => (if x5 < x4 then vrun n d 263 27 [(2, x0), (0, x1), (1, x2), (9, 0), (0, x4), (0, x5), v6, v7] [] w else vrun n d 263 73 [(2, x0), (0, x1), (1, x2), (9, 0), (0, x4), (0, x5), v6, v7] [] w)) (fun _ => rfl)).trans (EX_br.trans (and_congr (imp_congr Iff.rfl Iff.rfl) (imp_congr Iff.rfl Iff.rfl)))
set_option maxRecDepth 100000 in
theorem b263_27 {d : Nat} {w : vW} {x0 x1 x2 x4 x5 : Int} {v6 v7 : vV} {Q : Int → vW → Prop} : VW d 263 27 [(2, x0), (0, x1), (1, x2), (9, 0), (0, x4), (0, x5), v6, v7] [] w Q ↔ ((x1 = 0 → VW d 263 31 [(2, x0), (0, x1), (1, x2), (9, 0), (0, x4), (0, x5), v6, v7] [] w Q) ∧ (¬ (x1 = 0) → VW d 263 36 [(2, x0), (0, x1), (1, x2), (9, 0), (0, x4), (0, x5), v6, v7] [] w Q)) :=
  (VW_b 2 (F := fun n => (if x1 = 0 then vrun n d 263 31 [(2, x0), (0, x1), (1, x2), (9, 0), (0, x4), (0, x5), v6, v7] [] w else vrun n d 263 36 [(2, x0), (0, x1), (1, x2), (9, 0), (0, x4), (0, x5), v6, v7] [] w)) (fun _ => rfl)).trans (EX_br.trans (and_congr (imp_congr Iff.rfl Iff.rfl) (imp_congr Iff.rfl Iff.rfl)))
set_option maxRecDepth 100000 in
theorem b263_31 {d : Nat} {w : vW} {x0 x1 x2 x4 x5 : Int} {v6 v7 : vV} {Q : Int → vW → Prop} : VW d 263 31 [(2, x0), (0, x1), (1, x2), (9, 0), (0, x4), (0, x5), v6, v7] [] w Q ↔ VW d 263 43 [(2, x0), (0, x1), (1, x2), (9, 0), (0, x4), (0, x5), v6, v7] [(0, x5)] w Q :=
  (VW_b 2 (F := fun n => vrun n d 263 43 [(2, x0), (0, x1), (1, x2), (9, 0), (0, x4), (0, x5), v6, v7] [(0, x5)] w) (fun _ => rfl)).trans (Iff.rfl)
set_option maxRecDepth 100000 in
theorem b263_36 {d : Nat} {w : vW} {x0 x1 x2 x4 x5 : Int} {v6 v7 : vV} {Q : Int → vW → Prop} : VW d 263 36 [(2, x0), (0, x1), (1, x2), (9, 0), (0, x4), (0, x5), v6, v7] [] w Q ↔ VW d 263 43 [(2, x0), (0, x1), (1, x2), (9, 0), (0, x4), (0, x5), v6, v7] [(0, w32 ((w32 (x4 - 1)) - x5))] w Q :=
  (VW_b 5 (F := fun n => vrun n d 263 43 [(2, x0), (0, x1), (1, x2), (9, 0), (0, x4), (0, x5), v6, v7] [(0, w32 ((w32 (x4 - 1)) - x5))] w) (fun _ => rfl)).trans (Iff.rfl)
set_option maxRecDepth 100000 in
theorem b263_43 {d : Nat} {w : vW} {x0 x1 x2 x4 x5 y0 : Int} {v6 v7 : vV} {Q : Int → vW → Prop} : VW d 263 43 [(2, x0), (0, x1), (1, x2), (9, 0), (0, x4), (0, x5), v6, v7] [(0, y0)] w Q ↔ (vkd w x0 = 18) ∧ VC d 262 [(2, x0), (1, x2), (0, y0)] w (fun r w1 => VW d 263 52 [(2, x0), (0, x1), (1, x2), (9, 0), (0, x4), (0, x5), (0, y0), v7] [(0, r)] w1 Q) :=
  (VW_b 5 (F := fun n => if vkd w x0 = 18 then vclr (vrun n) d 263 52 262 3 0 [(2, x0), (0, x1), (1, x2), (9, 0), (0, x4), (0, x5), (0, y0), v7] [(0, y0), (1, x2), (2, x0)] w else none) (fun _ => rfl)).trans (EX_if.trans (and_congr Iff.rfl (EX_call rfl)))
set_option maxRecDepth 100000 in
theorem b263_52 {d : Nat} {w : vW} {x0 x1 x2 x4 x5 x6 y0 : Int} {v7 : vV} {Q : Int → vW → Prop} : VW d 263 52 [(2, x0), (0, x1), (1, x2), (9, 0), (0, x4), (0, x5), (0, x6), v7] [(0, y0)] w Q ↔ ((y0 < 0 → VW d 263 67 [(2, x0), (0, x1), (1, x2), (9, 0), (0, x4), (0, x5), (0, x6), (0, y0)] [] w Q) ∧ (¬ (y0 < 0) → VW d 263 59 [(2, x0), (0, x1), (1, x2), (9, 0), (0, x4), (0, x5), (0, x6), (0, y0)] [] w Q)) :=
  (VW_b 3 (F := fun n => (if y0 < 0 then vrun n d 263 67 [(2, x0), (0, x1), (1, x2), (9, 0), (0, x4), (0, x5), (0, x6), (0, y0)] [] w else vrun n d 263 59 [(2, x0), (0, x1), (1, x2), (9, 0), (0, x4), (0, x5), (0, x6), (0, y0)] [] w)) (fun _ => rfl)).trans (EX_br.trans (and_congr (imp_congr Iff.rfl Iff.rfl) (imp_congr Iff.rfl Iff.rfl)))
set_option maxRecDepth 100000 in
theorem b263_59 {d : Nat} {w : vW} {x0 x1 x2 x4 x5 x6 x7 : Int} {Q : Int → vW → Prop} : VW d 263 59 [(2, x0), (0, x1), (1, x2), (9, 0), (0, x4), (0, x5), (0, x6), (0, x7)] [] w Q ↔ VC d 249 [(0, x7), (0, x6)] w (fun r w1 => VW d 263 66 [(2, x0), (0, x1), (1, x2), (9, 0), (0, x4), (0, x5), (0, x6), (0, x7)] [(0, r)] w1 Q) :=
  (VW_b 3 (F := fun n => vclr (vrun n) d 263 66 249 2 0 [(2, x0), (0, x1), (1, x2), (9, 0), (0, x4), (0, x5), (0, x6), (0, x7)] [(0, x6), (0, x7)] w) (fun _ => rfl)).trans (EX_call rfl)
set_option maxRecDepth 100000 in
theorem b263_66 {d : Nat} {w : vW} {x0 x1 x2 x4 x5 x6 x7 y0 : Int} {Q : Int → vW → Prop} : VW d 263 66 [(2, x0), (0, x1), (1, x2), (9, 0), (0, x4), (0, x5), (0, x6), (0, x7)] [(0, y0)] w Q ↔ Q y0 w :=
  (VW_b 1 (F := fun n => some (0, y0, w)) (fun _ => rfl)).trans (EX_ret0)
set_option maxRecDepth 100000 in
theorem b263_67 {d : Nat} {w : vW} {x0 x1 x2 x4 x5 x6 x7 : Int} {Q : Int → vW → Prop} : VW d 263 67 [(2, x0), (0, x1), (1, x2), (9, 0), (0, x4), (0, x5), (0, x6), (0, x7)] [] w Q ↔ VW d 263 20 [(2, x0), (0, x1), (1, x2), (9, 0), (0, x4), (0, w32 (x5 + 1)), (0, x6), (0, x7)] [] w Q :=
  (VW_b 2 (F := fun n => vrun n d 263 20 [(2, x0), (0, x1), (1, x2), (9, 0), (0, x4), (0, w32 (x5 + 1)), (0, x6), (0, x7)] [] w) (fun _ => rfl)).trans (Iff.rfl)
set_option maxRecDepth 100000 in
theorem b263_73 {d : Nat} {w : vW} {x0 x1 x2 x4 x5 : Int} {v6 v7 : vV} {Q : Int → vW → Prop} : VW d 263 73 [(2, x0), (0, x1), (1, x2), (9, 0), (0, x4), (0, x5), v6, v7] [] w Q ↔ Q (-1) w :=
  (VW_b 2 (F := fun n => some (0, (-1), w)) (fun _ => rfl)).trans (EX_ret0)
/-! 264: StrikeWhatCancels$Rules.nextByRules(J)I -/
set_option maxRecDepth 100000 in
theorem b264_0 {d : Nat} {w : vW} {x0 x1 : Int} {Q : Int → vW → Prop} : VW d 264 0 [(2, x0), (1, x1), (9, 0), (9, 0), (9, 0), (9, 0)] [] w Q ↔ VW d 264 2 [(2, x0), (1, x1), (9, 0), (0, 0), (9, 0), (9, 0)] [] w Q :=
  (VW_b 2 (F := fun n => vrun n d 264 2 [(2, x0), (1, x1), (9, 0), (0, 0), (9, 0), (9, 0)] [] w) (fun _ => rfl)).trans (Iff.rfl)
set_option maxRecDepth 100000 in
theorem b264_2 {d : Nat} {w : vW} {x0 x1 x3 : Int} {v4 v5 : vV} {Q : Int → vW → Prop} : VW d 264 2 [(2, x0), (1, x1), (9, 0), (0, x3), v4, v5] [] w Q ↔ (vkd w x0 = 18) ∧ ((x3 < (vct w x0 3) → VW d 264 10 [(2, x0), (1, x1), (9, 0), (0, x3), v4, v5] [] w Q) ∧ (¬ (x3 < (vct w x0 3)) → VW d 264 79 [(2, x0), (1, x1), (9, 0), (0, x3), v4, v5] [] w Q)) :=
  (VW_b 4 (F := fun n => if vkd w x0 = 18 then (if x3 < (vct w x0 3) then vrun n d 264 10 [(2, x0), (1, x1), (9, 0), (0, x3), v4, v5] [] w else vrun n d 264 79 [(2, x0), (1, x1), (9, 0), (0, x3), v4, v5] [] w) else none) (fun _ => rfl)).trans (EX_if.trans (and_congr Iff.rfl (EX_br.trans (and_congr (imp_congr Iff.rfl Iff.rfl) (imp_congr Iff.rfl Iff.rfl)))))
set_option maxRecDepth 100000 in
theorem b264_10 {d : Nat} {w : vW} {x0 x1 x3 : Int} {v4 v5 : vV} {Q : Int → vW → Prop} : VW d 264 10 [(2, x0), (1, x1), (9, 0), (0, x3), v4, v5] [] w Q ↔ (vkd w x0 = 18) ∧ (vkd w (vct w x0 0) = 2) ∧ ((x3 < (vln w (vct w x0 0)) → VW d 264 19 [(2, x0), (1, x1), (9, 0), (0, x3), v4, v5] [] w Q) ∧ (¬ (x3 < (vln w (vct w x0 0))) → VW d 264 79 [(2, x0), (1, x1), (9, 0), (0, x3), v4, v5] [] w Q)) :=
  (VW_b 5 (F := fun n => if vkd w x0 = 18 then if vkd w (vct w x0 0) = 2 then (if x3 < (vln w (vct w x0 0)) then vrun n d 264 19 [(2, x0), (1, x1), (9, 0), (0, x3), v4, v5] [] w else vrun n d 264 79 [(2, x0), (1, x1), (9, 0), (0, x3), v4, v5] [] w) else none else none) (fun _ => rfl)).trans (EX_if.trans (and_congr Iff.rfl (EX_if.trans (and_congr Iff.rfl (EX_br.trans (and_congr (imp_congr Iff.rfl Iff.rfl) (imp_congr Iff.rfl Iff.rfl)))))))
set_option maxRecDepth 100000 in
theorem b264_19 {d : Nat} {w : vW} {x0 x1 x3 : Int} {v4 v5 : vV} {Q : Int → vW → Prop} : VW d 264 19 [(2, x0), (1, x1), (9, 0), (0, x3), v4, v5] [] w Q ↔ VC d 273 [(1, x1)] w (fun r w1 => VW d 264 23 [(2, x0), (1, x1), (9, 0), (0, x3), v4, v5] [(0, r)] w1 Q) :=
  (VW_b 2 (F := fun n => vclr (vrun n) d 264 23 273 1 0 [(2, x0), (1, x1), (9, 0), (0, x3), v4, v5] [(1, x1)] w) (fun _ => rfl)).trans (EX_call rfl)
set_option maxRecDepth 100000 in
theorem b264_23 {d : Nat} {w : vW} {x0 x1 x3 y0 : Int} {v4 v5 : vV} {Q : Int → vW → Prop} : VW d 264 23 [(2, x0), (1, x1), (9, 0), (0, x3), v4, v5] [(0, y0)] w Q ↔ (vkd w x0 = 18) ∧ (vkd w (vct w x0 0) = 2 ∧ (0 : Int) ≤ x3 ∧ x3 < vln w (vct w x0 0)) ∧ VC d 273 [(1, vct w (vct w x0 0) x3)] w (fun r w1 => VW d 264 32 [(2, x0), (1, x1), (9, 0), (0, x3), v4, v5] [(0, r), (0, y0)] w1 Q) :=
  (VW_b 5 (F := fun n => if vkd w x0 = 18 then if vkd w (vct w x0 0) = 2 ∧ (0 : Int) ≤ x3 ∧ x3 < vln w (vct w x0 0) then vclr (vrun n) d 264 32 273 1 0 [(2, x0), (1, x1), (9, 0), (0, x3), v4, v5] [(1, vct w (vct w x0 0) x3), (0, y0)] w else none else none) (fun _ => rfl)).trans (EX_if.trans (and_congr Iff.rfl (EX_if.trans (and_congr Iff.rfl (EX_call rfl)))))
set_option maxRecDepth 100000 in
theorem b264_32 {d : Nat} {w : vW} {x0 x1 x3 y0 y1 : Int} {v4 v5 : vV} {Q : Int → vW → Prop} : VW d 264 32 [(2, x0), (1, x1), (9, 0), (0, x3), v4, v5] [(0, y1), (0, y0)] w Q ↔ VW d 264 38 [(2, x0), (1, x1), (9, 0), (0, x3), (0, w32 (y0 - y1)), (0, 0)] [] w Q :=
  (VW_b 4 (F := fun n => vrun n d 264 38 [(2, x0), (1, x1), (9, 0), (0, x3), (0, w32 (y0 - y1)), (0, 0)] [] w) (fun _ => rfl)).trans (Iff.rfl)
set_option maxRecDepth 100000 in
theorem b264_38 {d : Nat} {w : vW} {x0 x1 x3 x4 x5 : Int} {Q : Int → vW → Prop} : VW d 264 38 [(2, x0), (1, x1), (9, 0), (0, x3), (0, x4), (0, x5)] [] w Q ↔ ((x4 < x5 → VW d 264 73 [(2, x0), (1, x1), (9, 0), (0, x3), (0, x4), (0, x5)] [] w Q) ∧ (¬ (x4 < x5) → VW d 264 45 [(2, x0), (1, x1), (9, 0), (0, x3), (0, x4), (0, x5)] [] w Q)) :=
  (VW_b 3 (F := fun n => (if x4 < x5 then vrun n d 264 73 [(2, x0), (1, x1), (9, 0), (0, x3), (0, x4), (0, x5)] [] w else vrun n d 264 45 [(2, x0), (1, x1), (9, 0), (0, x3), (0, x4), (0, x5)] [] w)) (fun _ => rfl)).trans (EX_br.trans (and_congr (imp_congr Iff.rfl Iff.rfl) (imp_congr Iff.rfl Iff.rfl)))
set_option maxRecDepth 100000 in
theorem b264_45 {d : Nat} {w : vW} {x0 x1 x3 x4 x5 : Int} {Q : Int → vW → Prop} : VW d 264 45 [(2, x0), (1, x1), (9, 0), (0, x3), (0, x4), (0, x5)] [] w Q ↔ (vkd w x0 = 18) ∧ (vkd w (vct w x0 0) = 2 ∧ (0 : Int) ≤ x3 ∧ x3 < vln w (vct w x0 0)) ∧ VC d 279 [(1, x1), (0, x5), (1, vct w (vct w x0 0) x3)] w (fun r w1 => VW d 264 57 [(2, x0), (1, x1), (9, 0), (0, x3), (0, x4), (0, x5)] [(0, r)] w1 Q) :=
  (VW_b 7 (F := fun n => if vkd w x0 = 18 then if vkd w (vct w x0 0) = 2 ∧ (0 : Int) ≤ x3 ∧ x3 < vln w (vct w x0 0) then vclr (vrun n) d 264 57 279 3 0 [(2, x0), (1, x1), (9, 0), (0, x3), (0, x4), (0, x5)] [(1, vct w (vct w x0 0) x3), (0, x5), (1, x1)] w else none else none) (fun _ => rfl)).trans (EX_if.trans (and_congr Iff.rfl (EX_if.trans (and_congr Iff.rfl (EX_call rfl)))))
set_option maxRecDepth 100000 in
theorem b264_57 {d : Nat} {w : vW} {x0 x1 x3 x4 x5 y0 : Int} {Q : Int → vW → Prop} : VW d 264 57 [(2, x0), (1, x1), (9, 0), (0, x3), (0, x4), (0, x5)] [(0, y0)] w Q ↔ ((y0 = 0 → VW d 264 67 [(2, x0), (1, x1), (9, 0), (0, x3), (0, x4), (0, x5)] [] w Q) ∧ (¬ (y0 = 0) → VW d 264 60 [(2, x0), (1, x1), (9, 0), (0, x3), (0, x4), (0, x5)] [] w Q)) :=
  (VW_b 1 (F := fun n => (if y0 = 0 then vrun n d 264 67 [(2, x0), (1, x1), (9, 0), (0, x3), (0, x4), (0, x5)] [] w else vrun n d 264 60 [(2, x0), (1, x1), (9, 0), (0, x3), (0, x4), (0, x5)] [] w)) (fun _ => rfl)).trans (EX_br.trans (and_congr (imp_congr Iff.rfl Iff.rfl) (imp_congr Iff.rfl Iff.rfl)))
set_option maxRecDepth 100000 in
theorem b264_60 {d : Nat} {w : vW} {x0 x1 x3 x4 x5 : Int} {Q : Int → vW → Prop} : VW d 264 60 [(2, x0), (1, x1), (9, 0), (0, x3), (0, x4), (0, x5)] [] w Q ↔ VC d 249 [(0, x3), (0, x5)] w (fun r w1 => VW d 264 66 [(2, x0), (1, x1), (9, 0), (0, x3), (0, x4), (0, x5)] [(0, r)] w1 Q) :=
  (VW_b 3 (F := fun n => vclr (vrun n) d 264 66 249 2 0 [(2, x0), (1, x1), (9, 0), (0, x3), (0, x4), (0, x5)] [(0, x5), (0, x3)] w) (fun _ => rfl)).trans (EX_call rfl)
set_option maxRecDepth 100000 in
theorem b264_66 {d : Nat} {w : vW} {x0 x1 x3 x4 x5 y0 : Int} {Q : Int → vW → Prop} : VW d 264 66 [(2, x0), (1, x1), (9, 0), (0, x3), (0, x4), (0, x5)] [(0, y0)] w Q ↔ Q y0 w :=
  (VW_b 1 (F := fun n => some (0, y0, w)) (fun _ => rfl)).trans (EX_ret0)
set_option maxRecDepth 100000 in
theorem b264_67 {d : Nat} {w : vW} {x0 x1 x3 x4 x5 : Int} {Q : Int → vW → Prop} : VW d 264 67 [(2, x0), (1, x1), (9, 0), (0, x3), (0, x4), (0, x5)] [] w Q ↔ VW d 264 38 [(2, x0), (1, x1), (9, 0), (0, x3), (0, x4), (0, w32 (x5 + 1))] [] w Q :=
  (VW_b 2 (F := fun n => vrun n d 264 38 [(2, x0), (1, x1), (9, 0), (0, x3), (0, x4), (0, w32 (x5 + 1))] [] w) (fun _ => rfl)).trans (Iff.rfl)
set_option maxRecDepth 100000 in
theorem b264_73 {d : Nat} {w : vW} {x0 x1 x3 x4 x5 : Int} {Q : Int → vW → Prop} : VW d 264 73 [(2, x0), (1, x1), (9, 0), (0, x3), (0, x4), (0, x5)] [] w Q ↔ VW d 264 2 [(2, x0), (1, x1), (9, 0), (0, w32 (x3 + 1)), (0, x4), (0, x5)] [] w Q :=
  (VW_b 2 (F := fun n => vrun n d 264 2 [(2, x0), (1, x1), (9, 0), (0, w32 (x3 + 1)), (0, x4), (0, x5)] [] w) (fun _ => rfl)).trans (Iff.rfl)
set_option maxRecDepth 100000 in
theorem b264_79 {d : Nat} {w : vW} {x0 x1 x3 : Int} {v4 v5 : vV} {Q : Int → vW → Prop} : VW d 264 79 [(2, x0), (1, x1), (9, 0), (0, x3), v4, v5] [] w Q ↔ Q (-1) w :=
  (VW_b 2 (F := fun n => some (0, (-1), w)) (fun _ => rfl)).trans (EX_ret0)
/-! 265: StrikeWhatCancels$Rules.leave(IJ)J -/
set_option maxRecDepth 100000 in
theorem b265_0 {d : Nat} {w : vW} {x0 x1 x2 : Int} {Q : Int → vW → Prop} : VW d 265 0 [(2, x0), (0, x1), (1, x2), (9, 0), (9, 0), (9, 0), (9, 0), (9, 0)] [] w Q ↔ (vkd w x0 = 18) ∧ VC d 263 [(2, x0), (0, x1), (1, x2)] w (fun r w1 => VW d 265 10 [(2, x0), (0, x1), (1, x2), (9, 0), (1, x2), (9, 0), (9, 0), (9, 0)] [(0, r)] w1 Q) :=
  (VW_b 6 (F := fun n => if vkd w x0 = 18 then vclr (vrun n) d 265 10 263 3 0 [(2, x0), (0, x1), (1, x2), (9, 0), (1, x2), (9, 0), (9, 0), (9, 0)] [(1, x2), (0, x1), (2, x0)] w else none) (fun _ => rfl)).trans (EX_if.trans (and_congr Iff.rfl (EX_call rfl)))
set_option maxRecDepth 100000 in
theorem b265_10 {d : Nat} {w : vW} {x0 x1 x2 x4 y0 : Int} {Q : Int → vW → Prop} : VW d 265 10 [(2, x0), (0, x1), (1, x2), (9, 0), (1, x4), (9, 0), (9, 0), (9, 0)] [(0, y0)] w Q ↔ VW d 265 15 [(2, x0), (0, x1), (1, x2), (9, 0), (1, x4), (9, 0), (0, y0), (0, 0)] [] w Q :=
  (VW_b 3 (F := fun n => vrun n d 265 15 [(2, x0), (0, x1), (1, x2), (9, 0), (1, x4), (9, 0), (0, y0), (0, 0)] [] w) (fun _ => rfl)).trans (Iff.rfl)
set_option maxRecDepth 100000 in
theorem b265_15 {d : Nat} {w : vW} {x0 x1 x2 x4 x6 x7 : Int} {Q : Int → vW → Prop} : VW d 265 15 [(2, x0), (0, x1), (1, x2), (9, 0), (1, x4), (9, 0), (0, x6), (0, x7)] [] w Q ↔ ((x6 < 0 → VW d 265 53 [(2, x0), (0, x1), (1, x2), (9, 0), (1, x4), (9, 0), (0, x6), (0, x7)] [] w Q) ∧ (¬ (x6 < 0) → VW d 265 20 [(2, x0), (0, x1), (1, x2), (9, 0), (1, x4), (9, 0), (0, x6), (0, x7)] [] w Q)) :=
  (VW_b 2 (F := fun n => (if x6 < 0 then vrun n d 265 53 [(2, x0), (0, x1), (1, x2), (9, 0), (1, x4), (9, 0), (0, x6), (0, x7)] [] w else vrun n d 265 20 [(2, x0), (0, x1), (1, x2), (9, 0), (1, x4), (9, 0), (0, x6), (0, x7)] [] w)) (fun _ => rfl)).trans (EX_br.trans (and_congr (imp_congr Iff.rfl Iff.rfl) (imp_congr Iff.rfl Iff.rfl)))
set_option maxRecDepth 100000 in
theorem b265_20 {d : Nat} {w : vW} {x0 x1 x2 x4 x6 x7 : Int} {Q : Int → vW → Prop} : VW d 265 20 [(2, x0), (0, x1), (1, x2), (9, 0), (1, x4), (9, 0), (0, x6), (0, x7)] [] w Q ↔ ((x7 < 256 → VW d 265 28 [(2, x0), (0, x1), (1, x2), (9, 0), (1, x4), (9, 0), (0, x6), (0, x7)] [] w Q) ∧ (¬ (x7 < 256) → VW d 265 53 [(2, x0), (0, x1), (1, x2), (9, 0), (1, x4), (9, 0), (0, x6), (0, x7)] [] w Q)) :=
  (VW_b 3 (F := fun n => (if x7 < 256 then vrun n d 265 28 [(2, x0), (0, x1), (1, x2), (9, 0), (1, x4), (9, 0), (0, x6), (0, x7)] [] w else vrun n d 265 53 [(2, x0), (0, x1), (1, x2), (9, 0), (1, x4), (9, 0), (0, x6), (0, x7)] [] w)) (fun _ => rfl)).trans (EX_br.trans (and_congr (imp_congr Iff.rfl Iff.rfl) (imp_congr Iff.rfl Iff.rfl)))
set_option maxRecDepth 100000 in
theorem b265_28 {d : Nat} {w : vW} {x0 x1 x2 x4 x6 x7 : Int} {Q : Int → vW → Prop} : VW d 265 28 [(2, x0), (0, x1), (1, x2), (9, 0), (1, x4), (9, 0), (0, x6), (0, x7)] [] w Q ↔ (vkd w x0 = 18) ∧ VC d 261 [(2, x0), (1, x4), (0, x6)] w (fun r w1 => VW d 265 36 [(2, x0), (0, x1), (1, x2), (9, 0), (1, x4), (9, 0), (0, x6), (0, x7)] [(1, r)] w1 Q) :=
  (VW_b 4 (F := fun n => if vkd w x0 = 18 then vclr (vrun n) d 265 36 261 3 1 [(2, x0), (0, x1), (1, x2), (9, 0), (1, x4), (9, 0), (0, x6), (0, x7)] [(0, x6), (1, x4), (2, x0)] w else none) (fun _ => rfl)).trans (EX_if.trans (and_congr Iff.rfl (EX_call rfl)))
set_option maxRecDepth 100000 in
theorem b265_36 {d : Nat} {w : vW} {x0 x1 x2 x4 x6 x7 y0 : Int} {Q : Int → vW → Prop} : VW d 265 36 [(2, x0), (0, x1), (1, x2), (9, 0), (1, x4), (9, 0), (0, x6), (0, x7)] [(1, y0)] w Q ↔ (vkd w x0 = 18) ∧ VC d 263 [(2, x0), (0, x1), (1, y0)] w (fun r w1 => VW d 265 48 [(2, x0), (0, x1), (1, x2), (9, 0), (1, y0), (9, 0), (0, x6), (0, w32 (x7 + 1))] [(0, r)] w1 Q) :=
  (VW_b 6 (F := fun n => if vkd w x0 = 18 then vclr (vrun n) d 265 48 263 3 0 [(2, x0), (0, x1), (1, x2), (9, 0), (1, y0), (9, 0), (0, x6), (0, w32 (x7 + 1))] [(1, y0), (0, x1), (2, x0)] w else none) (fun _ => rfl)).trans (EX_if.trans (and_congr Iff.rfl (EX_call rfl)))
set_option maxRecDepth 100000 in
theorem b265_48 {d : Nat} {w : vW} {x0 x1 x2 x4 x6 x7 y0 : Int} {Q : Int → vW → Prop} : VW d 265 48 [(2, x0), (0, x1), (1, x2), (9, 0), (1, x4), (9, 0), (0, x6), (0, x7)] [(0, y0)] w Q ↔ VW d 265 15 [(2, x0), (0, x1), (1, x2), (9, 0), (1, x4), (9, 0), (0, y0), (0, x7)] [] w Q :=
  (VW_b 2 (F := fun n => vrun n d 265 15 [(2, x0), (0, x1), (1, x2), (9, 0), (1, x4), (9, 0), (0, y0), (0, x7)] [] w) (fun _ => rfl)).trans (Iff.rfl)
set_option maxRecDepth 100000 in
theorem b265_53 {d : Nat} {w : vW} {x0 x1 x2 x4 x6 x7 : Int} {Q : Int → vW → Prop} : VW d 265 53 [(2, x0), (0, x1), (1, x2), (9, 0), (1, x4), (9, 0), (0, x6), (0, x7)] [] w Q ↔ (vkd w x0 = 18) ∧ VW d 265 60 [(2, x0), (0, x1), (1, x2), (9, 0), (1, x4), (9, 0), (0, x6), (0, x7)] [] (vsv w x0 5 x7) Q :=
  (VW_b 4 (F := fun n => if vkd w x0 = 18 then vrun n d 265 60 [(2, x0), (0, x1), (1, x2), (9, 0), (1, x4), (9, 0), (0, x6), (0, x7)] [] (vsv w x0 5 x7) else none) (fun _ => rfl)).trans (EX_if.trans (and_congr Iff.rfl (Iff.rfl)))
set_option maxRecDepth 100000 in
theorem b265_60 {d : Nat} {w : vW} {x0 x1 x2 x4 x6 x7 : Int} {Q : Int → vW → Prop} : VW d 265 60 [(2, x0), (0, x1), (1, x2), (9, 0), (1, x4), (9, 0), (0, x6), (0, x7)] [] w Q ↔ ((x6 < 0 → VW d 265 94 [(2, x0), (0, x1), (1, x2), (9, 0), (1, x4), (9, 0), (0, x6), (0, x7)] [] w Q) ∧ (¬ (x6 < 0) → VW d 265 65 [(2, x0), (0, x1), (1, x2), (9, 0), (1, x4), (9, 0), (0, x6), (0, x7)] [] w Q)) :=
  (VW_b 2 (F := fun n => (if x6 < 0 then vrun n d 265 94 [(2, x0), (0, x1), (1, x2), (9, 0), (1, x4), (9, 0), (0, x6), (0, x7)] [] w else vrun n d 265 65 [(2, x0), (0, x1), (1, x2), (9, 0), (1, x4), (9, 0), (0, x6), (0, x7)] [] w)) (fun _ => rfl)).trans (EX_br.trans (and_congr (imp_congr Iff.rfl Iff.rfl) (imp_congr Iff.rfl Iff.rfl)))
set_option maxRecDepth 100000 in
theorem b265_65 {d : Nat} {w : vW} {x0 x1 x2 x4 x6 x7 : Int} {Q : Int → vW → Prop} : VW d 265 65 [(2, x0), (0, x1), (1, x2), (9, 0), (1, x4), (9, 0), (0, x6), (0, x7)] [] w Q ↔ (vkd w x0 = 18) ∧ VC d 266 [(2, x0)] w (fun r w1 => VW d 265 69 [(2, x0), (0, x1), (1, x2), (9, 0), (1, x4), (9, 0), (0, x6), (0, x7)] [(2, r)] w1 Q) :=
  (VW_b 2 (F := fun n => if vkd w x0 = 18 then vclr (vrun n) d 265 69 266 1 2 [(2, x0), (0, x1), (1, x2), (9, 0), (1, x4), (9, 0), (0, x6), (0, x7)] [(2, x0)] w else none) (fun _ => rfl)).trans (EX_if.trans (and_congr Iff.rfl (EX_call rfl)))
set_option maxRecDepth 100000 in
theorem b265_69 {d : Nat} {w : vW} {x0 x1 x2 x4 x6 x7 y0 : Int} {Q : Int → vW → Prop} : VW d 265 69 [(2, x0), (0, x1), (1, x2), (9, 0), (1, x4), (9, 0), (0, x6), (0, x7)] [(2, y0)] w Q ↔ (vkd w y0 = 14) ∧ VC d 191 [(2, y0), (2, x0), (0, x1), (1, x4)] w (fun r w1 => VW d 265 76 [(2, x0), (0, x1), (1, x2), (9, 0), (1, x4), (9, 0), (0, x6), (0, x7)] [(1, r)] w1 Q) :=
  (VW_b 4 (F := fun n => if vkd w y0 = 14 then vclr (vrun n) d 265 76 191 4 1 [(2, x0), (0, x1), (1, x2), (9, 0), (1, x4), (9, 0), (0, x6), (0, x7)] [(1, x4), (0, x1), (2, x0), (2, y0)] w else none) (fun _ => rfl)).trans (EX_if.trans (and_congr Iff.rfl (EX_call rfl)))
set_option maxRecDepth 100000 in
theorem b265_76 {d : Nat} {w : vW} {x0 x1 x2 x4 x6 x7 y0 : Int} {Q : Int → vW → Prop} : VW d 265 76 [(2, x0), (0, x1), (1, x2), (9, 0), (1, x4), (9, 0), (0, x6), (0, x7)] [(1, y0)] w Q ↔ (vkd w x0 = 18) ∧ (vkd w x0 = 18) ∧ VC d 266 [(2, x0)] w (fun r w1 => VW d 265 87 [(2, x0), (0, x1), (1, x2), (9, 0), (1, y0), (9, 0), (0, x6), (0, x7)] [(2, r), (1, vct w x0 5), (2, x0)] w1 Q) :=
  (VW_b 6 (F := fun n => if vkd w x0 = 18 then if vkd w x0 = 18 then vclr (vrun n) d 265 87 266 1 2 [(2, x0), (0, x1), (1, x2), (9, 0), (1, y0), (9, 0), (0, x6), (0, x7)] [(2, x0), (1, vct w x0 5), (2, x0)] w else none else none) (fun _ => rfl)).trans (EX_if.trans (and_congr Iff.rfl (EX_if.trans (and_congr Iff.rfl (EX_call rfl)))))
set_option maxRecDepth 100000 in
theorem b265_87 {d : Nat} {w : vW} {x0 x1 x2 x4 x6 x7 y0 y1 y2 : Int} {Q : Int → vW → Prop} : VW d 265 87 [(2, x0), (0, x1), (1, x2), (9, 0), (1, x4), (9, 0), (0, x6), (0, x7)] [(2, y2), (1, y1), (2, y0)] w Q ↔ (vkd w y2 = 14) ∧ (vkd w y0 = 18) ∧ VW d 265 94 [(2, x0), (0, x1), (1, x2), (9, 0), (1, x4), (9, 0), (0, x6), (0, x7)] [] (vsv w y0 5 (w64 (y1 + (vct w y2 8)))) Q :=
  (VW_b 3 (F := fun n => if vkd w y2 = 14 then if vkd w y0 = 18 then vrun n d 265 94 [(2, x0), (0, x1), (1, x2), (9, 0), (1, x4), (9, 0), (0, x6), (0, x7)] [] (vsv w y0 5 (w64 (y1 + (vct w y2 8)))) else none else none) (fun _ => rfl)).trans (EX_if.trans (and_congr Iff.rfl (EX_if.trans (and_congr Iff.rfl (Iff.rfl)))))
set_option maxRecDepth 100000 in
theorem b265_94 {d : Nat} {w : vW} {x0 x1 x2 x4 x6 x7 : Int} {Q : Int → vW → Prop} : VW d 265 94 [(2, x0), (0, x1), (1, x2), (9, 0), (1, x4), (9, 0), (0, x6), (0, x7)] [] w Q ↔ Q x4 w :=
  (VW_b 2 (F := fun n => some (0, x4, w)) (fun _ => rfl)).trans (EX_ret0)
/-! 266: StrikeWhatCancels$Rules.leaps()LStrikeWhatCancels$Leaps; -/
set_option maxRecDepth 100000 in
theorem b266_0 {d : Nat} {w : vW} {x0 : Int} {Q : Int → vW → Prop} : VW d 266 0 [(2, x0)] [] w Q ↔ (vkd w x0 = 18) ∧ (((vct w x0 6) = (-1) → VW d 266 7 [(2, x0)] [] w Q) ∧ (¬ ((vct w x0 6) = (-1)) → VW d 266 18 [(2, x0)] [] w Q)) :=
  (VW_b 3 (F := fun n => if vkd w x0 = 18 then (if (vct w x0 6) = (-1) then vrun n d 266 7 [(2, x0)] [] w else vrun n d 266 18 [(2, x0)] [] w) else none) (fun _ => rfl)).trans (EX_if.trans (and_congr Iff.rfl (EX_br.trans (and_congr (imp_congr Iff.rfl Iff.rfl) (imp_congr Iff.rfl Iff.rfl)))))
set_option maxRecDepth 100000 in
theorem b266_7 {d : Nat} {w : vW} {x0 : Int} {Q : Int → vW → Prop} : VW d 266 7 [(2, x0)] [] w Q ↔ VW d 266 11 [(2, x0)] [(2, vnt w), (2, x0)] (vnw w 14 9 (vdfl 14) 9) Q :=
  (VW_b 2 (F := fun n => vrun n d 266 11 [(2, x0)] [(2, vnt w), (2, x0)] (vnw w 14 9 (vdfl 14) 9)) (fun _ => rfl)).trans (Iff.rfl)
set_option maxRecDepth 100000 in
theorem b266_11 {d : Nat} {w : vW} {x0 y0 y1 : Int} {Q : Int → vW → Prop} : VW d 266 11 [(2, x0)] [(2, y1), (2, y0)] w Q ↔ (vkd w y1 = 14) ∧ VC d 190 [(2, y1)] w (fun _ w1 => VW d 266 15 [(2, x0)] [(2, y1), (2, y0)] w1 Q) :=
  (VW_b 2 (F := fun n => if vkd w y1 = 14 then vclr (vrun n) d 266 15 190 1 9 [(2, x0)] [(2, y1), (2, y1), (2, y0)] w else none) (fun _ => rfl)).trans (EX_if.trans (and_congr Iff.rfl (EX_call rfl)))
set_option maxRecDepth 100000 in
theorem b266_15 {d : Nat} {w : vW} {x0 y0 y1 : Int} {Q : Int → vW → Prop} : VW d 266 15 [(2, x0)] [(2, y1), (2, y0)] w Q ↔ (vkd w y0 = 18) ∧ VW d 266 18 [(2, x0)] [] (vsv w y0 6 y1) Q :=
  (VW_b 1 (F := fun n => if vkd w y0 = 18 then vrun n d 266 18 [(2, x0)] [] (vsv w y0 6 y1) else none) (fun _ => rfl)).trans (EX_if.trans (and_congr Iff.rfl (Iff.rfl)))
set_option maxRecDepth 100000 in
theorem b266_18 {d : Nat} {w : vW} {x0 : Int} {Q : Int → vW → Prop} : VW d 266 18 [(2, x0)] [] w Q ↔ (vkd w x0 = 18) ∧ Q (vct w x0 6) w :=
  (VW_b 3 (F := fun n => if vkd w x0 = 18 then some (0, vct w x0 6, w) else none) (fun _ => rfl)).trans (EX_if.trans (and_congr Iff.rfl (EX_ret0)))
/-! 267: StrikeWhatCancels$Rules.keeps(I)I -/
set_option maxRecDepth 100000 in
theorem b267_0 {d : Nat} {w : vW} {x0 x1 : Int} {Q : Int → vW → Prop} : VW d 267 0 [(2, x0), (0, x1), (9, 0), (9, 0), (9, 0), (9, 0), (9, 0)] [] w Q ↔ (vkd w x0 = 18) ∧ VC d 252 [(2, x0), (0, x1)] w (fun r w1 => VW d 267 5 [(2, x0), (0, x1), (9, 0), (9, 0), (9, 0), (9, 0), (9, 0)] [(1, r)] w1 Q) :=
  (VW_b 3 (F := fun n => if vkd w x0 = 18 then vclr (vrun n) d 267 5 252 2 1 [(2, x0), (0, x1), (9, 0), (9, 0), (9, 0), (9, 0), (9, 0)] [(0, x1), (2, x0)] w else none) (fun _ => rfl)).trans (EX_if.trans (and_congr Iff.rfl (EX_call rfl)))
set_option maxRecDepth 100000 in
theorem b267_5 {d : Nat} {w : vW} {x0 x1 y0 : Int} {Q : Int → vW → Prop} : VW d 267 5 [(2, x0), (0, x1), (9, 0), (9, 0), (9, 0), (9, 0), (9, 0)] [(1, y0)] w Q ↔ (vkd w x0 = 18) ∧ VC d 253 [(2, x0), (0, x1)] w (fun r w1 => VW d 267 11 [(2, x0), (0, x1), (1, y0), (9, 0), (9, 0), (9, 0), (9, 0)] [(1, r)] w1 Q) :=
  (VW_b 4 (F := fun n => if vkd w x0 = 18 then vclr (vrun n) d 267 11 253 2 1 [(2, x0), (0, x1), (1, y0), (9, 0), (9, 0), (9, 0), (9, 0)] [(0, x1), (2, x0)] w else none) (fun _ => rfl)).trans (EX_if.trans (and_congr Iff.rfl (EX_call rfl)))
set_option maxRecDepth 100000 in
theorem b267_11 {d : Nat} {w : vW} {x0 x1 x2 y0 : Int} {Q : Int → vW → Prop} : VW d 267 11 [(2, x0), (0, x1), (1, x2), (9, 0), (9, 0), (9, 0), (9, 0)] [(1, y0)] w Q ↔ VW d 267 16 [(2, x0), (0, x1), (1, x2), (9, 0), (1, y0), (9, 0), (0, 0)] [] w Q :=
  (VW_b 3 (F := fun n => vrun n d 267 16 [(2, x0), (0, x1), (1, x2), (9, 0), (1, y0), (9, 0), (0, 0)] [] w) (fun _ => rfl)).trans (Iff.rfl)
set_option maxRecDepth 100000 in
theorem b267_16 {d : Nat} {w : vW} {x0 x1 x2 x4 x6 : Int} {Q : Int → vW → Prop} : VW d 267 16 [(2, x0), (0, x1), (1, x2), (9, 0), (1, x4), (9, 0), (0, x6)] [] w Q ↔ VC d 273 [(1, x2)] w (fun r w1 => VW d 267 22 [(2, x0), (0, x1), (1, x2), (9, 0), (1, x4), (9, 0), (0, x6)] [(0, r), (0, x6)] w1 Q) :=
  (VW_b 3 (F := fun n => vclr (vrun n) d 267 22 273 1 0 [(2, x0), (0, x1), (1, x2), (9, 0), (1, x4), (9, 0), (0, x6)] [(1, x2), (0, x6)] w) (fun _ => rfl)).trans (EX_call rfl)
set_option maxRecDepth 100000 in
theorem b267_22 {d : Nat} {w : vW} {x0 x1 x2 x4 x6 y0 y1 : Int} {Q : Int → vW → Prop} : VW d 267 22 [(2, x0), (0, x1), (1, x2), (9, 0), (1, x4), (9, 0), (0, x6)] [(0, y1), (0, y0)] w Q ↔ ((y0 < y1 → VW d 267 25 [(2, x0), (0, x1), (1, x2), (9, 0), (1, x4), (9, 0), (0, x6)] [] w Q) ∧ (¬ (y0 < y1) → VW d 267 57 [(2, x0), (0, x1), (1, x2), (9, 0), (1, x4), (9, 0), (0, x6)] [] w Q)) :=
  (VW_b 1 (F := fun n => (if y0 < y1 then vrun n d 267 25 [(2, x0), (0, x1), (1, x2), (9, 0), (1, x4), (9, 0), (0, x6)] [] w else vrun n d 267 57 [(2, x0), (0, x1), (1, x2), (9, 0), (1, x4), (9, 0), (0, x6)] [] w)) (fun _ => rfl)).trans (EX_br.trans (and_congr (imp_congr Iff.rfl Iff.rfl) (imp_congr Iff.rfl Iff.rfl)))
set_option maxRecDepth 100000 in
theorem b267_25 {d : Nat} {w : vW} {x0 x1 x2 x4 x6 : Int} {Q : Int → vW → Prop} : VW d 267 25 [(2, x0), (0, x1), (1, x2), (9, 0), (1, x4), (9, 0), (0, x6)] [] w Q ↔ VC d 273 [(1, x4)] w (fun r w1 => VW d 267 32 [(2, x0), (0, x1), (1, x2), (9, 0), (1, x4), (9, 0), (0, x6)] [(0, r), (0, x6)] w1 Q) :=
  (VW_b 3 (F := fun n => vclr (vrun n) d 267 32 273 1 0 [(2, x0), (0, x1), (1, x2), (9, 0), (1, x4), (9, 0), (0, x6)] [(1, x4), (0, x6)] w) (fun _ => rfl)).trans (EX_call rfl)
set_option maxRecDepth 100000 in
theorem b267_32 {d : Nat} {w : vW} {x0 x1 x2 x4 x6 y0 y1 : Int} {Q : Int → vW → Prop} : VW d 267 32 [(2, x0), (0, x1), (1, x2), (9, 0), (1, x4), (9, 0), (0, x6)] [(0, y1), (0, y0)] w Q ↔ ((y0 < y1 → VW d 267 35 [(2, x0), (0, x1), (1, x2), (9, 0), (1, x4), (9, 0), (0, x6)] [] w Q) ∧ (¬ (y0 < y1) → VW d 267 57 [(2, x0), (0, x1), (1, x2), (9, 0), (1, x4), (9, 0), (0, x6)] [] w Q)) :=
  (VW_b 1 (F := fun n => (if y0 < y1 then vrun n d 267 35 [(2, x0), (0, x1), (1, x2), (9, 0), (1, x4), (9, 0), (0, x6)] [] w else vrun n d 267 57 [(2, x0), (0, x1), (1, x2), (9, 0), (1, x4), (9, 0), (0, x6)] [] w)) (fun _ => rfl)).trans (EX_br.trans (and_congr (imp_congr Iff.rfl Iff.rfl) (imp_congr Iff.rfl Iff.rfl)))
set_option maxRecDepth 100000 in
theorem b267_35 {d : Nat} {w : vW} {x0 x1 x2 x4 x6 : Int} {Q : Int → vW → Prop} : VW d 267 35 [(2, x0), (0, x1), (1, x2), (9, 0), (1, x4), (9, 0), (0, x6)] [] w Q ↔ VC d 276 [(1, x2), (0, x6)] w (fun r w1 => VW d 267 41 [(2, x0), (0, x1), (1, x2), (9, 0), (1, x4), (9, 0), (0, x6)] [(0, r)] w1 Q) :=
  (VW_b 3 (F := fun n => vclr (vrun n) d 267 41 276 2 0 [(2, x0), (0, x1), (1, x2), (9, 0), (1, x4), (9, 0), (0, x6)] [(0, x6), (1, x2)] w) (fun _ => rfl)).trans (EX_call rfl)
set_option maxRecDepth 100000 in
theorem b267_41 {d : Nat} {w : vW} {x0 x1 x2 x4 x6 y0 : Int} {Q : Int → vW → Prop} : VW d 267 41 [(2, x0), (0, x1), (1, x2), (9, 0), (1, x4), (9, 0), (0, x6)] [(0, y0)] w Q ↔ VC d 276 [(1, x4), (0, x6)] w (fun r w1 => VW d 267 48 [(2, x0), (0, x1), (1, x2), (9, 0), (1, x4), (9, 0), (0, x6)] [(0, r), (0, y0)] w1 Q) :=
  (VW_b 3 (F := fun n => vclr (vrun n) d 267 48 276 2 0 [(2, x0), (0, x1), (1, x2), (9, 0), (1, x4), (9, 0), (0, x6)] [(0, x6), (1, x4), (0, y0)] w) (fun _ => rfl)).trans (EX_call rfl)
set_option maxRecDepth 100000 in
theorem b267_48 {d : Nat} {w : vW} {x0 x1 x2 x4 x6 y0 y1 : Int} {Q : Int → vW → Prop} : VW d 267 48 [(2, x0), (0, x1), (1, x2), (9, 0), (1, x4), (9, 0), (0, x6)] [(0, y1), (0, y0)] w Q ↔ ((y0 = y1 → VW d 267 51 [(2, x0), (0, x1), (1, x2), (9, 0), (1, x4), (9, 0), (0, x6)] [] w Q) ∧ (¬ (y0 = y1) → VW d 267 57 [(2, x0), (0, x1), (1, x2), (9, 0), (1, x4), (9, 0), (0, x6)] [] w Q)) :=
  (VW_b 1 (F := fun n => (if y0 = y1 then vrun n d 267 51 [(2, x0), (0, x1), (1, x2), (9, 0), (1, x4), (9, 0), (0, x6)] [] w else vrun n d 267 57 [(2, x0), (0, x1), (1, x2), (9, 0), (1, x4), (9, 0), (0, x6)] [] w)) (fun _ => rfl)).trans (EX_br.trans (and_congr (imp_congr Iff.rfl Iff.rfl) (imp_congr Iff.rfl Iff.rfl)))
set_option maxRecDepth 100000 in
theorem b267_51 {d : Nat} {w : vW} {x0 x1 x2 x4 x6 : Int} {Q : Int → vW → Prop} : VW d 267 51 [(2, x0), (0, x1), (1, x2), (9, 0), (1, x4), (9, 0), (0, x6)] [] w Q ↔ VW d 267 16 [(2, x0), (0, x1), (1, x2), (9, 0), (1, x4), (9, 0), (0, w32 (x6 + 1))] [] w Q :=
  (VW_b 2 (F := fun n => vrun n d 267 16 [(2, x0), (0, x1), (1, x2), (9, 0), (1, x4), (9, 0), (0, w32 (x6 + 1))] [] w) (fun _ => rfl)).trans (Iff.rfl)
set_option maxRecDepth 100000 in
theorem b267_57 {d : Nat} {w : vW} {x0 x1 x2 x4 x6 : Int} {Q : Int → vW → Prop} : VW d 267 57 [(2, x0), (0, x1), (1, x2), (9, 0), (1, x4), (9, 0), (0, x6)] [] w Q ↔ Q x6 w :=
  (VW_b 2 (F := fun n => some (0, x6, w)) (fun _ => rfl)).trans (EX_ret0)
/-! 268: StrikeWhatCancels$Rules.viewFrom(IJI)I -/
set_option maxRecDepth 100000 in
theorem b268_0 {d : Nat} {w : vW} {x0 x1 x2 x4 : Int} {Q : Int → vW → Prop} : VW d 268 0 [(2, x0), (0, x1), (1, x2), (9, 0), (0, x4), (9, 0), (9, 0), (9, 0), (9, 0), (9, 0), (9, 0), (9, 0)] [] w Q ↔ VW d 268 13 [(2, x0), (0, x1), (1, x2), (9, 0), (0, x4), (0, x4), (0, 0), (0, w32 (x4 - 1)), (9, 0), (9, 0), (9, 0), (9, 0)] [] w Q :=
  (VW_b 8 (F := fun n => vrun n d 268 13 [(2, x0), (0, x1), (1, x2), (9, 0), (0, x4), (0, x4), (0, 0), (0, w32 (x4 - 1)), (9, 0), (9, 0), (9, 0), (9, 0)] [] w) (fun _ => rfl)).trans (Iff.rfl)
set_option maxRecDepth 100000 in
theorem b268_13 {d : Nat} {w : vW} {x0 x1 x2 x4 x5 x6 x7 : Int} {v8 v9 v10 v11 : vV} {Q : Int → vW → Prop} : VW d 268 13 [(2, x0), (0, x1), (1, x2), (9, 0), (0, x4), (0, x5), (0, x6), (0, x7), v8, v9, v10, v11] [] w Q ↔ ((x7 < 0 → VW d 268 149 [(2, x0), (0, x1), (1, x2), (9, 0), (0, x4), (0, x5), (0, x6), (0, x7), v8, v9, v10, v11] [] w Q) ∧ (¬ (x7 < 0) → VW d 268 18 [(2, x0), (0, x1), (1, x2), (9, 0), (0, x4), (0, x5), (0, x6), (0, x7), v8, v9, v10, v11] [] w Q)) :=
  (VW_b 2 (F := fun n => (if x7 < 0 then vrun n d 268 149 [(2, x0), (0, x1), (1, x2), (9, 0), (0, x4), (0, x5), (0, x6), (0, x7), v8, v9, v10, v11] [] w else vrun n d 268 18 [(2, x0), (0, x1), (1, x2), (9, 0), (0, x4), (0, x5), (0, x6), (0, x7), v8, v9, v10, v11] [] w)) (fun _ => rfl)).trans (EX_br.trans (and_congr (imp_congr Iff.rfl Iff.rfl) (imp_congr Iff.rfl Iff.rfl)))
set_option maxRecDepth 100000 in
theorem b268_18 {d : Nat} {w : vW} {x0 x1 x2 x4 x5 x6 x7 : Int} {v8 v9 v10 v11 : vV} {Q : Int → vW → Prop} : VW d 268 18 [(2, x0), (0, x1), (1, x2), (9, 0), (0, x4), (0, x5), (0, x6), (0, x7), v8, v9, v10, v11] [] w Q ↔ (((w32 (x4 - 5)) < x7 → VW d 268 27 [(2, x0), (0, x1), (1, x2), (9, 0), (0, x4), (0, x5), (0, x6), (0, x7), v8, v9, v10, v11] [] w Q) ∧ (¬ ((w32 (x4 - 5)) < x7) → VW d 268 149 [(2, x0), (0, x1), (1, x2), (9, 0), (0, x4), (0, x5), (0, x6), (0, x7), v8, v9, v10, v11] [] w Q)) :=
  (VW_b 5 (F := fun n => (if (w32 (x4 - 5)) < x7 then vrun n d 268 27 [(2, x0), (0, x1), (1, x2), (9, 0), (0, x4), (0, x5), (0, x6), (0, x7), v8, v9, v10, v11] [] w else vrun n d 268 149 [(2, x0), (0, x1), (1, x2), (9, 0), (0, x4), (0, x5), (0, x6), (0, x7), v8, v9, v10, v11] [] w)) (fun _ => rfl)).trans (EX_br.trans (and_congr (imp_congr Iff.rfl Iff.rfl) (imp_congr Iff.rfl Iff.rfl)))
set_option maxRecDepth 100000 in
theorem b268_27 {d : Nat} {w : vW} {x0 x1 x2 x4 x5 x6 x7 : Int} {v8 v9 v10 v11 : vV} {Q : Int → vW → Prop} : VW d 268 27 [(2, x0), (0, x1), (1, x2), (9, 0), (0, x4), (0, x5), (0, x6), (0, x7), v8, v9, v10, v11] [] w Q ↔ VW d 268 30 [(2, x0), (0, x1), (1, x2), (9, 0), (0, x4), (0, x5), (0, x6), (0, x7), (0, 0), v9, v10, v11] [] w Q :=
  (VW_b 2 (F := fun n => vrun n d 268 30 [(2, x0), (0, x1), (1, x2), (9, 0), (0, x4), (0, x5), (0, x6), (0, x7), (0, 0), v9, v10, v11] [] w) (fun _ => rfl)).trans (Iff.rfl)
set_option maxRecDepth 100000 in
theorem b268_30 {d : Nat} {w : vW} {x0 x1 x2 x4 x5 x6 x7 x8 : Int} {v9 v10 v11 : vV} {Q : Int → vW → Prop} : VW d 268 30 [(2, x0), (0, x1), (1, x2), (9, 0), (0, x4), (0, x5), (0, x6), (0, x7), (0, x8), v9, v10, v11] [] w Q ↔ (vkd w x0 = 18) ∧ ((x8 < (vct w x0 3) → VW d 268 39 [(2, x0), (0, x1), (1, x2), (9, 0), (0, x4), (0, x5), (0, x6), (0, x7), (0, x8), v9, v10, v11] [] w Q) ∧ (¬ (x8 < (vct w x0 3)) → VW d 268 143 [(2, x0), (0, x1), (1, x2), (9, 0), (0, x4), (0, x5), (0, x6), (0, x7), (0, x8), v9, v10, v11] [] w Q)) :=
  (VW_b 4 (F := fun n => if vkd w x0 = 18 then (if x8 < (vct w x0 3) then vrun n d 268 39 [(2, x0), (0, x1), (1, x2), (9, 0), (0, x4), (0, x5), (0, x6), (0, x7), (0, x8), v9, v10, v11] [] w else vrun n d 268 143 [(2, x0), (0, x1), (1, x2), (9, 0), (0, x4), (0, x5), (0, x6), (0, x7), (0, x8), v9, v10, v11] [] w) else none) (fun _ => rfl)).trans (EX_if.trans (and_congr Iff.rfl (EX_br.trans (and_congr (imp_congr Iff.rfl Iff.rfl) (imp_congr Iff.rfl Iff.rfl)))))
set_option maxRecDepth 100000 in
theorem b268_39 {d : Nat} {w : vW} {x0 x1 x2 x4 x5 x6 x7 x8 : Int} {v9 v10 v11 : vV} {Q : Int → vW → Prop} : VW d 268 39 [(2, x0), (0, x1), (1, x2), (9, 0), (0, x4), (0, x5), (0, x6), (0, x7), (0, x8), v9, v10, v11] [] w Q ↔ (vkd w x0 = 18) ∧ (vkd w (vct w x0 0) = 2) ∧ ((x8 < (vln w (vct w x0 0)) → VW d 268 49 [(2, x0), (0, x1), (1, x2), (9, 0), (0, x4), (0, x5), (0, x6), (0, x7), (0, x8), v9, v10, v11] [] w Q) ∧ (¬ (x8 < (vln w (vct w x0 0))) → VW d 268 143 [(2, x0), (0, x1), (1, x2), (9, 0), (0, x4), (0, x5), (0, x6), (0, x7), (0, x8), v9, v10, v11] [] w Q)) :=
  (VW_b 5 (F := fun n => if vkd w x0 = 18 then if vkd w (vct w x0 0) = 2 then (if x8 < (vln w (vct w x0 0)) then vrun n d 268 49 [(2, x0), (0, x1), (1, x2), (9, 0), (0, x4), (0, x5), (0, x6), (0, x7), (0, x8), v9, v10, v11] [] w else vrun n d 268 143 [(2, x0), (0, x1), (1, x2), (9, 0), (0, x4), (0, x5), (0, x6), (0, x7), (0, x8), v9, v10, v11] [] w) else none else none) (fun _ => rfl)).trans (EX_if.trans (and_congr Iff.rfl (EX_if.trans (and_congr Iff.rfl (EX_br.trans (and_congr (imp_congr Iff.rfl Iff.rfl) (imp_congr Iff.rfl Iff.rfl)))))))
set_option maxRecDepth 100000 in
theorem b268_49 {d : Nat} {w : vW} {x0 x1 x2 x4 x5 x6 x7 x8 : Int} {v9 v10 v11 : vV} {Q : Int → vW → Prop} : VW d 268 49 [(2, x0), (0, x1), (1, x2), (9, 0), (0, x4), (0, x5), (0, x6), (0, x7), (0, x8), v9, v10, v11] [] w Q ↔ (vkd w x0 = 18) ∧ (vkd w (vct w x0 0) = 2 ∧ (0 : Int) ≤ x8 ∧ x8 < vln w (vct w x0 0)) ∧ VC d 273 [(1, vct w (vct w x0 0) x8)] w (fun r w1 => VW d 268 59 [(2, x0), (0, x1), (1, x2), (9, 0), (0, x4), (0, x5), (0, x6), (0, x7), (0, x8), v9, v10, v11] [(0, r)] w1 Q) :=
  (VW_b 5 (F := fun n => if vkd w x0 = 18 then if vkd w (vct w x0 0) = 2 ∧ (0 : Int) ≤ x8 ∧ x8 < vln w (vct w x0 0) then vclr (vrun n) d 268 59 273 1 0 [(2, x0), (0, x1), (1, x2), (9, 0), (0, x4), (0, x5), (0, x6), (0, x7), (0, x8), v9, v10, v11] [(1, vct w (vct w x0 0) x8)] w else none else none) (fun _ => rfl)).trans (EX_if.trans (and_congr Iff.rfl (EX_if.trans (and_congr Iff.rfl (EX_call rfl)))))
set_option maxRecDepth 100000 in
theorem b268_59 {d : Nat} {w : vW} {x0 x1 x2 x4 x5 x6 x7 x8 y0 : Int} {v9 v10 v11 : vV} {Q : Int → vW → Prop} : VW d 268 59 [(2, x0), (0, x1), (1, x2), (9, 0), (0, x4), (0, x5), (0, x6), (0, x7), (0, x8), v9, v10, v11] [(0, y0)] w Q ↔ (vkd w x0 = 18) ∧ (vkd w (vct w x0 0) = 2 ∧ (0 : Int) ≤ x8 ∧ x8 < vln w (vct w x0 0)) ∧ VC d 277 [(1, vct w (vct w x0 0) x8), (0, 0), (0, min (w32 (x4 - x7)) y0)] w (fun r w1 => VW d 268 89 [(2, x0), (0, x1), (1, x2), (9, 0), (0, x4), (0, x5), (0, x6), (0, x7), (0, x8), (0, y0), (0, min (w32 (x4 - x7)) y0), v11] [(1, r), (0, x7), (1, x2)] w1 Q) :=
  (VW_b 16 (F := fun n => if vkd w x0 = 18 then if vkd w (vct w x0 0) = 2 ∧ (0 : Int) ≤ x8 ∧ x8 < vln w (vct w x0 0) then vclr (vrun n) d 268 89 277 3 1 [(2, x0), (0, x1), (1, x2), (9, 0), (0, x4), (0, x5), (0, x6), (0, x7), (0, x8), (0, y0), (0, min (w32 (x4 - x7)) y0), v11] [(0, min (w32 (x4 - x7)) y0), (0, 0), (1, vct w (vct w x0 0) x8), (0, x7), (1, x2)] w else none else none) (fun _ => rfl)).trans (EX_if.trans (and_congr Iff.rfl (EX_if.trans (and_congr Iff.rfl (EX_call rfl)))))
set_option maxRecDepth 100000 in
theorem b268_89 {d : Nat} {w : vW} {x0 x1 x2 x4 x5 x6 x7 x8 x9 x10 y0 y1 y2 : Int} {v11 : vV} {Q : Int → vW → Prop} : VW d 268 89 [(2, x0), (0, x1), (1, x2), (9, 0), (0, x4), (0, x5), (0, x6), (0, x7), (0, x8), (0, x9), (0, x10), v11] [(1, y2), (0, y1), (1, y0)] w Q ↔ VC d 279 [(1, y0), (0, y1), (1, y2)] w (fun r w1 => VW d 268 92 [(2, x0), (0, x1), (1, x2), (9, 0), (0, x4), (0, x5), (0, x6), (0, x7), (0, x8), (0, x9), (0, x10), v11] [(0, r)] w1 Q) :=
  (VW_b 1 (F := fun n => vclr (vrun n) d 268 92 279 3 0 [(2, x0), (0, x1), (1, x2), (9, 0), (0, x4), (0, x5), (0, x6), (0, x7), (0, x8), (0, x9), (0, x10), v11] [(1, y2), (0, y1), (1, y0)] w) (fun _ => rfl)).trans (EX_call rfl)
set_option maxRecDepth 100000 in
theorem b268_92 {d : Nat} {w : vW} {x0 x1 x2 x4 x5 x6 x7 x8 x9 x10 y0 : Int} {v11 : vV} {Q : Int → vW → Prop} : VW d 268 92 [(2, x0), (0, x1), (1, x2), (9, 0), (0, x4), (0, x5), (0, x6), (0, x7), (0, x8), (0, x9), (0, x10), v11] [(0, y0)] w Q ↔ ((y0 = 0 → VW d 268 118 [(2, x0), (0, x1), (1, x2), (9, 0), (0, x4), (0, x5), (0, x6), (0, x7), (0, x8), (0, x9), (0, x10), (0, y0)] [] w Q) ∧ (¬ (y0 = 0) → VW d 268 99 [(2, x0), (0, x1), (1, x2), (9, 0), (0, x4), (0, x5), (0, x6), (0, x7), (0, x8), (0, x9), (0, x10), (0, y0)] [] w Q)) :=
  (VW_b 3 (F := fun n => (if y0 = 0 then vrun n d 268 118 [(2, x0), (0, x1), (1, x2), (9, 0), (0, x4), (0, x5), (0, x6), (0, x7), (0, x8), (0, x9), (0, x10), (0, y0)] [] w else vrun n d 268 99 [(2, x0), (0, x1), (1, x2), (9, 0), (0, x4), (0, x5), (0, x6), (0, x7), (0, x8), (0, x9), (0, x10), (0, y0)] [] w)) (fun _ => rfl)).trans (EX_br.trans (and_congr (imp_congr Iff.rfl Iff.rfl) (imp_congr Iff.rfl Iff.rfl)))
set_option maxRecDepth 100000 in
theorem b268_99 {d : Nat} {w : vW} {x0 x1 x2 x4 x5 x6 x7 x8 x9 x10 x11 : Int} {Q : Int → vW → Prop} : VW d 268 99 [(2, x0), (0, x1), (1, x2), (9, 0), (0, x4), (0, x5), (0, x6), (0, x7), (0, x8), (0, x9), (0, x10), (0, x11)] [] w Q ↔ ((x10 < x9 → VW d 268 106 [(2, x0), (0, x1), (1, x2), (9, 0), (0, x4), (0, x5), (0, x6), (0, x7), (0, x8), (0, x9), (0, x10), (0, x11)] [] w Q) ∧ (¬ (x10 < x9) → VW d 268 118 [(2, x0), (0, x1), (1, x2), (9, 0), (0, x4), (0, x5), (0, x6), (0, x7), (0, x8), (0, x9), (0, x10), (0, x11)] [] w Q)) :=
  (VW_b 3 (F := fun n => (if x10 < x9 then vrun n d 268 106 [(2, x0), (0, x1), (1, x2), (9, 0), (0, x4), (0, x5), (0, x6), (0, x7), (0, x8), (0, x9), (0, x10), (0, x11)] [] w else vrun n d 268 118 [(2, x0), (0, x1), (1, x2), (9, 0), (0, x4), (0, x5), (0, x6), (0, x7), (0, x8), (0, x9), (0, x10), (0, x11)] [] w)) (fun _ => rfl)).trans (EX_br.trans (and_congr (imp_congr Iff.rfl Iff.rfl) (imp_congr Iff.rfl Iff.rfl)))
set_option maxRecDepth 100000 in
theorem b268_106 {d : Nat} {w : vW} {x0 x1 x2 x4 x5 x6 x7 x8 x9 x10 x11 : Int} {Q : Int → vW → Prop} : VW d 268 106 [(2, x0), (0, x1), (1, x2), (9, 0), (0, x4), (0, x5), (0, x6), (0, x7), (0, x8), (0, x9), (0, x10), (0, x11)] [] w Q ↔ VW d 268 137 [(2, x0), (0, x1), (1, x2), (9, 0), (0, x4), (0, max x7 x6), (0, x6), (0, x7), (0, x8), (0, x9), (0, x10), (0, x11)] [] w Q :=
  (VW_b 5 (F := fun n => vrun n d 268 137 [(2, x0), (0, x1), (1, x2), (9, 0), (0, x4), (0, max x7 x6), (0, x6), (0, x7), (0, x8), (0, x9), (0, x10), (0, x11)] [] w) (fun _ => rfl)).trans (Iff.rfl)
set_option maxRecDepth 100000 in
theorem b268_118 {d : Nat} {w : vW} {x0 x1 x2 x4 x5 x6 x7 x8 x9 x10 x11 : Int} {Q : Int → vW → Prop} : VW d 268 118 [(2, x0), (0, x1), (1, x2), (9, 0), (0, x4), (0, x5), (0, x6), (0, x7), (0, x8), (0, x9), (0, x10), (0, x11)] [] w Q ↔ ((x11 = 0 → VW d 268 137 [(2, x0), (0, x1), (1, x2), (9, 0), (0, x4), (0, x5), (0, x6), (0, x7), (0, x8), (0, x9), (0, x10), (0, x11)] [] w Q) ∧ (¬ (x11 = 0) → VW d 268 123 [(2, x0), (0, x1), (1, x2), (9, 0), (0, x4), (0, x5), (0, x6), (0, x7), (0, x8), (0, x9), (0, x10), (0, x11)] [] w Q)) :=
  (VW_b 2 (F := fun n => (if x11 = 0 then vrun n d 268 137 [(2, x0), (0, x1), (1, x2), (9, 0), (0, x4), (0, x5), (0, x6), (0, x7), (0, x8), (0, x9), (0, x10), (0, x11)] [] w else vrun n d 268 123 [(2, x0), (0, x1), (1, x2), (9, 0), (0, x4), (0, x5), (0, x6), (0, x7), (0, x8), (0, x9), (0, x10), (0, x11)] [] w)) (fun _ => rfl)).trans (EX_br.trans (and_congr (imp_congr Iff.rfl Iff.rfl) (imp_congr Iff.rfl Iff.rfl)))
set_option maxRecDepth 100000 in
theorem b268_123 {d : Nat} {w : vW} {x0 x1 x2 x4 x5 x6 x7 x8 x9 x10 x11 : Int} {Q : Int → vW → Prop} : VW d 268 123 [(2, x0), (0, x1), (1, x2), (9, 0), (0, x4), (0, x5), (0, x6), (0, x7), (0, x8), (0, x9), (0, x10), (0, x11)] [] w Q ↔ ((x1 = 1 → VW d 268 128 [(2, x0), (0, x1), (1, x2), (9, 0), (0, x4), (0, x5), (0, x6), (0, x7), (0, x8), (0, x9), (0, x10), (0, x11)] [] w Q) ∧ (¬ (x1 = 1) → VW d 268 137 [(2, x0), (0, x1), (1, x2), (9, 0), (0, x4), (0, x5), (0, x6), (0, x7), (0, x8), (0, x9), (0, x10), (0, x11)] [] w Q)) :=
  (VW_b 3 (F := fun n => (if x1 = 1 then vrun n d 268 128 [(2, x0), (0, x1), (1, x2), (9, 0), (0, x4), (0, x5), (0, x6), (0, x7), (0, x8), (0, x9), (0, x10), (0, x11)] [] w else vrun n d 268 137 [(2, x0), (0, x1), (1, x2), (9, 0), (0, x4), (0, x5), (0, x6), (0, x7), (0, x8), (0, x9), (0, x10), (0, x11)] [] w)) (fun _ => rfl)).trans (EX_br.trans (and_congr (imp_congr Iff.rfl Iff.rfl) (imp_congr Iff.rfl Iff.rfl)))
set_option maxRecDepth 100000 in
theorem b268_128 {d : Nat} {w : vW} {x0 x1 x2 x4 x5 x6 x7 x8 x9 x10 x11 : Int} {Q : Int → vW → Prop} : VW d 268 128 [(2, x0), (0, x1), (1, x2), (9, 0), (0, x4), (0, x5), (0, x6), (0, x7), (0, x8), (0, x9), (0, x10), (0, x11)] [] w Q ↔ VW d 268 137 [(2, x0), (0, x1), (1, x2), (9, 0), (0, x4), (0, x5), (0, max x7 x6), (0, x7), (0, x8), (0, x9), (0, x10), (0, x11)] [] w Q :=
  (VW_b 4 (F := fun n => vrun n d 268 137 [(2, x0), (0, x1), (1, x2), (9, 0), (0, x4), (0, x5), (0, max x7 x6), (0, x7), (0, x8), (0, x9), (0, x10), (0, x11)] [] w) (fun _ => rfl)).trans (Iff.rfl)
set_option maxRecDepth 100000 in
theorem b268_137 {d : Nat} {w : vW} {x0 x1 x2 x4 x5 x6 x7 x8 x9 x10 x11 : Int} {Q : Int → vW → Prop} : VW d 268 137 [(2, x0), (0, x1), (1, x2), (9, 0), (0, x4), (0, x5), (0, x6), (0, x7), (0, x8), (0, x9), (0, x10), (0, x11)] [] w Q ↔ VW d 268 30 [(2, x0), (0, x1), (1, x2), (9, 0), (0, x4), (0, x5), (0, x6), (0, x7), (0, w32 (x8 + 1)), (0, x9), (0, x10), (0, x11)] [] w Q :=
  (VW_b 2 (F := fun n => vrun n d 268 30 [(2, x0), (0, x1), (1, x2), (9, 0), (0, x4), (0, x5), (0, x6), (0, x7), (0, w32 (x8 + 1)), (0, x9), (0, x10), (0, x11)] [] w) (fun _ => rfl)).trans (Iff.rfl)
set_option maxRecDepth 100000 in
theorem b268_143 {d : Nat} {w : vW} {x0 x1 x2 x4 x5 x6 x7 x8 : Int} {v9 v10 v11 : vV} {Q : Int → vW → Prop} : VW d 268 143 [(2, x0), (0, x1), (1, x2), (9, 0), (0, x4), (0, x5), (0, x6), (0, x7), (0, x8), v9, v10, v11] [] w Q ↔ VW d 268 13 [(2, x0), (0, x1), (1, x2), (9, 0), (0, x4), (0, x5), (0, x6), (0, w32 (x7 + (-1))), (0, x8), v9, v10, v11] [] w Q :=
  (VW_b 2 (F := fun n => vrun n d 268 13 [(2, x0), (0, x1), (1, x2), (9, 0), (0, x4), (0, x5), (0, x6), (0, w32 (x7 + (-1))), (0, x8), v9, v10, v11] [] w) (fun _ => rfl)).trans (Iff.rfl)
set_option maxRecDepth 100000 in
theorem b268_149 {d : Nat} {w : vW} {x0 x1 x2 x4 x5 x6 x7 : Int} {v8 v9 v10 v11 : vV} {Q : Int → vW → Prop} : VW d 268 149 [(2, x0), (0, x1), (1, x2), (9, 0), (0, x4), (0, x5), (0, x6), (0, x7), v8, v9, v10, v11] [] w Q ↔ Q x5 w :=
  (VW_b 2 (F := fun n => some (0, x5, w)) (fun _ => rfl)).trans (EX_ret0)
/-! 269: StrikeWhatCancels$Rules.firstAhead(JI)I -/
set_option maxRecDepth 100000 in
theorem b269_0 {d : Nat} {w : vW} {x0 x1 x3 : Int} {Q : Int → vW → Prop} : VW d 269 0 [(2, x0), (1, x1), (9, 0), (0, x3), (9, 0), (9, 0)] [] w Q ↔ VW d 269 3 [(2, x0), (1, x1), (9, 0), (0, x3), (0, 0), (9, 0)] [] w Q :=
  (VW_b 2 (F := fun n => vrun n d 269 3 [(2, x0), (1, x1), (9, 0), (0, x3), (0, 0), (9, 0)] [] w) (fun _ => rfl)).trans (Iff.rfl)
set_option maxRecDepth 100000 in
theorem b269_3 {d : Nat} {w : vW} {x0 x1 x3 x4 : Int} {v5 : vV} {Q : Int → vW → Prop} : VW d 269 3 [(2, x0), (1, x1), (9, 0), (0, x3), (0, x4), v5] [] w Q ↔ (vkd w x0 = 18) ∧ ((x4 < (vct w x0 3) → VW d 269 12 [(2, x0), (1, x1), (9, 0), (0, x3), (0, x4), v5] [] w Q) ∧ (¬ (x4 < (vct w x0 3)) → VW d 269 62 [(2, x0), (1, x1), (9, 0), (0, x3), (0, x4), v5] [] w Q)) :=
  (VW_b 4 (F := fun n => if vkd w x0 = 18 then (if x4 < (vct w x0 3) then vrun n d 269 12 [(2, x0), (1, x1), (9, 0), (0, x3), (0, x4), v5] [] w else vrun n d 269 62 [(2, x0), (1, x1), (9, 0), (0, x3), (0, x4), v5] [] w) else none) (fun _ => rfl)).trans (EX_if.trans (and_congr Iff.rfl (EX_br.trans (and_congr (imp_congr Iff.rfl Iff.rfl) (imp_congr Iff.rfl Iff.rfl)))))
set_option maxRecDepth 100000 in
theorem b269_12 {d : Nat} {w : vW} {x0 x1 x3 x4 : Int} {v5 : vV} {Q : Int → vW → Prop} : VW d 269 12 [(2, x0), (1, x1), (9, 0), (0, x3), (0, x4), v5] [] w Q ↔ (vkd w x0 = 18) ∧ (vkd w (vct w x0 0) = 2) ∧ ((x4 < (vln w (vct w x0 0)) → VW d 269 22 [(2, x0), (1, x1), (9, 0), (0, x3), (0, x4), v5] [] w Q) ∧ (¬ (x4 < (vln w (vct w x0 0))) → VW d 269 62 [(2, x0), (1, x1), (9, 0), (0, x3), (0, x4), v5] [] w Q)) :=
  (VW_b 5 (F := fun n => if vkd w x0 = 18 then if vkd w (vct w x0 0) = 2 then (if x4 < (vln w (vct w x0 0)) then vrun n d 269 22 [(2, x0), (1, x1), (9, 0), (0, x3), (0, x4), v5] [] w else vrun n d 269 62 [(2, x0), (1, x1), (9, 0), (0, x3), (0, x4), v5] [] w) else none else none) (fun _ => rfl)).trans (EX_if.trans (and_congr Iff.rfl (EX_if.trans (and_congr Iff.rfl (EX_br.trans (and_congr (imp_congr Iff.rfl Iff.rfl) (imp_congr Iff.rfl Iff.rfl)))))))
set_option maxRecDepth 100000 in
theorem b269_22 {d : Nat} {w : vW} {x0 x1 x3 x4 : Int} {v5 : vV} {Q : Int → vW → Prop} : VW d 269 22 [(2, x0), (1, x1), (9, 0), (0, x3), (0, x4), v5] [] w Q ↔ VW d 269 25 [(2, x0), (1, x1), (9, 0), (0, x3), (0, x4), (0, 0)] [] w Q :=
  (VW_b 2 (F := fun n => vrun n d 269 25 [(2, x0), (1, x1), (9, 0), (0, x3), (0, x4), (0, 0)] [] w) (fun _ => rfl)).trans (Iff.rfl)
set_option maxRecDepth 100000 in
theorem b269_25 {d : Nat} {w : vW} {x0 x1 x3 x4 x5 : Int} {Q : Int → vW → Prop} : VW d 269 25 [(2, x0), (1, x1), (9, 0), (0, x3), (0, x4), (0, x5)] [] w Q ↔ ((x5 < x3 → VW d 269 31 [(2, x0), (1, x1), (9, 0), (0, x3), (0, x4), (0, x5)] [] w Q) ∧ (¬ (x5 < x3) → VW d 269 56 [(2, x0), (1, x1), (9, 0), (0, x3), (0, x4), (0, x5)] [] w Q)) :=
  (VW_b 3 (F := fun n => (if x5 < x3 then vrun n d 269 31 [(2, x0), (1, x1), (9, 0), (0, x3), (0, x4), (0, x5)] [] w else vrun n d 269 56 [(2, x0), (1, x1), (9, 0), (0, x3), (0, x4), (0, x5)] [] w)) (fun _ => rfl)).trans (EX_br.trans (and_congr (imp_congr Iff.rfl Iff.rfl) (imp_congr Iff.rfl Iff.rfl)))
set_option maxRecDepth 100000 in
theorem b269_31 {d : Nat} {w : vW} {x0 x1 x3 x4 x5 : Int} {Q : Int → vW → Prop} : VW d 269 31 [(2, x0), (1, x1), (9, 0), (0, x3), (0, x4), (0, x5)] [] w Q ↔ (vkd w x0 = 18) ∧ (vkd w (vct w x0 0) = 2 ∧ (0 : Int) ≤ x4 ∧ x4 < vln w (vct w x0 0)) ∧ VC d 279 [(1, x1), (0, x5), (1, vct w (vct w x0 0) x4)] w (fun r w1 => VW d 269 44 [(2, x0), (1, x1), (9, 0), (0, x3), (0, x4), (0, x5)] [(0, r)] w1 Q) :=
  (VW_b 7 (F := fun n => if vkd w x0 = 18 then if vkd w (vct w x0 0) = 2 ∧ (0 : Int) ≤ x4 ∧ x4 < vln w (vct w x0 0) then vclr (vrun n) d 269 44 279 3 0 [(2, x0), (1, x1), (9, 0), (0, x3), (0, x4), (0, x5)] [(1, vct w (vct w x0 0) x4), (0, x5), (1, x1)] w else none else none) (fun _ => rfl)).trans (EX_if.trans (and_congr Iff.rfl (EX_if.trans (and_congr Iff.rfl (EX_call rfl)))))
set_option maxRecDepth 100000 in
theorem b269_44 {d : Nat} {w : vW} {x0 x1 x3 x4 x5 y0 : Int} {Q : Int → vW → Prop} : VW d 269 44 [(2, x0), (1, x1), (9, 0), (0, x3), (0, x4), (0, x5)] [(0, y0)] w Q ↔ ((y0 = 0 → VW d 269 50 [(2, x0), (1, x1), (9, 0), (0, x3), (0, x4), (0, x5)] [] w Q) ∧ (¬ (y0 = 0) → VW d 269 47 [(2, x0), (1, x1), (9, 0), (0, x3), (0, x4), (0, x5)] [] w Q)) :=
  (VW_b 1 (F := fun n => (if y0 = 0 then vrun n d 269 50 [(2, x0), (1, x1), (9, 0), (0, x3), (0, x4), (0, x5)] [] w else vrun n d 269 47 [(2, x0), (1, x1), (9, 0), (0, x3), (0, x4), (0, x5)] [] w)) (fun _ => rfl)).trans (EX_br.trans (and_congr (imp_congr Iff.rfl Iff.rfl) (imp_congr Iff.rfl Iff.rfl)))
set_option maxRecDepth 100000 in
theorem b269_47 {d : Nat} {w : vW} {x0 x1 x3 x4 x5 : Int} {Q : Int → vW → Prop} : VW d 269 47 [(2, x0), (1, x1), (9, 0), (0, x3), (0, x4), (0, x5)] [] w Q ↔ Q x4 w :=
  (VW_b 2 (F := fun n => some (0, x4, w)) (fun _ => rfl)).trans (EX_ret0)
set_option maxRecDepth 100000 in
theorem b269_50 {d : Nat} {w : vW} {x0 x1 x3 x4 x5 : Int} {Q : Int → vW → Prop} : VW d 269 50 [(2, x0), (1, x1), (9, 0), (0, x3), (0, x4), (0, x5)] [] w Q ↔ VW d 269 25 [(2, x0), (1, x1), (9, 0), (0, x3), (0, x4), (0, w32 (x5 + 1))] [] w Q :=
  (VW_b 2 (F := fun n => vrun n d 269 25 [(2, x0), (1, x1), (9, 0), (0, x3), (0, x4), (0, w32 (x5 + 1))] [] w) (fun _ => rfl)).trans (Iff.rfl)
set_option maxRecDepth 100000 in
theorem b269_56 {d : Nat} {w : vW} {x0 x1 x3 x4 x5 : Int} {Q : Int → vW → Prop} : VW d 269 56 [(2, x0), (1, x1), (9, 0), (0, x3), (0, x4), (0, x5)] [] w Q ↔ VW d 269 3 [(2, x0), (1, x1), (9, 0), (0, x3), (0, w32 (x4 + 1)), (0, x5)] [] w Q :=
  (VW_b 2 (F := fun n => vrun n d 269 3 [(2, x0), (1, x1), (9, 0), (0, x3), (0, w32 (x4 + 1)), (0, x5)] [] w) (fun _ => rfl)).trans (Iff.rfl)
set_option maxRecDepth 100000 in
theorem b269_62 {d : Nat} {w : vW} {x0 x1 x3 x4 : Int} {v5 : vV} {Q : Int → vW → Prop} : VW d 269 62 [(2, x0), (1, x1), (9, 0), (0, x3), (0, x4), v5] [] w Q ↔ (vkd w x0 = 18) ∧ Q (vct w x0 3) w :=
  (VW_b 3 (F := fun n => if vkd w x0 = 18 then some (0, vct w x0 3, w) else none) (fun _ => rfl)).trans (EX_if.trans (and_congr Iff.rfl (EX_ret0)))
/-! 270: StrikeWhatCancels$Rules.strikesIn(J)I -/
set_option maxRecDepth 100000 in
theorem b270_0 {d : Nat} {w : vW} {x0 x1 : Int} {Q : Int → vW → Prop} : VW d 270 0 [(2, x0), (1, x1), (9, 0), (9, 0), (9, 0)] [] w Q ↔ VW d 270 5 [(2, x0), (1, x1), (9, 0), (0, 0), (0, 0)] [] w Q :=
  (VW_b 4 (F := fun n => vrun n d 270 5 [(2, x0), (1, x1), (9, 0), (0, 0), (0, 0)] [] w) (fun _ => rfl)).trans (Iff.rfl)
set_option maxRecDepth 100000 in
theorem b270_5 {d : Nat} {w : vW} {x0 x1 x3 x4 : Int} {Q : Int → vW → Prop} : VW d 270 5 [(2, x0), (1, x1), (9, 0), (0, x3), (0, x4)] [] w Q ↔ (vkd w x0 = 18) ∧ ((x4 < (vct w x0 3) → VW d 270 14 [(2, x0), (1, x1), (9, 0), (0, x3), (0, x4)] [] w Q) ∧ (¬ (x4 < (vct w x0 3)) → VW d 270 30 [(2, x0), (1, x1), (9, 0), (0, x3), (0, x4)] [] w Q)) :=
  (VW_b 4 (F := fun n => if vkd w x0 = 18 then (if x4 < (vct w x0 3) then vrun n d 270 14 [(2, x0), (1, x1), (9, 0), (0, x3), (0, x4)] [] w else vrun n d 270 30 [(2, x0), (1, x1), (9, 0), (0, x3), (0, x4)] [] w) else none) (fun _ => rfl)).trans (EX_if.trans (and_congr Iff.rfl (EX_br.trans (and_congr (imp_congr Iff.rfl Iff.rfl) (imp_congr Iff.rfl Iff.rfl)))))
set_option maxRecDepth 100000 in
theorem b270_14 {d : Nat} {w : vW} {x0 x1 x3 x4 : Int} {Q : Int → vW → Prop} : VW d 270 14 [(2, x0), (1, x1), (9, 0), (0, x3), (0, x4)] [] w Q ↔ (vkd w x0 = 18) ∧ VC d 271 [(2, x0), (0, x4), (1, x1)] w (fun r w1 => VW d 270 22 [(2, x0), (1, x1), (9, 0), (0, x3), (0, x4)] [(0, r), (0, x3)] w1 Q) :=
  (VW_b 5 (F := fun n => if vkd w x0 = 18 then vclr (vrun n) d 270 22 271 3 0 [(2, x0), (1, x1), (9, 0), (0, x3), (0, x4)] [(1, x1), (0, x4), (2, x0), (0, x3)] w else none) (fun _ => rfl)).trans (EX_if.trans (and_congr Iff.rfl (EX_call rfl)))
set_option maxRecDepth 100000 in
theorem b270_22 {d : Nat} {w : vW} {x0 x1 x3 x4 y0 y1 : Int} {Q : Int → vW → Prop} : VW d 270 22 [(2, x0), (1, x1), (9, 0), (0, x3), (0, x4)] [(0, y1), (0, y0)] w Q ↔ VW d 270 5 [(2, x0), (1, x1), (9, 0), (0, w32 (y0 + y1)), (0, w32 (x4 + 1))] [] w Q :=
  (VW_b 4 (F := fun n => vrun n d 270 5 [(2, x0), (1, x1), (9, 0), (0, w32 (y0 + y1)), (0, w32 (x4 + 1))] [] w) (fun _ => rfl)).trans (Iff.rfl)
set_option maxRecDepth 100000 in
theorem b270_30 {d : Nat} {w : vW} {x0 x1 x3 x4 : Int} {Q : Int → vW → Prop} : VW d 270 30 [(2, x0), (1, x1), (9, 0), (0, x3), (0, x4)] [] w Q ↔ Q x3 w :=
  (VW_b 2 (F := fun n => some (0, x3, w)) (fun _ => rfl)).trans (EX_ret0)
/-! 271: StrikeWhatCancels$Rules.strikesBy(IJ)I -/
set_option maxRecDepth 100000 in
theorem b271_0 {d : Nat} {w : vW} {x0 x1 x2 : Int} {Q : Int → vW → Prop} : VW d 271 0 [(2, x0), (0, x1), (1, x2), (9, 0), (9, 0), (9, 0)] [] w Q ↔ VW d 271 6 [(2, x0), (0, x1), (1, x2), (9, 0), (0, 0), (0, 0)] [] w Q :=
  (VW_b 4 (F := fun n => vrun n d 271 6 [(2, x0), (0, x1), (1, x2), (9, 0), (0, 0), (0, 0)] [] w) (fun _ => rfl)).trans (Iff.rfl)
set_option maxRecDepth 100000 in
theorem b271_6 {d : Nat} {w : vW} {x0 x1 x2 x4 x5 : Int} {Q : Int → vW → Prop} : VW d 271 6 [(2, x0), (0, x1), (1, x2), (9, 0), (0, x4), (0, x5)] [] w Q ↔ VC d 273 [(1, x2)] w (fun r w1 => VW d 271 12 [(2, x0), (0, x1), (1, x2), (9, 0), (0, x4), (0, x5)] [(0, r), (0, x5)] w1 Q) :=
  (VW_b 3 (F := fun n => vclr (vrun n) d 271 12 273 1 0 [(2, x0), (0, x1), (1, x2), (9, 0), (0, x4), (0, x5)] [(1, x2), (0, x5)] w) (fun _ => rfl)).trans (EX_call rfl)
set_option maxRecDepth 100000 in
theorem b271_12 {d : Nat} {w : vW} {x0 x1 x2 x4 x5 y0 y1 : Int} {Q : Int → vW → Prop} : VW d 271 12 [(2, x0), (0, x1), (1, x2), (9, 0), (0, x4), (0, x5)] [(0, y1), (0, y0)] w Q ↔ ((y0 < y1 → VW d 271 15 [(2, x0), (0, x1), (1, x2), (9, 0), (0, x4), (0, x5)] [] w Q) ∧ (¬ (y0 < y1) → VW d 271 42 [(2, x0), (0, x1), (1, x2), (9, 0), (0, x4), (0, x5)] [] w Q)) :=
  (VW_b 1 (F := fun n => (if y0 < y1 then vrun n d 271 15 [(2, x0), (0, x1), (1, x2), (9, 0), (0, x4), (0, x5)] [] w else vrun n d 271 42 [(2, x0), (0, x1), (1, x2), (9, 0), (0, x4), (0, x5)] [] w)) (fun _ => rfl)).trans (EX_br.trans (and_congr (imp_congr Iff.rfl Iff.rfl) (imp_congr Iff.rfl Iff.rfl)))
set_option maxRecDepth 100000 in
theorem b271_15 {d : Nat} {w : vW} {x0 x1 x2 x4 x5 : Int} {Q : Int → vW → Prop} : VW d 271 15 [(2, x0), (0, x1), (1, x2), (9, 0), (0, x4), (0, x5)] [] w Q ↔ (vkd w x0 = 18) ∧ VC d 260 [(2, x0), (0, x1), (1, x2), (0, x5)] w (fun r w1 => VW d 271 25 [(2, x0), (0, x1), (1, x2), (9, 0), (0, x4), (0, x5)] [(0, r), (0, x4)] w1 Q) :=
  (VW_b 6 (F := fun n => if vkd w x0 = 18 then vclr (vrun n) d 271 25 260 4 0 [(2, x0), (0, x1), (1, x2), (9, 0), (0, x4), (0, x5)] [(0, x5), (1, x2), (0, x1), (2, x0), (0, x4)] w else none) (fun _ => rfl)).trans (EX_if.trans (and_congr Iff.rfl (EX_call rfl)))
set_option maxRecDepth 100000 in
theorem b271_25 {d : Nat} {w : vW} {x0 x1 x2 x4 x5 y0 y1 : Int} {Q : Int → vW → Prop} : VW d 271 25 [(2, x0), (0, x1), (1, x2), (9, 0), (0, x4), (0, x5)] [(0, y1), (0, y0)] w Q ↔ ((y1 = 0 → VW d 271 32 [(2, x0), (0, x1), (1, x2), (9, 0), (0, x4), (0, x5)] [(0, y0)] w Q) ∧ (¬ (y1 = 0) → VW d 271 28 [(2, x0), (0, x1), (1, x2), (9, 0), (0, x4), (0, x5)] [(0, y0)] w Q)) :=
  (VW_b 1 (F := fun n => (if y1 = 0 then vrun n d 271 32 [(2, x0), (0, x1), (1, x2), (9, 0), (0, x4), (0, x5)] [(0, y0)] w else vrun n d 271 28 [(2, x0), (0, x1), (1, x2), (9, 0), (0, x4), (0, x5)] [(0, y0)] w)) (fun _ => rfl)).trans (EX_br.trans (and_congr (imp_congr Iff.rfl Iff.rfl) (imp_congr Iff.rfl Iff.rfl)))
set_option maxRecDepth 100000 in
theorem b271_28 {d : Nat} {w : vW} {x0 x1 x2 x4 x5 y0 : Int} {Q : Int → vW → Prop} : VW d 271 28 [(2, x0), (0, x1), (1, x2), (9, 0), (0, x4), (0, x5)] [(0, y0)] w Q ↔ VW d 271 33 [(2, x0), (0, x1), (1, x2), (9, 0), (0, x4), (0, x5)] [(0, 1), (0, y0)] w Q :=
  (VW_b 2 (F := fun n => vrun n d 271 33 [(2, x0), (0, x1), (1, x2), (9, 0), (0, x4), (0, x5)] [(0, 1), (0, y0)] w) (fun _ => rfl)).trans (Iff.rfl)
set_option maxRecDepth 100000 in
theorem b271_32 {d : Nat} {w : vW} {x0 x1 x2 x4 x5 y0 : Int} {Q : Int → vW → Prop} : VW d 271 32 [(2, x0), (0, x1), (1, x2), (9, 0), (0, x4), (0, x5)] [(0, y0)] w Q ↔ VW d 271 33 [(2, x0), (0, x1), (1, x2), (9, 0), (0, x4), (0, x5)] [(0, 0), (0, y0)] w Q :=
  (VW_b 1 (F := fun n => vrun n d 271 33 [(2, x0), (0, x1), (1, x2), (9, 0), (0, x4), (0, x5)] [(0, 0), (0, y0)] w) (fun _ => rfl)).trans (Iff.rfl)
set_option maxRecDepth 100000 in
theorem b271_33 {d : Nat} {w : vW} {x0 x1 x2 x4 x5 y0 y1 : Int} {Q : Int → vW → Prop} : VW d 271 33 [(2, x0), (0, x1), (1, x2), (9, 0), (0, x4), (0, x5)] [(0, y1), (0, y0)] w Q ↔ VW d 271 6 [(2, x0), (0, x1), (1, x2), (9, 0), (0, w32 (y0 + y1)), (0, w32 (x5 + 1))] [] w Q :=
  (VW_b 4 (F := fun n => vrun n d 271 6 [(2, x0), (0, x1), (1, x2), (9, 0), (0, w32 (y0 + y1)), (0, w32 (x5 + 1))] [] w) (fun _ => rfl)).trans (Iff.rfl)
set_option maxRecDepth 100000 in
theorem b271_42 {d : Nat} {w : vW} {x0 x1 x2 x4 x5 : Int} {Q : Int → vW → Prop} : VW d 271 42 [(2, x0), (0, x1), (1, x2), (9, 0), (0, x4), (0, x5)] [] w Q ↔ Q x4 w :=
  (VW_b 2 (F := fun n => some (0, x4, w)) (fun _ => rfl)).trans (EX_ret0)
/-! 272: StrikeWhatCancels$Rules.numbered(JI)I -/
set_option maxRecDepth 100000 in
theorem b272_0 {d : Nat} {w : vW} {x0 x1 x3 : Int} {Q : Int → vW → Prop} : VW d 272 0 [(2, x0), (1, x1), (9, 0), (0, x3), (9, 0), (9, 0), (9, 0)] [] w Q ↔ VW d 272 6 [(2, x0), (1, x1), (9, 0), (0, x3), (0, 0), (0, 0), (9, 0)] [] w Q :=
  (VW_b 4 (F := fun n => vrun n d 272 6 [(2, x0), (1, x1), (9, 0), (0, x3), (0, 0), (0, 0), (9, 0)] [] w) (fun _ => rfl)).trans (Iff.rfl)
set_option maxRecDepth 100000 in
theorem b272_6 {d : Nat} {w : vW} {x0 x1 x3 x4 x5 : Int} {v6 : vV} {Q : Int → vW → Prop} : VW d 272 6 [(2, x0), (1, x1), (9, 0), (0, x3), (0, x4), (0, x5), v6] [] w Q ↔ VC d 273 [(1, x1)] w (fun r w1 => VW d 272 12 [(2, x0), (1, x1), (9, 0), (0, x3), (0, x4), (0, x5), v6] [(0, r), (0, x5)] w1 Q) :=
  (VW_b 3 (F := fun n => vclr (vrun n) d 272 12 273 1 0 [(2, x0), (1, x1), (9, 0), (0, x3), (0, x4), (0, x5), v6] [(1, x1), (0, x5)] w) (fun _ => rfl)).trans (EX_call rfl)
set_option maxRecDepth 100000 in
theorem b272_12 {d : Nat} {w : vW} {x0 x1 x3 x4 x5 y0 y1 : Int} {v6 : vV} {Q : Int → vW → Prop} : VW d 272 12 [(2, x0), (1, x1), (9, 0), (0, x3), (0, x4), (0, x5), v6] [(0, y1), (0, y0)] w Q ↔ ((y0 < y1 → VW d 272 15 [(2, x0), (1, x1), (9, 0), (0, x3), (0, x4), (0, x5), v6] [] w Q) ∧ (¬ (y0 < y1) → VW d 272 68 [(2, x0), (1, x1), (9, 0), (0, x3), (0, x4), (0, x5), v6] [] w Q)) :=
  (VW_b 1 (F := fun n => (if y0 < y1 then vrun n d 272 15 [(2, x0), (1, x1), (9, 0), (0, x3), (0, x4), (0, x5), v6] [] w else vrun n d 272 68 [(2, x0), (1, x1), (9, 0), (0, x3), (0, x4), (0, x5), v6] [] w)) (fun _ => rfl)).trans (EX_br.trans (and_congr (imp_congr Iff.rfl Iff.rfl) (imp_congr Iff.rfl Iff.rfl)))
set_option maxRecDepth 100000 in
theorem b272_15 {d : Nat} {w : vW} {x0 x1 x3 x4 x5 : Int} {v6 : vV} {Q : Int → vW → Prop} : VW d 272 15 [(2, x0), (1, x1), (9, 0), (0, x3), (0, x4), (0, x5), v6] [] w Q ↔ VW d 272 18 [(2, x0), (1, x1), (9, 0), (0, x3), (0, x4), (0, x5), (0, 0)] [] w Q :=
  (VW_b 2 (F := fun n => vrun n d 272 18 [(2, x0), (1, x1), (9, 0), (0, x3), (0, x4), (0, x5), (0, 0)] [] w) (fun _ => rfl)).trans (Iff.rfl)
set_option maxRecDepth 100000 in
theorem b272_18 {d : Nat} {w : vW} {x0 x1 x3 x4 x5 x6 : Int} {Q : Int → vW → Prop} : VW d 272 18 [(2, x0), (1, x1), (9, 0), (0, x3), (0, x4), (0, x5), (0, x6)] [] w Q ↔ (vkd w x0 = 18) ∧ ((x6 < (vct w x0 3) → VW d 272 27 [(2, x0), (1, x1), (9, 0), (0, x3), (0, x4), (0, x5), (0, x6)] [] w Q) ∧ (¬ (x6 < (vct w x0 3)) → VW d 272 62 [(2, x0), (1, x1), (9, 0), (0, x3), (0, x4), (0, x5), (0, x6)] [] w Q)) :=
  (VW_b 4 (F := fun n => if vkd w x0 = 18 then (if x6 < (vct w x0 3) then vrun n d 272 27 [(2, x0), (1, x1), (9, 0), (0, x3), (0, x4), (0, x5), (0, x6)] [] w else vrun n d 272 62 [(2, x0), (1, x1), (9, 0), (0, x3), (0, x4), (0, x5), (0, x6)] [] w) else none) (fun _ => rfl)).trans (EX_if.trans (and_congr Iff.rfl (EX_br.trans (and_congr (imp_congr Iff.rfl Iff.rfl) (imp_congr Iff.rfl Iff.rfl)))))
set_option maxRecDepth 100000 in
theorem b272_27 {d : Nat} {w : vW} {x0 x1 x3 x4 x5 x6 : Int} {Q : Int → vW → Prop} : VW d 272 27 [(2, x0), (1, x1), (9, 0), (0, x3), (0, x4), (0, x5), (0, x6)] [] w Q ↔ (vkd w x0 = 18) ∧ VC d 260 [(2, x0), (0, x6), (1, x1), (0, x5)] w (fun r w1 => VW d 272 36 [(2, x0), (1, x1), (9, 0), (0, x3), (0, x4), (0, x5), (0, x6)] [(0, r)] w1 Q) :=
  (VW_b 5 (F := fun n => if vkd w x0 = 18 then vclr (vrun n) d 272 36 260 4 0 [(2, x0), (1, x1), (9, 0), (0, x3), (0, x4), (0, x5), (0, x6)] [(0, x5), (1, x1), (0, x6), (2, x0)] w else none) (fun _ => rfl)).trans (EX_if.trans (and_congr Iff.rfl (EX_call rfl)))
set_option maxRecDepth 100000 in
theorem b272_36 {d : Nat} {w : vW} {x0 x1 x3 x4 x5 x6 y0 : Int} {Q : Int → vW → Prop} : VW d 272 36 [(2, x0), (1, x1), (9, 0), (0, x3), (0, x4), (0, x5), (0, x6)] [(0, y0)] w Q ↔ ((y0 = 0 → VW d 272 56 [(2, x0), (1, x1), (9, 0), (0, x3), (0, x4), (0, x5), (0, x6)] [] w Q) ∧ (¬ (y0 = 0) → VW d 272 39 [(2, x0), (1, x1), (9, 0), (0, x3), (0, x4), (0, x5), (0, x6)] [] w Q)) :=
  (VW_b 1 (F := fun n => (if y0 = 0 then vrun n d 272 56 [(2, x0), (1, x1), (9, 0), (0, x3), (0, x4), (0, x5), (0, x6)] [] w else vrun n d 272 39 [(2, x0), (1, x1), (9, 0), (0, x3), (0, x4), (0, x5), (0, x6)] [] w)) (fun _ => rfl)).trans (EX_br.trans (and_congr (imp_congr Iff.rfl Iff.rfl) (imp_congr Iff.rfl Iff.rfl)))
set_option maxRecDepth 100000 in
theorem b272_39 {d : Nat} {w : vW} {x0 x1 x3 x4 x5 x6 : Int} {Q : Int → vW → Prop} : VW d 272 39 [(2, x0), (1, x1), (9, 0), (0, x3), (0, x4), (0, x5), (0, x6)] [] w Q ↔ ((x4 = x3 → VW d 272 45 [(2, x0), (1, x1), (9, 0), (0, x3), (0, x4), (0, x5), (0, x6)] [] w Q) ∧ (¬ (x4 = x3) → VW d 272 53 [(2, x0), (1, x1), (9, 0), (0, x3), (0, x4), (0, x5), (0, x6)] [] w Q)) :=
  (VW_b 3 (F := fun n => (if x4 = x3 then vrun n d 272 45 [(2, x0), (1, x1), (9, 0), (0, x3), (0, x4), (0, x5), (0, x6)] [] w else vrun n d 272 53 [(2, x0), (1, x1), (9, 0), (0, x3), (0, x4), (0, x5), (0, x6)] [] w)) (fun _ => rfl)).trans (EX_br.trans (and_congr (imp_congr Iff.rfl Iff.rfl) (imp_congr Iff.rfl Iff.rfl)))
set_option maxRecDepth 100000 in
theorem b272_45 {d : Nat} {w : vW} {x0 x1 x3 x4 x5 x6 : Int} {Q : Int → vW → Prop} : VW d 272 45 [(2, x0), (1, x1), (9, 0), (0, x3), (0, x4), (0, x5), (0, x6)] [] w Q ↔ VC d 249 [(0, x6), (0, x5)] w (fun r w1 => VW d 272 52 [(2, x0), (1, x1), (9, 0), (0, x3), (0, x4), (0, x5), (0, x6)] [(0, r)] w1 Q) :=
  (VW_b 3 (F := fun n => vclr (vrun n) d 272 52 249 2 0 [(2, x0), (1, x1), (9, 0), (0, x3), (0, x4), (0, x5), (0, x6)] [(0, x5), (0, x6)] w) (fun _ => rfl)).trans (EX_call rfl)
set_option maxRecDepth 100000 in
theorem b272_52 {d : Nat} {w : vW} {x0 x1 x3 x4 x5 x6 y0 : Int} {Q : Int → vW → Prop} : VW d 272 52 [(2, x0), (1, x1), (9, 0), (0, x3), (0, x4), (0, x5), (0, x6)] [(0, y0)] w Q ↔ Q y0 w :=
  (VW_b 1 (F := fun n => some (0, y0, w)) (fun _ => rfl)).trans (EX_ret0)
set_option maxRecDepth 100000 in
theorem b272_53 {d : Nat} {w : vW} {x0 x1 x3 x4 x5 x6 : Int} {Q : Int → vW → Prop} : VW d 272 53 [(2, x0), (1, x1), (9, 0), (0, x3), (0, x4), (0, x5), (0, x6)] [] w Q ↔ VW d 272 56 [(2, x0), (1, x1), (9, 0), (0, x3), (0, w32 (x4 + 1)), (0, x5), (0, x6)] [] w Q :=
  (VW_b 1 (F := fun n => vrun n d 272 56 [(2, x0), (1, x1), (9, 0), (0, x3), (0, w32 (x4 + 1)), (0, x5), (0, x6)] [] w) (fun _ => rfl)).trans (Iff.rfl)
set_option maxRecDepth 100000 in
theorem b272_56 {d : Nat} {w : vW} {x0 x1 x3 x4 x5 x6 : Int} {Q : Int → vW → Prop} : VW d 272 56 [(2, x0), (1, x1), (9, 0), (0, x3), (0, x4), (0, x5), (0, x6)] [] w Q ↔ VW d 272 18 [(2, x0), (1, x1), (9, 0), (0, x3), (0, x4), (0, x5), (0, w32 (x6 + 1))] [] w Q :=
  (VW_b 2 (F := fun n => vrun n d 272 18 [(2, x0), (1, x1), (9, 0), (0, x3), (0, x4), (0, x5), (0, w32 (x6 + 1))] [] w) (fun _ => rfl)).trans (Iff.rfl)
set_option maxRecDepth 100000 in
theorem b272_62 {d : Nat} {w : vW} {x0 x1 x3 x4 x5 x6 : Int} {Q : Int → vW → Prop} : VW d 272 62 [(2, x0), (1, x1), (9, 0), (0, x3), (0, x4), (0, x5), (0, x6)] [] w Q ↔ VW d 272 6 [(2, x0), (1, x1), (9, 0), (0, x3), (0, x4), (0, w32 (x5 + 1)), (0, x6)] [] w Q :=
  (VW_b 2 (F := fun n => vrun n d 272 6 [(2, x0), (1, x1), (9, 0), (0, x3), (0, x4), (0, w32 (x5 + 1)), (0, x6)] [] w) (fun _ => rfl)).trans (Iff.rfl)
set_option maxRecDepth 100000 in
theorem b272_68 {d : Nat} {w : vW} {x0 x1 x3 x4 x5 : Int} {v6 : vV} {Q : Int → vW → Prop} : VW d 272 68 [(2, x0), (1, x1), (9, 0), (0, x3), (0, x4), (0, x5), v6] [] w Q ↔ Q (-1) w :=
  (VW_b 2 (F := fun n => some (0, (-1), w)) (fun _ => rfl)).trans (EX_ret0)
/-! 273: StrikeWhatCancels$Saying.size(J)I -/
set_option maxRecDepth 100000 in
theorem b273_0 {d : Nat} {w : vW} {x0 : Int} {Q : Int → vW → Prop} : VW d 273 0 [(1, x0), (9, 0)] [] w Q ↔ Q (w32 (l_ushr x0 56)) w :=
  (VW_b 5 (F := fun n => some (0, w32 (l_ushr x0 56), w)) (fun _ => rfl)).trans (EX_ret0)
/-! 274: StrikeWhatCancels$Saying.of(IJ)J -/
set_option maxRecDepth 100000 in
theorem b274_0 {d : Nat} {w : vW} {x0 x1 : Int} {Q : Int → vW → Prop} : VW d 274 0 [(0, x0), (1, x1), (9, 0)] [] w Q ↔ Q (l_or (l_shl x0 56) x1) w :=
  (VW_b 7 (F := fun n => some (0, l_or (l_shl x0 56) x1, w)) (fun _ => rfl)).trans (EX_ret0)
/-! 275: StrikeWhatCancels$Saying.wordsOf(J)J -/
set_option maxRecDepth 100000 in
theorem b275_0 {d : Nat} {w : vW} {x0 : Int} {Q : Int → vW → Prop} : VW d 275 0 [(1, x0), (9, 0)] [] w Q ↔ Q (l_and x0 72057594037927935) w :=
  (VW_b 4 (F := fun n => some (0, l_and x0 72057594037927935, w)) (fun _ => rfl)).trans (EX_ret0)
/-! 276: StrikeWhatCancels$Saying.word(JI)I -/
set_option maxRecDepth 100000 in
theorem b276_0 {d : Nat} {w : vW} {x0 x2 : Int} {Q : Int → vW → Prop} : VW d 276 0 [(1, x0), (9, 0), (0, x2)] [] w Q ↔ Q (i_and (w32 (l_ushr x0 (w32 (4 * (w32 ((w32 ((w32 (l_ushr x0 56)) - 1)) - x2)))))) 15) w :=
  (VW_b 16 (F := fun n => some (0, i_and (w32 (l_ushr x0 (w32 (4 * (w32 ((w32 ((w32 (l_ushr x0 56)) - 1)) - x2)))))) 15, w)) (fun _ => rfl)).trans (EX_ret0)
/-! 277: StrikeWhatCancels$Saying.part(JII)J -/
set_option maxRecDepth 100000 in
theorem b277_0 {d : Nat} {w : vW} {x0 x2 x3 : Int} {Q : Int → vW → Prop} : VW d 277 0 [(1, x0), (9, 0), (0, x2), (0, x3), (9, 0)] [] w Q ↔ Q (l_or (l_shl x3 56) (l_and (l_ushr x0 (w32 (4 * (w32 ((w32 ((w32 (l_ushr x0 56)) - x2)) - x3))))) (w64 ((l_shl 1 (w32 (4 * x3))) - 1)))) w :=
  (VW_b 28 (F := fun n => some (0, l_or (l_shl x3 56) (l_and (l_ushr x0 (w32 (4 * (w32 ((w32 ((w32 (l_ushr x0 56)) - x2)) - x3))))) (w64 ((l_shl 1 (w32 (4 * x3))) - 1))), w)) (fun _ => rfl)).trans (EX_ret0)
/-! 278: StrikeWhatCancels$Saying.put(JIIJ)J -/
set_option maxRecDepth 100000 in
theorem b278_0 {d : Nat} {w : vW} {x0 x2 x3 x4 : Int} {Q : Int → vW → Prop} : VW d 278 0 [(1, x0), (9, 0), (0, x2), (0, x3), (1, x4), (9, 0), (9, 0), (9, 0), (9, 0), (9, 0), (9, 0)] [] w Q ↔ VW d 278 49 [(1, x0), (9, 0), (0, x2), (0, x3), (1, x4), (9, 0), (0, w32 (l_ushr x0 56)), (0, w32 (l_ushr x4 56)), (0, w32 ((w32 ((w32 (l_ushr x0 56)) - x2)) - x3)), (1, l_or (l_shl (l_ushr (l_and x0 72057594037927935) (w32 (4 * (w32 ((w32 ((w32 ((w32 (l_ushr x0 56)) - x2)) - x3)) + x3))))) (w32 (4 * (w32 (l_ushr x4 56))))) (l_and x4 72057594037927935)), (9, 0)] [] w Q :=
  (VW_b 34 (F := fun n => vrun n d 278 49 [(1, x0), (9, 0), (0, x2), (0, x3), (1, x4), (9, 0), (0, w32 (l_ushr x0 56)), (0, w32 (l_ushr x4 56)), (0, w32 ((w32 ((w32 (l_ushr x0 56)) - x2)) - x3)), (1, l_or (l_shl (l_ushr (l_and x0 72057594037927935) (w32 (4 * (w32 ((w32 ((w32 ((w32 (l_ushr x0 56)) - x2)) - x3)) + x3))))) (w32 (4 * (w32 (l_ushr x4 56))))) (l_and x4 72057594037927935)), (9, 0)] [] w) (fun _ => rfl)).trans (Iff.rfl)
set_option maxRecDepth 100000 in
theorem b278_49 {d : Nat} {w : vW} {x0 x2 x3 x4 x6 x7 x8 x9 : Int} {Q : Int → vW → Prop} : VW d 278 49 [(1, x0), (9, 0), (0, x2), (0, x3), (1, x4), (9, 0), (0, x6), (0, x7), (0, x8), (1, x9), (9, 0)] [] w Q ↔ Q (l_or (l_or (l_shl (w32 ((w32 (x6 - x3)) + x7)) 56) (l_shl x9 (w32 (4 * x8)))) (l_and x0 (w64 ((l_shl 1 (w32 (4 * x8))) - 1)))) w :=
  (VW_b 25 (F := fun n => some (0, l_or (l_or (l_shl (w32 ((w32 (x6 - x3)) + x7)) 56) (l_shl x9 (w32 (4 * x8)))) (l_and x0 (w64 ((l_shl 1 (w32 (4 * x8))) - 1))), w)) (fun _ => rfl)).trans (EX_ret0)
/-! 279: StrikeWhatCancels$Saying.has(JIJ)Z -/
set_option maxRecDepth 100000 in
theorem b279_0 {d : Nat} {w : vW} {x0 x2 x3 : Int} {Q : Int → vW → Prop} : VW d 279 0 [(1, x0), (9, 0), (0, x2), (1, x3), (9, 0), (9, 0), (9, 0)] [] w Q ↔ ((x2 < 0 → VW d 279 54 [(1, x0), (9, 0), (0, x2), (1, x3), (9, 0), (0, w32 (l_ushr x3 56)), (0, w32 ((w32 ((w32 (l_ushr x0 56)) - x2)) - (w32 (l_ushr x3 56))))] [] w Q) ∧ (¬ (x2 < 0) → VW d 279 23 [(1, x0), (9, 0), (0, x2), (1, x3), (9, 0), (0, w32 (l_ushr x3 56)), (0, w32 ((w32 ((w32 (l_ushr x0 56)) - x2)) - (w32 (l_ushr x3 56))))] [] w Q)) :=
  (VW_b 16 (F := fun n => (if x2 < 0 then vrun n d 279 54 [(1, x0), (9, 0), (0, x2), (1, x3), (9, 0), (0, w32 (l_ushr x3 56)), (0, w32 ((w32 ((w32 (l_ushr x0 56)) - x2)) - (w32 (l_ushr x3 56))))] [] w else vrun n d 279 23 [(1, x0), (9, 0), (0, x2), (1, x3), (9, 0), (0, w32 (l_ushr x3 56)), (0, w32 ((w32 ((w32 (l_ushr x0 56)) - x2)) - (w32 (l_ushr x3 56))))] [] w)) (fun _ => rfl)).trans (EX_br.trans (and_congr (imp_congr Iff.rfl Iff.rfl) (imp_congr Iff.rfl Iff.rfl)))
set_option maxRecDepth 100000 in
theorem b279_23 {d : Nat} {w : vW} {x0 x2 x3 x5 x6 : Int} {Q : Int → vW → Prop} : VW d 279 23 [(1, x0), (9, 0), (0, x2), (1, x3), (9, 0), (0, x5), (0, x6)] [] w Q ↔ ((x6 < 0 → VW d 279 54 [(1, x0), (9, 0), (0, x2), (1, x3), (9, 0), (0, x5), (0, x6)] [] w Q) ∧ (¬ (x6 < 0) → VW d 279 28 [(1, x0), (9, 0), (0, x2), (1, x3), (9, 0), (0, x5), (0, x6)] [] w Q)) :=
  (VW_b 2 (F := fun n => (if x6 < 0 then vrun n d 279 54 [(1, x0), (9, 0), (0, x2), (1, x3), (9, 0), (0, x5), (0, x6)] [] w else vrun n d 279 28 [(1, x0), (9, 0), (0, x2), (1, x3), (9, 0), (0, x5), (0, x6)] [] w)) (fun _ => rfl)).trans (EX_br.trans (and_congr (imp_congr Iff.rfl Iff.rfl) (imp_congr Iff.rfl Iff.rfl)))
set_option maxRecDepth 100000 in
theorem b279_28 {d : Nat} {w : vW} {x0 x2 x3 x5 x6 : Int} {Q : Int → vW → Prop} : VW d 279 28 [(1, x0), (9, 0), (0, x2), (1, x3), (9, 0), (0, x5), (0, x6)] [] w Q ↔ (((vlc (l_and (l_xor (l_ushr x0 (w32 (4 * x6))) x3) (w64 ((l_shl 1 (w32 (4 * x5))) - 1))) 0) = 0 → VW d 279 50 [(1, x0), (9, 0), (0, x2), (1, x3), (9, 0), (0, x5), (0, x6)] [] w Q) ∧ (¬ ((vlc (l_and (l_xor (l_ushr x0 (w32 (4 * x6))) x3) (w64 ((l_shl 1 (w32 (4 * x5))) - 1))) 0) = 0) → VW d 279 54 [(1, x0), (9, 0), (0, x2), (1, x3), (9, 0), (0, x5), (0, x6)] [] w Q)) :=
  (VW_b 18 (F := fun n => (if (vlc (l_and (l_xor (l_ushr x0 (w32 (4 * x6))) x3) (w64 ((l_shl 1 (w32 (4 * x5))) - 1))) 0) = 0 then vrun n d 279 50 [(1, x0), (9, 0), (0, x2), (1, x3), (9, 0), (0, x5), (0, x6)] [] w else vrun n d 279 54 [(1, x0), (9, 0), (0, x2), (1, x3), (9, 0), (0, x5), (0, x6)] [] w)) (fun _ => rfl)).trans (EX_br.trans (and_congr (imp_congr Iff.rfl Iff.rfl) (imp_congr Iff.rfl Iff.rfl)))
set_option maxRecDepth 100000 in
theorem b279_50 {d : Nat} {w : vW} {x0 x2 x3 x5 x6 : Int} {Q : Int → vW → Prop} : VW d 279 50 [(1, x0), (9, 0), (0, x2), (1, x3), (9, 0), (0, x5), (0, x6)] [] w Q ↔ VW d 279 55 [(1, x0), (9, 0), (0, x2), (1, x3), (9, 0), (0, x5), (0, x6)] [(0, 1)] w Q :=
  (VW_b 2 (F := fun n => vrun n d 279 55 [(1, x0), (9, 0), (0, x2), (1, x3), (9, 0), (0, x5), (0, x6)] [(0, 1)] w) (fun _ => rfl)).trans (Iff.rfl)
set_option maxRecDepth 100000 in
theorem b279_54 {d : Nat} {w : vW} {x0 x2 x3 x5 x6 : Int} {Q : Int → vW → Prop} : VW d 279 54 [(1, x0), (9, 0), (0, x2), (1, x3), (9, 0), (0, x5), (0, x6)] [] w Q ↔ VW d 279 55 [(1, x0), (9, 0), (0, x2), (1, x3), (9, 0), (0, x5), (0, x6)] [(0, 0)] w Q :=
  (VW_b 1 (F := fun n => vrun n d 279 55 [(1, x0), (9, 0), (0, x2), (1, x3), (9, 0), (0, x5), (0, x6)] [(0, 0)] w) (fun _ => rfl)).trans (Iff.rfl)
set_option maxRecDepth 100000 in
theorem b279_55 {d : Nat} {w : vW} {x0 x2 x3 x5 x6 y0 : Int} {Q : Int → vW → Prop} : VW d 279 55 [(1, x0), (9, 0), (0, x2), (1, x3), (9, 0), (0, x5), (0, x6)] [(0, y0)] w Q ↔ ((0 : Int) ≤ y0 ∧ y0 ≤ 1) ∧ Q y0 w :=
  (VW_b 1 (F := fun n => if (0 : Int) ≤ y0 ∧ y0 ≤ 1 then some (0, y0, w) else none) (fun _ => rfl)).trans (EX_if.trans (and_congr Iff.rfl (EX_ret0)))
/-! 280: StrikeWhatCancels$Saying.read(J)J -/
set_option maxRecDepth 100000 in
theorem b280_0 {d : Nat} {w : vW} {x0 : Int} {Q : Int → vW → Prop} : VW d 280 0 [(1, x0), (9, 0), (9, 0), (9, 0), (9, 0), (9, 0), (9, 0)] [] w Q ↔ VW d 280 8 [(1, x0), (9, 0), (1, x0), (9, 0), (1, 0), (9, 0), (0, 0)] [] w Q :=
  (VW_b 6 (F := fun n => vrun n d 280 8 [(1, x0), (9, 0), (1, x0), (9, 0), (1, 0), (9, 0), (0, 0)] [] w) (fun _ => rfl)).trans (Iff.rfl)
set_option maxRecDepth 100000 in
theorem b280_8 {d : Nat} {w : vW} {x0 x2 x4 x6 : Int} {Q : Int → vW → Prop} : VW d 280 8 [(1, x0), (9, 0), (1, x2), (9, 0), (1, x4), (9, 0), (0, x6)] [] w Q ↔ ((0 < (vlc x2 0) → VW d 280 14 [(1, x0), (9, 0), (1, x2), (9, 0), (1, x4), (9, 0), (0, x6)] [] w Q) ∧ (¬ (0 < (vlc x2 0)) → VW d 280 58 [(1, x0), (9, 0), (1, x2), (9, 0), (1, x4), (9, 0), (0, x6)] [] w Q)) :=
  (VW_b 4 (F := fun n => (if 0 < (vlc x2 0) then vrun n d 280 14 [(1, x0), (9, 0), (1, x2), (9, 0), (1, x4), (9, 0), (0, x6)] [] w else vrun n d 280 58 [(1, x0), (9, 0), (1, x2), (9, 0), (1, x4), (9, 0), (0, x6)] [] w)) (fun _ => rfl)).trans (EX_br.trans (and_congr (imp_congr Iff.rfl Iff.rfl) (imp_congr Iff.rfl Iff.rfl)))
set_option maxRecDepth 100000 in
theorem b280_14 {d : Nat} {w : vW} {x0 x2 x4 x6 : Int} {Q : Int → vW → Prop} : VW d 280 14 [(1, x0), (9, 0), (1, x2), (9, 0), (1, x4), (9, 0), (0, x6)] [] w Q ↔ ((x6 < 14 → VW d 280 21 [(1, x0), (9, 0), (1, x2), (9, 0), (1, x4), (9, 0), (0, x6)] [] w Q) ∧ (¬ (x6 < 14) → VW d 280 58 [(1, x0), (9, 0), (1, x2), (9, 0), (1, x4), (9, 0), (0, x6)] [] w Q)) :=
  (VW_b 3 (F := fun n => (if x6 < 14 then vrun n d 280 21 [(1, x0), (9, 0), (1, x2), (9, 0), (1, x4), (9, 0), (0, x6)] [] w else vrun n d 280 58 [(1, x0), (9, 0), (1, x2), (9, 0), (1, x4), (9, 0), (0, x6)] [] w)) (fun _ => rfl)).trans (EX_br.trans (and_congr (imp_congr Iff.rfl Iff.rfl) (imp_congr Iff.rfl Iff.rfl)))
set_option maxRecDepth 100000 in
theorem b280_21 {d : Nat} {w : vW} {x0 x2 x4 x6 : Int} {Q : Int → vW → Prop} : VW d 280 21 [(1, x0), (9, 0), (1, x2), (9, 0), (1, x4), (9, 0), (0, x6)] [] w Q ↔ (((vlc (Int.tmod x2 9) 0) = 0 → VW d 280 58 [(1, x0), (9, 0), (1, x2), (9, 0), (1, x4), (9, 0), (0, x6)] [] w Q) ∧ (¬ ((vlc (Int.tmod x2 9) 0) = 0) → VW d 280 31 [(1, x0), (9, 0), (1, x2), (9, 0), (1, x4), (9, 0), (0, x6)] [] w Q)) :=
  (VW_b 6 (F := fun n => (if (vlc (Int.tmod x2 9) 0) = 0 then vrun n d 280 58 [(1, x0), (9, 0), (1, x2), (9, 0), (1, x4), (9, 0), (0, x6)] [] w else vrun n d 280 31 [(1, x0), (9, 0), (1, x2), (9, 0), (1, x4), (9, 0), (0, x6)] [] w)) (fun _ => rfl)).trans (EX_br.trans (and_congr (imp_congr Iff.rfl Iff.rfl) (imp_congr Iff.rfl Iff.rfl)))
set_option maxRecDepth 100000 in
theorem b280_31 {d : Nat} {w : vW} {x0 x2 x4 x6 : Int} {Q : Int → vW → Prop} : VW d 280 31 [(1, x0), (9, 0), (1, x2), (9, 0), (1, x4), (9, 0), (0, x6)] [] w Q ↔ VW d 280 46 [(1, x0), (9, 0), (1, x2), (9, 0), (1, l_or x4 (l_shl (Int.tmod x2 9) (w32 (4 * x6)))), (9, 0), (0, x6)] [] w Q :=
  (VW_b 10 (F := fun n => vrun n d 280 46 [(1, x0), (9, 0), (1, x2), (9, 0), (1, l_or x4 (l_shl (Int.tmod x2 9) (w32 (4 * x6)))), (9, 0), (0, x6)] [] w) (fun _ => rfl)).trans (Iff.rfl)
set_option maxRecDepth 100000 in
theorem b280_46 {d : Nat} {w : vW} {x0 x2 x4 x6 : Int} {Q : Int → vW → Prop} : VW d 280 46 [(1, x0), (9, 0), (1, x2), (9, 0), (1, x4), (9, 0), (0, x6)] [] w Q ↔ VW d 280 8 [(1, x0), (9, 0), (1, w64 (Int.tdiv x2 9)), (9, 0), (1, x4), (9, 0), (0, w32 (x6 + 1))] [] w Q :=
  (VW_b 6 (F := fun n => vrun n d 280 8 [(1, x0), (9, 0), (1, w64 (Int.tdiv x2 9)), (9, 0), (1, x4), (9, 0), (0, w32 (x6 + 1))] [] w) (fun _ => rfl)).trans (Iff.rfl)
set_option maxRecDepth 100000 in
theorem b280_58 {d : Nat} {w : vW} {x0 x2 x4 x6 : Int} {Q : Int → vW → Prop} : VW d 280 58 [(1, x0), (9, 0), (1, x2), (9, 0), (1, x4), (9, 0), (0, x6)] [] w Q ↔ (((vlc x2 0) = 0 → VW d 280 64 [(1, x0), (9, 0), (1, x2), (9, 0), (1, x4), (9, 0), (0, x6)] [] w Q) ∧ (¬ ((vlc x2 0) = 0) → VW d 280 74 [(1, x0), (9, 0), (1, x2), (9, 0), (1, x4), (9, 0), (0, x6)] [] w Q)) :=
  (VW_b 4 (F := fun n => (if (vlc x2 0) = 0 then vrun n d 280 64 [(1, x0), (9, 0), (1, x2), (9, 0), (1, x4), (9, 0), (0, x6)] [] w else vrun n d 280 74 [(1, x0), (9, 0), (1, x2), (9, 0), (1, x4), (9, 0), (0, x6)] [] w)) (fun _ => rfl)).trans (EX_br.trans (and_congr (imp_congr Iff.rfl Iff.rfl) (imp_congr Iff.rfl Iff.rfl)))
set_option maxRecDepth 100000 in
theorem b280_64 {d : Nat} {w : vW} {x0 x2 x4 x6 : Int} {Q : Int → vW → Prop} : VW d 280 64 [(1, x0), (9, 0), (1, x2), (9, 0), (1, x4), (9, 0), (0, x6)] [] w Q ↔ VC d 274 [(0, x6), (1, x4)] w (fun r w1 => VW d 280 71 [(1, x0), (9, 0), (1, x2), (9, 0), (1, x4), (9, 0), (0, x6)] [(1, r)] w1 Q) :=
  (VW_b 3 (F := fun n => vclr (vrun n) d 280 71 274 2 1 [(1, x0), (9, 0), (1, x2), (9, 0), (1, x4), (9, 0), (0, x6)] [(1, x4), (0, x6)] w) (fun _ => rfl)).trans (EX_call rfl)
set_option maxRecDepth 100000 in
theorem b280_71 {d : Nat} {w : vW} {x0 x2 x4 x6 y0 : Int} {Q : Int → vW → Prop} : VW d 280 71 [(1, x0), (9, 0), (1, x2), (9, 0), (1, x4), (9, 0), (0, x6)] [(1, y0)] w Q ↔ VW d 280 77 [(1, x0), (9, 0), (1, x2), (9, 0), (1, x4), (9, 0), (0, x6)] [(1, y0)] w Q :=
  (VW_b 1 (F := fun n => vrun n d 280 77 [(1, x0), (9, 0), (1, x2), (9, 0), (1, x4), (9, 0), (0, x6)] [(1, y0)] w) (fun _ => rfl)).trans (Iff.rfl)
set_option maxRecDepth 100000 in
theorem b280_74 {d : Nat} {w : vW} {x0 x2 x4 x6 : Int} {Q : Int → vW → Prop} : VW d 280 74 [(1, x0), (9, 0), (1, x2), (9, 0), (1, x4), (9, 0), (0, x6)] [] w Q ↔ VW d 280 77 [(1, x0), (9, 0), (1, x2), (9, 0), (1, x4), (9, 0), (0, x6)] [(1, (-1))] w Q :=
  (VW_b 1 (F := fun n => vrun n d 280 77 [(1, x0), (9, 0), (1, x2), (9, 0), (1, x4), (9, 0), (0, x6)] [(1, (-1))] w) (fun _ => rfl)).trans (Iff.rfl)
set_option maxRecDepth 100000 in
theorem b280_77 {d : Nat} {w : vW} {x0 x2 x4 x6 y0 : Int} {Q : Int → vW → Prop} : VW d 280 77 [(1, x0), (9, 0), (1, x2), (9, 0), (1, x4), (9, 0), (0, x6)] [(1, y0)] w Q ↔ Q y0 w :=
  (VW_b 1 (F := fun n => some (0, y0, w)) (fun _ => rfl)).trans (EX_ret0)
/-! 281: StrikeWhatCancels$Saying.code(J)J -/
set_option maxRecDepth 100000 in
theorem b281_0 {d : Nat} {w : vW} {x0 : Int} {Q : Int → vW → Prop} : VW d 281 0 [(1, x0), (9, 0), (9, 0), (9, 0), (9, 0), (9, 0)] [] w Q ↔ VC d 273 [(1, x0)] w (fun r w1 => VW d 281 6 [(1, x0), (9, 0), (1, 0), (9, 0), (9, 0), (9, 0)] [(0, r)] w1 Q) :=
  (VW_b 4 (F := fun n => vclr (vrun n) d 281 6 273 1 0 [(1, x0), (9, 0), (1, 0), (9, 0), (9, 0), (9, 0)] [(1, x0)] w) (fun _ => rfl)).trans (EX_call rfl)
set_option maxRecDepth 100000 in
theorem b281_6 {d : Nat} {w : vW} {x0 x2 y0 : Int} {Q : Int → vW → Prop} : VW d 281 6 [(1, x0), (9, 0), (1, x2), (9, 0), (9, 0), (9, 0)] [(0, y0)] w Q ↔ VW d 281 11 [(1, x0), (9, 0), (1, x2), (9, 0), (0, y0), (0, 0)] [] w Q :=
  (VW_b 3 (F := fun n => vrun n d 281 11 [(1, x0), (9, 0), (1, x2), (9, 0), (0, y0), (0, 0)] [] w) (fun _ => rfl)).trans (Iff.rfl)
set_option maxRecDepth 100000 in
theorem b281_11 {d : Nat} {w : vW} {x0 x2 x4 x5 : Int} {Q : Int → vW → Prop} : VW d 281 11 [(1, x0), (9, 0), (1, x2), (9, 0), (0, x4), (0, x5)] [] w Q ↔ ((x5 < x4 → VW d 281 18 [(1, x0), (9, 0), (1, x2), (9, 0), (0, x4), (0, x5)] [] w Q) ∧ (¬ (x5 < x4) → VW d 281 38 [(1, x0), (9, 0), (1, x2), (9, 0), (0, x4), (0, x5)] [] w Q)) :=
  (VW_b 3 (F := fun n => (if x5 < x4 then vrun n d 281 18 [(1, x0), (9, 0), (1, x2), (9, 0), (0, x4), (0, x5)] [] w else vrun n d 281 38 [(1, x0), (9, 0), (1, x2), (9, 0), (0, x4), (0, x5)] [] w)) (fun _ => rfl)).trans (EX_br.trans (and_congr (imp_congr Iff.rfl Iff.rfl) (imp_congr Iff.rfl Iff.rfl)))
set_option maxRecDepth 100000 in
theorem b281_18 {d : Nat} {w : vW} {x0 x2 x4 x5 : Int} {Q : Int → vW → Prop} : VW d 281 18 [(1, x0), (9, 0), (1, x2), (9, 0), (0, x4), (0, x5)] [] w Q ↔ VC d 276 [(1, x0), (0, x5)] w (fun r w1 => VW d 281 29 [(1, x0), (9, 0), (1, x2), (9, 0), (0, x4), (0, x5)] [(0, r), (1, w64 (x2 * 9))] w1 Q) :=
  (VW_b 6 (F := fun n => vclr (vrun n) d 281 29 276 2 0 [(1, x0), (9, 0), (1, x2), (9, 0), (0, x4), (0, x5)] [(0, x5), (1, x0), (1, w64 (x2 * 9))] w) (fun _ => rfl)).trans (EX_call rfl)
set_option maxRecDepth 100000 in
theorem b281_29 {d : Nat} {w : vW} {x0 x2 x4 x5 y0 y1 : Int} {Q : Int → vW → Prop} : VW d 281 29 [(1, x0), (9, 0), (1, x2), (9, 0), (0, x4), (0, x5)] [(0, y1), (1, y0)] w Q ↔ VW d 281 32 [(1, x0), (9, 0), (1, w64 (y0 + y1)), (9, 0), (0, x4), (0, x5)] [] w Q :=
  (VW_b 3 (F := fun n => vrun n d 281 32 [(1, x0), (9, 0), (1, w64 (y0 + y1)), (9, 0), (0, x4), (0, x5)] [] w) (fun _ => rfl)).trans (Iff.rfl)
set_option maxRecDepth 100000 in
theorem b281_32 {d : Nat} {w : vW} {x0 x2 x4 x5 : Int} {Q : Int → vW → Prop} : VW d 281 32 [(1, x0), (9, 0), (1, x2), (9, 0), (0, x4), (0, x5)] [] w Q ↔ VW d 281 11 [(1, x0), (9, 0), (1, x2), (9, 0), (0, x4), (0, w32 (x5 + 1))] [] w Q :=
  (VW_b 2 (F := fun n => vrun n d 281 11 [(1, x0), (9, 0), (1, x2), (9, 0), (0, x4), (0, w32 (x5 + 1))] [] w) (fun _ => rfl)).trans (Iff.rfl)
set_option maxRecDepth 100000 in
theorem b281_38 {d : Nat} {w : vW} {x0 x2 x4 x5 : Int} {Q : Int → vW → Prop} : VW d 281 38 [(1, x0), (9, 0), (1, x2), (9, 0), (0, x4), (0, x5)] [] w Q ↔ Q x2 w :=
  (VW_b 2 (F := fun n => some (0, x2, w)) (fun _ => rfl)).trans (EX_ret0)
/-! 282: StrikeWhatCancels$Saying.order([JI)V -/
set_option maxRecDepth 100000 in
theorem b282_0 {d : Nat} {w : vW} {x0 x1 : Int} {Q : Int → vW → Prop} : VW d 282 0 [(2, x0), (0, x1), (9, 0), (9, 0), (9, 0), (9, 0), (9, 0), (9, 0)] [] w Q ↔ (vkd w x0 = 2) ∧ VW d 282 11 [(2, x0), (0, x1), (0, min x1 (vln w x0)), (0, w32 (Int.tdiv (min x1 (vln w x0)) 2)), (9, 0), (9, 0), (9, 0), (9, 0)] [] w Q :=
  (VW_b 9 (F := fun n => if vkd w x0 = 2 then vrun n d 282 11 [(2, x0), (0, x1), (0, min x1 (vln w x0)), (0, w32 (Int.tdiv (min x1 (vln w x0)) 2)), (9, 0), (9, 0), (9, 0), (9, 0)] [] w else none) (fun _ => rfl)).trans (EX_if.trans (and_congr Iff.rfl (Iff.rfl)))
set_option maxRecDepth 100000 in
theorem b282_11 {d : Nat} {w : vW} {x0 x1 x2 x3 : Int} {v4 v5 v6 v7 : vV} {Q : Int → vW → Prop} : VW d 282 11 [(2, x0), (0, x1), (0, x2), (0, x3), v4, v5, v6, v7] [] w Q ↔ ((0 < x3 → VW d 282 15 [(2, x0), (0, x1), (0, x2), (0, x3), v4, v5, v6, v7] [] w Q) ∧ (¬ (0 < x3) → VW d 282 102 [(2, x0), (0, x1), (0, x2), (0, x3), v4, v5, v6, v7] [] w Q)) :=
  (VW_b 2 (F := fun n => (if 0 < x3 then vrun n d 282 15 [(2, x0), (0, x1), (0, x2), (0, x3), v4, v5, v6, v7] [] w else vrun n d 282 102 [(2, x0), (0, x1), (0, x2), (0, x3), v4, v5, v6, v7] [] w)) (fun _ => rfl)).trans (EX_br.trans (and_congr (imp_congr Iff.rfl Iff.rfl) (imp_congr Iff.rfl Iff.rfl)))
set_option maxRecDepth 100000 in
theorem b282_15 {d : Nat} {w : vW} {x0 x1 x2 x3 : Int} {v4 v5 v6 v7 : vV} {Q : Int → vW → Prop} : VW d 282 15 [(2, x0), (0, x1), (0, x2), (0, x3), v4, v5, v6, v7] [] w Q ↔ VW d 282 18 [(2, x0), (0, x1), (0, x2), (0, x3), (0, x3), v5, v6, v7] [] w Q :=
  (VW_b 2 (F := fun n => vrun n d 282 18 [(2, x0), (0, x1), (0, x2), (0, x3), (0, x3), v5, v6, v7] [] w) (fun _ => rfl)).trans (Iff.rfl)
set_option maxRecDepth 100000 in
theorem b282_18 {d : Nat} {w : vW} {x0 x1 x2 x3 x4 : Int} {v5 v6 v7 : vV} {Q : Int → vW → Prop} : VW d 282 18 [(2, x0), (0, x1), (0, x2), (0, x3), (0, x4), v5, v6, v7] [] w Q ↔ ((x4 < x2 → VW d 282 24 [(2, x0), (0, x1), (0, x2), (0, x3), (0, x4), v5, v6, v7] [] w Q) ∧ (¬ (x4 < x2) → VW d 282 83 [(2, x0), (0, x1), (0, x2), (0, x3), (0, x4), v5, v6, v7] [] w Q)) :=
  (VW_b 3 (F := fun n => (if x4 < x2 then vrun n d 282 24 [(2, x0), (0, x1), (0, x2), (0, x3), (0, x4), v5, v6, v7] [] w else vrun n d 282 83 [(2, x0), (0, x1), (0, x2), (0, x3), (0, x4), v5, v6, v7] [] w)) (fun _ => rfl)).trans (EX_br.trans (and_congr (imp_congr Iff.rfl Iff.rfl) (imp_congr Iff.rfl Iff.rfl)))
set_option maxRecDepth 100000 in
theorem b282_24 {d : Nat} {w : vW} {x0 x1 x2 x3 x4 : Int} {v5 v6 v7 : vV} {Q : Int → vW → Prop} : VW d 282 24 [(2, x0), (0, x1), (0, x2), (0, x3), (0, x4), v5, v6, v7] [] w Q ↔ (vkd w x0 = 2 ∧ (0 : Int) ≤ x4 ∧ x4 < vln w x0) ∧ VW d 282 34 [(2, x0), (0, x1), (0, x2), (0, x3), (0, x4), (1, vct w x0 x4), (9, 0), (0, x4)] [] w Q :=
  (VW_b 6 (F := fun n => if vkd w x0 = 2 ∧ (0 : Int) ≤ x4 ∧ x4 < vln w x0 then vrun n d 282 34 [(2, x0), (0, x1), (0, x2), (0, x3), (0, x4), (1, vct w x0 x4), (9, 0), (0, x4)] [] w else none) (fun _ => rfl)).trans (EX_if.trans (and_congr Iff.rfl (Iff.rfl)))
set_option maxRecDepth 100000 in
theorem b282_34 {d : Nat} {w : vW} {x0 x1 x2 x3 x4 x5 x7 : Int} {Q : Int → vW → Prop} : VW d 282 34 [(2, x0), (0, x1), (0, x2), (0, x3), (0, x4), (1, x5), (9, 0), (0, x7)] [] w Q ↔ ((x7 < x3 → VW d 282 71 [(2, x0), (0, x1), (0, x2), (0, x3), (0, x4), (1, x5), (9, 0), (0, x7)] [] w Q) ∧ (¬ (x7 < x3) → VW d 282 40 [(2, x0), (0, x1), (0, x2), (0, x3), (0, x4), (1, x5), (9, 0), (0, x7)] [] w Q)) :=
  (VW_b 3 (F := fun n => (if x7 < x3 then vrun n d 282 71 [(2, x0), (0, x1), (0, x2), (0, x3), (0, x4), (1, x5), (9, 0), (0, x7)] [] w else vrun n d 282 40 [(2, x0), (0, x1), (0, x2), (0, x3), (0, x4), (1, x5), (9, 0), (0, x7)] [] w)) (fun _ => rfl)).trans (EX_br.trans (and_congr (imp_congr Iff.rfl Iff.rfl) (imp_congr Iff.rfl Iff.rfl)))
set_option maxRecDepth 100000 in
theorem b282_40 {d : Nat} {w : vW} {x0 x1 x2 x3 x4 x5 x7 : Int} {Q : Int → vW → Prop} : VW d 282 40 [(2, x0), (0, x1), (0, x2), (0, x3), (0, x4), (1, x5), (9, 0), (0, x7)] [] w Q ↔ (vkd w x0 = 2 ∧ (0 : Int) ≤ (w32 (x7 - x3)) ∧ (w32 (x7 - x3)) < vln w x0) ∧ ((0 < (vlc (vct w x0 (w32 (x7 - x3))) x5) → VW d 282 52 [(2, x0), (0, x1), (0, x2), (0, x3), (0, x4), (1, x5), (9, 0), (0, x7)] [] w Q) ∧ (¬ (0 < (vlc (vct w x0 (w32 (x7 - x3))) x5)) → VW d 282 71 [(2, x0), (0, x1), (0, x2), (0, x3), (0, x4), (1, x5), (9, 0), (0, x7)] [] w Q)) :=
  (VW_b 8 (F := fun n => if vkd w x0 = 2 ∧ (0 : Int) ≤ (w32 (x7 - x3)) ∧ (w32 (x7 - x3)) < vln w x0 then (if 0 < (vlc (vct w x0 (w32 (x7 - x3))) x5) then vrun n d 282 52 [(2, x0), (0, x1), (0, x2), (0, x3), (0, x4), (1, x5), (9, 0), (0, x7)] [] w else vrun n d 282 71 [(2, x0), (0, x1), (0, x2), (0, x3), (0, x4), (1, x5), (9, 0), (0, x7)] [] w) else none) (fun _ => rfl)).trans (EX_if.trans (and_congr Iff.rfl (EX_br.trans (and_congr (imp_congr Iff.rfl Iff.rfl) (imp_congr Iff.rfl Iff.rfl)))))
set_option maxRecDepth 100000 in
theorem b282_52 {d : Nat} {w : vW} {x0 x1 x2 x3 x4 x5 x7 : Int} {Q : Int → vW → Prop} : VW d 282 52 [(2, x0), (0, x1), (0, x2), (0, x3), (0, x4), (1, x5), (9, 0), (0, x7)] [] w Q ↔ (vkd w x0 = 2 ∧ (0 : Int) ≤ (w32 (x7 - x3)) ∧ (w32 (x7 - x3)) < vln w x0) ∧ (vkd w x0 = 2 ∧ (0 : Int) ≤ x7 ∧ x7 < vln w x0) ∧ VW d 282 62 [(2, x0), (0, x1), (0, x2), (0, x3), (0, x4), (1, x5), (9, 0), (0, x7)] [] (vsv w x0 x7 (vct w x0 (w32 (x7 - x3)))) Q :=
  (VW_b 8 (F := fun n => if vkd w x0 = 2 ∧ (0 : Int) ≤ (w32 (x7 - x3)) ∧ (w32 (x7 - x3)) < vln w x0 then if vkd w x0 = 2 ∧ (0 : Int) ≤ x7 ∧ x7 < vln w x0 then vrun n d 282 62 [(2, x0), (0, x1), (0, x2), (0, x3), (0, x4), (1, x5), (9, 0), (0, x7)] [] (vsv w x0 x7 (vct w x0 (w32 (x7 - x3)))) else none else none) (fun _ => rfl)).trans (EX_if.trans (and_congr Iff.rfl (EX_if.trans (and_congr Iff.rfl (Iff.rfl)))))
set_option maxRecDepth 100000 in
theorem b282_62 {d : Nat} {w : vW} {x0 x1 x2 x3 x4 x5 x7 : Int} {Q : Int → vW → Prop} : VW d 282 62 [(2, x0), (0, x1), (0, x2), (0, x3), (0, x4), (1, x5), (9, 0), (0, x7)] [] w Q ↔ VW d 282 34 [(2, x0), (0, x1), (0, x2), (0, x3), (0, x4), (1, x5), (9, 0), (0, w32 (x7 - x3))] [] w Q :=
  (VW_b 5 (F := fun n => vrun n d 282 34 [(2, x0), (0, x1), (0, x2), (0, x3), (0, x4), (1, x5), (9, 0), (0, w32 (x7 - x3))] [] w) (fun _ => rfl)).trans (Iff.rfl)
set_option maxRecDepth 100000 in
theorem b282_71 {d : Nat} {w : vW} {x0 x1 x2 x3 x4 x5 x7 : Int} {Q : Int → vW → Prop} : VW d 282 71 [(2, x0), (0, x1), (0, x2), (0, x3), (0, x4), (1, x5), (9, 0), (0, x7)] [] w Q ↔ (vkd w x0 = 2 ∧ (0 : Int) ≤ x7 ∧ x7 < vln w x0) ∧ VW d 282 77 [(2, x0), (0, x1), (0, x2), (0, x3), (0, x4), (1, x5), (9, 0), (0, x7)] [] (vsv w x0 x7 x5) Q :=
  (VW_b 4 (F := fun n => if vkd w x0 = 2 ∧ (0 : Int) ≤ x7 ∧ x7 < vln w x0 then vrun n d 282 77 [(2, x0), (0, x1), (0, x2), (0, x3), (0, x4), (1, x5), (9, 0), (0, x7)] [] (vsv w x0 x7 x5) else none) (fun _ => rfl)).trans (EX_if.trans (and_congr Iff.rfl (Iff.rfl)))
set_option maxRecDepth 100000 in
theorem b282_77 {d : Nat} {w : vW} {x0 x1 x2 x3 x4 x5 x7 : Int} {Q : Int → vW → Prop} : VW d 282 77 [(2, x0), (0, x1), (0, x2), (0, x3), (0, x4), (1, x5), (9, 0), (0, x7)] [] w Q ↔ VW d 282 18 [(2, x0), (0, x1), (0, x2), (0, x3), (0, w32 (x4 + 1)), (1, x5), (9, 0), (0, x7)] [] w Q :=
  (VW_b 2 (F := fun n => vrun n d 282 18 [(2, x0), (0, x1), (0, x2), (0, x3), (0, w32 (x4 + 1)), (1, x5), (9, 0), (0, x7)] [] w) (fun _ => rfl)).trans (Iff.rfl)
set_option maxRecDepth 100000 in
theorem b282_83 {d : Nat} {w : vW} {x0 x1 x2 x3 x4 : Int} {v5 v6 v7 : vV} {Q : Int → vW → Prop} : VW d 282 83 [(2, x0), (0, x1), (0, x2), (0, x3), (0, x4), v5, v6, v7] [] w Q ↔ ((x3 = 2 → VW d 282 88 [(2, x0), (0, x1), (0, x2), (0, x3), (0, x4), v5, v6, v7] [] w Q) ∧ (¬ (x3 = 2) → VW d 282 92 [(2, x0), (0, x1), (0, x2), (0, x3), (0, x4), v5, v6, v7] [] w Q)) :=
  (VW_b 3 (F := fun n => (if x3 = 2 then vrun n d 282 88 [(2, x0), (0, x1), (0, x2), (0, x3), (0, x4), v5, v6, v7] [] w else vrun n d 282 92 [(2, x0), (0, x1), (0, x2), (0, x3), (0, x4), v5, v6, v7] [] w)) (fun _ => rfl)).trans (EX_br.trans (and_congr (imp_congr Iff.rfl Iff.rfl) (imp_congr Iff.rfl Iff.rfl)))
set_option maxRecDepth 100000 in
theorem b282_88 {d : Nat} {w : vW} {x0 x1 x2 x3 x4 : Int} {v5 v6 v7 : vV} {Q : Int → vW → Prop} : VW d 282 88 [(2, x0), (0, x1), (0, x2), (0, x3), (0, x4), v5, v6, v7] [] w Q ↔ VW d 282 98 [(2, x0), (0, x1), (0, x2), (0, x3), (0, x4), v5, v6, v7] [(0, 1)] w Q :=
  (VW_b 2 (F := fun n => vrun n d 282 98 [(2, x0), (0, x1), (0, x2), (0, x3), (0, x4), v5, v6, v7] [(0, 1)] w) (fun _ => rfl)).trans (Iff.rfl)
set_option maxRecDepth 100000 in
theorem b282_92 {d : Nat} {w : vW} {x0 x1 x2 x3 x4 : Int} {v5 v6 v7 : vV} {Q : Int → vW → Prop} : VW d 282 92 [(2, x0), (0, x1), (0, x2), (0, x3), (0, x4), v5, v6, v7] [] w Q ↔ VW d 282 98 [(2, x0), (0, x1), (0, x2), (0, x3), (0, x4), v5, v6, v7] [(0, w32 (Int.tdiv (w32 (x3 * 5)) 11))] w Q :=
  (VW_b 5 (F := fun n => vrun n d 282 98 [(2, x0), (0, x1), (0, x2), (0, x3), (0, x4), v5, v6, v7] [(0, w32 (Int.tdiv (w32 (x3 * 5)) 11))] w) (fun _ => rfl)).trans (Iff.rfl)
set_option maxRecDepth 100000 in
theorem b282_98 {d : Nat} {w : vW} {x0 x1 x2 x3 x4 y0 : Int} {v5 v6 v7 : vV} {Q : Int → vW → Prop} : VW d 282 98 [(2, x0), (0, x1), (0, x2), (0, x3), (0, x4), v5, v6, v7] [(0, y0)] w Q ↔ VW d 282 11 [(2, x0), (0, x1), (0, x2), (0, y0), (0, x4), v5, v6, v7] [] w Q :=
  (VW_b 2 (F := fun n => vrun n d 282 11 [(2, x0), (0, x1), (0, x2), (0, y0), (0, x4), v5, v6, v7] [] w) (fun _ => rfl)).trans (Iff.rfl)
set_option maxRecDepth 100000 in
theorem b282_102 {d : Nat} {w : vW} {x0 x1 x2 x3 : Int} {v4 v5 v6 v7 : vV} {Q : Int → vW → Prop} : VW d 282 102 [(2, x0), (0, x1), (0, x2), (0, x3), v4, v5, v6, v7] [] w Q ↔ Q 0 w :=
  (VW_b 1 (F := fun n => some (0, 0, w)) (fun _ => rfl)).trans (EX_ret0)
/-! 283: StrikeWhatCancels$Still.<init>()V -/
set_option maxRecDepth 100000 in
theorem b283_0 {d : Nat} {w : vW} {x0 : Int} {Q : Int → vW → Prop} : VW d 283 0 [(2, x0)] [] w Q ↔ (vkd w x0 ≠ 0) ∧ VW d 283 9 [(2, x0)] [(2, vnt w), (2, x0)] (vnw w 2 49 (fun _ => 0) (49 : Int).toNat) Q :=
  (VW_b 5 (F := fun n => if vkd w x0 ≠ 0 then vrun n d 283 9 [(2, x0)] [(2, vnt w), (2, x0)] (vnw w 2 49 (fun _ => 0) (49 : Int).toNat) else none) (fun _ => rfl)).trans (EX_if.trans (and_congr Iff.rfl (Iff.rfl)))
set_option maxRecDepth 100000 in
theorem b283_9 {d : Nat} {w : vW} {x0 y0 y1 : Int} {Q : Int → vW → Prop} : VW d 283 9 [(2, x0)] [(2, y1), (2, y0)] w Q ↔ (vkd w y0 = 19) ∧ VW d 283 12 [(2, x0)] [] (vsv w y0 0 y1) Q :=
  (VW_b 1 (F := fun n => if vkd w y0 = 19 then vrun n d 283 12 [(2, x0)] [] (vsv w y0 0 y1) else none) (fun _ => rfl)).trans (EX_if.trans (and_congr Iff.rfl (Iff.rfl)))
set_option maxRecDepth 100000 in
theorem b283_12 {d : Nat} {w : vW} {x0 : Int} {Q : Int → vW → Prop} : VW d 283 12 [(2, x0)] [] w Q ↔ VW d 283 21 [(2, x0)] [(2, vnt w), (2, x0)] (vnwm w 6 1 49 8) Q :=
  (VW_b 4 (F := fun n => vrun n d 283 21 [(2, x0)] [(2, vnt w), (2, x0)] (vnwm w 6 1 49 8)) (fun _ => rfl)).trans (Iff.rfl)
set_option maxRecDepth 100000 in
theorem b283_21 {d : Nat} {w : vW} {x0 y0 y1 : Int} {Q : Int → vW → Prop} : VW d 283 21 [(2, x0)] [(2, y1), (2, y0)] w Q ↔ (vkd w y0 = 19) ∧ VW d 283 24 [(2, x0)] [] (vsv w y0 1 y1) Q :=
  (VW_b 1 (F := fun n => if vkd w y0 = 19 then vrun n d 283 24 [(2, x0)] [] (vsv w y0 1 y1) else none) (fun _ => rfl)).trans (EX_if.trans (and_congr Iff.rfl (Iff.rfl)))
set_option maxRecDepth 100000 in
theorem b283_24 {d : Nat} {w : vW} {x0 : Int} {Q : Int → vW → Prop} : VW d 283 24 [(2, x0)] [] w Q ↔ VW d 283 32 [(2, x0)] [(2, vnt w), (2, x0)] (vnwm w 7 2 2 49) Q :=
  (VW_b 4 (F := fun n => vrun n d 283 32 [(2, x0)] [(2, vnt w), (2, x0)] (vnwm w 7 2 2 49)) (fun _ => rfl)).trans (Iff.rfl)
set_option maxRecDepth 100000 in
theorem b283_32 {d : Nat} {w : vW} {x0 y0 y1 : Int} {Q : Int → vW → Prop} : VW d 283 32 [(2, x0)] [(2, y1), (2, y0)] w Q ↔ (vkd w y0 = 19) ∧ VW d 283 35 [(2, x0)] [] (vsv w y0 2 y1) Q :=
  (VW_b 1 (F := fun n => if vkd w y0 = 19 then vrun n d 283 35 [(2, x0)] [] (vsv w y0 2 y1) else none) (fun _ => rfl)).trans (EX_if.trans (and_congr Iff.rfl (Iff.rfl)))
set_option maxRecDepth 100000 in
theorem b283_35 {d : Nat} {w : vW} {x0 : Int} {Q : Int → vW → Prop} : VW d 283 35 [(2, x0)] [] w Q ↔ (vkd w x0 = 19) ∧ VW d 283 40 [(2, x0)] [] (vsv w x0 3 0) Q :=
  (VW_b 3 (F := fun n => if vkd w x0 = 19 then vrun n d 283 40 [(2, x0)] [] (vsv w x0 3 0) else none) (fun _ => rfl)).trans (EX_if.trans (and_congr Iff.rfl (Iff.rfl)))
set_option maxRecDepth 100000 in
theorem b283_40 {d : Nat} {w : vW} {x0 : Int} {Q : Int → vW → Prop} : VW d 283 40 [(2, x0)] [] w Q ↔ Q 0 w :=
  (VW_b 1 (F := fun n => some (0, 0, w)) (fun _ => rfl)).trans (EX_ret0)
/-! 284: StrikeWhatCancels$Still.number(LStrikeWhatCancels$Rules;II)J -/
set_option maxRecDepth 100000 in
theorem b284_0 {d : Nat} {w : vW} {x0 x1 x2 x3 : Int} {Q : Int → vW → Prop} : VW d 284 0 [(2, x0), (2, x1), (0, x2), (0, x3), (9, 0), (9, 0), (9, 0), (9, 0)] [] w Q ↔ (vkd w x0 = 19) ∧ VC d 285 [(2, x0), (2, x1)] w (fun _ w1 => VW d 284 5 [(2, x0), (2, x1), (0, x2), (0, x3), (9, 0), (9, 0), (9, 0), (9, 0)] [] w1 Q) :=
  (VW_b 3 (F := fun n => if vkd w x0 = 19 then vclr (vrun n) d 284 5 285 2 9 [(2, x0), (2, x1), (0, x2), (0, x3), (9, 0), (9, 0), (9, 0), (9, 0)] [(2, x1), (2, x0)] w else none) (fun _ => rfl)).trans (EX_if.trans (and_congr Iff.rfl (EX_call rfl)))
set_option maxRecDepth 100000 in
theorem b284_5 {d : Nat} {w : vW} {x0 x1 x2 x3 : Int} {Q : Int → vW → Prop} : VW d 284 5 [(2, x0), (2, x1), (0, x2), (0, x3), (9, 0), (9, 0), (9, 0), (9, 0)] [] w Q ↔ VW d 284 8 [(2, x0), (2, x1), (0, x2), (0, x3), (0, 0), (9, 0), (9, 0), (9, 0)] [] w Q :=
  (VW_b 2 (F := fun n => vrun n d 284 8 [(2, x0), (2, x1), (0, x2), (0, x3), (0, 0), (9, 0), (9, 0), (9, 0)] [] w) (fun _ => rfl)).trans (Iff.rfl)
set_option maxRecDepth 100000 in
theorem b284_8 {d : Nat} {w : vW} {x0 x1 x2 x3 x4 : Int} {v5 v6 v7 : vV} {Q : Int → vW → Prop} : VW d 284 8 [(2, x0), (2, x1), (0, x2), (0, x3), (0, x4), v5, v6, v7] [] w Q ↔ (vkd w x0 = 19) ∧ ((x4 < (vct w x0 3) → VW d 284 17 [(2, x0), (2, x1), (0, x2), (0, x3), (0, x4), v5, v6, v7] [] w Q) ∧ (¬ (x4 < (vct w x0 3)) → VW d 284 114 [(2, x0), (2, x1), (0, x2), (0, x3), (0, x4), v5, v6, v7] [] w Q)) :=
  (VW_b 4 (F := fun n => if vkd w x0 = 19 then (if x4 < (vct w x0 3) then vrun n d 284 17 [(2, x0), (2, x1), (0, x2), (0, x3), (0, x4), v5, v6, v7] [] w else vrun n d 284 114 [(2, x0), (2, x1), (0, x2), (0, x3), (0, x4), v5, v6, v7] [] w) else none) (fun _ => rfl)).trans (EX_if.trans (and_congr Iff.rfl (EX_br.trans (and_congr (imp_congr Iff.rfl Iff.rfl) (imp_congr Iff.rfl Iff.rfl)))))
set_option maxRecDepth 100000 in
theorem b284_17 {d : Nat} {w : vW} {x0 x1 x2 x3 x4 : Int} {v5 v6 v7 : vV} {Q : Int → vW → Prop} : VW d 284 17 [(2, x0), (2, x1), (0, x2), (0, x3), (0, x4), v5, v6, v7] [] w Q ↔ ((x4 < 49 → VW d 284 24 [(2, x0), (2, x1), (0, x2), (0, x3), (0, x4), v5, v6, v7] [] w Q) ∧ (¬ (x4 < 49) → VW d 284 114 [(2, x0), (2, x1), (0, x2), (0, x3), (0, x4), v5, v6, v7] [] w Q)) :=
  (VW_b 3 (F := fun n => (if x4 < 49 then vrun n d 284 24 [(2, x0), (2, x1), (0, x2), (0, x3), (0, x4), v5, v6, v7] [] w else vrun n d 284 114 [(2, x0), (2, x1), (0, x2), (0, x3), (0, x4), v5, v6, v7] [] w)) (fun _ => rfl)).trans (EX_br.trans (and_congr (imp_congr Iff.rfl Iff.rfl) (imp_congr Iff.rfl Iff.rfl)))
set_option maxRecDepth 100000 in
theorem b284_24 {d : Nat} {w : vW} {x0 x1 x2 x3 x4 : Int} {v5 v6 v7 : vV} {Q : Int → vW → Prop} : VW d 284 24 [(2, x0), (2, x1), (0, x2), (0, x3), (0, x4), v5, v6, v7] [] w Q ↔ (vkd w x0 = 19) ∧ (vkd w (vct w x0 2) = 7 ∧ (0 : Int) ≤ 0 ∧ 0 < vln w (vct w x0 2)) ∧ ((x4 = 0 → VW d 284 37 [(2, x0), (2, x1), (0, x2), (0, x3), (0, x4), v5, v6, v7] [(0, x4), (2, vct w (vct w x0 2) 0)] w Q) ∧ (¬ (x4 = 0) → VW d 284 41 [(2, x0), (2, x1), (0, x2), (0, x3), (0, x4), v5, v6, v7] [(0, x4), (2, vct w (vct w x0 2) 0)] w Q)) :=
  (VW_b 7 (F := fun n => if vkd w x0 = 19 then if vkd w (vct w x0 2) = 7 ∧ (0 : Int) ≤ 0 ∧ 0 < vln w (vct w x0 2) then (if x4 = 0 then vrun n d 284 37 [(2, x0), (2, x1), (0, x2), (0, x3), (0, x4), v5, v6, v7] [(0, x4), (2, vct w (vct w x0 2) 0)] w else vrun n d 284 41 [(2, x0), (2, x1), (0, x2), (0, x3), (0, x4), v5, v6, v7] [(0, x4), (2, vct w (vct w x0 2) 0)] w) else none else none) (fun _ => rfl)).trans (EX_if.trans (and_congr Iff.rfl (EX_if.trans (and_congr Iff.rfl (EX_br.trans (and_congr (imp_congr Iff.rfl Iff.rfl) (imp_congr Iff.rfl Iff.rfl)))))))
set_option maxRecDepth 100000 in
theorem b284_37 {d : Nat} {w : vW} {x0 x1 x2 x3 x4 y0 y1 : Int} {v5 v6 v7 : vV} {Q : Int → vW → Prop} : VW d 284 37 [(2, x0), (2, x1), (0, x2), (0, x3), (0, x4), v5, v6, v7] [(0, y1), (2, y0)] w Q ↔ VW d 284 42 [(2, x0), (2, x1), (0, x2), (0, x3), (0, x4), v5, v6, v7] [(1, 1), (0, y1), (2, y0)] w Q :=
  (VW_b 2 (F := fun n => vrun n d 284 42 [(2, x0), (2, x1), (0, x2), (0, x3), (0, x4), v5, v6, v7] [(1, 1), (0, y1), (2, y0)] w) (fun _ => rfl)).trans (Iff.rfl)
set_option maxRecDepth 100000 in
theorem b284_41 {d : Nat} {w : vW} {x0 x1 x2 x3 x4 y0 y1 : Int} {v5 v6 v7 : vV} {Q : Int → vW → Prop} : VW d 284 41 [(2, x0), (2, x1), (0, x2), (0, x3), (0, x4), v5, v6, v7] [(0, y1), (2, y0)] w Q ↔ VW d 284 42 [(2, x0), (2, x1), (0, x2), (0, x3), (0, x4), v5, v6, v7] [(1, 0), (0, y1), (2, y0)] w Q :=
  (VW_b 1 (F := fun n => vrun n d 284 42 [(2, x0), (2, x1), (0, x2), (0, x3), (0, x4), v5, v6, v7] [(1, 0), (0, y1), (2, y0)] w) (fun _ => rfl)).trans (Iff.rfl)
set_option maxRecDepth 100000 in
theorem b284_42 {d : Nat} {w : vW} {x0 x1 x2 x3 x4 y0 y1 y2 : Int} {v5 v6 v7 : vV} {Q : Int → vW → Prop} : VW d 284 42 [(2, x0), (2, x1), (0, x2), (0, x3), (0, x4), v5, v6, v7] [(1, y2), (0, y1), (2, y0)] w Q ↔ (vkd w y0 = 2 ∧ (0 : Int) ≤ y1 ∧ y1 < vln w y0) ∧ VW d 284 43 [(2, x0), (2, x1), (0, x2), (0, x3), (0, x4), v5, v6, v7] [] (vsv w y0 y1 y2) Q :=
  (VW_b 1 (F := fun n => if vkd w y0 = 2 ∧ (0 : Int) ≤ y1 ∧ y1 < vln w y0 then vrun n d 284 43 [(2, x0), (2, x1), (0, x2), (0, x3), (0, x4), v5, v6, v7] [] (vsv w y0 y1 y2) else none) (fun _ => rfl)).trans (EX_if.trans (and_congr Iff.rfl (Iff.rfl)))
set_option maxRecDepth 100000 in
theorem b284_43 {d : Nat} {w : vW} {x0 x1 x2 x3 x4 : Int} {v5 v6 v7 : vV} {Q : Int → vW → Prop} : VW d 284 43 [(2, x0), (2, x1), (0, x2), (0, x3), (0, x4), v5, v6, v7] [] w Q ↔ VW d 284 46 [(2, x0), (2, x1), (0, x2), (0, x3), (0, x4), (0, 0), v6, v7] [] w Q :=
  (VW_b 2 (F := fun n => vrun n d 284 46 [(2, x0), (2, x1), (0, x2), (0, x3), (0, x4), (0, 0), v6, v7] [] w) (fun _ => rfl)).trans (Iff.rfl)
set_option maxRecDepth 100000 in
theorem b284_46 {d : Nat} {w : vW} {x0 x1 x2 x3 x4 x5 : Int} {v6 v7 : vV} {Q : Int → vW → Prop} : VW d 284 46 [(2, x0), (2, x1), (0, x2), (0, x3), (0, x4), (0, x5), v6, v7] [] w Q ↔ ((x5 < 8 → VW d 284 53 [(2, x0), (2, x1), (0, x2), (0, x3), (0, x4), (0, x5), v6, v7] [] w Q) ∧ (¬ (x5 < 8) → VW d 284 108 [(2, x0), (2, x1), (0, x2), (0, x3), (0, x4), (0, x5), v6, v7] [] w Q)) :=
  (VW_b 3 (F := fun n => (if x5 < 8 then vrun n d 284 53 [(2, x0), (2, x1), (0, x2), (0, x3), (0, x4), (0, x5), v6, v7] [] w else vrun n d 284 108 [(2, x0), (2, x1), (0, x2), (0, x3), (0, x4), (0, x5), v6, v7] [] w)) (fun _ => rfl)).trans (EX_br.trans (and_congr (imp_congr Iff.rfl Iff.rfl) (imp_congr Iff.rfl Iff.rfl)))
set_option maxRecDepth 100000 in
theorem b284_53 {d : Nat} {w : vW} {x0 x1 x2 x3 x4 x5 : Int} {v6 v7 : vV} {Q : Int → vW → Prop} : VW d 284 53 [(2, x0), (2, x1), (0, x2), (0, x3), (0, x4), (0, x5), v6, v7] [] w Q ↔ VC d 274 [(0, 1), (1, (w32 (x5 + 1)))] w (fun r w1 => VW d 284 62 [(2, x0), (2, x1), (0, x2), (0, x3), (0, x4), (0, x5), v6, v7] [(1, r)] w1 Q) :=
  (VW_b 6 (F := fun n => vclr (vrun n) d 284 62 274 2 1 [(2, x0), (2, x1), (0, x2), (0, x3), (0, x4), (0, x5), v6, v7] [(1, (w32 (x5 + 1))), (0, 1)] w) (fun _ => rfl)).trans (EX_call rfl)
set_option maxRecDepth 100000 in
theorem b284_62 {d : Nat} {w : vW} {x0 x1 x2 x3 x4 x5 y0 : Int} {v6 v7 : vV} {Q : Int → vW → Prop} : VW d 284 62 [(2, x0), (2, x1), (0, x2), (0, x3), (0, x4), (0, x5), v6, v7] [(1, y0)] w Q ↔ (vkd w x0 = 19) ∧ (vkd w (vct w x0 1) = 6 ∧ (0 : Int) ≤ x4 ∧ x4 < vln w (vct w x0 1)) ∧ (vkd w x0 = 19) ∧ (vkd w (vct w x0 0) = 2 ∧ (0 : Int) ≤ x4 ∧ x4 < vln w (vct w x0 0)) ∧ (vkd w x0 = 19) ∧ (vkd w (vct w x0 0) = 2 ∧ (0 : Int) ≤ x4 ∧ x4 < vln w (vct w x0 0)) ∧ VC d 273 [(1, vct w (vct w x0 0) x4)] w (fun r w1 => VW d 284 92 [(2, x0), (2, x1), (0, x2), (0, x3), (0, x4), (0, x5), (1, y0), (9, 0)] [(0, r), (1, vct w (vct w x0 0) x4), (2, x1), (2, x0), (0, x5), (2, vct w (vct w x0 1) x4)] w1 Q) :=
  (VW_b 17 (F := fun n => if vkd w x0 = 19 then if vkd w (vct w x0 1) = 6 ∧ (0 : Int) ≤ x4 ∧ x4 < vln w (vct w x0 1) then if vkd w x0 = 19 then if vkd w (vct w x0 0) = 2 ∧ (0 : Int) ≤ x4 ∧ x4 < vln w (vct w x0 0) then if vkd w x0 = 19 then if vkd w (vct w x0 0) = 2 ∧ (0 : Int) ≤ x4 ∧ x4 < vln w (vct w x0 0) then vclr (vrun n) d 284 92 273 1 0 [(2, x0), (2, x1), (0, x2), (0, x3), (0, x4), (0, x5), (1, y0), (9, 0)] [(1, vct w (vct w x0 0) x4), (1, vct w (vct w x0 0) x4), (2, x1), (2, x0), (0, x5), (2, vct w (vct w x0 1) x4)] w else none else none else none else none else none else none) (fun _ => rfl)).trans (EX_if.trans (and_congr Iff.rfl (EX_if.trans (and_congr Iff.rfl (EX_if.trans (and_congr Iff.rfl (EX_if.trans (and_congr Iff.rfl (EX_if.trans (and_congr Iff.rfl (EX_if.trans (and_congr Iff.rfl (EX_call rfl)))))))))))))
set_option maxRecDepth 100000 in
theorem b284_92 {d : Nat} {w : vW} {x0 x1 x2 x3 x4 x5 x6 y0 y1 y2 y3 y4 y5 : Int} {Q : Int → vW → Prop} : VW d 284 92 [(2, x0), (2, x1), (0, x2), (0, x3), (0, x4), (0, x5), (1, x6), (9, 0)] [(0, y5), (1, y4), (2, y3), (2, y2), (0, y1), (2, y0)] w Q ↔ VC d 278 [(1, y4), (0, y5), (0, 0), (1, x6)] w (fun r w1 => VW d 284 98 [(2, x0), (2, x1), (0, x2), (0, x3), (0, x4), (0, x5), (1, x6), (9, 0)] [(1, r), (2, y3), (2, y2), (0, y1), (2, y0)] w1 Q) :=
  (VW_b 3 (F := fun n => vclr (vrun n) d 284 98 278 4 1 [(2, x0), (2, x1), (0, x2), (0, x3), (0, x4), (0, x5), (1, x6), (9, 0)] [(1, x6), (0, 0), (0, y5), (1, y4), (2, y3), (2, y2), (0, y1), (2, y0)] w) (fun _ => rfl)).trans (EX_call rfl)
set_option maxRecDepth 100000 in
theorem b284_98 {d : Nat} {w : vW} {x0 x1 x2 x3 x4 x5 x6 y0 y1 y2 y3 y4 : Int} {Q : Int → vW → Prop} : VW d 284 98 [(2, x0), (2, x1), (0, x2), (0, x3), (0, x4), (0, x5), (1, x6), (9, 0)] [(1, y4), (2, y3), (2, y2), (0, y1), (2, y0)] w Q ↔ (vkd w y2 = 19) ∧ VC d 288 [(2, y2), (2, y3), (1, y4)] w (fun r w1 => VW d 284 101 [(2, x0), (2, x1), (0, x2), (0, x3), (0, x4), (0, x5), (1, x6), (9, 0)] [(0, r), (0, y1), (2, y0)] w1 Q) :=
  (VW_b 1 (F := fun n => if vkd w y2 = 19 then vclr (vrun n) d 284 101 288 3 0 [(2, x0), (2, x1), (0, x2), (0, x3), (0, x4), (0, x5), (1, x6), (9, 0)] [(1, y4), (2, y3), (2, y2), (0, y1), (2, y0)] w else none) (fun _ => rfl)).trans (EX_if.trans (and_congr Iff.rfl (EX_call rfl)))
set_option maxRecDepth 100000 in
theorem b284_101 {d : Nat} {w : vW} {x0 x1 x2 x3 x4 x5 x6 y0 y1 y2 : Int} {Q : Int → vW → Prop} : VW d 284 101 [(2, x0), (2, x1), (0, x2), (0, x3), (0, x4), (0, x5), (1, x6), (9, 0)] [(0, y2), (0, y1), (2, y0)] w Q ↔ (vkd w y0 = 1 ∧ (0 : Int) ≤ y1 ∧ y1 < vln w y0) ∧ VW d 284 102 [(2, x0), (2, x1), (0, x2), (0, x3), (0, x4), (0, x5), (1, x6), (9, 0)] [] (vsv w y0 y1 y2) Q :=
  (VW_b 1 (F := fun n => if vkd w y0 = 1 ∧ (0 : Int) ≤ y1 ∧ y1 < vln w y0 then vrun n d 284 102 [(2, x0), (2, x1), (0, x2), (0, x3), (0, x4), (0, x5), (1, x6), (9, 0)] [] (vsv w y0 y1 y2) else none) (fun _ => rfl)).trans (EX_if.trans (and_congr Iff.rfl (Iff.rfl)))
set_option maxRecDepth 100000 in
theorem b284_102 {d : Nat} {w : vW} {x0 x1 x2 x3 x4 x5 x6 : Int} {Q : Int → vW → Prop} : VW d 284 102 [(2, x0), (2, x1), (0, x2), (0, x3), (0, x4), (0, x5), (1, x6), (9, 0)] [] w Q ↔ VW d 284 46 [(2, x0), (2, x1), (0, x2), (0, x3), (0, x4), (0, w32 (x5 + 1)), (1, x6), (9, 0)] [] w Q :=
  (VW_b 2 (F := fun n => vrun n d 284 46 [(2, x0), (2, x1), (0, x2), (0, x3), (0, x4), (0, w32 (x5 + 1)), (1, x6), (9, 0)] [] w) (fun _ => rfl)).trans (Iff.rfl)
set_option maxRecDepth 100000 in
theorem b284_108 {d : Nat} {w : vW} {x0 x1 x2 x3 x4 x5 : Int} {v6 v7 : vV} {Q : Int → vW → Prop} : VW d 284 108 [(2, x0), (2, x1), (0, x2), (0, x3), (0, x4), (0, x5), v6, v7] [] w Q ↔ VW d 284 8 [(2, x0), (2, x1), (0, x2), (0, x3), (0, w32 (x4 + 1)), (0, x5), v6, v7] [] w Q :=
  (VW_b 2 (F := fun n => vrun n d 284 8 [(2, x0), (2, x1), (0, x2), (0, x3), (0, w32 (x4 + 1)), (0, x5), v6, v7] [] w) (fun _ => rfl)).trans (Iff.rfl)
set_option maxRecDepth 100000 in
theorem b284_114 {d : Nat} {w : vW} {x0 x1 x2 x3 x4 : Int} {v5 v6 v7 : vV} {Q : Int → vW → Prop} : VW d 284 114 [(2, x0), (2, x1), (0, x2), (0, x3), (0, x4), v5, v6, v7] [] w Q ↔ VW d 284 117 [(2, x0), (2, x1), (0, x2), (0, x3), (0, 0), v5, v6, v7] [] w Q :=
  (VW_b 2 (F := fun n => vrun n d 284 117 [(2, x0), (2, x1), (0, x2), (0, x3), (0, 0), v5, v6, v7] [] w) (fun _ => rfl)).trans (Iff.rfl)
set_option maxRecDepth 100000 in
theorem b284_117 {d : Nat} {w : vW} {x0 x1 x2 x3 x4 : Int} {v5 v6 v7 : vV} {Q : Int → vW → Prop} : VW d 284 117 [(2, x0), (2, x1), (0, x2), (0, x3), (0, x4), v5, v6, v7] [] w Q ↔ ((x4 < x2 → VW d 284 123 [(2, x0), (2, x1), (0, x2), (0, x3), (0, x4), v5, v6, v7] [] w Q) ∧ (¬ (x4 < x2) → VW d 284 159 [(2, x0), (2, x1), (0, x2), (0, x3), (0, x4), v5, v6, v7] [] w Q)) :=
  (VW_b 3 (F := fun n => (if x4 < x2 then vrun n d 284 123 [(2, x0), (2, x1), (0, x2), (0, x3), (0, x4), v5, v6, v7] [] w else vrun n d 284 159 [(2, x0), (2, x1), (0, x2), (0, x3), (0, x4), v5, v6, v7] [] w)) (fun _ => rfl)).trans (EX_br.trans (and_congr (imp_congr Iff.rfl Iff.rfl) (imp_congr Iff.rfl Iff.rfl)))
set_option maxRecDepth 100000 in
theorem b284_123 {d : Nat} {w : vW} {x0 x1 x2 x3 x4 : Int} {v5 v6 v7 : vV} {Q : Int → vW → Prop} : VW d 284 123 [(2, x0), (2, x1), (0, x2), (0, x3), (0, x4), v5, v6, v7] [] w Q ↔ (vkd w x0 = 19) ∧ (vkd w (vct w x0 2) = 7 ∧ (0 : Int) ≤ (i_and x4 1) ∧ (i_and x4 1) < vln w (vct w x0 2)) ∧ (vkd w x0 = 19) ∧ (vkd w (vct w x0 2) = 7 ∧ (0 : Int) ≤ (i_and (w32 (x4 + 1)) 1) ∧ (i_and (w32 (x4 + 1)) 1) < vln w (vct w x0 2)) ∧ (vkd w x0 = 19) ∧ VC d 289 [(2, x0), (2, vct w (vct w x0 2) (i_and x4 1)), (2, vct w (vct w x0 2) (i_and (w32 (x4 + 1)) 1)), (0, min x3 8)] w (fun _ w1 => VW d 284 153 [(2, x0), (2, x1), (0, x2), (0, x3), (0, x4), v5, v6, v7] [] w1 Q) :=
  (VW_b 19 (F := fun n => if vkd w x0 = 19 then if vkd w (vct w x0 2) = 7 ∧ (0 : Int) ≤ (i_and x4 1) ∧ (i_and x4 1) < vln w (vct w x0 2) then if vkd w x0 = 19 then if vkd w (vct w x0 2) = 7 ∧ (0 : Int) ≤ (i_and (w32 (x4 + 1)) 1) ∧ (i_and (w32 (x4 + 1)) 1) < vln w (vct w x0 2) then if vkd w x0 = 19 then vclr (vrun n) d 284 153 289 4 9 [(2, x0), (2, x1), (0, x2), (0, x3), (0, x4), v5, v6, v7] [(0, min x3 8), (2, vct w (vct w x0 2) (i_and (w32 (x4 + 1)) 1)), (2, vct w (vct w x0 2) (i_and x4 1)), (2, x0)] w else none else none else none else none else none) (fun _ => rfl)).trans (EX_if.trans (and_congr Iff.rfl (EX_if.trans (and_congr Iff.rfl (EX_if.trans (and_congr Iff.rfl (EX_if.trans (and_congr Iff.rfl (EX_if.trans (and_congr Iff.rfl (EX_call rfl)))))))))))
set_option maxRecDepth 100000 in
theorem b284_153 {d : Nat} {w : vW} {x0 x1 x2 x3 x4 : Int} {v5 v6 v7 : vV} {Q : Int → vW → Prop} : VW d 284 153 [(2, x0), (2, x1), (0, x2), (0, x3), (0, x4), v5, v6, v7] [] w Q ↔ VW d 284 117 [(2, x0), (2, x1), (0, x2), (0, x3), (0, w32 (x4 + 1)), v5, v6, v7] [] w Q :=
  (VW_b 2 (F := fun n => vrun n d 284 117 [(2, x0), (2, x1), (0, x2), (0, x3), (0, w32 (x4 + 1)), v5, v6, v7] [] w) (fun _ => rfl)).trans (Iff.rfl)
set_option maxRecDepth 100000 in
theorem b284_159 {d : Nat} {w : vW} {x0 x1 x2 x3 x4 : Int} {v5 v6 v7 : vV} {Q : Int → vW → Prop} : VW d 284 159 [(2, x0), (2, x1), (0, x2), (0, x3), (0, x4), v5, v6, v7] [] w Q ↔ VW d 284 165 [(2, x0), (2, x1), (0, x2), (0, x3), (1, 0), (9, 0), (0, 0), v7] [] w Q :=
  (VW_b 4 (F := fun n => vrun n d 284 165 [(2, x0), (2, x1), (0, x2), (0, x3), (1, 0), (9, 0), (0, 0), v7] [] w) (fun _ => rfl)).trans (Iff.rfl)
set_option maxRecDepth 100000 in
theorem b284_165 {d : Nat} {w : vW} {x0 x1 x2 x3 x4 x6 : Int} {v7 : vV} {Q : Int → vW → Prop} : VW d 284 165 [(2, x0), (2, x1), (0, x2), (0, x3), (1, x4), (9, 0), (0, x6), v7] [] w Q ↔ (vkd w x0 = 19) ∧ ((x6 < (vct w x0 3) → VW d 284 174 [(2, x0), (2, x1), (0, x2), (0, x3), (1, x4), (9, 0), (0, x6), v7] [] w Q) ∧ (¬ (x6 < (vct w x0 3)) → VW d 284 203 [(2, x0), (2, x1), (0, x2), (0, x3), (1, x4), (9, 0), (0, x6), v7] [] w Q)) :=
  (VW_b 4 (F := fun n => if vkd w x0 = 19 then (if x6 < (vct w x0 3) then vrun n d 284 174 [(2, x0), (2, x1), (0, x2), (0, x3), (1, x4), (9, 0), (0, x6), v7] [] w else vrun n d 284 203 [(2, x0), (2, x1), (0, x2), (0, x3), (1, x4), (9, 0), (0, x6), v7] [] w) else none) (fun _ => rfl)).trans (EX_if.trans (and_congr Iff.rfl (EX_br.trans (and_congr (imp_congr Iff.rfl Iff.rfl) (imp_congr Iff.rfl Iff.rfl)))))
set_option maxRecDepth 100000 in
theorem b284_174 {d : Nat} {w : vW} {x0 x1 x2 x3 x4 x6 : Int} {v7 : vV} {Q : Int → vW → Prop} : VW d 284 174 [(2, x0), (2, x1), (0, x2), (0, x3), (1, x4), (9, 0), (0, x6), v7] [] w Q ↔ ((x6 < 49 → VW d 284 181 [(2, x0), (2, x1), (0, x2), (0, x3), (1, x4), (9, 0), (0, x6), v7] [] w Q) ∧ (¬ (x6 < 49) → VW d 284 203 [(2, x0), (2, x1), (0, x2), (0, x3), (1, x4), (9, 0), (0, x6), v7] [] w Q)) :=
  (VW_b 3 (F := fun n => (if x6 < 49 then vrun n d 284 181 [(2, x0), (2, x1), (0, x2), (0, x3), (1, x4), (9, 0), (0, x6), v7] [] w else vrun n d 284 203 [(2, x0), (2, x1), (0, x2), (0, x3), (1, x4), (9, 0), (0, x6), v7] [] w)) (fun _ => rfl)).trans (EX_br.trans (and_congr (imp_congr Iff.rfl Iff.rfl) (imp_congr Iff.rfl Iff.rfl)))
set_option maxRecDepth 100000 in
theorem b284_181 {d : Nat} {w : vW} {x0 x1 x2 x3 x4 x6 : Int} {v7 : vV} {Q : Int → vW → Prop} : VW d 284 181 [(2, x0), (2, x1), (0, x2), (0, x3), (1, x4), (9, 0), (0, x6), v7] [] w Q ↔ (vkd w x0 = 19) ∧ (vkd w (vct w x0 2) = 7 ∧ (0 : Int) ≤ (i_and x2 1) ∧ (i_and x2 1) < vln w (vct w x0 2)) ∧ (vkd w (vct w (vct w x0 2) (i_and x2 1)) = 2 ∧ (0 : Int) ≤ x6 ∧ x6 < vln w (vct w (vct w x0 2) (i_and x2 1))) ∧ VW d 284 197 [(2, x0), (2, x1), (0, x2), (0, x3), (1, w64 (x4 + (vct w (vct w (vct w x0 2) (i_and x2 1)) x6))), (9, 0), (0, x6), v7] [] w Q :=
  (VW_b 11 (F := fun n => if vkd w x0 = 19 then if vkd w (vct w x0 2) = 7 ∧ (0 : Int) ≤ (i_and x2 1) ∧ (i_and x2 1) < vln w (vct w x0 2) then if vkd w (vct w (vct w x0 2) (i_and x2 1)) = 2 ∧ (0 : Int) ≤ x6 ∧ x6 < vln w (vct w (vct w x0 2) (i_and x2 1)) then vrun n d 284 197 [(2, x0), (2, x1), (0, x2), (0, x3), (1, w64 (x4 + (vct w (vct w (vct w x0 2) (i_and x2 1)) x6))), (9, 0), (0, x6), v7] [] w else none else none else none) (fun _ => rfl)).trans (EX_if.trans (and_congr Iff.rfl (EX_if.trans (and_congr Iff.rfl (EX_if.trans (and_congr Iff.rfl (Iff.rfl)))))))
set_option maxRecDepth 100000 in
theorem b284_197 {d : Nat} {w : vW} {x0 x1 x2 x3 x4 x6 : Int} {v7 : vV} {Q : Int → vW → Prop} : VW d 284 197 [(2, x0), (2, x1), (0, x2), (0, x3), (1, x4), (9, 0), (0, x6), v7] [] w Q ↔ VW d 284 165 [(2, x0), (2, x1), (0, x2), (0, x3), (1, x4), (9, 0), (0, w32 (x6 + 1)), v7] [] w Q :=
  (VW_b 2 (F := fun n => vrun n d 284 165 [(2, x0), (2, x1), (0, x2), (0, x3), (1, x4), (9, 0), (0, w32 (x6 + 1)), v7] [] w) (fun _ => rfl)).trans (Iff.rfl)
set_option maxRecDepth 100000 in
theorem b284_203 {d : Nat} {w : vW} {x0 x1 x2 x3 x4 x6 : Int} {v7 : vV} {Q : Int → vW → Prop} : VW d 284 203 [(2, x0), (2, x1), (0, x2), (0, x3), (1, x4), (9, 0), (0, x6), v7] [] w Q ↔ Q x4 w :=
  (VW_b 2 (F := fun n => some (0, x4, w)) (fun _ => rfl)).trans (EX_ret0)
/-! 285: StrikeWhatCancels$Still.collect(LStrikeWhatCancels$Rules;)V -/
set_option maxRecDepth 100000 in
theorem b285_0 {d : Nat} {w : vW} {x0 x1 : Int} {Q : Int → vW → Prop} : VW d 285 0 [(2, x0), (2, x1), (9, 0), (9, 0), (9, 0), (9, 0)] [] w Q ↔ (vkd w x0 = 19) ∧ VW d 285 5 [(2, x0), (2, x1), (9, 0), (9, 0), (9, 0), (9, 0)] [] (vsv w x0 3 0) Q :=
  (VW_b 3 (F := fun n => if vkd w x0 = 19 then vrun n d 285 5 [(2, x0), (2, x1), (9, 0), (9, 0), (9, 0), (9, 0)] [] (vsv w x0 3 0) else none) (fun _ => rfl)).trans (EX_if.trans (and_congr Iff.rfl (Iff.rfl)))
set_option maxRecDepth 100000 in
theorem b285_5 {d : Nat} {w : vW} {x0 x1 : Int} {Q : Int → vW → Prop} : VW d 285 5 [(2, x0), (2, x1), (9, 0), (9, 0), (9, 0), (9, 0)] [] w Q ↔ (vkd w x0 = 19) ∧ VC d 286 [(2, x0), (1, 0)] w (fun _ w1 => VW d 285 10 [(2, x0), (2, x1), (9, 0), (9, 0), (9, 0), (9, 0)] [] w1 Q) :=
  (VW_b 3 (F := fun n => if vkd w x0 = 19 then vclr (vrun n) d 285 10 286 2 9 [(2, x0), (2, x1), (9, 0), (9, 0), (9, 0), (9, 0)] [(1, 0), (2, x0)] w else none) (fun _ => rfl)).trans (EX_if.trans (and_congr Iff.rfl (EX_call rfl)))
set_option maxRecDepth 100000 in
theorem b285_10 {d : Nat} {w : vW} {x0 x1 : Int} {Q : Int → vW → Prop} : VW d 285 10 [(2, x0), (2, x1), (9, 0), (9, 0), (9, 0), (9, 0)] [] w Q ↔ VW d 285 12 [(2, x0), (2, x1), (0, 0), (9, 0), (9, 0), (9, 0)] [] w Q :=
  (VW_b 2 (F := fun n => vrun n d 285 12 [(2, x0), (2, x1), (0, 0), (9, 0), (9, 0), (9, 0)] [] w) (fun _ => rfl)).trans (Iff.rfl)
set_option maxRecDepth 100000 in
theorem b285_12 {d : Nat} {w : vW} {x0 x1 x2 : Int} {v3 v4 v5 : vV} {Q : Int → vW → Prop} : VW d 285 12 [(2, x0), (2, x1), (0, x2), v3, v4, v5] [] w Q ↔ (vkd w x1 = 18) ∧ ((x2 < (vct w x1 3) → VW d 285 20 [(2, x0), (2, x1), (0, x2), v3, v4, v5] [] w Q) ∧ (¬ (x2 < (vct w x1 3)) → VW d 285 61 [(2, x0), (2, x1), (0, x2), v3, v4, v5] [] w Q)) :=
  (VW_b 4 (F := fun n => if vkd w x1 = 18 then (if x2 < (vct w x1 3) then vrun n d 285 20 [(2, x0), (2, x1), (0, x2), v3, v4, v5] [] w else vrun n d 285 61 [(2, x0), (2, x1), (0, x2), v3, v4, v5] [] w) else none) (fun _ => rfl)).trans (EX_if.trans (and_congr Iff.rfl (EX_br.trans (and_congr (imp_congr Iff.rfl Iff.rfl) (imp_congr Iff.rfl Iff.rfl)))))
set_option maxRecDepth 100000 in
theorem b285_20 {d : Nat} {w : vW} {x0 x1 x2 : Int} {v3 v4 v5 : vV} {Q : Int → vW → Prop} : VW d 285 20 [(2, x0), (2, x1), (0, x2), v3, v4, v5] [] w Q ↔ (vkd w x1 = 18) ∧ VC d 252 [(2, x1), (0, x2)] w (fun r w1 => VW d 285 25 [(2, x0), (2, x1), (0, x2), v3, v4, v5] [(1, r)] w1 Q) :=
  (VW_b 3 (F := fun n => if vkd w x1 = 18 then vclr (vrun n) d 285 25 252 2 1 [(2, x0), (2, x1), (0, x2), v3, v4, v5] [(0, x2), (2, x1)] w else none) (fun _ => rfl)).trans (EX_if.trans (and_congr Iff.rfl (EX_call rfl)))
set_option maxRecDepth 100000 in
theorem b285_25 {d : Nat} {w : vW} {x0 x1 x2 y0 : Int} {v3 v4 v5 : vV} {Q : Int → vW → Prop} : VW d 285 25 [(2, x0), (2, x1), (0, x2), v3, v4, v5] [(1, y0)] w Q ↔ VW d 285 29 [(2, x0), (2, x1), (0, x2), (1, y0), (9, 0), (0, 1)] [] w Q :=
  (VW_b 3 (F := fun n => vrun n d 285 29 [(2, x0), (2, x1), (0, x2), (1, y0), (9, 0), (0, 1)] [] w) (fun _ => rfl)).trans (Iff.rfl)
set_option maxRecDepth 100000 in
theorem b285_29 {d : Nat} {w : vW} {x0 x1 x2 x3 x5 : Int} {Q : Int → vW → Prop} : VW d 285 29 [(2, x0), (2, x1), (0, x2), (1, x3), (9, 0), (0, x5)] [] w Q ↔ VC d 273 [(1, x3)] w (fun r w1 => VW d 285 35 [(2, x0), (2, x1), (0, x2), (1, x3), (9, 0), (0, x5)] [(0, r), (0, x5)] w1 Q) :=
  (VW_b 3 (F := fun n => vclr (vrun n) d 285 35 273 1 0 [(2, x0), (2, x1), (0, x2), (1, x3), (9, 0), (0, x5)] [(1, x3), (0, x5)] w) (fun _ => rfl)).trans (EX_call rfl)
set_option maxRecDepth 100000 in
theorem b285_35 {d : Nat} {w : vW} {x0 x1 x2 x3 x5 y0 y1 : Int} {Q : Int → vW → Prop} : VW d 285 35 [(2, x0), (2, x1), (0, x2), (1, x3), (9, 0), (0, x5)] [(0, y1), (0, y0)] w Q ↔ ((y0 < y1 → VW d 285 38 [(2, x0), (2, x1), (0, x2), (1, x3), (9, 0), (0, x5)] [] w Q) ∧ (¬ (y0 < y1) → VW d 285 55 [(2, x0), (2, x1), (0, x2), (1, x3), (9, 0), (0, x5)] [] w Q)) :=
  (VW_b 1 (F := fun n => (if y0 < y1 then vrun n d 285 38 [(2, x0), (2, x1), (0, x2), (1, x3), (9, 0), (0, x5)] [] w else vrun n d 285 55 [(2, x0), (2, x1), (0, x2), (1, x3), (9, 0), (0, x5)] [] w)) (fun _ => rfl)).trans (EX_br.trans (and_congr (imp_congr Iff.rfl Iff.rfl) (imp_congr Iff.rfl Iff.rfl)))
set_option maxRecDepth 100000 in
theorem b285_38 {d : Nat} {w : vW} {x0 x1 x2 x3 x5 : Int} {Q : Int → vW → Prop} : VW d 285 38 [(2, x0), (2, x1), (0, x2), (1, x3), (9, 0), (0, x5)] [] w Q ↔ VC d 277 [(1, x3), (0, 0), (0, x5)] w (fun r w1 => VW d 285 46 [(2, x0), (2, x1), (0, x2), (1, x3), (9, 0), (0, x5)] [(1, r), (2, x0)] w1 Q) :=
  (VW_b 5 (F := fun n => vclr (vrun n) d 285 46 277 3 1 [(2, x0), (2, x1), (0, x2), (1, x3), (9, 0), (0, x5)] [(0, x5), (0, 0), (1, x3), (2, x0)] w) (fun _ => rfl)).trans (EX_call rfl)
set_option maxRecDepth 100000 in
theorem b285_46 {d : Nat} {w : vW} {x0 x1 x2 x3 x5 y0 y1 : Int} {Q : Int → vW → Prop} : VW d 285 46 [(2, x0), (2, x1), (0, x2), (1, x3), (9, 0), (0, x5)] [(1, y1), (2, y0)] w Q ↔ (vkd w y0 = 19) ∧ VC d 286 [(2, y0), (1, y1)] w (fun _ w1 => VW d 285 49 [(2, x0), (2, x1), (0, x2), (1, x3), (9, 0), (0, x5)] [] w1 Q) :=
  (VW_b 1 (F := fun n => if vkd w y0 = 19 then vclr (vrun n) d 285 49 286 2 9 [(2, x0), (2, x1), (0, x2), (1, x3), (9, 0), (0, x5)] [(1, y1), (2, y0)] w else none) (fun _ => rfl)).trans (EX_if.trans (and_congr Iff.rfl (EX_call rfl)))
set_option maxRecDepth 100000 in
theorem b285_49 {d : Nat} {w : vW} {x0 x1 x2 x3 x5 : Int} {Q : Int → vW → Prop} : VW d 285 49 [(2, x0), (2, x1), (0, x2), (1, x3), (9, 0), (0, x5)] [] w Q ↔ VW d 285 29 [(2, x0), (2, x1), (0, x2), (1, x3), (9, 0), (0, w32 (x5 + 1))] [] w Q :=
  (VW_b 2 (F := fun n => vrun n d 285 29 [(2, x0), (2, x1), (0, x2), (1, x3), (9, 0), (0, w32 (x5 + 1))] [] w) (fun _ => rfl)).trans (Iff.rfl)
set_option maxRecDepth 100000 in
theorem b285_55 {d : Nat} {w : vW} {x0 x1 x2 x3 x5 : Int} {Q : Int → vW → Prop} : VW d 285 55 [(2, x0), (2, x1), (0, x2), (1, x3), (9, 0), (0, x5)] [] w Q ↔ VW d 285 12 [(2, x0), (2, x1), (0, w32 (x2 + 1)), (1, x3), (9, 0), (0, x5)] [] w Q :=
  (VW_b 2 (F := fun n => vrun n d 285 12 [(2, x0), (2, x1), (0, w32 (x2 + 1)), (1, x3), (9, 0), (0, x5)] [] w) (fun _ => rfl)).trans (Iff.rfl)
set_option maxRecDepth 100000 in
theorem b285_61 {d : Nat} {w : vW} {x0 x1 x2 : Int} {v3 v4 v5 : vV} {Q : Int → vW → Prop} : VW d 285 61 [(2, x0), (2, x1), (0, x2), v3, v4, v5] [] w Q ↔ Q 0 w :=
  (VW_b 1 (F := fun n => some (0, 0, w)) (fun _ => rfl)).trans (EX_ret0)
/-! 286: StrikeWhatCancels$Still.add(J)V -/
set_option maxRecDepth 100000 in
theorem b286_0 {d : Nat} {w : vW} {x0 x1 : Int} {Q : Int → vW → Prop} : VW d 286 0 [(2, x0), (1, x1), (9, 0)] [] w Q ↔ (vkd w x0 = 19) ∧ VC d 287 [(2, x0), (1, x1)] w (fun r w1 => VW d 286 5 [(2, x0), (1, x1), (9, 0)] [(0, r)] w1 Q) :=
  (VW_b 3 (F := fun n => if vkd w x0 = 19 then vclr (vrun n) d 286 5 287 2 0 [(2, x0), (1, x1), (9, 0)] [(1, x1), (2, x0)] w else none) (fun _ => rfl)).trans (EX_if.trans (and_congr Iff.rfl (EX_call rfl)))
set_option maxRecDepth 100000 in
theorem b286_5 {d : Nat} {w : vW} {x0 x1 y0 : Int} {Q : Int → vW → Prop} : VW d 286 5 [(2, x0), (1, x1), (9, 0)] [(0, y0)] w Q ↔ ((y0 = (-1) → VW d 286 9 [(2, x0), (1, x1), (9, 0)] [] w Q) ∧ (¬ (y0 = (-1)) → VW d 286 38 [(2, x0), (1, x1), (9, 0)] [] w Q)) :=
  (VW_b 2 (F := fun n => (if y0 = (-1) then vrun n d 286 9 [(2, x0), (1, x1), (9, 0)] [] w else vrun n d 286 38 [(2, x0), (1, x1), (9, 0)] [] w)) (fun _ => rfl)).trans (EX_br.trans (and_congr (imp_congr Iff.rfl Iff.rfl) (imp_congr Iff.rfl Iff.rfl)))
set_option maxRecDepth 100000 in
theorem b286_9 {d : Nat} {w : vW} {x0 x1 : Int} {Q : Int → vW → Prop} : VW d 286 9 [(2, x0), (1, x1), (9, 0)] [] w Q ↔ (vkd w x0 = 19) ∧ (((vct w x0 3) < 49 → VW d 286 18 [(2, x0), (1, x1), (9, 0)] [] w Q) ∧ (¬ ((vct w x0 3) < 49) → VW d 286 38 [(2, x0), (1, x1), (9, 0)] [] w Q)) :=
  (VW_b 4 (F := fun n => if vkd w x0 = 19 then (if (vct w x0 3) < 49 then vrun n d 286 18 [(2, x0), (1, x1), (9, 0)] [] w else vrun n d 286 38 [(2, x0), (1, x1), (9, 0)] [] w) else none) (fun _ => rfl)).trans (EX_if.trans (and_congr Iff.rfl (EX_br.trans (and_congr (imp_congr Iff.rfl Iff.rfl) (imp_congr Iff.rfl Iff.rfl)))))
set_option maxRecDepth 100000 in
theorem b286_18 {d : Nat} {w : vW} {x0 x1 : Int} {Q : Int → vW → Prop} : VW d 286 18 [(2, x0), (1, x1), (9, 0)] [] w Q ↔ (vkd w x0 = 19) ∧ (vkd w x0 = 19) ∧ (vkd w (vct w x0 0) = 2 ∧ (0 : Int) ≤ (vct w x0 3) ∧ (vct w x0 3) < vln w (vct w x0 0)) ∧ VW d 286 28 [(2, x0), (1, x1), (9, 0)] [] (vsv w (vct w x0 0) (vct w x0 3) x1) Q :=
  (VW_b 6 (F := fun n => if vkd w x0 = 19 then if vkd w x0 = 19 then if vkd w (vct w x0 0) = 2 ∧ (0 : Int) ≤ (vct w x0 3) ∧ (vct w x0 3) < vln w (vct w x0 0) then vrun n d 286 28 [(2, x0), (1, x1), (9, 0)] [] (vsv w (vct w x0 0) (vct w x0 3) x1) else none else none else none) (fun _ => rfl)).trans (EX_if.trans (and_congr Iff.rfl (EX_if.trans (and_congr Iff.rfl (EX_if.trans (and_congr Iff.rfl (Iff.rfl)))))))
set_option maxRecDepth 100000 in
theorem b286_28 {d : Nat} {w : vW} {x0 x1 : Int} {Q : Int → vW → Prop} : VW d 286 28 [(2, x0), (1, x1), (9, 0)] [] w Q ↔ (vkd w x0 = 19) ∧ (vkd w x0 = 19) ∧ VW d 286 38 [(2, x0), (1, x1), (9, 0)] [] (vsv w x0 3 (w32 ((vct w x0 3) + 1))) Q :=
  (VW_b 6 (F := fun n => if vkd w x0 = 19 then if vkd w x0 = 19 then vrun n d 286 38 [(2, x0), (1, x1), (9, 0)] [] (vsv w x0 3 (w32 ((vct w x0 3) + 1))) else none else none) (fun _ => rfl)).trans (EX_if.trans (and_congr Iff.rfl (EX_if.trans (and_congr Iff.rfl (Iff.rfl)))))
set_option maxRecDepth 100000 in
theorem b286_38 {d : Nat} {w : vW} {x0 x1 : Int} {Q : Int → vW → Prop} : VW d 286 38 [(2, x0), (1, x1), (9, 0)] [] w Q ↔ Q 0 w :=
  (VW_b 1 (F := fun n => some (0, 0, w)) (fun _ => rfl)).trans (EX_ret0)
/-! 287: StrikeWhatCancels$Still.find(J)I -/
set_option maxRecDepth 100000 in
theorem b287_0 {d : Nat} {w : vW} {x0 x1 : Int} {Q : Int → vW → Prop} : VW d 287 0 [(2, x0), (1, x1), (9, 0), (9, 0)] [] w Q ↔ VW d 287 2 [(2, x0), (1, x1), (9, 0), (0, 0)] [] w Q :=
  (VW_b 2 (F := fun n => vrun n d 287 2 [(2, x0), (1, x1), (9, 0), (0, 0)] [] w) (fun _ => rfl)).trans (Iff.rfl)
set_option maxRecDepth 100000 in
theorem b287_2 {d : Nat} {w : vW} {x0 x1 x3 : Int} {Q : Int → vW → Prop} : VW d 287 2 [(2, x0), (1, x1), (9, 0), (0, x3)] [] w Q ↔ (vkd w x0 = 19) ∧ ((x3 < (vct w x0 3) → VW d 287 10 [(2, x0), (1, x1), (9, 0), (0, x3)] [] w Q) ∧ (¬ (x3 < (vct w x0 3)) → VW d 287 35 [(2, x0), (1, x1), (9, 0), (0, x3)] [] w Q)) :=
  (VW_b 4 (F := fun n => if vkd w x0 = 19 then (if x3 < (vct w x0 3) then vrun n d 287 10 [(2, x0), (1, x1), (9, 0), (0, x3)] [] w else vrun n d 287 35 [(2, x0), (1, x1), (9, 0), (0, x3)] [] w) else none) (fun _ => rfl)).trans (EX_if.trans (and_congr Iff.rfl (EX_br.trans (and_congr (imp_congr Iff.rfl Iff.rfl) (imp_congr Iff.rfl Iff.rfl)))))
set_option maxRecDepth 100000 in
theorem b287_10 {d : Nat} {w : vW} {x0 x1 x3 : Int} {Q : Int → vW → Prop} : VW d 287 10 [(2, x0), (1, x1), (9, 0), (0, x3)] [] w Q ↔ ((x3 < 49 → VW d 287 16 [(2, x0), (1, x1), (9, 0), (0, x3)] [] w Q) ∧ (¬ (x3 < 49) → VW d 287 35 [(2, x0), (1, x1), (9, 0), (0, x3)] [] w Q)) :=
  (VW_b 3 (F := fun n => (if x3 < 49 then vrun n d 287 16 [(2, x0), (1, x1), (9, 0), (0, x3)] [] w else vrun n d 287 35 [(2, x0), (1, x1), (9, 0), (0, x3)] [] w)) (fun _ => rfl)).trans (EX_br.trans (and_congr (imp_congr Iff.rfl Iff.rfl) (imp_congr Iff.rfl Iff.rfl)))
set_option maxRecDepth 100000 in
theorem b287_16 {d : Nat} {w : vW} {x0 x1 x3 : Int} {Q : Int → vW → Prop} : VW d 287 16 [(2, x0), (1, x1), (9, 0), (0, x3)] [] w Q ↔ (vkd w x0 = 19) ∧ (vkd w (vct w x0 0) = 2 ∧ (0 : Int) ≤ x3 ∧ x3 < vln w (vct w x0 0)) ∧ (((vlc (vct w (vct w x0 0) x3) x1) = 0 → VW d 287 27 [(2, x0), (1, x1), (9, 0), (0, x3)] [] w Q) ∧ (¬ ((vlc (vct w (vct w x0 0) x3) x1) = 0) → VW d 287 29 [(2, x0), (1, x1), (9, 0), (0, x3)] [] w Q)) :=
  (VW_b 7 (F := fun n => if vkd w x0 = 19 then if vkd w (vct w x0 0) = 2 ∧ (0 : Int) ≤ x3 ∧ x3 < vln w (vct w x0 0) then (if (vlc (vct w (vct w x0 0) x3) x1) = 0 then vrun n d 287 27 [(2, x0), (1, x1), (9, 0), (0, x3)] [] w else vrun n d 287 29 [(2, x0), (1, x1), (9, 0), (0, x3)] [] w) else none else none) (fun _ => rfl)).trans (EX_if.trans (and_congr Iff.rfl (EX_if.trans (and_congr Iff.rfl (EX_br.trans (and_congr (imp_congr Iff.rfl Iff.rfl) (imp_congr Iff.rfl Iff.rfl)))))))
set_option maxRecDepth 100000 in
theorem b287_27 {d : Nat} {w : vW} {x0 x1 x3 : Int} {Q : Int → vW → Prop} : VW d 287 27 [(2, x0), (1, x1), (9, 0), (0, x3)] [] w Q ↔ Q x3 w :=
  (VW_b 2 (F := fun n => some (0, x3, w)) (fun _ => rfl)).trans (EX_ret0)
set_option maxRecDepth 100000 in
theorem b287_29 {d : Nat} {w : vW} {x0 x1 x3 : Int} {Q : Int → vW → Prop} : VW d 287 29 [(2, x0), (1, x1), (9, 0), (0, x3)] [] w Q ↔ VW d 287 2 [(2, x0), (1, x1), (9, 0), (0, w32 (x3 + 1))] [] w Q :=
  (VW_b 2 (F := fun n => vrun n d 287 2 [(2, x0), (1, x1), (9, 0), (0, w32 (x3 + 1))] [] w) (fun _ => rfl)).trans (Iff.rfl)
set_option maxRecDepth 100000 in
theorem b287_35 {d : Nat} {w : vW} {x0 x1 x3 : Int} {Q : Int → vW → Prop} : VW d 287 35 [(2, x0), (1, x1), (9, 0), (0, x3)] [] w Q ↔ Q (-1) w :=
  (VW_b 2 (F := fun n => some (0, (-1), w)) (fun _ => rfl)).trans (EX_ret0)
/-! 288: StrikeWhatCancels$Still.stateOf(LStrikeWhatCancels$Rules;J)I -/
set_option maxRecDepth 100000 in
theorem b288_0 {d : Nat} {w : vW} {x0 x1 x2 : Int} {Q : Int → vW → Prop} : VW d 288 0 [(2, x0), (2, x1), (1, x2), (9, 0), (9, 0), (9, 0), (9, 0)] [] w Q ↔ VC d 273 [(1, x2)] w (fun r w1 => VW d 288 4 [(2, x0), (2, x1), (1, x2), (9, 0), (9, 0), (9, 0), (9, 0)] [(0, r)] w1 Q) :=
  (VW_b 2 (F := fun n => vclr (vrun n) d 288 4 273 1 0 [(2, x0), (2, x1), (1, x2), (9, 0), (9, 0), (9, 0), (9, 0)] [(1, x2)] w) (fun _ => rfl)).trans (EX_call rfl)
set_option maxRecDepth 100000 in
theorem b288_4 {d : Nat} {w : vW} {x0 x1 x2 y0 : Int} {Q : Int → vW → Prop} : VW d 288 4 [(2, x0), (2, x1), (1, x2), (9, 0), (9, 0), (9, 0), (9, 0)] [(0, y0)] w Q ↔ VW d 288 9 [(2, x0), (2, x1), (1, x2), (9, 0), (0, y0), (0, 0), (9, 0)] [] w Q :=
  (VW_b 3 (F := fun n => vrun n d 288 9 [(2, x0), (2, x1), (1, x2), (9, 0), (0, y0), (0, 0), (9, 0)] [] w) (fun _ => rfl)).trans (Iff.rfl)
set_option maxRecDepth 100000 in
theorem b288_9 {d : Nat} {w : vW} {x0 x1 x2 x4 x5 : Int} {Q : Int → vW → Prop} : VW d 288 9 [(2, x0), (2, x1), (1, x2), (9, 0), (0, x4), (0, x5), (9, 0)] [] w Q ↔ (vkd w x1 = 18) ∧ ((x5 < (vct w x1 3) → VW d 288 18 [(2, x0), (2, x1), (1, x2), (9, 0), (0, x4), (0, x5), (9, 0)] [] w Q) ∧ (¬ (x5 < (vct w x1 3)) → VW d 288 48 [(2, x0), (2, x1), (1, x2), (9, 0), (0, x4), (0, x5), (9, 0)] [] w Q)) :=
  (VW_b 4 (F := fun n => if vkd w x1 = 18 then (if x5 < (vct w x1 3) then vrun n d 288 18 [(2, x0), (2, x1), (1, x2), (9, 0), (0, x4), (0, x5), (9, 0)] [] w else vrun n d 288 48 [(2, x0), (2, x1), (1, x2), (9, 0), (0, x4), (0, x5), (9, 0)] [] w) else none) (fun _ => rfl)).trans (EX_if.trans (and_congr Iff.rfl (EX_br.trans (and_congr (imp_congr Iff.rfl Iff.rfl) (imp_congr Iff.rfl Iff.rfl)))))
set_option maxRecDepth 100000 in
theorem b288_18 {d : Nat} {w : vW} {x0 x1 x2 x4 x5 : Int} {Q : Int → vW → Prop} : VW d 288 18 [(2, x0), (2, x1), (1, x2), (9, 0), (0, x4), (0, x5), (9, 0)] [] w Q ↔ (vkd w x1 = 18) ∧ VC d 252 [(2, x1), (0, x5)] w (fun r w1 => VW d 288 30 [(2, x0), (2, x1), (1, x2), (9, 0), (0, x4), (0, x5), (9, 0)] [(1, r), (0, x4), (1, x2), (0, x5), (2, x1)] w1 Q) :=
  (VW_b 7 (F := fun n => if vkd w x1 = 18 then vclr (vrun n) d 288 30 252 2 1 [(2, x0), (2, x1), (1, x2), (9, 0), (0, x4), (0, x5), (9, 0)] [(0, x5), (2, x1), (0, x4), (1, x2), (0, x5), (2, x1)] w else none) (fun _ => rfl)).trans (EX_if.trans (and_congr Iff.rfl (EX_call rfl)))
set_option maxRecDepth 100000 in
theorem b288_30 {d : Nat} {w : vW} {x0 x1 x2 x4 x5 y0 y1 y2 y3 y4 : Int} {Q : Int → vW → Prop} : VW d 288 30 [(2, x0), (2, x1), (1, x2), (9, 0), (0, x4), (0, x5), (9, 0)] [(1, y4), (0, y3), (1, y2), (0, y1), (2, y0)] w Q ↔ VC d 273 [(1, y4)] w (fun r w1 => VW d 288 33 [(2, x0), (2, x1), (1, x2), (9, 0), (0, x4), (0, x5), (9, 0)] [(0, r), (0, y3), (1, y2), (0, y1), (2, y0)] w1 Q) :=
  (VW_b 1 (F := fun n => vclr (vrun n) d 288 33 273 1 0 [(2, x0), (2, x1), (1, x2), (9, 0), (0, x4), (0, x5), (9, 0)] [(1, y4), (0, y3), (1, y2), (0, y1), (2, y0)] w) (fun _ => rfl)).trans (EX_call rfl)
set_option maxRecDepth 100000 in
theorem b288_33 {d : Nat} {w : vW} {x0 x1 x2 x4 x5 y0 y1 y2 y3 y4 : Int} {Q : Int → vW → Prop} : VW d 288 33 [(2, x0), (2, x1), (1, x2), (9, 0), (0, x4), (0, x5), (9, 0)] [(0, y4), (0, y3), (1, y2), (0, y1), (2, y0)] w Q ↔ (vkd w y0 = 18) ∧ VC d 260 [(2, y0), (0, y1), (1, y2), (0, w32 (y3 - y4))] w (fun r w1 => VW d 288 37 [(2, x0), (2, x1), (1, x2), (9, 0), (0, x4), (0, x5), (9, 0)] [(0, r)] w1 Q) :=
  (VW_b 2 (F := fun n => if vkd w y0 = 18 then vclr (vrun n) d 288 37 260 4 0 [(2, x0), (2, x1), (1, x2), (9, 0), (0, x4), (0, x5), (9, 0)] [(0, w32 (y3 - y4)), (1, y2), (0, y1), (2, y0)] w else none) (fun _ => rfl)).trans (EX_if.trans (and_congr Iff.rfl (EX_call rfl)))
set_option maxRecDepth 100000 in
theorem b288_37 {d : Nat} {w : vW} {x0 x1 x2 x4 x5 y0 : Int} {Q : Int → vW → Prop} : VW d 288 37 [(2, x0), (2, x1), (1, x2), (9, 0), (0, x4), (0, x5), (9, 0)] [(0, y0)] w Q ↔ ((y0 = 0 → VW d 288 42 [(2, x0), (2, x1), (1, x2), (9, 0), (0, x4), (0, x5), (9, 0)] [] w Q) ∧ (¬ (y0 = 0) → VW d 288 40 [(2, x0), (2, x1), (1, x2), (9, 0), (0, x4), (0, x5), (9, 0)] [] w Q)) :=
  (VW_b 1 (F := fun n => (if y0 = 0 then vrun n d 288 42 [(2, x0), (2, x1), (1, x2), (9, 0), (0, x4), (0, x5), (9, 0)] [] w else vrun n d 288 40 [(2, x0), (2, x1), (1, x2), (9, 0), (0, x4), (0, x5), (9, 0)] [] w)) (fun _ => rfl)).trans (EX_br.trans (and_congr (imp_congr Iff.rfl Iff.rfl) (imp_congr Iff.rfl Iff.rfl)))
set_option maxRecDepth 100000 in
theorem b288_40 {d : Nat} {w : vW} {x0 x1 x2 x4 x5 : Int} {Q : Int → vW → Prop} : VW d 288 40 [(2, x0), (2, x1), (1, x2), (9, 0), (0, x4), (0, x5), (9, 0)] [] w Q ↔ Q (-1) w :=
  (VW_b 2 (F := fun n => some (0, (-1), w)) (fun _ => rfl)).trans (EX_ret0)
set_option maxRecDepth 100000 in
theorem b288_42 {d : Nat} {w : vW} {x0 x1 x2 x4 x5 : Int} {Q : Int → vW → Prop} : VW d 288 42 [(2, x0), (2, x1), (1, x2), (9, 0), (0, x4), (0, x5), (9, 0)] [] w Q ↔ VW d 288 9 [(2, x0), (2, x1), (1, x2), (9, 0), (0, x4), (0, w32 (x5 + 1)), (9, 0)] [] w Q :=
  (VW_b 2 (F := fun n => vrun n d 288 9 [(2, x0), (2, x1), (1, x2), (9, 0), (0, x4), (0, w32 (x5 + 1)), (9, 0)] [] w) (fun _ => rfl)).trans (Iff.rfl)
set_option maxRecDepth 100000 in
theorem b288_48 {d : Nat} {w : vW} {x0 x1 x2 x4 x5 : Int} {Q : Int → vW → Prop} : VW d 288 48 [(2, x0), (2, x1), (1, x2), (9, 0), (0, x4), (0, x5), (9, 0)] [] w Q ↔ VW d 288 51 [(2, x0), (2, x1), (1, x2), (9, 0), (0, x4), (0, 0), (9, 0)] [] w Q :=
  (VW_b 2 (F := fun n => vrun n d 288 51 [(2, x0), (2, x1), (1, x2), (9, 0), (0, x4), (0, 0), (9, 0)] [] w) (fun _ => rfl)).trans (Iff.rfl)
set_option maxRecDepth 100000 in
theorem b288_51 {d : Nat} {w : vW} {x0 x1 x2 x4 x5 : Int} {v6 : vV} {Q : Int → vW → Prop} : VW d 288 51 [(2, x0), (2, x1), (1, x2), (9, 0), (0, x4), (0, x5), v6] [] w Q ↔ ((x5 < x4 → VW d 288 58 [(2, x0), (2, x1), (1, x2), (9, 0), (0, x4), (0, x5), v6] [] w Q) ∧ (¬ (x5 < x4) → VW d 288 89 [(2, x0), (2, x1), (1, x2), (9, 0), (0, x4), (0, x5), v6] [] w Q)) :=
  (VW_b 3 (F := fun n => (if x5 < x4 then vrun n d 288 58 [(2, x0), (2, x1), (1, x2), (9, 0), (0, x4), (0, x5), v6] [] w else vrun n d 288 89 [(2, x0), (2, x1), (1, x2), (9, 0), (0, x4), (0, x5), v6] [] w)) (fun _ => rfl)).trans (EX_br.trans (and_congr (imp_congr Iff.rfl Iff.rfl) (imp_congr Iff.rfl Iff.rfl)))
set_option maxRecDepth 100000 in
theorem b288_58 {d : Nat} {w : vW} {x0 x1 x2 x4 x5 : Int} {v6 : vV} {Q : Int → vW → Prop} : VW d 288 58 [(2, x0), (2, x1), (1, x2), (9, 0), (0, x4), (0, x5), v6] [] w Q ↔ VC d 277 [(1, x2), (0, x5), (0, w32 (x4 - x5))] w (fun r w1 => VW d 288 70 [(2, x0), (2, x1), (1, x2), (9, 0), (0, x4), (0, x5), v6] [(1, r), (2, x0)] w1 Q) :=
  (VW_b 7 (F := fun n => vclr (vrun n) d 288 70 277 3 1 [(2, x0), (2, x1), (1, x2), (9, 0), (0, x4), (0, x5), v6] [(0, w32 (x4 - x5)), (0, x5), (1, x2), (2, x0)] w) (fun _ => rfl)).trans (EX_call rfl)
set_option maxRecDepth 100000 in
theorem b288_70 {d : Nat} {w : vW} {x0 x1 x2 x4 x5 y0 y1 : Int} {v6 : vV} {Q : Int → vW → Prop} : VW d 288 70 [(2, x0), (2, x1), (1, x2), (9, 0), (0, x4), (0, x5), v6] [(1, y1), (2, y0)] w Q ↔ (vkd w y0 = 19) ∧ VC d 287 [(2, y0), (1, y1)] w (fun r w1 => VW d 288 73 [(2, x0), (2, x1), (1, x2), (9, 0), (0, x4), (0, x5), v6] [(0, r)] w1 Q) :=
  (VW_b 1 (F := fun n => if vkd w y0 = 19 then vclr (vrun n) d 288 73 287 2 0 [(2, x0), (2, x1), (1, x2), (9, 0), (0, x4), (0, x5), v6] [(1, y1), (2, y0)] w else none) (fun _ => rfl)).trans (EX_if.trans (and_congr Iff.rfl (EX_call rfl)))
set_option maxRecDepth 100000 in
theorem b288_73 {d : Nat} {w : vW} {x0 x1 x2 x4 x5 y0 : Int} {v6 : vV} {Q : Int → vW → Prop} : VW d 288 73 [(2, x0), (2, x1), (1, x2), (9, 0), (0, x4), (0, x5), v6] [(0, y0)] w Q ↔ ((y0 < 0 → VW d 288 83 [(2, x0), (2, x1), (1, x2), (9, 0), (0, x4), (0, x5), (0, y0)] [] w Q) ∧ (¬ (y0 < 0) → VW d 288 80 [(2, x0), (2, x1), (1, x2), (9, 0), (0, x4), (0, x5), (0, y0)] [] w Q)) :=
  (VW_b 3 (F := fun n => (if y0 < 0 then vrun n d 288 83 [(2, x0), (2, x1), (1, x2), (9, 0), (0, x4), (0, x5), (0, y0)] [] w else vrun n d 288 80 [(2, x0), (2, x1), (1, x2), (9, 0), (0, x4), (0, x5), (0, y0)] [] w)) (fun _ => rfl)).trans (EX_br.trans (and_congr (imp_congr Iff.rfl Iff.rfl) (imp_congr Iff.rfl Iff.rfl)))
set_option maxRecDepth 100000 in
theorem b288_80 {d : Nat} {w : vW} {x0 x1 x2 x4 x5 x6 : Int} {Q : Int → vW → Prop} : VW d 288 80 [(2, x0), (2, x1), (1, x2), (9, 0), (0, x4), (0, x5), (0, x6)] [] w Q ↔ Q x6 w :=
  (VW_b 2 (F := fun n => some (0, x6, w)) (fun _ => rfl)).trans (EX_ret0)
set_option maxRecDepth 100000 in
theorem b288_83 {d : Nat} {w : vW} {x0 x1 x2 x4 x5 x6 : Int} {Q : Int → vW → Prop} : VW d 288 83 [(2, x0), (2, x1), (1, x2), (9, 0), (0, x4), (0, x5), (0, x6)] [] w Q ↔ VW d 288 51 [(2, x0), (2, x1), (1, x2), (9, 0), (0, x4), (0, w32 (x5 + 1)), (0, x6)] [] w Q :=
  (VW_b 2 (F := fun n => vrun n d 288 51 [(2, x0), (2, x1), (1, x2), (9, 0), (0, x4), (0, w32 (x5 + 1)), (0, x6)] [] w) (fun _ => rfl)).trans (Iff.rfl)
set_option maxRecDepth 100000 in
theorem b288_89 {d : Nat} {w : vW} {x0 x1 x2 x4 x5 : Int} {v6 : vV} {Q : Int → vW → Prop} : VW d 288 89 [(2, x0), (2, x1), (1, x2), (9, 0), (0, x4), (0, x5), v6] [] w Q ↔ Q 0 w :=
  (VW_b 2 (F := fun n => some (0, 0, w)) (fun _ => rfl)).trans (EX_ret0)
/-! 289: StrikeWhatCancels$Still.go([J[JI)V -/
set_option maxRecDepth 100000 in
theorem b289_0 {d : Nat} {w : vW} {x0 x1 x2 x3 : Int} {Q : Int → vW → Prop} : VW d 289 0 [(2, x0), (2, x1), (2, x2), (0, x3), (9, 0), (9, 0), (9, 0)] [] w Q ↔ VW d 289 3 [(2, x0), (2, x1), (2, x2), (0, x3), (0, 0), (9, 0), (9, 0)] [] w Q :=
  (VW_b 2 (F := fun n => vrun n d 289 3 [(2, x0), (2, x1), (2, x2), (0, x3), (0, 0), (9, 0), (9, 0)] [] w) (fun _ => rfl)).trans (Iff.rfl)
set_option maxRecDepth 100000 in
theorem b289_3 {d : Nat} {w : vW} {x0 x1 x2 x3 x4 : Int} {Q : Int → vW → Prop} : VW d 289 3 [(2, x0), (2, x1), (2, x2), (0, x3), (0, x4), (9, 0), (9, 0)] [] w Q ↔ (vkd w x0 = 19) ∧ ((x4 < (vct w x0 3) → VW d 289 12 [(2, x0), (2, x1), (2, x2), (0, x3), (0, x4), (9, 0), (9, 0)] [] w Q) ∧ (¬ (x4 < (vct w x0 3)) → VW d 289 30 [(2, x0), (2, x1), (2, x2), (0, x3), (0, x4), (9, 0), (9, 0)] [] w Q)) :=
  (VW_b 4 (F := fun n => if vkd w x0 = 19 then (if x4 < (vct w x0 3) then vrun n d 289 12 [(2, x0), (2, x1), (2, x2), (0, x3), (0, x4), (9, 0), (9, 0)] [] w else vrun n d 289 30 [(2, x0), (2, x1), (2, x2), (0, x3), (0, x4), (9, 0), (9, 0)] [] w) else none) (fun _ => rfl)).trans (EX_if.trans (and_congr Iff.rfl (EX_br.trans (and_congr (imp_congr Iff.rfl Iff.rfl) (imp_congr Iff.rfl Iff.rfl)))))
set_option maxRecDepth 100000 in
theorem b289_12 {d : Nat} {w : vW} {x0 x1 x2 x3 x4 : Int} {Q : Int → vW → Prop} : VW d 289 12 [(2, x0), (2, x1), (2, x2), (0, x3), (0, x4), (9, 0), (9, 0)] [] w Q ↔ (vkd w x2 = 2) ∧ ((x4 < (vln w x2) → VW d 289 19 [(2, x0), (2, x1), (2, x2), (0, x3), (0, x4), (9, 0), (9, 0)] [] w Q) ∧ (¬ (x4 < (vln w x2)) → VW d 289 30 [(2, x0), (2, x1), (2, x2), (0, x3), (0, x4), (9, 0), (9, 0)] [] w Q)) :=
  (VW_b 4 (F := fun n => if vkd w x2 = 2 then (if x4 < (vln w x2) then vrun n d 289 19 [(2, x0), (2, x1), (2, x2), (0, x3), (0, x4), (9, 0), (9, 0)] [] w else vrun n d 289 30 [(2, x0), (2, x1), (2, x2), (0, x3), (0, x4), (9, 0), (9, 0)] [] w) else none) (fun _ => rfl)).trans (EX_if.trans (and_congr Iff.rfl (EX_br.trans (and_congr (imp_congr Iff.rfl Iff.rfl) (imp_congr Iff.rfl Iff.rfl)))))
set_option maxRecDepth 100000 in
theorem b289_19 {d : Nat} {w : vW} {x0 x1 x2 x3 x4 : Int} {Q : Int → vW → Prop} : VW d 289 19 [(2, x0), (2, x1), (2, x2), (0, x3), (0, x4), (9, 0), (9, 0)] [] w Q ↔ (vkd w x2 = 2 ∧ (0 : Int) ≤ x4 ∧ x4 < vln w x2) ∧ VW d 289 24 [(2, x0), (2, x1), (2, x2), (0, x3), (0, x4), (9, 0), (9, 0)] [] (vsv w x2 x4 0) Q :=
  (VW_b 4 (F := fun n => if vkd w x2 = 2 ∧ (0 : Int) ≤ x4 ∧ x4 < vln w x2 then vrun n d 289 24 [(2, x0), (2, x1), (2, x2), (0, x3), (0, x4), (9, 0), (9, 0)] [] (vsv w x2 x4 0) else none) (fun _ => rfl)).trans (EX_if.trans (and_congr Iff.rfl (Iff.rfl)))
set_option maxRecDepth 100000 in
theorem b289_24 {d : Nat} {w : vW} {x0 x1 x2 x3 x4 : Int} {Q : Int → vW → Prop} : VW d 289 24 [(2, x0), (2, x1), (2, x2), (0, x3), (0, x4), (9, 0), (9, 0)] [] w Q ↔ VW d 289 3 [(2, x0), (2, x1), (2, x2), (0, x3), (0, w32 (x4 + 1)), (9, 0), (9, 0)] [] w Q :=
  (VW_b 2 (F := fun n => vrun n d 289 3 [(2, x0), (2, x1), (2, x2), (0, x3), (0, w32 (x4 + 1)), (9, 0), (9, 0)] [] w) (fun _ => rfl)).trans (Iff.rfl)
set_option maxRecDepth 100000 in
theorem b289_30 {d : Nat} {w : vW} {x0 x1 x2 x3 x4 : Int} {Q : Int → vW → Prop} : VW d 289 30 [(2, x0), (2, x1), (2, x2), (0, x3), (0, x4), (9, 0), (9, 0)] [] w Q ↔ VW d 289 33 [(2, x0), (2, x1), (2, x2), (0, x3), (0, 0), (9, 0), (9, 0)] [] w Q :=
  (VW_b 2 (F := fun n => vrun n d 289 33 [(2, x0), (2, x1), (2, x2), (0, x3), (0, 0), (9, 0), (9, 0)] [] w) (fun _ => rfl)).trans (Iff.rfl)
set_option maxRecDepth 100000 in
theorem b289_33 {d : Nat} {w : vW} {x0 x1 x2 x3 x4 : Int} {v5 v6 : vV} {Q : Int → vW → Prop} : VW d 289 33 [(2, x0), (2, x1), (2, x2), (0, x3), (0, x4), v5, v6] [] w Q ↔ (vkd w x0 = 19) ∧ ((x4 < (vct w x0 3) → VW d 289 42 [(2, x0), (2, x1), (2, x2), (0, x3), (0, x4), v5, v6] [] w Q) ∧ (¬ (x4 < (vct w x0 3)) → VW d 289 112 [(2, x0), (2, x1), (2, x2), (0, x3), (0, x4), v5, v6] [] w Q)) :=
  (VW_b 4 (F := fun n => if vkd w x0 = 19 then (if x4 < (vct w x0 3) then vrun n d 289 42 [(2, x0), (2, x1), (2, x2), (0, x3), (0, x4), v5, v6] [] w else vrun n d 289 112 [(2, x0), (2, x1), (2, x2), (0, x3), (0, x4), v5, v6] [] w) else none) (fun _ => rfl)).trans (EX_if.trans (and_congr Iff.rfl (EX_br.trans (and_congr (imp_congr Iff.rfl Iff.rfl) (imp_congr Iff.rfl Iff.rfl)))))
set_option maxRecDepth 100000 in
theorem b289_42 {d : Nat} {w : vW} {x0 x1 x2 x3 x4 : Int} {v5 v6 : vV} {Q : Int → vW → Prop} : VW d 289 42 [(2, x0), (2, x1), (2, x2), (0, x3), (0, x4), v5, v6] [] w Q ↔ (vkd w x1 = 2) ∧ ((x4 < (vln w x1) → VW d 289 49 [(2, x0), (2, x1), (2, x2), (0, x3), (0, x4), v5, v6] [] w Q) ∧ (¬ (x4 < (vln w x1)) → VW d 289 112 [(2, x0), (2, x1), (2, x2), (0, x3), (0, x4), v5, v6] [] w Q)) :=
  (VW_b 4 (F := fun n => if vkd w x1 = 2 then (if x4 < (vln w x1) then vrun n d 289 49 [(2, x0), (2, x1), (2, x2), (0, x3), (0, x4), v5, v6] [] w else vrun n d 289 112 [(2, x0), (2, x1), (2, x2), (0, x3), (0, x4), v5, v6] [] w) else none) (fun _ => rfl)).trans (EX_if.trans (and_congr Iff.rfl (EX_br.trans (and_congr (imp_congr Iff.rfl Iff.rfl) (imp_congr Iff.rfl Iff.rfl)))))
set_option maxRecDepth 100000 in
theorem b289_49 {d : Nat} {w : vW} {x0 x1 x2 x3 x4 : Int} {v5 v6 : vV} {Q : Int → vW → Prop} : VW d 289 49 [(2, x0), (2, x1), (2, x2), (0, x3), (0, x4), v5, v6] [] w Q ↔ ((x4 < 49 → VW d 289 56 [(2, x0), (2, x1), (2, x2), (0, x3), (0, x4), v5, v6] [] w Q) ∧ (¬ (x4 < 49) → VW d 289 112 [(2, x0), (2, x1), (2, x2), (0, x3), (0, x4), v5, v6] [] w Q)) :=
  (VW_b 3 (F := fun n => (if x4 < 49 then vrun n d 289 56 [(2, x0), (2, x1), (2, x2), (0, x3), (0, x4), v5, v6] [] w else vrun n d 289 112 [(2, x0), (2, x1), (2, x2), (0, x3), (0, x4), v5, v6] [] w)) (fun _ => rfl)).trans (EX_br.trans (and_congr (imp_congr Iff.rfl Iff.rfl) (imp_congr Iff.rfl Iff.rfl)))
set_option maxRecDepth 100000 in
theorem b289_56 {d : Nat} {w : vW} {x0 x1 x2 x3 x4 : Int} {v5 v6 : vV} {Q : Int → vW → Prop} : VW d 289 56 [(2, x0), (2, x1), (2, x2), (0, x3), (0, x4), v5, v6] [] w Q ↔ VW d 289 59 [(2, x0), (2, x1), (2, x2), (0, x3), (0, x4), (0, 0), v6] [] w Q :=
  (VW_b 2 (F := fun n => vrun n d 289 59 [(2, x0), (2, x1), (2, x2), (0, x3), (0, x4), (0, 0), v6] [] w) (fun _ => rfl)).trans (Iff.rfl)
set_option maxRecDepth 100000 in
theorem b289_59 {d : Nat} {w : vW} {x0 x1 x2 x3 x4 x5 : Int} {v6 : vV} {Q : Int → vW → Prop} : VW d 289 59 [(2, x0), (2, x1), (2, x2), (0, x3), (0, x4), (0, x5), v6] [] w Q ↔ ((x5 < x3 → VW d 289 65 [(2, x0), (2, x1), (2, x2), (0, x3), (0, x4), (0, x5), v6] [] w Q) ∧ (¬ (x5 < x3) → VW d 289 106 [(2, x0), (2, x1), (2, x2), (0, x3), (0, x4), (0, x5), v6] [] w Q)) :=
  (VW_b 3 (F := fun n => (if x5 < x3 then vrun n d 289 65 [(2, x0), (2, x1), (2, x2), (0, x3), (0, x4), (0, x5), v6] [] w else vrun n d 289 106 [(2, x0), (2, x1), (2, x2), (0, x3), (0, x4), (0, x5), v6] [] w)) (fun _ => rfl)).trans (EX_br.trans (and_congr (imp_congr Iff.rfl Iff.rfl) (imp_congr Iff.rfl Iff.rfl)))
set_option maxRecDepth 100000 in
theorem b289_65 {d : Nat} {w : vW} {x0 x1 x2 x3 x4 x5 : Int} {v6 : vV} {Q : Int → vW → Prop} : VW d 289 65 [(2, x0), (2, x1), (2, x2), (0, x3), (0, x4), (0, x5), v6] [] w Q ↔ (vkd w x0 = 19) ∧ (vkd w (vct w x0 1) = 6 ∧ (0 : Int) ≤ x4 ∧ x4 < vln w (vct w x0 1)) ∧ (vkd w (vct w (vct w x0 1) x4) = 1 ∧ (0 : Int) ≤ x5 ∧ x5 < vln w (vct w (vct w x0 1) x4)) ∧ (((vct w (vct w (vct w x0 1) x4) x5) < 0 → VW d 289 100 [(2, x0), (2, x1), (2, x2), (0, x3), (0, x4), (0, x5), (0, vct w (vct w (vct w x0 1) x4) x5)] [] w Q) ∧ (¬ ((vct w (vct w (vct w x0 1) x4) x5) < 0) → VW d 289 82 [(2, x0), (2, x1), (2, x2), (0, x3), (0, x4), (0, x5), (0, vct w (vct w (vct w x0 1) x4) x5)] [] w Q)) :=
  (VW_b 9 (F := fun n => if vkd w x0 = 19 then if vkd w (vct w x0 1) = 6 ∧ (0 : Int) ≤ x4 ∧ x4 < vln w (vct w x0 1) then if vkd w (vct w (vct w x0 1) x4) = 1 ∧ (0 : Int) ≤ x5 ∧ x5 < vln w (vct w (vct w x0 1) x4) then (if (vct w (vct w (vct w x0 1) x4) x5) < 0 then vrun n d 289 100 [(2, x0), (2, x1), (2, x2), (0, x3), (0, x4), (0, x5), (0, vct w (vct w (vct w x0 1) x4) x5)] [] w else vrun n d 289 82 [(2, x0), (2, x1), (2, x2), (0, x3), (0, x4), (0, x5), (0, vct w (vct w (vct w x0 1) x4) x5)] [] w) else none else none else none) (fun _ => rfl)).trans (EX_if.trans (and_congr Iff.rfl (EX_if.trans (and_congr Iff.rfl (EX_if.trans (and_congr Iff.rfl (EX_br.trans (and_congr (imp_congr Iff.rfl Iff.rfl) (imp_congr Iff.rfl Iff.rfl)))))))))
set_option maxRecDepth 100000 in
theorem b289_82 {d : Nat} {w : vW} {x0 x1 x2 x3 x4 x5 x6 : Int} {Q : Int → vW → Prop} : VW d 289 82 [(2, x0), (2, x1), (2, x2), (0, x3), (0, x4), (0, x5), (0, x6)] [] w Q ↔ (vkd w x2 = 2) ∧ ((x6 < (vln w x2) → VW d 289 89 [(2, x0), (2, x1), (2, x2), (0, x3), (0, x4), (0, x5), (0, x6)] [] w Q) ∧ (¬ (x6 < (vln w x2)) → VW d 289 100 [(2, x0), (2, x1), (2, x2), (0, x3), (0, x4), (0, x5), (0, x6)] [] w Q)) :=
  (VW_b 4 (F := fun n => if vkd w x2 = 2 then (if x6 < (vln w x2) then vrun n d 289 89 [(2, x0), (2, x1), (2, x2), (0, x3), (0, x4), (0, x5), (0, x6)] [] w else vrun n d 289 100 [(2, x0), (2, x1), (2, x2), (0, x3), (0, x4), (0, x5), (0, x6)] [] w) else none) (fun _ => rfl)).trans (EX_if.trans (and_congr Iff.rfl (EX_br.trans (and_congr (imp_congr Iff.rfl Iff.rfl) (imp_congr Iff.rfl Iff.rfl)))))
set_option maxRecDepth 100000 in
theorem b289_89 {d : Nat} {w : vW} {x0 x1 x2 x3 x4 x5 x6 : Int} {Q : Int → vW → Prop} : VW d 289 89 [(2, x0), (2, x1), (2, x2), (0, x3), (0, x4), (0, x5), (0, x6)] [] w Q ↔ (vkd w x2 = 2 ∧ (0 : Int) ≤ x6 ∧ x6 < vln w x2) ∧ (vkd w x1 = 2 ∧ (0 : Int) ≤ x4 ∧ x4 < vln w x1) ∧ (vkd w x2 = 2 ∧ (0 : Int) ≤ x6 ∧ x6 < vln w x2) ∧ VW d 289 100 [(2, x0), (2, x1), (2, x2), (0, x3), (0, x4), (0, x5), (0, x6)] [] (vsv w x2 x6 (w64 ((vct w x2 x6) + (vct w x1 x4)))) Q :=
  (VW_b 9 (F := fun n => if vkd w x2 = 2 ∧ (0 : Int) ≤ x6 ∧ x6 < vln w x2 then if vkd w x1 = 2 ∧ (0 : Int) ≤ x4 ∧ x4 < vln w x1 then if vkd w x2 = 2 ∧ (0 : Int) ≤ x6 ∧ x6 < vln w x2 then vrun n d 289 100 [(2, x0), (2, x1), (2, x2), (0, x3), (0, x4), (0, x5), (0, x6)] [] (vsv w x2 x6 (w64 ((vct w x2 x6) + (vct w x1 x4)))) else none else none else none) (fun _ => rfl)).trans (EX_if.trans (and_congr Iff.rfl (EX_if.trans (and_congr Iff.rfl (EX_if.trans (and_congr Iff.rfl (Iff.rfl)))))))
set_option maxRecDepth 100000 in
theorem b289_100 {d : Nat} {w : vW} {x0 x1 x2 x3 x4 x5 x6 : Int} {Q : Int → vW → Prop} : VW d 289 100 [(2, x0), (2, x1), (2, x2), (0, x3), (0, x4), (0, x5), (0, x6)] [] w Q ↔ VW d 289 59 [(2, x0), (2, x1), (2, x2), (0, x3), (0, x4), (0, w32 (x5 + 1)), (0, x6)] [] w Q :=
  (VW_b 2 (F := fun n => vrun n d 289 59 [(2, x0), (2, x1), (2, x2), (0, x3), (0, x4), (0, w32 (x5 + 1)), (0, x6)] [] w) (fun _ => rfl)).trans (Iff.rfl)
set_option maxRecDepth 100000 in
theorem b289_106 {d : Nat} {w : vW} {x0 x1 x2 x3 x4 x5 : Int} {v6 : vV} {Q : Int → vW → Prop} : VW d 289 106 [(2, x0), (2, x1), (2, x2), (0, x3), (0, x4), (0, x5), v6] [] w Q ↔ VW d 289 33 [(2, x0), (2, x1), (2, x2), (0, x3), (0, w32 (x4 + 1)), (0, x5), v6] [] w Q :=
  (VW_b 2 (F := fun n => vrun n d 289 33 [(2, x0), (2, x1), (2, x2), (0, x3), (0, w32 (x4 + 1)), (0, x5), v6] [] w) (fun _ => rfl)).trans (Iff.rfl)
set_option maxRecDepth 100000 in
theorem b289_112 {d : Nat} {w : vW} {x0 x1 x2 x3 x4 : Int} {v5 v6 : vV} {Q : Int → vW → Prop} : VW d 289 112 [(2, x0), (2, x1), (2, x2), (0, x3), (0, x4), v5, v6] [] w Q ↔ Q 0 w :=
  (VW_b 1 (F := fun n => some (0, 0, w)) (fun _ => rfl)).trans (EX_ret0)
/-! 290: StrikeWhatCancels$Told.<init>()V -/
set_option maxRecDepth 100000 in
theorem b290_0 {d : Nat} {w : vW} {x0 : Int} {Q : Int → vW → Prop} : VW d 290 0 [(2, x0)] [] w Q ↔ (vkd w x0 ≠ 0) ∧ VW d 290 9 [(2, x0)] [(2, vnt w), (2, x0)] (vnw w 2 32 (fun _ => 0) (32 : Int).toNat) Q :=
  (VW_b 5 (F := fun n => if vkd w x0 ≠ 0 then vrun n d 290 9 [(2, x0)] [(2, vnt w), (2, x0)] (vnw w 2 32 (fun _ => 0) (32 : Int).toNat) else none) (fun _ => rfl)).trans (EX_if.trans (and_congr Iff.rfl (Iff.rfl)))
set_option maxRecDepth 100000 in
theorem b290_9 {d : Nat} {w : vW} {x0 y0 y1 : Int} {Q : Int → vW → Prop} : VW d 290 9 [(2, x0)] [(2, y1), (2, y0)] w Q ↔ (vkd w y0 = 20) ∧ VW d 290 12 [(2, x0)] [] (vsv w y0 0 y1) Q :=
  (VW_b 1 (F := fun n => if vkd w y0 = 20 then vrun n d 290 12 [(2, x0)] [] (vsv w y0 0 y1) else none) (fun _ => rfl)).trans (EX_if.trans (and_congr Iff.rfl (Iff.rfl)))
set_option maxRecDepth 100000 in
theorem b290_12 {d : Nat} {w : vW} {x0 : Int} {Q : Int → vW → Prop} : VW d 290 12 [(2, x0)] [] w Q ↔ (vkd w x0 = 20) ∧ VW d 290 17 [(2, x0)] [] (vsv w x0 1 0) Q :=
  (VW_b 3 (F := fun n => if vkd w x0 = 20 then vrun n d 290 17 [(2, x0)] [] (vsv w x0 1 0) else none) (fun _ => rfl)).trans (EX_if.trans (and_congr Iff.rfl (Iff.rfl)))
set_option maxRecDepth 100000 in
theorem b290_17 {d : Nat} {w : vW} {x0 : Int} {Q : Int → vW → Prop} : VW d 290 17 [(2, x0)] [] w Q ↔ Q 0 w :=
  (VW_b 1 (F := fun n => some (0, 0, w)) (fun _ => rfl)).trans (EX_ret0)
/-! 291: StrikeWhatCancels$Told.clear()V -/
set_option maxRecDepth 100000 in
theorem b291_0 {d : Nat} {w : vW} {x0 : Int} {Q : Int → vW → Prop} : VW d 291 0 [(2, x0)] [] w Q ↔ (vkd w x0 = 20) ∧ VW d 291 5 [(2, x0)] [] (vsv w x0 1 0) Q :=
  (VW_b 3 (F := fun n => if vkd w x0 = 20 then vrun n d 291 5 [(2, x0)] [] (vsv w x0 1 0) else none) (fun _ => rfl)).trans (EX_if.trans (and_congr Iff.rfl (Iff.rfl)))
set_option maxRecDepth 100000 in
theorem b291_5 {d : Nat} {w : vW} {x0 : Int} {Q : Int → vW → Prop} : VW d 291 5 [(2, x0)] [] w Q ↔ Q 0 w :=
  (VW_b 1 (F := fun n => some (0, 0, w)) (fun _ => rfl)).trans (EX_ret0)
/-! 292: StrikeWhatCancels$Told.lay(I)V -/
set_option maxRecDepth 100000 in
theorem b292_0 {d : Nat} {w : vW} {x0 x1 : Int} {Q : Int → vW → Prop} : VW d 292 0 [(2, x0), (0, x1), (9, 0)] [] w Q ↔ (vkd w x0 = 20) ∧ VW d 292 5 [(2, x0), (0, x1), (9, 0)] [] (vsv w x0 1 0) Q :=
  (VW_b 3 (F := fun n => if vkd w x0 = 20 then vrun n d 292 5 [(2, x0), (0, x1), (9, 0)] [] (vsv w x0 1 0) else none) (fun _ => rfl)).trans (EX_if.trans (and_congr Iff.rfl (Iff.rfl)))
set_option maxRecDepth 100000 in
theorem b292_5 {d : Nat} {w : vW} {x0 x1 : Int} {Q : Int → vW → Prop} : VW d 292 5 [(2, x0), (0, x1), (9, 0)] [] w Q ↔ VW d 292 7 [(2, x0), (0, x1), (0, 0)] [] w Q :=
  (VW_b 2 (F := fun n => vrun n d 292 7 [(2, x0), (0, x1), (0, 0)] [] w) (fun _ => rfl)).trans (Iff.rfl)
set_option maxRecDepth 100000 in
theorem b292_7 {d : Nat} {w : vW} {x0 x1 x2 : Int} {Q : Int → vW → Prop} : VW d 292 7 [(2, x0), (0, x1), (0, x2)] [] w Q ↔ ((x2 < x1 → VW d 292 12 [(2, x0), (0, x1), (0, x2)] [] w Q) ∧ (¬ (x2 < x1) → VW d 292 23 [(2, x0), (0, x1), (0, x2)] [] w Q)) :=
  (VW_b 3 (F := fun n => (if x2 < x1 then vrun n d 292 12 [(2, x0), (0, x1), (0, x2)] [] w else vrun n d 292 23 [(2, x0), (0, x1), (0, x2)] [] w)) (fun _ => rfl)).trans (EX_br.trans (and_congr (imp_congr Iff.rfl Iff.rfl) (imp_congr Iff.rfl Iff.rfl)))
set_option maxRecDepth 100000 in
theorem b292_12 {d : Nat} {w : vW} {x0 x1 x2 : Int} {Q : Int → vW → Prop} : VW d 292 12 [(2, x0), (0, x1), (0, x2)] [] w Q ↔ (vkd w x0 = 20) ∧ VC d 293 [(2, x0), (1, 0)] w (fun _ w1 => VW d 292 17 [(2, x0), (0, x1), (0, x2)] [] w1 Q) :=
  (VW_b 3 (F := fun n => if vkd w x0 = 20 then vclr (vrun n) d 292 17 293 2 9 [(2, x0), (0, x1), (0, x2)] [(1, 0), (2, x0)] w else none) (fun _ => rfl)).trans (EX_if.trans (and_congr Iff.rfl (EX_call rfl)))
set_option maxRecDepth 100000 in
theorem b292_17 {d : Nat} {w : vW} {x0 x1 x2 : Int} {Q : Int → vW → Prop} : VW d 292 17 [(2, x0), (0, x1), (0, x2)] [] w Q ↔ VW d 292 7 [(2, x0), (0, x1), (0, w32 (x2 + 1))] [] w Q :=
  (VW_b 2 (F := fun n => vrun n d 292 7 [(2, x0), (0, x1), (0, w32 (x2 + 1))] [] w) (fun _ => rfl)).trans (Iff.rfl)
set_option maxRecDepth 100000 in
theorem b292_23 {d : Nat} {w : vW} {x0 x1 x2 : Int} {Q : Int → vW → Prop} : VW d 292 23 [(2, x0), (0, x1), (0, x2)] [] w Q ↔ Q 0 w :=
  (VW_b 1 (F := fun n => some (0, 0, w)) (fun _ => rfl)).trans (EX_ret0)
/-! 293: StrikeWhatCancels$Told.add(J)V -/
set_option maxRecDepth 100000 in
theorem b293_0 {d : Nat} {w : vW} {x0 x1 : Int} {Q : Int → vW → Prop} : VW d 293 0 [(2, x0), (1, x1), (9, 0)] [] w Q ↔ (vkd w x0 = 20) ∧ (((vct w x0 1) < 0 → VW d 293 39 [(2, x0), (1, x1), (9, 0)] [] w Q) ∧ (¬ ((vct w x0 1) < 0) → VW d 293 7 [(2, x0), (1, x1), (9, 0)] [] w Q)) :=
  (VW_b 3 (F := fun n => if vkd w x0 = 20 then (if (vct w x0 1) < 0 then vrun n d 293 39 [(2, x0), (1, x1), (9, 0)] [] w else vrun n d 293 7 [(2, x0), (1, x1), (9, 0)] [] w) else none) (fun _ => rfl)).trans (EX_if.trans (and_congr Iff.rfl (EX_br.trans (and_congr (imp_congr Iff.rfl Iff.rfl) (imp_congr Iff.rfl Iff.rfl)))))
set_option maxRecDepth 100000 in
theorem b293_7 {d : Nat} {w : vW} {x0 x1 : Int} {Q : Int → vW → Prop} : VW d 293 7 [(2, x0), (1, x1), (9, 0)] [] w Q ↔ (vkd w x0 = 20) ∧ (vkd w x0 = 20) ∧ (vkd w (vct w x0 0) = 2) ∧ (((vct w x0 1) < (vln w (vct w x0 0)) → VW d 293 19 [(2, x0), (1, x1), (9, 0)] [] w Q) ∧ (¬ ((vct w x0 1) < (vln w (vct w x0 0))) → VW d 293 39 [(2, x0), (1, x1), (9, 0)] [] w Q)) :=
  (VW_b 6 (F := fun n => if vkd w x0 = 20 then if vkd w x0 = 20 then if vkd w (vct w x0 0) = 2 then (if (vct w x0 1) < (vln w (vct w x0 0)) then vrun n d 293 19 [(2, x0), (1, x1), (9, 0)] [] w else vrun n d 293 39 [(2, x0), (1, x1), (9, 0)] [] w) else none else none else none) (fun _ => rfl)).trans (EX_if.trans (and_congr Iff.rfl (EX_if.trans (and_congr Iff.rfl (EX_if.trans (and_congr Iff.rfl (EX_br.trans (and_congr (imp_congr Iff.rfl Iff.rfl) (imp_congr Iff.rfl Iff.rfl)))))))))
set_option maxRecDepth 100000 in
theorem b293_19 {d : Nat} {w : vW} {x0 x1 : Int} {Q : Int → vW → Prop} : VW d 293 19 [(2, x0), (1, x1), (9, 0)] [] w Q ↔ (vkd w x0 = 20) ∧ (vkd w x0 = 20) ∧ (vkd w (vct w x0 0) = 2 ∧ (0 : Int) ≤ (vct w x0 1) ∧ (vct w x0 1) < vln w (vct w x0 0)) ∧ VW d 293 29 [(2, x0), (1, x1), (9, 0)] [] (vsv w (vct w x0 0) (vct w x0 1) x1) Q :=
  (VW_b 6 (F := fun n => if vkd w x0 = 20 then if vkd w x0 = 20 then if vkd w (vct w x0 0) = 2 ∧ (0 : Int) ≤ (vct w x0 1) ∧ (vct w x0 1) < vln w (vct w x0 0) then vrun n d 293 29 [(2, x0), (1, x1), (9, 0)] [] (vsv w (vct w x0 0) (vct w x0 1) x1) else none else none else none) (fun _ => rfl)).trans (EX_if.trans (and_congr Iff.rfl (EX_if.trans (and_congr Iff.rfl (EX_if.trans (and_congr Iff.rfl (Iff.rfl)))))))
set_option maxRecDepth 100000 in
theorem b293_29 {d : Nat} {w : vW} {x0 x1 : Int} {Q : Int → vW → Prop} : VW d 293 29 [(2, x0), (1, x1), (9, 0)] [] w Q ↔ (vkd w x0 = 20) ∧ (vkd w x0 = 20) ∧ VW d 293 39 [(2, x0), (1, x1), (9, 0)] [] (vsv w x0 1 (w32 ((vct w x0 1) + 1))) Q :=
  (VW_b 6 (F := fun n => if vkd w x0 = 20 then if vkd w x0 = 20 then vrun n d 293 39 [(2, x0), (1, x1), (9, 0)] [] (vsv w x0 1 (w32 ((vct w x0 1) + 1))) else none else none) (fun _ => rfl)).trans (EX_if.trans (and_congr Iff.rfl (EX_if.trans (and_congr Iff.rfl (Iff.rfl)))))
set_option maxRecDepth 100000 in
theorem b293_39 {d : Nat} {w : vW} {x0 x1 : Int} {Q : Int → vW → Prop} : VW d 293 39 [(2, x0), (1, x1), (9, 0)] [] w Q ↔ Q 0 w :=
  (VW_b 1 (F := fun n => some (0, 0, w)) (fun _ => rfl)).trans (EX_ret0)
/-! 294: StrikeWhatCancels$Told.put(IJ)V -/
set_option maxRecDepth 100000 in
theorem b294_0 {d : Nat} {w : vW} {x0 x1 x2 : Int} {Q : Int → vW → Prop} : VW d 294 0 [(2, x0), (0, x1), (1, x2), (9, 0)] [] w Q ↔ ((x1 < 0 → VW d 294 28 [(2, x0), (0, x1), (1, x2), (9, 0)] [] w Q) ∧ (¬ (x1 < 0) → VW d 294 4 [(2, x0), (0, x1), (1, x2), (9, 0)] [] w Q)) :=
  (VW_b 2 (F := fun n => (if x1 < 0 then vrun n d 294 28 [(2, x0), (0, x1), (1, x2), (9, 0)] [] w else vrun n d 294 4 [(2, x0), (0, x1), (1, x2), (9, 0)] [] w)) (fun _ => rfl)).trans (EX_br.trans (and_congr (imp_congr Iff.rfl Iff.rfl) (imp_congr Iff.rfl Iff.rfl)))
set_option maxRecDepth 100000 in
theorem b294_4 {d : Nat} {w : vW} {x0 x1 x2 : Int} {Q : Int → vW → Prop} : VW d 294 4 [(2, x0), (0, x1), (1, x2), (9, 0)] [] w Q ↔ (vkd w x0 = 20) ∧ ((x1 < (vct w x0 1) → VW d 294 12 [(2, x0), (0, x1), (1, x2), (9, 0)] [] w Q) ∧ (¬ (x1 < (vct w x0 1)) → VW d 294 28 [(2, x0), (0, x1), (1, x2), (9, 0)] [] w Q)) :=
  (VW_b 4 (F := fun n => if vkd w x0 = 20 then (if x1 < (vct w x0 1) then vrun n d 294 12 [(2, x0), (0, x1), (1, x2), (9, 0)] [] w else vrun n d 294 28 [(2, x0), (0, x1), (1, x2), (9, 0)] [] w) else none) (fun _ => rfl)).trans (EX_if.trans (and_congr Iff.rfl (EX_br.trans (and_congr (imp_congr Iff.rfl Iff.rfl) (imp_congr Iff.rfl Iff.rfl)))))
set_option maxRecDepth 100000 in
theorem b294_12 {d : Nat} {w : vW} {x0 x1 x2 : Int} {Q : Int → vW → Prop} : VW d 294 12 [(2, x0), (0, x1), (1, x2), (9, 0)] [] w Q ↔ (vkd w x0 = 20) ∧ (vkd w (vct w x0 0) = 2) ∧ ((x1 < (vln w (vct w x0 0)) → VW d 294 21 [(2, x0), (0, x1), (1, x2), (9, 0)] [] w Q) ∧ (¬ (x1 < (vln w (vct w x0 0))) → VW d 294 28 [(2, x0), (0, x1), (1, x2), (9, 0)] [] w Q)) :=
  (VW_b 5 (F := fun n => if vkd w x0 = 20 then if vkd w (vct w x0 0) = 2 then (if x1 < (vln w (vct w x0 0)) then vrun n d 294 21 [(2, x0), (0, x1), (1, x2), (9, 0)] [] w else vrun n d 294 28 [(2, x0), (0, x1), (1, x2), (9, 0)] [] w) else none else none) (fun _ => rfl)).trans (EX_if.trans (and_congr Iff.rfl (EX_if.trans (and_congr Iff.rfl (EX_br.trans (and_congr (imp_congr Iff.rfl Iff.rfl) (imp_congr Iff.rfl Iff.rfl)))))))
set_option maxRecDepth 100000 in
theorem b294_21 {d : Nat} {w : vW} {x0 x1 x2 : Int} {Q : Int → vW → Prop} : VW d 294 21 [(2, x0), (0, x1), (1, x2), (9, 0)] [] w Q ↔ (vkd w x0 = 20) ∧ (vkd w (vct w x0 0) = 2 ∧ (0 : Int) ≤ x1 ∧ x1 < vln w (vct w x0 0)) ∧ VW d 294 28 [(2, x0), (0, x1), (1, x2), (9, 0)] [] (vsv w (vct w x0 0) x1 x2) Q :=
  (VW_b 5 (F := fun n => if vkd w x0 = 20 then if vkd w (vct w x0 0) = 2 ∧ (0 : Int) ≤ x1 ∧ x1 < vln w (vct w x0 0) then vrun n d 294 28 [(2, x0), (0, x1), (1, x2), (9, 0)] [] (vsv w (vct w x0 0) x1 x2) else none else none) (fun _ => rfl)).trans (EX_if.trans (and_congr Iff.rfl (EX_if.trans (and_congr Iff.rfl (Iff.rfl)))))
set_option maxRecDepth 100000 in
theorem b294_28 {d : Nat} {w : vW} {x0 x1 x2 : Int} {Q : Int → vW → Prop} : VW d 294 28 [(2, x0), (0, x1), (1, x2), (9, 0)] [] w Q ↔ Q 0 w :=
  (VW_b 1 (F := fun n => some (0, 0, w)) (fun _ => rfl)).trans (EX_ret0)
/-! 295: StrikeWhatCancels$Told.raise(I)V -/
set_option maxRecDepth 100000 in
theorem b295_0 {d : Nat} {w : vW} {x0 x1 : Int} {Q : Int → vW → Prop} : VW d 295 0 [(2, x0), (0, x1)] [] w Q ↔ (vkd w x0 = 20) ∧ VC d 296 [(2, x0), (0, x1)] w (fun r w1 => VW d 295 7 [(2, x0), (0, x1)] [(1, r), (0, x1), (2, x0)] w1 Q) :=
  (VW_b 5 (F := fun n => if vkd w x0 = 20 then vclr (vrun n) d 295 7 296 2 1 [(2, x0), (0, x1)] [(0, x1), (2, x0), (0, x1), (2, x0)] w else none) (fun _ => rfl)).trans (EX_if.trans (and_congr Iff.rfl (EX_call rfl)))
set_option maxRecDepth 100000 in
theorem b295_7 {d : Nat} {w : vW} {x0 x1 y0 y1 y2 : Int} {Q : Int → vW → Prop} : VW d 295 7 [(2, x0), (0, x1)] [(1, y2), (0, y1), (2, y0)] w Q ↔ (vkd w y0 = 20) ∧ VC d 294 [(2, y0), (0, y1), (1, w64 (y2 + 1))] w (fun _ w1 => VW d 295 12 [(2, x0), (0, x1)] [] w1 Q) :=
  (VW_b 3 (F := fun n => if vkd w y0 = 20 then vclr (vrun n) d 295 12 294 3 9 [(2, x0), (0, x1)] [(1, w64 (y2 + 1)), (0, y1), (2, y0)] w else none) (fun _ => rfl)).trans (EX_if.trans (and_congr Iff.rfl (EX_call rfl)))
set_option maxRecDepth 100000 in
theorem b295_12 {d : Nat} {w : vW} {x0 x1 : Int} {Q : Int → vW → Prop} : VW d 295 12 [(2, x0), (0, x1)] [] w Q ↔ Q 0 w :=
  (VW_b 1 (F := fun n => some (0, 0, w)) (fun _ => rfl)).trans (EX_ret0)
/-! 296: StrikeWhatCancels$Told.at(I)J -/
set_option maxRecDepth 100000 in
theorem b296_0 {d : Nat} {w : vW} {x0 x1 : Int} {Q : Int → vW → Prop} : VW d 296 0 [(2, x0), (0, x1)] [] w Q ↔ ((x1 < 0 → VW d 296 30 [(2, x0), (0, x1)] [] w Q) ∧ (¬ (x1 < 0) → VW d 296 4 [(2, x0), (0, x1)] [] w Q)) :=
  (VW_b 2 (F := fun n => (if x1 < 0 then vrun n d 296 30 [(2, x0), (0, x1)] [] w else vrun n d 296 4 [(2, x0), (0, x1)] [] w)) (fun _ => rfl)).trans (EX_br.trans (and_congr (imp_congr Iff.rfl Iff.rfl) (imp_congr Iff.rfl Iff.rfl)))
set_option maxRecDepth 100000 in
theorem b296_4 {d : Nat} {w : vW} {x0 x1 : Int} {Q : Int → vW → Prop} : VW d 296 4 [(2, x0), (0, x1)] [] w Q ↔ (vkd w x0 = 20) ∧ ((x1 < (vct w x0 1) → VW d 296 12 [(2, x0), (0, x1)] [] w Q) ∧ (¬ (x1 < (vct w x0 1)) → VW d 296 30 [(2, x0), (0, x1)] [] w Q)) :=
  (VW_b 4 (F := fun n => if vkd w x0 = 20 then (if x1 < (vct w x0 1) then vrun n d 296 12 [(2, x0), (0, x1)] [] w else vrun n d 296 30 [(2, x0), (0, x1)] [] w) else none) (fun _ => rfl)).trans (EX_if.trans (and_congr Iff.rfl (EX_br.trans (and_congr (imp_congr Iff.rfl Iff.rfl) (imp_congr Iff.rfl Iff.rfl)))))
set_option maxRecDepth 100000 in
theorem b296_12 {d : Nat} {w : vW} {x0 x1 : Int} {Q : Int → vW → Prop} : VW d 296 12 [(2, x0), (0, x1)] [] w Q ↔ (vkd w x0 = 20) ∧ (vkd w (vct w x0 0) = 2) ∧ ((x1 < (vln w (vct w x0 0)) → VW d 296 21 [(2, x0), (0, x1)] [] w Q) ∧ (¬ (x1 < (vln w (vct w x0 0))) → VW d 296 30 [(2, x0), (0, x1)] [] w Q)) :=
  (VW_b 5 (F := fun n => if vkd w x0 = 20 then if vkd w (vct w x0 0) = 2 then (if x1 < (vln w (vct w x0 0)) then vrun n d 296 21 [(2, x0), (0, x1)] [] w else vrun n d 296 30 [(2, x0), (0, x1)] [] w) else none else none) (fun _ => rfl)).trans (EX_if.trans (and_congr Iff.rfl (EX_if.trans (and_congr Iff.rfl (EX_br.trans (and_congr (imp_congr Iff.rfl Iff.rfl) (imp_congr Iff.rfl Iff.rfl)))))))
set_option maxRecDepth 100000 in
theorem b296_21 {d : Nat} {w : vW} {x0 x1 : Int} {Q : Int → vW → Prop} : VW d 296 21 [(2, x0), (0, x1)] [] w Q ↔ (vkd w x0 = 20) ∧ (vkd w (vct w x0 0) = 2 ∧ (0 : Int) ≤ x1 ∧ x1 < vln w (vct w x0 0)) ∧ VW d 296 31 [(2, x0), (0, x1)] [(1, vct w (vct w x0 0) x1)] w Q :=
  (VW_b 5 (F := fun n => if vkd w x0 = 20 then if vkd w (vct w x0 0) = 2 ∧ (0 : Int) ≤ x1 ∧ x1 < vln w (vct w x0 0) then vrun n d 296 31 [(2, x0), (0, x1)] [(1, vct w (vct w x0 0) x1)] w else none else none) (fun _ => rfl)).trans (EX_if.trans (and_congr Iff.rfl (EX_if.trans (and_congr Iff.rfl (Iff.rfl)))))
set_option maxRecDepth 100000 in
theorem b296_30 {d : Nat} {w : vW} {x0 x1 : Int} {Q : Int → vW → Prop} : VW d 296 30 [(2, x0), (0, x1)] [] w Q ↔ VW d 296 31 [(2, x0), (0, x1)] [(1, 0)] w Q :=
  (VW_b 1 (F := fun n => vrun n d 296 31 [(2, x0), (0, x1)] [(1, 0)] w) (fun _ => rfl)).trans (Iff.rfl)
set_option maxRecDepth 100000 in
theorem b296_31 {d : Nat} {w : vW} {x0 x1 y0 : Int} {Q : Int → vW → Prop} : VW d 296 31 [(2, x0), (0, x1)] [(1, y0)] w Q ↔ Q y0 w :=
  (VW_b 1 (F := fun n => some (0, y0, w)) (fun _ => rfl)).trans (EX_ret0)
/-! 297: StrikeWhatCancelsLaw.rule(LStrikeWhatCancels;II[J)I -/
set_option maxRecDepth 100000 in
theorem b297_0 {d : Nat} {w : vW} {x0 x1 x2 x3 : Int} {Q : Int → vW → Prop} : VW d 297 0 [(2, x0), (0, x1), (0, x2), (2, x3), (9, 0)] [] w Q ↔ (vkd w x0 = 21) ∧ VCX d 7 [(2, x0), (0, x1), (0, x2)] w (fun r w1 => VW d 297 8 [(2, x0), (0, x1), (0, x2), (2, x3), (9, 0)] [(1, r), (0, 0), (2, x3)] w1 Q) (fun w1 => VW d 297 12 [(2, x0), (0, x1), (0, x2), (2, x3), (9, 0)] [(5, 0)] w1 Q) :=
  (VW_b 6 (F := fun n => if vkd w x0 = 21 then vclxr (vrun n) d 297 8 7 3 1 [(2, x0), (0, x1), (0, x2), (2, x3), (9, 0)] [(0, x2), (0, x1), (2, x0), (0, 0), (2, x3)] w else none) (fun _ => rfl)).trans (EX_if.trans (and_congr Iff.rfl (EX_callx rfl)))
set_option maxRecDepth 100000 in
theorem b297_8 {d : Nat} {w : vW} {x0 x1 x2 x3 y0 y1 y2 : Int} {Q : Int → vW → Prop} : VW d 297 8 [(2, x0), (0, x1), (0, x2), (2, x3), (9, 0)] [(1, y2), (0, y1), (2, y0)] w Q ↔ (vkd w y0 = 2 ∧ (0 : Int) ≤ y1 ∧ y1 < vln w y0) ∧ VW d 297 9 [(2, x0), (0, x1), (0, x2), (2, x3), (9, 0)] [] (vsv w y0 y1 y2) Q :=
  (VW_b 1 (F := fun n => if vkd w y0 = 2 ∧ (0 : Int) ≤ y1 ∧ y1 < vln w y0 then vrun n d 297 9 [(2, x0), (0, x1), (0, x2), (2, x3), (9, 0)] [] (vsv w y0 y1 y2) else none) (fun _ => rfl)).trans (EX_if.trans (and_congr Iff.rfl (Iff.rfl)))
set_option maxRecDepth 100000 in
theorem b297_9 {d : Nat} {w : vW} {x0 x1 x2 x3 : Int} {Q : Int → vW → Prop} : VW d 297 9 [(2, x0), (0, x1), (0, x2), (2, x3), (9, 0)] [] w Q ↔ VW d 297 16 [(2, x0), (0, x1), (0, x2), (2, x3), (9, 0)] [] w Q :=
  (VW_b 1 (F := fun n => vrun n d 297 16 [(2, x0), (0, x1), (0, x2), (2, x3), (9, 0)] [] w) (fun _ => rfl)).trans (Iff.rfl)
set_option maxRecDepth 100000 in
theorem b297_12 {d : Nat} {w : vW} {x0 x1 x2 x3 : Int} {Q : Int → vW → Prop} : VW d 297 12 [(2, x0), (0, x1), (0, x2), (2, x3), (9, 0)] [(5, 0)] w Q ↔ Q 1 w :=
  (VW_b 3 (F := fun n => some (0, 1, w)) (fun _ => rfl)).trans (EX_ret0)
set_option maxRecDepth 100000 in
theorem b297_16 {d : Nat} {w : vW} {x0 x1 x2 x3 : Int} {Q : Int → vW → Prop} : VW d 297 16 [(2, x0), (0, x1), (0, x2), (2, x3), (9, 0)] [] w Q ↔ Q 0 w :=
  (VW_b 2 (F := fun n => some (0, 0, w)) (fun _ => rfl)).trans (EX_ret0)
/-! 298: StrikeWhatCancelsLaw.row(LStrikeWhatCancels;I[J)I -/
set_option maxRecDepth 100000 in
theorem b298_0 {d : Nat} {w : vW} {x0 x1 x2 : Int} {Q : Int → vW → Prop} : VW d 298 0 [(2, x0), (0, x1), (2, x2), (9, 0)] [] w Q ↔ (vkd w x0 = 21) ∧ VCX d 48 [(2, x0), (0, x1)] w (fun r w1 => VW d 298 7 [(2, x0), (0, x1), (2, x2), (9, 0)] [(1, r), (0, 0), (2, x2)] w1 Q) (fun w1 => VW d 298 11 [(2, x0), (0, x1), (2, x2), (9, 0)] [(5, 0)] w1 Q) :=
  (VW_b 5 (F := fun n => if vkd w x0 = 21 then vclxr (vrun n) d 298 7 48 2 1 [(2, x0), (0, x1), (2, x2), (9, 0)] [(0, x1), (2, x0), (0, 0), (2, x2)] w else none) (fun _ => rfl)).trans (EX_if.trans (and_congr Iff.rfl (EX_callx rfl)))
set_option maxRecDepth 100000 in
theorem b298_7 {d : Nat} {w : vW} {x0 x1 x2 y0 y1 y2 : Int} {Q : Int → vW → Prop} : VW d 298 7 [(2, x0), (0, x1), (2, x2), (9, 0)] [(1, y2), (0, y1), (2, y0)] w Q ↔ (vkd w y0 = 2 ∧ (0 : Int) ≤ y1 ∧ y1 < vln w y0) ∧ VW d 298 8 [(2, x0), (0, x1), (2, x2), (9, 0)] [] (vsv w y0 y1 y2) Q :=
  (VW_b 1 (F := fun n => if vkd w y0 = 2 ∧ (0 : Int) ≤ y1 ∧ y1 < vln w y0 then vrun n d 298 8 [(2, x0), (0, x1), (2, x2), (9, 0)] [] (vsv w y0 y1 y2) else none) (fun _ => rfl)).trans (EX_if.trans (and_congr Iff.rfl (Iff.rfl)))
set_option maxRecDepth 100000 in
theorem b298_8 {d : Nat} {w : vW} {x0 x1 x2 : Int} {Q : Int → vW → Prop} : VW d 298 8 [(2, x0), (0, x1), (2, x2), (9, 0)] [] w Q ↔ VW d 298 14 [(2, x0), (0, x1), (2, x2), (9, 0)] [] w Q :=
  (VW_b 1 (F := fun n => vrun n d 298 14 [(2, x0), (0, x1), (2, x2), (9, 0)] [] w) (fun _ => rfl)).trans (Iff.rfl)
set_option maxRecDepth 100000 in
theorem b298_11 {d : Nat} {w : vW} {x0 x1 x2 : Int} {Q : Int → vW → Prop} : VW d 298 11 [(2, x0), (0, x1), (2, x2), (9, 0)] [(5, 0)] w Q ↔ Q 1 w :=
  (VW_b 3 (F := fun n => some (0, 1, w)) (fun _ => rfl)).trans (EX_ret0)
set_option maxRecDepth 100000 in
theorem b298_14 {d : Nat} {w : vW} {x0 x1 x2 : Int} {Q : Int → vW → Prop} : VW d 298 14 [(2, x0), (0, x1), (2, x2), (9, 0)] [] w Q ↔ Q 0 w :=
  (VW_b 2 (F := fun n => some (0, 0, w)) (fun _ => rfl)).trans (EX_ret0)
