/-! 125: StrikeWhatCancelsModel.isUsed(I)Z -/
set_option maxRecDepth 100000 in
theorem b125_0 {d : Nat} {w : vW} {x0 x1 : Int} {Q : Int → vW → Prop} : VW d 125 0 [(2, x0), (0, x1), (9, 0), (9, 0)] [] w Q ↔ VW d 125 4 [(2, x0), (0, x1), (0, 0), (0, 0)] [] w Q :=
  (VW_b 4 (F := fun n => vrun n d 125 4 [(2, x0), (0, x1), (0, 0), (0, 0)] [] w) (fun _ => rfl)).trans (Iff.rfl)
set_option maxRecDepth 100000 in
theorem b125_4 {d : Nat} {w : vW} {x0 x1 x2 x3 : Int} {Q : Int → vW → Prop} : VW d 125 4 [(2, x0), (0, x1), (0, x2), (0, x3)] [] w Q ↔ (vkd w x0 = 22) ∧ ((x3 < (vct w x0 4) → VW d 125 12 [(2, x0), (0, x1), (0, x2), (0, x3)] [] w Q) ∧ (¬ (x3 < (vct w x0 4)) → VW d 125 42 [(2, x0), (0, x1), (0, x2), (0, x3)] [] w Q)) :=
  (VW_b 4 (F := fun n => if vkd w x0 = 22 then (if x3 < (vct w x0 4) then vrun n d 125 12 [(2, x0), (0, x1), (0, x2), (0, x3)] [] w else vrun n d 125 42 [(2, x0), (0, x1), (0, x2), (0, x3)] [] w) else none) (fun _ => rfl)).trans (EX_if.trans (and_congr Iff.rfl (EX_br.trans (and_congr (imp_congr Iff.rfl Iff.rfl) (imp_congr Iff.rfl Iff.rfl)))))
set_option maxRecDepth 100000 in
theorem b125_12 {d : Nat} {w : vW} {x0 x1 x2 x3 : Int} {Q : Int → vW → Prop} : VW d 125 12 [(2, x0), (0, x1), (0, x2), (0, x3)] [] w Q ↔ ((x2 = 0 → VW d 125 16 [(2, x0), (0, x1), (0, x2), (0, x3)] [] w Q) ∧ (¬ (x2 = 0) → VW d 125 30 [(2, x0), (0, x1), (0, x2), (0, x3)] [] w Q)) :=
  (VW_b 2 (F := fun n => (if x2 = 0 then vrun n d 125 16 [(2, x0), (0, x1), (0, x2), (0, x3)] [] w else vrun n d 125 30 [(2, x0), (0, x1), (0, x2), (0, x3)] [] w)) (fun _ => rfl)).trans (EX_br.trans (and_congr (imp_congr Iff.rfl Iff.rfl) (imp_congr Iff.rfl Iff.rfl)))
set_option maxRecDepth 100000 in
theorem b125_16 {d : Nat} {w : vW} {x0 x1 x2 x3 : Int} {Q : Int → vW → Prop} : VW d 125 16 [(2, x0), (0, x1), (0, x2), (0, x3)] [] w Q ↔ (vkd w x0 = 22) ∧ (vkd w (vct w x0 47) = 1 ∧ (0 : Int) ≤ (w32 ((w32 (8 * x3)) + x1)) ∧ (w32 ((w32 (8 * x3)) + x1)) < vln w (vct w x0 47)) ∧ (((vct w (vct w x0 47) (w32 ((w32 (8 * x3)) + x1))) = 0 → VW d 125 34 [(2, x0), (0, x1), (0, x2), (0, x3)] [] w Q) ∧ (¬ ((vct w (vct w x0 47) (w32 ((w32 (8 * x3)) + x1))) = 0) → VW d 125 30 [(2, x0), (0, x1), (0, x2), (0, x3)] [] w Q)) :=
  (VW_b 9 (F := fun n => if vkd w x0 = 22 then if vkd w (vct w x0 47) = 1 ∧ (0 : Int) ≤ (w32 ((w32 (8 * x3)) + x1)) ∧ (w32 ((w32 (8 * x3)) + x1)) < vln w (vct w x0 47) then (if (vct w (vct w x0 47) (w32 ((w32 (8 * x3)) + x1))) = 0 then vrun n d 125 34 [(2, x0), (0, x1), (0, x2), (0, x3)] [] w else vrun n d 125 30 [(2, x0), (0, x1), (0, x2), (0, x3)] [] w) else none else none) (fun _ => rfl)).trans (EX_if.trans (and_congr Iff.rfl (EX_if.trans (and_congr Iff.rfl (EX_br.trans (and_congr (imp_congr Iff.rfl Iff.rfl) (imp_congr Iff.rfl Iff.rfl)))))))
set_option maxRecDepth 100000 in
theorem b125_30 {d : Nat} {w : vW} {x0 x1 x2 x3 : Int} {Q : Int → vW → Prop} : VW d 125 30 [(2, x0), (0, x1), (0, x2), (0, x3)] [] w Q ↔ VW d 125 35 [(2, x0), (0, x1), (0, x2), (0, x3)] [(0, 1)] w Q :=
  (VW_b 2 (F := fun n => vrun n d 125 35 [(2, x0), (0, x1), (0, x2), (0, x3)] [(0, 1)] w) (fun _ => rfl)).trans (Iff.rfl)
set_option maxRecDepth 100000 in
theorem b125_34 {d : Nat} {w : vW} {x0 x1 x2 x3 : Int} {Q : Int → vW → Prop} : VW d 125 34 [(2, x0), (0, x1), (0, x2), (0, x3)] [] w Q ↔ VW d 125 35 [(2, x0), (0, x1), (0, x2), (0, x3)] [(0, 0)] w Q :=
  (VW_b 1 (F := fun n => vrun n d 125 35 [(2, x0), (0, x1), (0, x2), (0, x3)] [(0, 0)] w) (fun _ => rfl)).trans (Iff.rfl)
set_option maxRecDepth 100000 in
theorem b125_35 {d : Nat} {w : vW} {x0 x1 x2 x3 y0 : Int} {Q : Int → vW → Prop} : VW d 125 35 [(2, x0), (0, x1), (0, x2), (0, x3)] [(0, y0)] w Q ↔ VW d 125 4 [(2, x0), (0, x1), (0, y0), (0, w32 (x3 + 1))] [] w Q :=
  (VW_b 3 (F := fun n => vrun n d 125 4 [(2, x0), (0, x1), (0, y0), (0, w32 (x3 + 1))] [] w) (fun _ => rfl)).trans (Iff.rfl)
set_option maxRecDepth 100000 in
theorem b125_42 {d : Nat} {w : vW} {x0 x1 x2 x3 : Int} {Q : Int → vW → Prop} : VW d 125 42 [(2, x0), (0, x1), (0, x2), (0, x3)] [] w Q ↔ Q x2 w :=
  (VW_b 2 (F := fun n => some (0, x2, w)) (fun _ => rfl)).trans (EX_ret0)
/-! 126: StrikeWhatCancelsModel.weighsAll(I)Z -/
set_option maxRecDepth 100000 in
theorem b126_0 {d : Nat} {w : vW} {x0 x1 : Int} {Q : Int → vW → Prop} : VW d 126 0 [(2, x0), (0, x1), (9, 0), (9, 0)] [] w Q ↔ VC d 124 [(2, x0), (0, x1)] w (fun r w1 => VW d 126 5 [(2, x0), (0, x1), (9, 0), (9, 0)] [(0, r)] w1 Q) :=
  (VW_b 3 (F := fun n => vcl (vrun n) d 126 5 124 2 0 [(2, x0), (0, x1), (9, 0), (9, 0)] [(0, x1), (2, x0)] w) (fun _ => rfl)).trans (EX_call rfl)
set_option maxRecDepth 100000 in
theorem b126_5 {d : Nat} {w : vW} {x0 x1 y0 : Int} {Q : Int → vW → Prop} : VW d 126 5 [(2, x0), (0, x1), (9, 0), (9, 0)] [(0, y0)] w Q ↔ ((y0 = 0 → VW d 126 8 [(2, x0), (0, x1), (9, 0), (9, 0)] [] w Q) ∧ (¬ (y0 = 0) → VW d 126 10 [(2, x0), (0, x1), (9, 0), (9, 0)] [] w Q)) :=
  (VW_b 1 (F := fun n => (if y0 = 0 then vrun n d 126 8 [(2, x0), (0, x1), (9, 0), (9, 0)] [] w else vrun n d 126 10 [(2, x0), (0, x1), (9, 0), (9, 0)] [] w)) (fun _ => rfl)).trans (EX_br.trans (and_congr (imp_congr Iff.rfl Iff.rfl) (imp_congr Iff.rfl Iff.rfl)))
set_option maxRecDepth 100000 in
theorem b126_8 {d : Nat} {w : vW} {x0 x1 : Int} {Q : Int → vW → Prop} : VW d 126 8 [(2, x0), (0, x1), (9, 0), (9, 0)] [] w Q ↔ Q 0 w :=
  (VW_b 2 (F := fun n => some (0, 0, w)) (fun _ => rfl)).trans (EX_ret0)
set_option maxRecDepth 100000 in
theorem b126_10 {d : Nat} {w : vW} {x0 x1 : Int} {Q : Int → vW → Prop} : VW d 126 10 [(2, x0), (0, x1), (9, 0), (9, 0)] [] w Q ↔ ((x1 = 8 → VW d 126 16 [(2, x0), (0, x1), (9, 0), (9, 0)] [] w Q) ∧ (¬ (x1 = 8) → VW d 126 18 [(2, x0), (0, x1), (9, 0), (9, 0)] [] w Q)) :=
  (VW_b 3 (F := fun n => (if x1 = 8 then vrun n d 126 16 [(2, x0), (0, x1), (9, 0), (9, 0)] [] w else vrun n d 126 18 [(2, x0), (0, x1), (9, 0), (9, 0)] [] w)) (fun _ => rfl)).trans (EX_br.trans (and_congr (imp_congr Iff.rfl Iff.rfl) (imp_congr Iff.rfl Iff.rfl)))
set_option maxRecDepth 100000 in
theorem b126_16 {d : Nat} {w : vW} {x0 x1 : Int} {Q : Int → vW → Prop} : VW d 126 16 [(2, x0), (0, x1), (9, 0), (9, 0)] [] w Q ↔ Q 1 w :=
  (VW_b 2 (F := fun n => some (0, 1, w)) (fun _ => rfl)).trans (EX_ret0)
set_option maxRecDepth 100000 in
theorem b126_18 {d : Nat} {w : vW} {x0 x1 : Int} {Q : Int → vW → Prop} : VW d 126 18 [(2, x0), (0, x1), (9, 0), (9, 0)] [] w Q ↔ VC d 125 [(2, x0), (0, x1)] w (fun r w1 => VW d 126 23 [(2, x0), (0, x1), (9, 0), (9, 0)] [(0, r)] w1 Q) :=
  (VW_b 3 (F := fun n => vcl (vrun n) d 126 23 125 2 0 [(2, x0), (0, x1), (9, 0), (9, 0)] [(0, x1), (2, x0)] w) (fun _ => rfl)).trans (EX_call rfl)
set_option maxRecDepth 100000 in
theorem b126_23 {d : Nat} {w : vW} {x0 x1 y0 : Int} {Q : Int → vW → Prop} : VW d 126 23 [(2, x0), (0, x1), (9, 0), (9, 0)] [(0, y0)] w Q ↔ ((y0 = 0 → VW d 126 31 [(2, x0), (0, x1), (9, 0), (9, 0)] [] w Q) ∧ (¬ (y0 = 0) → VW d 126 26 [(2, x0), (0, x1), (9, 0), (9, 0)] [] w Q)) :=
  (VW_b 1 (F := fun n => (if y0 = 0 then vrun n d 126 31 [(2, x0), (0, x1), (9, 0), (9, 0)] [] w else vrun n d 126 26 [(2, x0), (0, x1), (9, 0), (9, 0)] [] w)) (fun _ => rfl)).trans (EX_br.trans (and_congr (imp_congr Iff.rfl Iff.rfl) (imp_congr Iff.rfl Iff.rfl)))
set_option maxRecDepth 100000 in
theorem b126_26 {d : Nat} {w : vW} {x0 x1 : Int} {Q : Int → vW → Prop} : VW d 126 26 [(2, x0), (0, x1), (9, 0), (9, 0)] [] w Q ↔ VW d 126 32 [(2, x0), (0, x1), (9, 0), (9, 0)] [(0, 9)] w Q :=
  (VW_b 2 (F := fun n => vrun n d 126 32 [(2, x0), (0, x1), (9, 0), (9, 0)] [(0, 9)] w) (fun _ => rfl)).trans (Iff.rfl)
set_option maxRecDepth 100000 in
theorem b126_31 {d : Nat} {w : vW} {x0 x1 : Int} {Q : Int → vW → Prop} : VW d 126 31 [(2, x0), (0, x1), (9, 0), (9, 0)] [] w Q ↔ VW d 126 32 [(2, x0), (0, x1), (9, 0), (9, 0)] [(0, 1)] w Q :=
  (VW_b 1 (F := fun n => vrun n d 126 32 [(2, x0), (0, x1), (9, 0), (9, 0)] [(0, 1)] w) (fun _ => rfl)).trans (Iff.rfl)
set_option maxRecDepth 100000 in
theorem b126_32 {d : Nat} {w : vW} {x0 x1 y0 : Int} {Q : Int → vW → Prop} : VW d 126 32 [(2, x0), (0, x1), (9, 0), (9, 0)] [(0, y0)] w Q ↔ VW d 126 35 [(2, x0), (0, x1), (0, y0), (0, 1)] [] w Q :=
  (VW_b 3 (F := fun n => vrun n d 126 35 [(2, x0), (0, x1), (0, y0), (0, 1)] [] w) (fun _ => rfl)).trans (Iff.rfl)
set_option maxRecDepth 100000 in
theorem b126_35 {d : Nat} {w : vW} {x0 x1 x2 x3 : Int} {Q : Int → vW → Prop} : VW d 126 35 [(2, x0), (0, x1), (0, x2), (0, x3)] [] w Q ↔ ((x2 < x3 → VW d 126 65 [(2, x0), (0, x1), (0, x2), (0, x3)] [] w Q) ∧ (¬ (x2 < x3) → VW d 126 40 [(2, x0), (0, x1), (0, x2), (0, x3)] [] w Q)) :=
  (VW_b 3 (F := fun n => (if x2 < x3 then vrun n d 126 65 [(2, x0), (0, x1), (0, x2), (0, x3)] [] w else vrun n d 126 40 [(2, x0), (0, x1), (0, x2), (0, x3)] [] w)) (fun _ => rfl)).trans (EX_br.trans (and_congr (imp_congr Iff.rfl Iff.rfl) (imp_congr Iff.rfl Iff.rfl)))
set_option maxRecDepth 100000 in
theorem b126_40 {d : Nat} {w : vW} {x0 x1 x2 x3 : Int} {Q : Int → vW → Prop} : VW d 126 40 [(2, x0), (0, x1), (0, x2), (0, x3)] [] w Q ↔ (vkd w x0 = 22) ∧ (vkd w (vct w x0 46) = 1 ∧ (0 : Int) ≤ x1 ∧ x1 < vln w (vct w x0 46)) ∧ VW d 126 47 [(2, x0), (0, x1), (0, x2), (0, x3)] [] (vsv w (vct w x0 46) x1 x3) Q :=
  (VW_b 5 (F := fun n => if vkd w x0 = 22 then if vkd w (vct w x0 46) = 1 ∧ (0 : Int) ≤ x1 ∧ x1 < vln w (vct w x0 46) then vrun n d 126 47 [(2, x0), (0, x1), (0, x2), (0, x3)] [] (vsv w (vct w x0 46) x1 x3) else none else none) (fun _ => rfl)).trans (EX_if.trans (and_congr Iff.rfl (EX_if.trans (and_congr Iff.rfl (Iff.rfl)))))
set_option maxRecDepth 100000 in
theorem b126_47 {d : Nat} {w : vW} {x0 x1 x2 x3 : Int} {Q : Int → vW → Prop} : VW d 126 47 [(2, x0), (0, x1), (0, x2), (0, x3)] [] w Q ↔ VC d 126 [(2, x0), (0, w32 (x1 + 1))] w (fun r w1 => VW d 126 54 [(2, x0), (0, x1), (0, x2), (0, x3)] [(0, r)] w1 Q) :=
  (VW_b 5 (F := fun n => vcl (vrun n) d 126 54 126 2 0 [(2, x0), (0, x1), (0, x2), (0, x3)] [(0, w32 (x1 + 1)), (2, x0)] w) (fun _ => rfl)).trans (EX_call rfl)
set_option maxRecDepth 100000 in
theorem b126_54 {d : Nat} {w : vW} {x0 x1 x2 x3 y0 : Int} {Q : Int → vW → Prop} : VW d 126 54 [(2, x0), (0, x1), (0, x2), (0, x3)] [(0, y0)] w Q ↔ ((y0 = 0 → VW d 126 59 [(2, x0), (0, x1), (0, x2), (0, x3)] [] w Q) ∧ (¬ (y0 = 0) → VW d 126 57 [(2, x0), (0, x1), (0, x2), (0, x3)] [] w Q)) :=
  (VW_b 1 (F := fun n => (if y0 = 0 then vrun n d 126 59 [(2, x0), (0, x1), (0, x2), (0, x3)] [] w else vrun n d 126 57 [(2, x0), (0, x1), (0, x2), (0, x3)] [] w)) (fun _ => rfl)).trans (EX_br.trans (and_congr (imp_congr Iff.rfl Iff.rfl) (imp_congr Iff.rfl Iff.rfl)))
set_option maxRecDepth 100000 in
theorem b126_57 {d : Nat} {w : vW} {x0 x1 x2 x3 : Int} {Q : Int → vW → Prop} : VW d 126 57 [(2, x0), (0, x1), (0, x2), (0, x3)] [] w Q ↔ Q 1 w :=
  (VW_b 2 (F := fun n => some (0, 1, w)) (fun _ => rfl)).trans (EX_ret0)
set_option maxRecDepth 100000 in
theorem b126_59 {d : Nat} {w : vW} {x0 x1 x2 x3 : Int} {Q : Int → vW → Prop} : VW d 126 59 [(2, x0), (0, x1), (0, x2), (0, x3)] [] w Q ↔ VW d 126 35 [(2, x0), (0, x1), (0, x2), (0, w32 (x3 + 1))] [] w Q :=
  (VW_b 2 (F := fun n => vrun n d 126 35 [(2, x0), (0, x1), (0, x2), (0, w32 (x3 + 1))] [] w) (fun _ => rfl)).trans (Iff.rfl)
set_option maxRecDepth 100000 in
theorem b126_65 {d : Nat} {w : vW} {x0 x1 x2 x3 : Int} {Q : Int → vW → Prop} : VW d 126 65 [(2, x0), (0, x1), (0, x2), (0, x3)] [] w Q ↔ Q 0 w :=
  (VW_b 2 (F := fun n => some (0, 0, w)) (fun _ => rfl)).trans (EX_ret0)
/-! 127: StrikeWhatCancelsModel.weights()I -/
set_option maxRecDepth 100000 in
theorem b127_0 {d : Nat} {w : vW} {x0 : Int} {Q : Int → vW → Prop} : VW d 127 0 [(2, x0), (9, 0)] [] w Q ↔ (vkd w x0 = 22) ∧ VW d 127 5 [(2, x0), (9, 0)] [] (vsv w x0 0 0) Q :=
  (VW_b 3 (F := fun n => if vkd w x0 = 22 then vrun n d 127 5 [(2, x0), (9, 0)] [] (vsv w x0 0 0) else none) (fun _ => rfl)).trans (EX_if.trans (and_congr Iff.rfl (Iff.rfl)))
set_option maxRecDepth 100000 in
theorem b127_5 {d : Nat} {w : vW} {x0 : Int} {Q : Int → vW → Prop} : VW d 127 5 [(2, x0), (9, 0)] [] w Q ↔ VC d 123 [(2, x0)] w (fun _ w1 => VW d 127 9 [(2, x0), (9, 0)] [] w1 Q) :=
  (VW_b 2 (F := fun n => vcl (vrun n) d 127 9 123 1 9 [(2, x0), (9, 0)] [(2, x0)] w) (fun _ => rfl)).trans (EX_call rfl)
set_option maxRecDepth 100000 in
theorem b127_9 {d : Nat} {w : vW} {x0 : Int} {Q : Int → vW → Prop} : VW d 127 9 [(2, x0), (9, 0)] [] w Q ↔ VC d 126 [(2, x0), (0, 0)] w (fun r w1 => VW d 127 14 [(2, x0), (9, 0)] [(0, r)] w1 Q) :=
  (VW_b 3 (F := fun n => vcl (vrun n) d 127 14 126 2 0 [(2, x0), (9, 0)] [(0, 0), (2, x0)] w) (fun _ => rfl)).trans (EX_call rfl)
set_option maxRecDepth 100000 in
theorem b127_14 {d : Nat} {w : vW} {x0 y0 : Int} {Q : Int → vW → Prop} : VW d 127 14 [(2, x0), (9, 0)] [(0, y0)] w Q ↔ ((y0 = 0 → VW d 127 17 [(2, x0), (9, 0)] [] w Q) ∧ (¬ (y0 = 0) → VW d 127 19 [(2, x0), (9, 0)] [] w Q)) :=
  (VW_b 1 (F := fun n => (if y0 = 0 then vrun n d 127 17 [(2, x0), (9, 0)] [] w else vrun n d 127 19 [(2, x0), (9, 0)] [] w)) (fun _ => rfl)).trans (EX_br.trans (and_congr (imp_congr Iff.rfl Iff.rfl) (imp_congr Iff.rfl Iff.rfl)))
set_option maxRecDepth 100000 in
theorem b127_17 {d : Nat} {w : vW} {x0 : Int} {Q : Int → vW → Prop} : VW d 127 17 [(2, x0), (9, 0)] [] w Q ↔ Q 0 w :=
  (VW_b 2 (F := fun n => some (0, 0, w)) (fun _ => rfl)).trans (EX_ret0)
set_option maxRecDepth 100000 in
theorem b127_19 {d : Nat} {w : vW} {x0 : Int} {Q : Int → vW → Prop} : VW d 127 19 [(2, x0), (9, 0)] [] w Q ↔ (vkd w x0 = 22) ∧ VW d 127 24 [(2, x0), (9, 0)] [] (vsv w x0 1 0) Q :=
  (VW_b 3 (F := fun n => if vkd w x0 = 22 then vrun n d 127 24 [(2, x0), (9, 0)] [] (vsv w x0 1 0) else none) (fun _ => rfl)).trans (EX_if.trans (and_congr Iff.rfl (Iff.rfl)))
set_option maxRecDepth 100000 in
theorem b127_24 {d : Nat} {w : vW} {x0 : Int} {Q : Int → vW → Prop} : VW d 127 24 [(2, x0), (9, 0)] [] w Q ↔ VW d 127 26 [(2, x0), (0, 0)] [] w Q :=
  (VW_b 2 (F := fun n => vrun n d 127 26 [(2, x0), (0, 0)] [] w) (fun _ => rfl)).trans (Iff.rfl)
set_option maxRecDepth 100000 in
theorem b127_26 {d : Nat} {w : vW} {x0 x1 : Int} {Q : Int → vW → Prop} : VW d 127 26 [(2, x0), (0, x1)] [] w Q ↔ ((x1 < 8 → VW d 127 32 [(2, x0), (0, x1)] [] w Q) ∧ (¬ (x1 < 8) → VW d 127 49 [(2, x0), (0, x1)] [] w Q)) :=
  (VW_b 3 (F := fun n => (if x1 < 8 then vrun n d 127 32 [(2, x0), (0, x1)] [] w else vrun n d 127 49 [(2, x0), (0, x1)] [] w)) (fun _ => rfl)).trans (EX_br.trans (and_congr (imp_congr Iff.rfl Iff.rfl) (imp_congr Iff.rfl Iff.rfl)))
set_option maxRecDepth 100000 in
theorem b127_32 {d : Nat} {w : vW} {x0 x1 : Int} {Q : Int → vW → Prop} : VW d 127 32 [(2, x0), (0, x1)] [] w Q ↔ (vkd w x0 = 22) ∧ (vkd w (vct w x0 46) = 1 ∧ (0 : Int) ≤ x1 ∧ x1 < vln w (vct w x0 46)) ∧ VC d 58 [(2, x0), (1, (vct w (vct w x0 46) x1))] w (fun _ w1 => VW d 127 43 [(2, x0), (0, x1)] [] w1 Q) :=
  (VW_b 7 (F := fun n => if vkd w x0 = 22 then if vkd w (vct w x0 46) = 1 ∧ (0 : Int) ≤ x1 ∧ x1 < vln w (vct w x0 46) then vcl (vrun n) d 127 43 58 2 9 [(2, x0), (0, x1)] [(1, (vct w (vct w x0 46) x1)), (2, x0)] w else none else none) (fun _ => rfl)).trans (EX_if.trans (and_congr Iff.rfl (EX_if.trans (and_congr Iff.rfl (EX_call rfl)))))
set_option maxRecDepth 100000 in
theorem b127_43 {d : Nat} {w : vW} {x0 x1 : Int} {Q : Int → vW → Prop} : VW d 127 43 [(2, x0), (0, x1)] [] w Q ↔ VW d 127 26 [(2, x0), (0, w32 (x1 + 1))] [] w Q :=
  (VW_b 2 (F := fun n => vrun n d 127 26 [(2, x0), (0, w32 (x1 + 1))] [] w) (fun _ => rfl)).trans (Iff.rfl)
set_option maxRecDepth 100000 in
theorem b127_49 {d : Nat} {w : vW} {x0 x1 : Int} {Q : Int → vW → Prop} : VW d 127 49 [(2, x0), (0, x1)] [] w Q ↔ Q 1 w :=
  (VW_b 2 (F := fun n => some (0, 1, w)) (fun _ => rfl)).trans (EX_ret0)
/-! 128: StrikeWhatCancelsModel.completes(I)I -/
set_option maxRecDepth 100000 in
theorem b128_0 {d : Nat} {w : vW} {x0 x1 : Int} {Q : Int → vW → Prop} : VW d 128 0 [(2, x0), (0, x1), (9, 0), (9, 0), (9, 0), (9, 0)] [] w Q ↔ (vkd w x0 = 22) ∧ (vkd w x0 = 22) ∧ VW d 128 8 [(2, x0), (0, x1), (9, 0), (9, 0), (9, 0), (9, 0)] [] (vsv w x0 5 (vct w x0 4)) Q :=
  (VW_b 4 (F := fun n => if vkd w x0 = 22 then if vkd w x0 = 22 then vrun n d 128 8 [(2, x0), (0, x1), (9, 0), (9, 0), (9, 0), (9, 0)] [] (vsv w x0 5 (vct w x0 4)) else none else none) (fun _ => rfl)).trans (EX_if.trans (and_congr Iff.rfl (EX_if.trans (and_congr Iff.rfl (Iff.rfl)))))
set_option maxRecDepth 100000 in
theorem b128_8 {d : Nat} {w : vW} {x0 x1 : Int} {v2 v3 v4 v5 : vV} {Q : Int → vW → Prop} : VW d 128 8 [(2, x0), (0, x1), v2, v3, v4, v5] [] w Q ↔ VC d 116 [(2, x0)] w (fun _ w1 => VW d 128 17 [(2, x0), (0, x1), (1, 0), (9, 0), (1, 0), (9, 0)] [] w1 Q) :=
  (VW_b 6 (F := fun n => vcl (vrun n) d 128 17 116 1 9 [(2, x0), (0, x1), (1, 0), (9, 0), (1, 0), (9, 0)] [(2, x0)] w) (fun _ => rfl)).trans (EX_call rfl)
set_option maxRecDepth 100000 in
theorem b128_17 {d : Nat} {w : vW} {x0 x1 x2 x4 : Int} {Q : Int → vW → Prop} : VW d 128 17 [(2, x0), (0, x1), (1, x2), (9, 0), (1, x4), (9, 0)] [] w Q ↔ (((vlc x2 x4) = 0 → VW d 128 24 [(2, x0), (0, x1), (1, x2), (9, 0), (1, x4), (9, 0)] [] w Q) ∧ (¬ ((vlc x2 x4) = 0) → VW d 128 67 [(2, x0), (0, x1), (1, x2), (9, 0), (1, x4), (9, 0)] [] w Q)) :=
  (VW_b 4 (F := fun n => (if (vlc x2 x4) = 0 then vrun n d 128 24 [(2, x0), (0, x1), (1, x2), (9, 0), (1, x4), (9, 0)] [] w else vrun n d 128 67 [(2, x0), (0, x1), (1, x2), (9, 0), (1, x4), (9, 0)] [] w)) (fun _ => rfl)).trans (EX_br.trans (and_congr (imp_congr Iff.rfl Iff.rfl) (imp_congr Iff.rfl Iff.rfl)))
set_option maxRecDepth 100000 in
theorem b128_24 {d : Nat} {w : vW} {x0 x1 x2 x4 : Int} {Q : Int → vW → Prop} : VW d 128 24 [(2, x0), (0, x1), (1, x2), (9, 0), (1, x4), (9, 0)] [] w Q ↔ (vkd w x0 = 22) ∧ VC d 118 [(2, x0), (0, vct w x0 5)] w (fun r w1 => VW d 128 32 [(2, x0), (0, x1), (1, x2), (9, 0), (1, x4), (9, 0)] [(0, r)] w1 Q) :=
  (VW_b 4 (F := fun n => if vkd w x0 = 22 then vcl (vrun n) d 128 32 118 2 0 [(2, x0), (0, x1), (1, x2), (9, 0), (1, x4), (9, 0)] [(0, vct w x0 5), (2, x0)] w else none) (fun _ => rfl)).trans (EX_if.trans (and_congr Iff.rfl (EX_call rfl)))
set_option maxRecDepth 100000 in
theorem b128_32 {d : Nat} {w : vW} {x0 x1 x2 x4 y0 : Int} {Q : Int → vW → Prop} : VW d 128 32 [(2, x0), (0, x1), (1, x2), (9, 0), (1, x4), (9, 0)] [(0, y0)] w Q ↔ ((y0 = 0 → VW d 128 67 [(2, x0), (0, x1), (1, x2), (9, 0), (1, x4), (9, 0)] [] w Q) ∧ (¬ (y0 = 0) → VW d 128 35 [(2, x0), (0, x1), (1, x2), (9, 0), (1, x4), (9, 0)] [] w Q)) :=
  (VW_b 1 (F := fun n => (if y0 = 0 then vrun n d 128 67 [(2, x0), (0, x1), (1, x2), (9, 0), (1, x4), (9, 0)] [] w else vrun n d 128 35 [(2, x0), (0, x1), (1, x2), (9, 0), (1, x4), (9, 0)] [] w)) (fun _ => rfl)).trans (EX_br.trans (and_congr (imp_congr Iff.rfl Iff.rfl) (imp_congr Iff.rfl Iff.rfl)))
set_option maxRecDepth 100000 in
theorem b128_35 {d : Nat} {w : vW} {x0 x1 x2 x4 : Int} {Q : Int → vW → Prop} : VW d 128 35 [(2, x0), (0, x1), (1, x2), (9, 0), (1, x4), (9, 0)] [] w Q ↔ (vkd w x0 = 22) ∧ (vkd w x0 = 22) ∧ VC d 112 [(2, x0), (1, vct w x0 44), (0, 0), (0, vct w x0 5)] w (fun r w1 => VW d 128 48 [(2, x0), (0, x1), (1, x2), (9, 0), (1, x4), (9, 0)] [(1, r)] w1 Q) :=
  (VW_b 7 (F := fun n => if vkd w x0 = 22 then if vkd w x0 = 22 then vcl (vrun n) d 128 48 112 4 1 [(2, x0), (0, x1), (1, x2), (9, 0), (1, x4), (9, 0)] [(0, vct w x0 5), (0, 0), (1, vct w x0 44), (2, x0)] w else none else none) (fun _ => rfl)).trans (EX_if.trans (and_congr Iff.rfl (EX_if.trans (and_congr Iff.rfl (EX_call rfl)))))
set_option maxRecDepth 100000 in
theorem b128_48 {d : Nat} {w : vW} {x0 x1 x2 x4 y0 : Int} {Q : Int → vW → Prop} : VW d 128 48 [(2, x0), (0, x1), (1, x2), (9, 0), (1, x4), (9, 0)] [(1, y0)] w Q ↔ (vkd w x0 = 22) ∧ (vkd w x0 = 22) ∧ VC d 112 [(2, x0), (1, vct w x0 45), (0, 0), (0, vct w x0 5)] w (fun r w1 => VW d 128 62 [(2, x0), (0, x1), (1, y0), (9, 0), (1, x4), (9, 0)] [(1, r)] w1 Q) :=
  (VW_b 8 (F := fun n => if vkd w x0 = 22 then if vkd w x0 = 22 then vcl (vrun n) d 128 62 112 4 1 [(2, x0), (0, x1), (1, y0), (9, 0), (1, x4), (9, 0)] [(0, vct w x0 5), (0, 0), (1, vct w x0 45), (2, x0)] w else none else none) (fun _ => rfl)).trans (EX_if.trans (and_congr Iff.rfl (EX_if.trans (and_congr Iff.rfl (EX_call rfl)))))
set_option maxRecDepth 100000 in
theorem b128_62 {d : Nat} {w : vW} {x0 x1 x2 x4 y0 : Int} {Q : Int → vW → Prop} : VW d 128 62 [(2, x0), (0, x1), (1, x2), (9, 0), (1, x4), (9, 0)] [(1, y0)] w Q ↔ VW d 128 17 [(2, x0), (0, x1), (1, x2), (9, 0), (1, y0), (9, 0)] [] w Q :=
  (VW_b 2 (F := fun n => vrun n d 128 17 [(2, x0), (0, x1), (1, x2), (9, 0), (1, y0), (9, 0)] [] w) (fun _ => rfl)).trans (Iff.rfl)
set_option maxRecDepth 100000 in
theorem b128_67 {d : Nat} {w : vW} {x0 x1 x2 x4 : Int} {Q : Int → vW → Prop} : VW d 128 67 [(2, x0), (0, x1), (1, x2), (9, 0), (1, x4), (9, 0)] [] w Q ↔ (((vlc x2 x4) = 0 → VW d 128 75 [(2, x0), (0, x1), (1, x2), (9, 0), (1, x4), (9, 0)] [(2, x0)] w Q) ∧ (¬ ((vlc x2 x4) = 0) → VW d 128 79 [(2, x0), (0, x1), (1, x2), (9, 0), (1, x4), (9, 0)] [(2, x0)] w Q)) :=
  (VW_b 5 (F := fun n => (if (vlc x2 x4) = 0 then vrun n d 128 75 [(2, x0), (0, x1), (1, x2), (9, 0), (1, x4), (9, 0)] [(2, x0)] w else vrun n d 128 79 [(2, x0), (0, x1), (1, x2), (9, 0), (1, x4), (9, 0)] [(2, x0)] w)) (fun _ => rfl)).trans (EX_br.trans (and_congr (imp_congr Iff.rfl Iff.rfl) (imp_congr Iff.rfl Iff.rfl)))
set_option maxRecDepth 100000 in
theorem b128_75 {d : Nat} {w : vW} {x0 x1 x2 x4 y0 : Int} {Q : Int → vW → Prop} : VW d 128 75 [(2, x0), (0, x1), (1, x2), (9, 0), (1, x4), (9, 0)] [(2, y0)] w Q ↔ VW d 128 80 [(2, x0), (0, x1), (1, x2), (9, 0), (1, x4), (9, 0)] [(0, 1), (2, y0)] w Q :=
  (VW_b 2 (F := fun n => vrun n d 128 80 [(2, x0), (0, x1), (1, x2), (9, 0), (1, x4), (9, 0)] [(0, 1), (2, y0)] w) (fun _ => rfl)).trans (Iff.rfl)
set_option maxRecDepth 100000 in
theorem b128_79 {d : Nat} {w : vW} {x0 x1 x2 x4 y0 : Int} {Q : Int → vW → Prop} : VW d 128 79 [(2, x0), (0, x1), (1, x2), (9, 0), (1, x4), (9, 0)] [(2, y0)] w Q ↔ VW d 128 80 [(2, x0), (0, x1), (1, x2), (9, 0), (1, x4), (9, 0)] [(0, 0), (2, y0)] w Q :=
  (VW_b 1 (F := fun n => vrun n d 128 80 [(2, x0), (0, x1), (1, x2), (9, 0), (1, x4), (9, 0)] [(0, 0), (2, y0)] w) (fun _ => rfl)).trans (Iff.rfl)
set_option maxRecDepth 100000 in
theorem b128_80 {d : Nat} {w : vW} {x0 x1 x2 x4 y0 y1 : Int} {Q : Int → vW → Prop} : VW d 128 80 [(2, x0), (0, x1), (1, x2), (9, 0), (1, x4), (9, 0)] [(0, y1), (2, y0)] w Q ↔ ((0 : Int) ≤ y1 ∧ y1 ≤ 1) ∧ (vkd w y0 = 22) ∧ VW d 128 83 [(2, x0), (0, x1), (1, x2), (9, 0), (1, x4), (9, 0)] [] (vsv w y0 48 y1) Q :=
  (VW_b 1 (F := fun n => if (0 : Int) ≤ y1 ∧ y1 ≤ 1 then if vkd w y0 = 22 then vrun n d 128 83 [(2, x0), (0, x1), (1, x2), (9, 0), (1, x4), (9, 0)] [] (vsv w y0 48 y1) else none else none) (fun _ => rfl)).trans (EX_if.trans (and_congr Iff.rfl (EX_if.trans (and_congr Iff.rfl (Iff.rfl)))))
set_option maxRecDepth 100000 in
theorem b128_83 {d : Nat} {w : vW} {x0 x1 x2 x4 : Int} {Q : Int → vW → Prop} : VW d 128 83 [(2, x0), (0, x1), (1, x2), (9, 0), (1, x4), (9, 0)] [] w Q ↔ (vkd w x0 = 22) ∧ (((vct w x0 48) = 0 → VW d 128 100 [(2, x0), (0, x1), (1, x2), (9, 0), (1, x4), (9, 0)] [] w Q) ∧ (¬ ((vct w x0 48) = 0) → VW d 128 90 [(2, x0), (0, x1), (1, x2), (9, 0), (1, x4), (9, 0)] [] w Q)) :=
  (VW_b 3 (F := fun n => if vkd w x0 = 22 then (if (vct w x0 48) = 0 then vrun n d 128 100 [(2, x0), (0, x1), (1, x2), (9, 0), (1, x4), (9, 0)] [] w else vrun n d 128 90 [(2, x0), (0, x1), (1, x2), (9, 0), (1, x4), (9, 0)] [] w) else none) (fun _ => rfl)).trans (EX_if.trans (and_congr Iff.rfl (EX_br.trans (and_congr (imp_congr Iff.rfl Iff.rfl) (imp_congr Iff.rfl Iff.rfl)))))
set_option maxRecDepth 100000 in
theorem b128_90 {d : Nat} {w : vW} {x0 x1 x2 x4 : Int} {Q : Int → vW → Prop} : VW d 128 90 [(2, x0), (0, x1), (1, x2), (9, 0), (1, x4), (9, 0)] [] w Q ↔ (vkd w x0 = 22) ∧ (vkd w x0 = 22) ∧ Q (w32 ((vct w x0 5) - (vct w x0 4))) w :=
  (VW_b 6 (F := fun n => if vkd w x0 = 22 then if vkd w x0 = 22 then some (0, w32 ((vct w x0 5) - (vct w x0 4)), w) else none else none) (fun _ => rfl)).trans (EX_if.trans (and_congr Iff.rfl (EX_if.trans (and_congr Iff.rfl (EX_ret0)))))
set_option maxRecDepth 100000 in
theorem b128_100 {d : Nat} {w : vW} {x0 x1 x2 x4 : Int} {Q : Int → vW → Prop} : VW d 128 100 [(2, x0), (0, x1), (1, x2), (9, 0), (1, x4), (9, 0)] [] w Q ↔ (vkd w x0 = 22) ∧ (vkd w x0 = 22) ∧ (((w32 ((vct w x0 5) - (vct w x0 4))) = x1 → VW d 128 129 [(2, x0), (0, x1), (1, x2), (9, 0), (1, x4), (9, 0)] [] w Q) ∧ (¬ ((w32 ((vct w x0 5) - (vct w x0 4))) = x1) → VW d 128 113 [(2, x0), (0, x1), (1, x2), (9, 0), (1, x4), (9, 0)] [] w Q)) :=
  (VW_b 7 (F := fun n => if vkd w x0 = 22 then if vkd w x0 = 22 then (if (w32 ((vct w x0 5) - (vct w x0 4))) = x1 then vrun n d 128 129 [(2, x0), (0, x1), (1, x2), (9, 0), (1, x4), (9, 0)] [] w else vrun n d 128 113 [(2, x0), (0, x1), (1, x2), (9, 0), (1, x4), (9, 0)] [] w) else none else none) (fun _ => rfl)).trans (EX_if.trans (and_congr Iff.rfl (EX_if.trans (and_congr Iff.rfl (EX_br.trans (and_congr (imp_congr Iff.rfl Iff.rfl) (imp_congr Iff.rfl Iff.rfl)))))))
set_option maxRecDepth 100000 in
theorem b128_113 {d : Nat} {w : vW} {x0 x1 x2 x4 : Int} {Q : Int → vW → Prop} : VW d 128 113 [(2, x0), (0, x1), (1, x2), (9, 0), (1, x4), (9, 0)] [] w Q ↔ (vkd w x0 = 22) ∧ (vkd w (vct w x0 3) = 2 ∧ (0 : Int) ≤ 5 ∧ 5 < vln w (vct w x0 3)) ∧ (((vlc (max x2 x4) (vct w (vct w x0 3) 5)) < 0 → VW d 128 132 [(2, x0), (0, x1), (1, x2), (9, 0), (1, x4), (9, 0)] [] w Q) ∧ (¬ ((vlc (max x2 x4) (vct w (vct w x0 3) 5)) < 0) → VW d 128 129 [(2, x0), (0, x1), (1, x2), (9, 0), (1, x4), (9, 0)] [] w Q)) :=
  (VW_b 9 (F := fun n => if vkd w x0 = 22 then if vkd w (vct w x0 3) = 2 ∧ (0 : Int) ≤ 5 ∧ 5 < vln w (vct w x0 3) then (if (vlc (max x2 x4) (vct w (vct w x0 3) 5)) < 0 then vrun n d 128 132 [(2, x0), (0, x1), (1, x2), (9, 0), (1, x4), (9, 0)] [] w else vrun n d 128 129 [(2, x0), (0, x1), (1, x2), (9, 0), (1, x4), (9, 0)] [] w) else none else none) (fun _ => rfl)).trans (EX_if.trans (and_congr Iff.rfl (EX_if.trans (and_congr Iff.rfl (EX_br.trans (and_congr (imp_congr Iff.rfl Iff.rfl) (imp_congr Iff.rfl Iff.rfl)))))))
set_option maxRecDepth 100000 in
theorem b128_129 {d : Nat} {w : vW} {x0 x1 x2 x4 : Int} {Q : Int → vW → Prop} : VW d 128 129 [(2, x0), (0, x1), (1, x2), (9, 0), (1, x4), (9, 0)] [] w Q ↔ Q (-2) w :=
  (VW_b 2 (F := fun n => some (0, (-2), w)) (fun _ => rfl)).trans (EX_ret0)
set_option maxRecDepth 100000 in
theorem b128_132 {d : Nat} {w : vW} {x0 x1 x2 x4 : Int} {Q : Int → vW → Prop} : VW d 128 132 [(2, x0), (0, x1), (1, x2), (9, 0), (1, x4), (9, 0)] [] w Q ↔ (vkd w x0 = 22) ∧ VC d 69 [(2, x0), (0, vct w x0 5), (1, max x2 x4), (1, min x2 x4)] w (fun _ w1 => VW d 128 152 [(2, x0), (0, x1), (1, x2), (9, 0), (1, x4), (9, 0)] [] w1 Q) :=
  (VW_b 10 (F := fun n => if vkd w x0 = 22 then vcl (vrun n) d 128 152 69 4 9 [(2, x0), (0, x1), (1, x2), (9, 0), (1, x4), (9, 0)] [(1, min x2 x4), (1, max x2 x4), (0, vct w x0 5), (2, x0)] w else none) (fun _ => rfl)).trans (EX_if.trans (and_congr Iff.rfl (EX_call rfl)))
set_option maxRecDepth 100000 in
theorem b128_152 {d : Nat} {w : vW} {x0 x1 x2 x4 : Int} {Q : Int → vW → Prop} : VW d 128 152 [(2, x0), (0, x1), (1, x2), (9, 0), (1, x4), (9, 0)] [] w Q ↔ (vkd w x0 = 22) ∧ (vkd w x0 = 22) ∧ VW d 128 162 [(2, x0), (0, x1), (1, x2), (9, 0), (1, x4), (9, 0)] [] (vsv w x0 5 (w32 ((vct w x0 5) + 1))) Q :=
  (VW_b 6 (F := fun n => if vkd w x0 = 22 then if vkd w x0 = 22 then vrun n d 128 162 [(2, x0), (0, x1), (1, x2), (9, 0), (1, x4), (9, 0)] [] (vsv w x0 5 (w32 ((vct w x0 5) + 1))) else none else none) (fun _ => rfl)).trans (EX_if.trans (and_congr Iff.rfl (EX_if.trans (and_congr Iff.rfl (Iff.rfl)))))
set_option maxRecDepth 100000 in
theorem b128_162 {d : Nat} {w : vW} {x0 x1 x2 x4 : Int} {Q : Int → vW → Prop} : VW d 128 162 [(2, x0), (0, x1), (1, x2), (9, 0), (1, x4), (9, 0)] [] w Q ↔ VW d 128 8 [(2, x0), (0, x1), (1, x2), (9, 0), (1, x4), (9, 0)] [] w Q :=
  (VW_b 1 (F := fun n => vrun n d 128 8 [(2, x0), (0, x1), (1, x2), (9, 0), (1, x4), (9, 0)] [] w) (fun _ => rfl)).trans (Iff.rfl)
/-! 129: StrikeWhatCancelsModel.complete(I)I -/
set_option maxRecDepth 100000 in
theorem b129_0 {d : Nat} {w : vW} {x0 x1 : Int} {Q : Int → vW → Prop} : VW d 129 0 [(2, x0), (0, x1), (9, 0), (9, 0)] [] w Q ↔ (vkd w x0 = 22) ∧ VW d 129 5 [(2, x0), (0, x1), (9, 0), (9, 0)] [] (vsv w x0 0 0) Q :=
  (VW_b 3 (F := fun n => if vkd w x0 = 22 then vrun n d 129 5 [(2, x0), (0, x1), (9, 0), (9, 0)] [] (vsv w x0 0 0) else none) (fun _ => rfl)).trans (EX_if.trans (and_congr Iff.rfl (Iff.rfl)))
set_option maxRecDepth 100000 in
theorem b129_5 {d : Nat} {w : vW} {x0 x1 : Int} {Q : Int → vW → Prop} : VW d 129 5 [(2, x0), (0, x1), (9, 0), (9, 0)] [] w Q ↔ VC d 56 [(1, x1), (1, 0), (1, 12)] w (fun r w1 => VW d 129 14 [(2, x0), (0, x1), (9, 0), (9, 0)] [(0, r)] w1 Q) :=
  (VW_b 5 (F := fun n => vcl (vrun n) d 129 14 56 3 0 [(2, x0), (0, x1), (9, 0), (9, 0)] [(1, 12), (1, 0), (1, x1)] w) (fun _ => rfl)).trans (EX_call rfl)
set_option maxRecDepth 100000 in
theorem b129_14 {d : Nat} {w : vW} {x0 x1 y0 : Int} {Q : Int → vW → Prop} : VW d 129 14 [(2, x0), (0, x1), (9, 0), (9, 0)] [(0, y0)] w Q ↔ ((y0 = 0 → VW d 129 17 [(2, x0), (0, x1), (9, 0), (9, 0)] [] w Q) ∧ (¬ (y0 = 0) → VW d 129 19 [(2, x0), (0, x1), (9, 0), (9, 0)] [] w Q)) :=
  (VW_b 1 (F := fun n => (if y0 = 0 then vrun n d 129 17 [(2, x0), (0, x1), (9, 0), (9, 0)] [] w else vrun n d 129 19 [(2, x0), (0, x1), (9, 0), (9, 0)] [] w)) (fun _ => rfl)).trans (EX_br.trans (and_congr (imp_congr Iff.rfl Iff.rfl) (imp_congr Iff.rfl Iff.rfl)))
set_option maxRecDepth 100000 in
theorem b129_17 {d : Nat} {w : vW} {x0 x1 : Int} {Q : Int → vW → Prop} : VW d 129 17 [(2, x0), (0, x1), (9, 0), (9, 0)] [] w Q ↔ Q (-1) w :=
  (VW_b 2 (F := fun n => some (0, (-1), w)) (fun _ => rfl)).trans (EX_ret0)
set_option maxRecDepth 100000 in
theorem b129_19 {d : Nat} {w : vW} {x0 x1 : Int} {Q : Int → vW → Prop} : VW d 129 19 [(2, x0), (0, x1), (9, 0), (9, 0)] [] w Q ↔ VC d 128 [(2, x0), (0, x1)] w (fun r w1 => VW d 129 24 [(2, x0), (0, x1), (9, 0), (9, 0)] [(0, r)] w1 Q) :=
  (VW_b 3 (F := fun n => vcl (vrun n) d 129 24 128 2 0 [(2, x0), (0, x1), (9, 0), (9, 0)] [(0, x1), (2, x0)] w) (fun _ => rfl)).trans (EX_call rfl)
set_option maxRecDepth 100000 in
theorem b129_24 {d : Nat} {w : vW} {x0 x1 y0 : Int} {Q : Int → vW → Prop} : VW d 129 24 [(2, x0), (0, x1), (9, 0), (9, 0)] [(0, y0)] w Q ↔ (vkd w x0 = 22) ∧ VW d 129 30 [(2, x0), (0, x1), (0, y0), (9, 0)] [] (vsv w x0 1 0) Q :=
  (VW_b 4 (F := fun n => if vkd w x0 = 22 then vrun n d 129 30 [(2, x0), (0, x1), (0, y0), (9, 0)] [] (vsv w x0 1 0) else none) (fun _ => rfl)).trans (EX_if.trans (and_congr Iff.rfl (Iff.rfl)))
set_option maxRecDepth 100000 in
theorem b129_30 {d : Nat} {w : vW} {x0 x1 x2 : Int} {Q : Int → vW → Prop} : VW d 129 30 [(2, x0), (0, x1), (0, x2), (9, 0)] [] w Q ↔ (vkd w x0 = 22) ∧ VW d 129 35 [(2, x0), (0, x1), (0, x2), (0, vct w x0 4)] [] w Q :=
  (VW_b 3 (F := fun n => if vkd w x0 = 22 then vrun n d 129 35 [(2, x0), (0, x1), (0, x2), (0, vct w x0 4)] [] w else none) (fun _ => rfl)).trans (EX_if.trans (and_congr Iff.rfl (Iff.rfl)))
set_option maxRecDepth 100000 in
theorem b129_35 {d : Nat} {w : vW} {x0 x1 x2 x3 : Int} {Q : Int → vW → Prop} : VW d 129 35 [(2, x0), (0, x1), (0, x2), (0, x3)] [] w Q ↔ (vkd w x0 = 22) ∧ ((x3 < (vct w x0 5) → VW d 129 43 [(2, x0), (0, x1), (0, x2), (0, x3)] [] w Q) ∧ (¬ (x3 < (vct w x0 5)) → VW d 129 69 [(2, x0), (0, x1), (0, x2), (0, x3)] [] w Q)) :=
  (VW_b 4 (F := fun n => if vkd w x0 = 22 then (if x3 < (vct w x0 5) then vrun n d 129 43 [(2, x0), (0, x1), (0, x2), (0, x3)] [] w else vrun n d 129 69 [(2, x0), (0, x1), (0, x2), (0, x3)] [] w) else none) (fun _ => rfl)).trans (EX_if.trans (and_congr Iff.rfl (EX_br.trans (and_congr (imp_congr Iff.rfl Iff.rfl) (imp_congr Iff.rfl Iff.rfl)))))
set_option maxRecDepth 100000 in
theorem b129_43 {d : Nat} {w : vW} {x0 x1 x2 x3 : Int} {Q : Int → vW → Prop} : VW d 129 43 [(2, x0), (0, x1), (0, x2), (0, x3)] [] w Q ↔ (vkd w x0 = 22) ∧ (vkd w (vct w x0 6) = 2 ∧ (0 : Int) ≤ x3 ∧ x3 < vln w (vct w x0 6)) ∧ VC d 58 [(2, x0), (1, vct w (vct w x0 6) x3)] w (fun _ w1 => VW d 129 53 [(2, x0), (0, x1), (0, x2), (0, x3)] [] w1 Q) :=
  (VW_b 6 (F := fun n => if vkd w x0 = 22 then if vkd w (vct w x0 6) = 2 ∧ (0 : Int) ≤ x3 ∧ x3 < vln w (vct w x0 6) then vcl (vrun n) d 129 53 58 2 9 [(2, x0), (0, x1), (0, x2), (0, x3)] [(1, vct w (vct w x0 6) x3), (2, x0)] w else none else none) (fun _ => rfl)).trans (EX_if.trans (and_congr Iff.rfl (EX_if.trans (and_congr Iff.rfl (EX_call rfl)))))
set_option maxRecDepth 100000 in
theorem b129_53 {d : Nat} {w : vW} {x0 x1 x2 x3 : Int} {Q : Int → vW → Prop} : VW d 129 53 [(2, x0), (0, x1), (0, x2), (0, x3)] [] w Q ↔ (vkd w x0 = 22) ∧ (vkd w (vct w x0 7) = 2 ∧ (0 : Int) ≤ x3 ∧ x3 < vln w (vct w x0 7)) ∧ VC d 58 [(2, x0), (1, vct w (vct w x0 7) x3)] w (fun _ w1 => VW d 129 63 [(2, x0), (0, x1), (0, x2), (0, x3)] [] w1 Q) :=
  (VW_b 6 (F := fun n => if vkd w x0 = 22 then if vkd w (vct w x0 7) = 2 ∧ (0 : Int) ≤ x3 ∧ x3 < vln w (vct w x0 7) then vcl (vrun n) d 129 63 58 2 9 [(2, x0), (0, x1), (0, x2), (0, x3)] [(1, vct w (vct w x0 7) x3), (2, x0)] w else none else none) (fun _ => rfl)).trans (EX_if.trans (and_congr Iff.rfl (EX_if.trans (and_congr Iff.rfl (EX_call rfl)))))
set_option maxRecDepth 100000 in
theorem b129_63 {d : Nat} {w : vW} {x0 x1 x2 x3 : Int} {Q : Int → vW → Prop} : VW d 129 63 [(2, x0), (0, x1), (0, x2), (0, x3)] [] w Q ↔ VW d 129 35 [(2, x0), (0, x1), (0, x2), (0, w32 (x3 + 1))] [] w Q :=
  (VW_b 2 (F := fun n => vrun n d 129 35 [(2, x0), (0, x1), (0, x2), (0, w32 (x3 + 1))] [] w) (fun _ => rfl)).trans (Iff.rfl)
set_option maxRecDepth 100000 in
theorem b129_69 {d : Nat} {w : vW} {x0 x1 x2 x3 : Int} {Q : Int → vW → Prop} : VW d 129 69 [(2, x0), (0, x1), (0, x2), (0, x3)] [] w Q ↔ Q x2 w :=
  (VW_b 2 (F := fun n => some (0, x2, w)) (fun _ => rfl)).trans (EX_ret0)
/-! 130: StrikeWhatCancelsModel.same(JJ)I -/
set_option maxRecDepth 100000 in
theorem b130_0 {d : Nat} {w : vW} {x0 x1 x3 : Int} {Q : Int → vW → Prop} : VW d 130 0 [(2, x0), (1, x1), (9, 0), (1, x3), (9, 0), (9, 0), (9, 0), (9, 0), (9, 0)] [] w Q ↔ (vkd w x0 = 22) ∧ VW d 130 5 [(2, x0), (1, x1), (9, 0), (1, x3), (9, 0), (9, 0), (9, 0), (9, 0), (9, 0)] [] (vsv w x0 0 0) Q :=
  (VW_b 3 (F := fun n => if vkd w x0 = 22 then vrun n d 130 5 [(2, x0), (1, x1), (9, 0), (1, x3), (9, 0), (9, 0), (9, 0), (9, 0), (9, 0)] [] (vsv w x0 0 0) else none) (fun _ => rfl)).trans (EX_if.trans (and_congr Iff.rfl (Iff.rfl)))
set_option maxRecDepth 100000 in
theorem b130_5 {d : Nat} {w : vW} {x0 x1 x3 : Int} {Q : Int → vW → Prop} : VW d 130 5 [(2, x0), (1, x1), (9, 0), (1, x3), (9, 0), (9, 0), (9, 0), (9, 0), (9, 0)] [] w Q ↔ VC d 61 [(2, x0), (1, x1)] w (fun r w1 => VW d 130 10 [(2, x0), (1, x1), (9, 0), (1, x3), (9, 0), (9, 0), (9, 0), (9, 0), (9, 0)] [(0, r)] w1 Q) :=
  (VW_b 3 (F := fun n => vcl (vrun n) d 130 10 61 2 0 [(2, x0), (1, x1), (9, 0), (1, x3), (9, 0), (9, 0), (9, 0), (9, 0), (9, 0)] [(1, x1), (2, x0)] w) (fun _ => rfl)).trans (EX_call rfl)
set_option maxRecDepth 100000 in
theorem b130_10 {d : Nat} {w : vW} {x0 x1 x3 y0 : Int} {Q : Int → vW → Prop} : VW d 130 10 [(2, x0), (1, x1), (9, 0), (1, x3), (9, 0), (9, 0), (9, 0), (9, 0), (9, 0)] [(0, y0)] w Q ↔ ((y0 = 0 → VW d 130 21 [(2, x0), (1, x1), (9, 0), (1, x3), (9, 0), (9, 0), (9, 0), (9, 0), (9, 0)] [] w Q) ∧ (¬ (y0 = 0) → VW d 130 13 [(2, x0), (1, x1), (9, 0), (1, x3), (9, 0), (9, 0), (9, 0), (9, 0), (9, 0)] [] w Q)) :=
  (VW_b 1 (F := fun n => (if y0 = 0 then vrun n d 130 21 [(2, x0), (1, x1), (9, 0), (1, x3), (9, 0), (9, 0), (9, 0), (9, 0), (9, 0)] [] w else vrun n d 130 13 [(2, x0), (1, x1), (9, 0), (1, x3), (9, 0), (9, 0), (9, 0), (9, 0), (9, 0)] [] w)) (fun _ => rfl)).trans (EX_br.trans (and_congr (imp_congr Iff.rfl Iff.rfl) (imp_congr Iff.rfl Iff.rfl)))
set_option maxRecDepth 100000 in
theorem b130_13 {d : Nat} {w : vW} {x0 x1 x3 : Int} {Q : Int → vW → Prop} : VW d 130 13 [(2, x0), (1, x1), (9, 0), (1, x3), (9, 0), (9, 0), (9, 0), (9, 0), (9, 0)] [] w Q ↔ VC d 61 [(2, x0), (1, x3)] w (fun r w1 => VW d 130 18 [(2, x0), (1, x1), (9, 0), (1, x3), (9, 0), (9, 0), (9, 0), (9, 0), (9, 0)] [(0, r)] w1 Q) :=
  (VW_b 3 (F := fun n => vcl (vrun n) d 130 18 61 2 0 [(2, x0), (1, x1), (9, 0), (1, x3), (9, 0), (9, 0), (9, 0), (9, 0), (9, 0)] [(1, x3), (2, x0)] w) (fun _ => rfl)).trans (EX_call rfl)
set_option maxRecDepth 100000 in
theorem b130_18 {d : Nat} {w : vW} {x0 x1 x3 y0 : Int} {Q : Int → vW → Prop} : VW d 130 18 [(2, x0), (1, x1), (9, 0), (1, x3), (9, 0), (9, 0), (9, 0), (9, 0), (9, 0)] [(0, y0)] w Q ↔ ((y0 = 0 → VW d 130 21 [(2, x0), (1, x1), (9, 0), (1, x3), (9, 0), (9, 0), (9, 0), (9, 0), (9, 0)] [] w Q) ∧ (¬ (y0 = 0) → VW d 130 23 [(2, x0), (1, x1), (9, 0), (1, x3), (9, 0), (9, 0), (9, 0), (9, 0), (9, 0)] [] w Q)) :=
  (VW_b 1 (F := fun n => (if y0 = 0 then vrun n d 130 21 [(2, x0), (1, x1), (9, 0), (1, x3), (9, 0), (9, 0), (9, 0), (9, 0), (9, 0)] [] w else vrun n d 130 23 [(2, x0), (1, x1), (9, 0), (1, x3), (9, 0), (9, 0), (9, 0), (9, 0), (9, 0)] [] w)) (fun _ => rfl)).trans (EX_br.trans (and_congr (imp_congr Iff.rfl Iff.rfl) (imp_congr Iff.rfl Iff.rfl)))
set_option maxRecDepth 100000 in
theorem b130_21 {d : Nat} {w : vW} {x0 x1 x3 : Int} {Q : Int → vW → Prop} : VW d 130 21 [(2, x0), (1, x1), (9, 0), (1, x3), (9, 0), (9, 0), (9, 0), (9, 0), (9, 0)] [] w Q ↔ Q (-1) w :=
  (VW_b 2 (F := fun n => some (0, (-1), w)) (fun _ => rfl)).trans (EX_ret0)
set_option maxRecDepth 100000 in
theorem b130_23 {d : Nat} {w : vW} {x0 x1 x3 : Int} {Q : Int → vW → Prop} : VW d 130 23 [(2, x0), (1, x1), (9, 0), (1, x3), (9, 0), (9, 0), (9, 0), (9, 0), (9, 0)] [] w Q ↔ VC d 128 [(2, x0), (0, 12)] w (fun r w1 => VW d 130 29 [(2, x0), (1, x1), (9, 0), (1, x3), (9, 0), (9, 0), (9, 0), (9, 0), (9, 0)] [(0, r)] w1 Q) :=
  (VW_b 3 (F := fun n => vcl (vrun n) d 130 29 128 2 0 [(2, x0), (1, x1), (9, 0), (1, x3), (9, 0), (9, 0), (9, 0), (9, 0), (9, 0)] [(0, 12), (2, x0)] w) (fun _ => rfl)).trans (EX_call rfl)
set_option maxRecDepth 100000 in
theorem b130_29 {d : Nat} {w : vW} {x0 x1 x3 y0 : Int} {Q : Int → vW → Prop} : VW d 130 29 [(2, x0), (1, x1), (9, 0), (1, x3), (9, 0), (9, 0), (9, 0), (9, 0), (9, 0)] [(0, y0)] w Q ↔ (vkd w x0 = 22) ∧ VC d 112 [(2, x0), (1, x1), (0, 0), (0, vct w x0 5)] w (fun r w1 => VW d 130 40 [(2, x0), (1, x1), (9, 0), (1, x3), (9, 0), (9, 0), (9, 0), (9, 0), (9, 0)] [(1, r)] w1 Q) :=
  (VW_b 7 (F := fun n => if vkd w x0 = 22 then vcl (vrun n) d 130 40 112 4 1 [(2, x0), (1, x1), (9, 0), (1, x3), (9, 0), (9, 0), (9, 0), (9, 0), (9, 0)] [(0, vct w x0 5), (0, 0), (1, x1), (2, x0)] w else none) (fun _ => rfl)).trans (EX_if.trans (and_congr Iff.rfl (EX_call rfl)))
set_option maxRecDepth 100000 in
theorem b130_40 {d : Nat} {w : vW} {x0 x1 x3 y0 : Int} {Q : Int → vW → Prop} : VW d 130 40 [(2, x0), (1, x1), (9, 0), (1, x3), (9, 0), (9, 0), (9, 0), (9, 0), (9, 0)] [(1, y0)] w Q ↔ (vkd w x0 = 22) ∧ VC d 112 [(2, x0), (1, x3), (0, 0), (0, vct w x0 5)] w (fun r w1 => VW d 130 52 [(2, x0), (1, x1), (9, 0), (1, x3), (9, 0), (1, y0), (9, 0), (9, 0), (9, 0)] [(1, r)] w1 Q) :=
  (VW_b 7 (F := fun n => if vkd w x0 = 22 then vcl (vrun n) d 130 52 112 4 1 [(2, x0), (1, x1), (9, 0), (1, x3), (9, 0), (1, y0), (9, 0), (9, 0), (9, 0)] [(0, vct w x0 5), (0, 0), (1, x3), (2, x0)] w else none) (fun _ => rfl)).trans (EX_if.trans (and_congr Iff.rfl (EX_call rfl)))
set_option maxRecDepth 100000 in
theorem b130_52 {d : Nat} {w : vW} {x0 x1 x3 x5 y0 : Int} {Q : Int → vW → Prop} : VW d 130 52 [(2, x0), (1, x1), (9, 0), (1, x3), (9, 0), (1, x5), (9, 0), (9, 0), (9, 0)] [(1, y0)] w Q ↔ (vkd w x0 = 22) ∧ VW d 130 59 [(2, x0), (1, x1), (9, 0), (1, x3), (9, 0), (1, x5), (9, 0), (1, y0), (9, 0)] [] (vsv w x0 1 0) Q :=
  (VW_b 4 (F := fun n => if vkd w x0 = 22 then vrun n d 130 59 [(2, x0), (1, x1), (9, 0), (1, x3), (9, 0), (1, x5), (9, 0), (1, y0), (9, 0)] [] (vsv w x0 1 0) else none) (fun _ => rfl)).trans (EX_if.trans (and_congr Iff.rfl (Iff.rfl)))
set_option maxRecDepth 100000 in
theorem b130_59 {d : Nat} {w : vW} {x0 x1 x3 x5 x7 : Int} {Q : Int → vW → Prop} : VW d 130 59 [(2, x0), (1, x1), (9, 0), (1, x3), (9, 0), (1, x5), (9, 0), (1, x7), (9, 0)] [] w Q ↔ VC d 58 [(2, x0), (1, x5)] w (fun _ w1 => VW d 130 65 [(2, x0), (1, x1), (9, 0), (1, x3), (9, 0), (1, x5), (9, 0), (1, x7), (9, 0)] [] w1 Q) :=
  (VW_b 3 (F := fun n => vcl (vrun n) d 130 65 58 2 9 [(2, x0), (1, x1), (9, 0), (1, x3), (9, 0), (1, x5), (9, 0), (1, x7), (9, 0)] [(1, x5), (2, x0)] w) (fun _ => rfl)).trans (EX_call rfl)
set_option maxRecDepth 100000 in
theorem b130_65 {d : Nat} {w : vW} {x0 x1 x3 x5 x7 : Int} {Q : Int → vW → Prop} : VW d 130 65 [(2, x0), (1, x1), (9, 0), (1, x3), (9, 0), (1, x5), (9, 0), (1, x7), (9, 0)] [] w Q ↔ VC d 58 [(2, x0), (1, x7)] w (fun _ w1 => VW d 130 71 [(2, x0), (1, x1), (9, 0), (1, x3), (9, 0), (1, x5), (9, 0), (1, x7), (9, 0)] [] w1 Q) :=
  (VW_b 3 (F := fun n => vcl (vrun n) d 130 71 58 2 9 [(2, x0), (1, x1), (9, 0), (1, x3), (9, 0), (1, x5), (9, 0), (1, x7), (9, 0)] [(1, x7), (2, x0)] w) (fun _ => rfl)).trans (EX_call rfl)
set_option maxRecDepth 100000 in
theorem b130_71 {d : Nat} {w : vW} {x0 x1 x3 x5 x7 : Int} {Q : Int → vW → Prop} : VW d 130 71 [(2, x0), (1, x1), (9, 0), (1, x3), (9, 0), (1, x5), (9, 0), (1, x7), (9, 0)] [] w Q ↔ (((vlc x5 x7) = 0 → VW d 130 79 [(2, x0), (1, x1), (9, 0), (1, x3), (9, 0), (1, x5), (9, 0), (1, x7), (9, 0)] [] w Q) ∧ (¬ ((vlc x5 x7) = 0) → VW d 130 83 [(2, x0), (1, x1), (9, 0), (1, x3), (9, 0), (1, x5), (9, 0), (1, x7), (9, 0)] [] w Q)) :=
  (VW_b 4 (F := fun n => (if (vlc x5 x7) = 0 then vrun n d 130 79 [(2, x0), (1, x1), (9, 0), (1, x3), (9, 0), (1, x5), (9, 0), (1, x7), (9, 0)] [] w else vrun n d 130 83 [(2, x0), (1, x1), (9, 0), (1, x3), (9, 0), (1, x5), (9, 0), (1, x7), (9, 0)] [] w)) (fun _ => rfl)).trans (EX_br.trans (and_congr (imp_congr Iff.rfl Iff.rfl) (imp_congr Iff.rfl Iff.rfl)))
set_option maxRecDepth 100000 in
theorem b130_79 {d : Nat} {w : vW} {x0 x1 x3 x5 x7 : Int} {Q : Int → vW → Prop} : VW d 130 79 [(2, x0), (1, x1), (9, 0), (1, x3), (9, 0), (1, x5), (9, 0), (1, x7), (9, 0)] [] w Q ↔ VW d 130 96 [(2, x0), (1, x1), (9, 0), (1, x3), (9, 0), (1, x5), (9, 0), (1, x7), (9, 0)] [(0, 1)] w Q :=
  (VW_b 2 (F := fun n => vrun n d 130 96 [(2, x0), (1, x1), (9, 0), (1, x3), (9, 0), (1, x5), (9, 0), (1, x7), (9, 0)] [(0, 1)] w) (fun _ => rfl)).trans (Iff.rfl)
set_option maxRecDepth 100000 in
theorem b130_83 {d : Nat} {w : vW} {x0 x1 x3 x5 x7 : Int} {Q : Int → vW → Prop} : VW d 130 83 [(2, x0), (1, x1), (9, 0), (1, x3), (9, 0), (1, x5), (9, 0), (1, x7), (9, 0)] [] w Q ↔ (vkd w x0 = 22) ∧ (((vct w x0 48) = 0 → VW d 130 94 [(2, x0), (1, x1), (9, 0), (1, x3), (9, 0), (1, x5), (9, 0), (1, x7), (9, 0)] [] w Q) ∧ (¬ ((vct w x0 48) = 0) → VW d 130 90 [(2, x0), (1, x1), (9, 0), (1, x3), (9, 0), (1, x5), (9, 0), (1, x7), (9, 0)] [] w Q)) :=
  (VW_b 3 (F := fun n => if vkd w x0 = 22 then (if (vct w x0 48) = 0 then vrun n d 130 94 [(2, x0), (1, x1), (9, 0), (1, x3), (9, 0), (1, x5), (9, 0), (1, x7), (9, 0)] [] w else vrun n d 130 90 [(2, x0), (1, x1), (9, 0), (1, x3), (9, 0), (1, x5), (9, 0), (1, x7), (9, 0)] [] w) else none) (fun _ => rfl)).trans (EX_if.trans (and_congr Iff.rfl (EX_br.trans (and_congr (imp_congr Iff.rfl Iff.rfl) (imp_congr Iff.rfl Iff.rfl)))))
set_option maxRecDepth 100000 in
theorem b130_90 {d : Nat} {w : vW} {x0 x1 x3 x5 x7 : Int} {Q : Int → vW → Prop} : VW d 130 90 [(2, x0), (1, x1), (9, 0), (1, x3), (9, 0), (1, x5), (9, 0), (1, x7), (9, 0)] [] w Q ↔ VW d 130 96 [(2, x0), (1, x1), (9, 0), (1, x3), (9, 0), (1, x5), (9, 0), (1, x7), (9, 0)] [(0, 0)] w Q :=
  (VW_b 2 (F := fun n => vrun n d 130 96 [(2, x0), (1, x1), (9, 0), (1, x3), (9, 0), (1, x5), (9, 0), (1, x7), (9, 0)] [(0, 0)] w) (fun _ => rfl)).trans (Iff.rfl)
set_option maxRecDepth 100000 in
theorem b130_94 {d : Nat} {w : vW} {x0 x1 x3 x5 x7 : Int} {Q : Int → vW → Prop} : VW d 130 94 [(2, x0), (1, x1), (9, 0), (1, x3), (9, 0), (1, x5), (9, 0), (1, x7), (9, 0)] [] w Q ↔ VW d 130 96 [(2, x0), (1, x1), (9, 0), (1, x3), (9, 0), (1, x5), (9, 0), (1, x7), (9, 0)] [(0, (-2))] w Q :=
  (VW_b 1 (F := fun n => vrun n d 130 96 [(2, x0), (1, x1), (9, 0), (1, x3), (9, 0), (1, x5), (9, 0), (1, x7), (9, 0)] [(0, (-2))] w) (fun _ => rfl)).trans (Iff.rfl)
set_option maxRecDepth 100000 in
theorem b130_96 {d : Nat} {w : vW} {x0 x1 x3 x5 x7 y0 : Int} {Q : Int → vW → Prop} : VW d 130 96 [(2, x0), (1, x1), (9, 0), (1, x3), (9, 0), (1, x5), (9, 0), (1, x7), (9, 0)] [(0, y0)] w Q ↔ Q y0 w :=
  (VW_b 1 (F := fun n => some (0, y0, w)) (fun _ => rfl)).trans (EX_ret0)
/-! 131: StrikeWhatCancelsModel.spreads(JII)V -/
set_option maxRecDepth 100000 in
theorem b131_0 {d : Nat} {w : vW} {x0 x1 x3 x4 : Int} {Q : Int → vW → Prop} : VW d 131 0 [(2, x0), (1, x1), (9, 0), (0, x3), (0, x4), (9, 0), (9, 0), (9, 0)] [] w Q ↔ VC d 60 [(2, x0), (1, x1)] w (fun r w1 => VW d 131 5 [(2, x0), (1, x1), (9, 0), (0, x3), (0, x4), (9, 0), (9, 0), (9, 0)] [(0, r)] w1 Q) :=
  (VW_b 3 (F := fun n => vcl (vrun n) d 131 5 60 2 0 [(2, x0), (1, x1), (9, 0), (0, x3), (0, x4), (9, 0), (9, 0), (9, 0)] [(1, x1), (2, x0)] w) (fun _ => rfl)).trans (EX_call rfl)
set_option maxRecDepth 100000 in
theorem b131_5 {d : Nat} {w : vW} {x0 x1 x3 x4 y0 : Int} {Q : Int → vW → Prop} : VW d 131 5 [(2, x0), (1, x1), (9, 0), (0, x3), (0, x4), (9, 0), (9, 0), (9, 0)] [(0, y0)] w Q ↔ VW d 131 10 [(2, x0), (1, x1), (9, 0), (0, x3), (0, x4), (0, y0), (0, 0), (9, 0)] [] w Q :=
  (VW_b 3 (F := fun n => vrun n d 131 10 [(2, x0), (1, x1), (9, 0), (0, x3), (0, x4), (0, y0), (0, 0), (9, 0)] [] w) (fun _ => rfl)).trans (Iff.rfl)
set_option maxRecDepth 100000 in
theorem b131_10 {d : Nat} {w : vW} {x0 x1 x3 x4 x5 x6 : Int} {v7 : vV} {Q : Int → vW → Prop} : VW d 131 10 [(2, x0), (1, x1), (9, 0), (0, x3), (0, x4), (0, x5), (0, x6), v7] [] w Q ↔ (vkd w x0 = 22) ∧ ((x6 < (vct w x0 4) → VW d 131 19 [(2, x0), (1, x1), (9, 0), (0, x3), (0, x4), (0, x5), (0, x6), v7] [] w Q) ∧ (¬ (x6 < (vct w x0 4)) → VW d 131 154 [(2, x0), (1, x1), (9, 0), (0, x3), (0, x4), (0, x5), (0, x6), v7] [] w Q)) :=
  (VW_b 4 (F := fun n => if vkd w x0 = 22 then (if x6 < (vct w x0 4) then vrun n d 131 19 [(2, x0), (1, x1), (9, 0), (0, x3), (0, x4), (0, x5), (0, x6), v7] [] w else vrun n d 131 154 [(2, x0), (1, x1), (9, 0), (0, x3), (0, x4), (0, x5), (0, x6), v7] [] w) else none) (fun _ => rfl)).trans (EX_if.trans (and_congr Iff.rfl (EX_br.trans (and_congr (imp_congr Iff.rfl Iff.rfl) (imp_congr Iff.rfl Iff.rfl)))))
set_option maxRecDepth 100000 in
theorem b131_19 {d : Nat} {w : vW} {x0 x1 x3 x4 x5 x6 : Int} {v7 : vV} {Q : Int → vW → Prop} : VW d 131 19 [(2, x0), (1, x1), (9, 0), (0, x3), (0, x4), (0, x5), (0, x6), v7] [] w Q ↔ VW d 131 22 [(2, x0), (1, x1), (9, 0), (0, x3), (0, x4), (0, x5), (0, x6), (0, 0)] [] w Q :=
  (VW_b 2 (F := fun n => vrun n d 131 22 [(2, x0), (1, x1), (9, 0), (0, x3), (0, x4), (0, x5), (0, x6), (0, 0)] [] w) (fun _ => rfl)).trans (Iff.rfl)
set_option maxRecDepth 100000 in
theorem b131_22 {d : Nat} {w : vW} {x0 x1 x3 x4 x5 x6 x7 : Int} {Q : Int → vW → Prop} : VW d 131 22 [(2, x0), (1, x1), (9, 0), (0, x3), (0, x4), (0, x5), (0, x6), (0, x7)] [] w Q ↔ ((x5 < x7 → VW d 131 148 [(2, x0), (1, x1), (9, 0), (0, x3), (0, x4), (0, x5), (0, x6), (0, x7)] [] w Q) ∧ (¬ (x5 < x7) → VW d 131 29 [(2, x0), (1, x1), (9, 0), (0, x3), (0, x4), (0, x5), (0, x6), (0, x7)] [] w Q)) :=
  (VW_b 3 (F := fun n => (if x5 < x7 then vrun n d 131 148 [(2, x0), (1, x1), (9, 0), (0, x3), (0, x4), (0, x5), (0, x6), (0, x7)] [] w else vrun n d 131 29 [(2, x0), (1, x1), (9, 0), (0, x3), (0, x4), (0, x5), (0, x6), (0, x7)] [] w)) (fun _ => rfl)).trans (EX_br.trans (and_congr (imp_congr Iff.rfl Iff.rfl) (imp_congr Iff.rfl Iff.rfl)))
set_option maxRecDepth 100000 in
theorem b131_29 {d : Nat} {w : vW} {x0 x1 x3 x4 x5 x6 x7 : Int} {Q : Int → vW → Prop} : VW d 131 29 [(2, x0), (1, x1), (9, 0), (0, x3), (0, x4), (0, x5), (0, x6), (0, x7)] [] w Q ↔ VC d 84 [(2, x0), (1, x1), (0, x5), (0, x6), (0, x7)] w (fun r w1 => VW d 131 40 [(2, x0), (1, x1), (9, 0), (0, x3), (0, x4), (0, x5), (0, x6), (0, x7)] [(0, r)] w1 Q) :=
  (VW_b 6 (F := fun n => vcl (vrun n) d 131 40 84 5 0 [(2, x0), (1, x1), (9, 0), (0, x3), (0, x4), (0, x5), (0, x6), (0, x7)] [(0, x7), (0, x6), (0, x5), (1, x1), (2, x0)] w) (fun _ => rfl)).trans (EX_call rfl)
set_option maxRecDepth 100000 in
theorem b131_40 {d : Nat} {w : vW} {x0 x1 x3 x4 x5 x6 x7 y0 : Int} {Q : Int → vW → Prop} : VW d 131 40 [(2, x0), (1, x1), (9, 0), (0, x3), (0, x4), (0, x5), (0, x6), (0, x7)] [(0, y0)] w Q ↔ ((y0 = 0 → VW d 131 58 [(2, x0), (1, x1), (9, 0), (0, x3), (0, x4), (0, x5), (0, x6), (0, x7)] [] w Q) ∧ (¬ (y0 = 0) → VW d 131 43 [(2, x0), (1, x1), (9, 0), (0, x3), (0, x4), (0, x5), (0, x6), (0, x7)] [] w Q)) :=
  (VW_b 1 (F := fun n => (if y0 = 0 then vrun n d 131 58 [(2, x0), (1, x1), (9, 0), (0, x3), (0, x4), (0, x5), (0, x6), (0, x7)] [] w else vrun n d 131 43 [(2, x0), (1, x1), (9, 0), (0, x3), (0, x4), (0, x5), (0, x6), (0, x7)] [] w)) (fun _ => rfl)).trans (EX_br.trans (and_congr (imp_congr Iff.rfl Iff.rfl) (imp_congr Iff.rfl Iff.rfl)))
set_option maxRecDepth 100000 in
theorem b131_43 {d : Nat} {w : vW} {x0 x1 x3 x4 x5 x6 x7 : Int} {Q : Int → vW → Prop} : VW d 131 43 [(2, x0), (1, x1), (9, 0), (0, x3), (0, x4), (0, x5), (0, x6), (0, x7)] [] w Q ↔ VC d 83 [(2, x0), (1, x1), (0, x6), (0, x7)] w (fun r w1 => VW d 131 53 [(2, x0), (1, x1), (9, 0), (0, x3), (0, x4), (0, x5), (0, x6), (0, x7)] [(1, r), (2, x0)] w1 Q) :=
  (VW_b 6 (F := fun n => vcl (vrun n) d 131 53 83 4 1 [(2, x0), (1, x1), (9, 0), (0, x3), (0, x4), (0, x5), (0, x6), (0, x7)] [(0, x7), (0, x6), (1, x1), (2, x0), (2, x0)] w) (fun _ => rfl)).trans (EX_call rfl)
set_option maxRecDepth 100000 in
theorem b131_53 {d : Nat} {w : vW} {x0 x1 x3 x4 x5 x6 x7 y0 y1 : Int} {Q : Int → vW → Prop} : VW d 131 53 [(2, x0), (1, x1), (9, 0), (0, x3), (0, x4), (0, x5), (0, x6), (0, x7)] [(1, y1), (2, y0)] w Q ↔ VC d 132 [(2, y0), (1, y1), (0, x4)] w (fun _ w1 => VW d 131 58 [(2, x0), (1, x1), (9, 0), (0, x3), (0, x4), (0, x5), (0, x6), (0, x7)] [] w1 Q) :=
  (VW_b 2 (F := fun n => vcl (vrun n) d 131 58 132 3 9 [(2, x0), (1, x1), (9, 0), (0, x3), (0, x4), (0, x5), (0, x6), (0, x7)] [(0, x4), (1, y1), (2, y0)] w) (fun _ => rfl)).trans (EX_call rfl)
set_option maxRecDepth 100000 in
theorem b131_58 {d : Nat} {w : vW} {x0 x1 x3 x4 x5 x6 x7 : Int} {Q : Int → vW → Prop} : VW d 131 58 [(2, x0), (1, x1), (9, 0), (0, x3), (0, x4), (0, x5), (0, x6), (0, x7)] [] w Q ↔ (vkd w x0 = 22) ∧ (vkd w (vct w x0 9) = 1 ∧ (0 : Int) ≤ x6 ∧ x6 < vln w (vct w x0 9)) ∧ (vkd w x0 = 22) ∧ (vkd w (vct w x0 8) = 1 ∧ (0 : Int) ≤ x6 ∧ x6 < vln w (vct w x0 8)) ∧ ((x3 < (w32 ((w32 (x5 - (vct w (vct w x0 9) x6))) + (vct w (vct w x0 8) x6))) → VW d 131 142 [(2, x0), (1, x1), (9, 0), (0, x3), (0, x4), (0, x5), (0, x6), (0, x7)] [] w Q) ∧ (¬ (x3 < (w32 ((w32 (x5 - (vct w (vct w x0 9) x6))) + (vct w (vct w x0 8) x6)))) → VW d 131 80 [(2, x0), (1, x1), (9, 0), (0, x3), (0, x4), (0, x5), (0, x6), (0, x7)] [] w Q)) :=
  (VW_b 13 (F := fun n => if vkd w x0 = 22 then if vkd w (vct w x0 9) = 1 ∧ (0 : Int) ≤ x6 ∧ x6 < vln w (vct w x0 9) then if vkd w x0 = 22 then if vkd w (vct w x0 8) = 1 ∧ (0 : Int) ≤ x6 ∧ x6 < vln w (vct w x0 8) then (if x3 < (w32 ((w32 (x5 - (vct w (vct w x0 9) x6))) + (vct w (vct w x0 8) x6))) then vrun n d 131 142 [(2, x0), (1, x1), (9, 0), (0, x3), (0, x4), (0, x5), (0, x6), (0, x7)] [] w else vrun n d 131 80 [(2, x0), (1, x1), (9, 0), (0, x3), (0, x4), (0, x5), (0, x6), (0, x7)] [] w) else none else none else none else none) (fun _ => rfl)).trans (EX_if.trans (and_congr Iff.rfl (EX_if.trans (and_congr Iff.rfl (EX_if.trans (and_congr Iff.rfl (EX_if.trans (and_congr Iff.rfl (EX_br.trans (and_congr (imp_congr Iff.rfl Iff.rfl) (imp_congr Iff.rfl Iff.rfl)))))))))))
set_option maxRecDepth 100000 in
theorem b131_80 {d : Nat} {w : vW} {x0 x1 x3 x4 x5 x6 x7 : Int} {Q : Int → vW → Prop} : VW d 131 80 [(2, x0), (1, x1), (9, 0), (0, x3), (0, x4), (0, x5), (0, x6), (0, x7)] [] w Q ↔ (vkd w x0 = 22) ∧ (vkd w (vct w x0 7) = 2 ∧ (0 : Int) ≤ x6 ∧ x6 < vln w (vct w x0 7)) ∧ (vkd w x0 = 22) ∧ (vkd w (vct w x0 9) = 1 ∧ (0 : Int) ≤ x6 ∧ x6 < vln w (vct w x0 9)) ∧ VC d 81 [(2, x0), (1, x1), (0, x5), (1, vct w (vct w x0 7) x6), (0, vct w (vct w x0 9) x6), (0, x7)] w (fun r w1 => VW d 131 103 [(2, x0), (1, x1), (9, 0), (0, x3), (0, x4), (0, x5), (0, x6), (0, x7)] [(0, r)] w1 Q) :=
  (VW_b 13 (F := fun n => if vkd w x0 = 22 then if vkd w (vct w x0 7) = 2 ∧ (0 : Int) ≤ x6 ∧ x6 < vln w (vct w x0 7) then if vkd w x0 = 22 then if vkd w (vct w x0 9) = 1 ∧ (0 : Int) ≤ x6 ∧ x6 < vln w (vct w x0 9) then vcl (vrun n) d 131 103 81 6 0 [(2, x0), (1, x1), (9, 0), (0, x3), (0, x4), (0, x5), (0, x6), (0, x7)] [(0, x7), (0, vct w (vct w x0 9) x6), (1, vct w (vct w x0 7) x6), (0, x5), (1, x1), (2, x0)] w else none else none else none else none) (fun _ => rfl)).trans (EX_if.trans (and_congr Iff.rfl (EX_if.trans (and_congr Iff.rfl (EX_if.trans (and_congr Iff.rfl (EX_if.trans (and_congr Iff.rfl (EX_call rfl)))))))))
set_option maxRecDepth 100000 in
theorem b131_103 {d : Nat} {w : vW} {x0 x1 x3 x4 x5 x6 x7 y0 : Int} {Q : Int → vW → Prop} : VW d 131 103 [(2, x0), (1, x1), (9, 0), (0, x3), (0, x4), (0, x5), (0, x6), (0, x7)] [(0, y0)] w Q ↔ ((y0 = 0 → VW d 131 142 [(2, x0), (1, x1), (9, 0), (0, x3), (0, x4), (0, x5), (0, x6), (0, x7)] [] w Q) ∧ (¬ (y0 = 0) → VW d 131 106 [(2, x0), (1, x1), (9, 0), (0, x3), (0, x4), (0, x5), (0, x6), (0, x7)] [] w Q)) :=
  (VW_b 1 (F := fun n => (if y0 = 0 then vrun n d 131 142 [(2, x0), (1, x1), (9, 0), (0, x3), (0, x4), (0, x5), (0, x6), (0, x7)] [] w else vrun n d 131 106 [(2, x0), (1, x1), (9, 0), (0, x3), (0, x4), (0, x5), (0, x6), (0, x7)] [] w)) (fun _ => rfl)).trans (EX_br.trans (and_congr (imp_congr Iff.rfl Iff.rfl) (imp_congr Iff.rfl Iff.rfl)))
set_option maxRecDepth 100000 in
theorem b131_106 {d : Nat} {w : vW} {x0 x1 x3 x4 x5 x6 x7 : Int} {Q : Int → vW → Prop} : VW d 131 106 [(2, x0), (1, x1), (9, 0), (0, x3), (0, x4), (0, x5), (0, x6), (0, x7)] [] w Q ↔ (vkd w x0 = 22) ∧ (vkd w (vct w x0 9) = 1 ∧ (0 : Int) ≤ x6 ∧ x6 < vln w (vct w x0 9)) ∧ (vkd w x0 = 22) ∧ (vkd w (vct w x0 6) = 2 ∧ (0 : Int) ≤ x6 ∧ x6 < vln w (vct w x0 6)) ∧ (vkd w x0 = 22) ∧ (vkd w (vct w x0 8) = 1 ∧ (0 : Int) ≤ x6 ∧ x6 < vln w (vct w x0 8)) ∧ VC d 82 [(2, x0), (1, x1), (0, x5), (0, x7), (0, vct w (vct w x0 9) x6), (1, vct w (vct w x0 6) x6), (0, vct w (vct w x0 8) x6)] w (fun r w1 => VW d 131 137 [(2, x0), (1, x1), (9, 0), (0, x3), (0, x4), (0, x5), (0, x6), (0, x7)] [(1, r), (2, x0)] w1 Q) :=
  (VW_b 18 (F := fun n => if vkd w x0 = 22 then if vkd w (vct w x0 9) = 1 ∧ (0 : Int) ≤ x6 ∧ x6 < vln w (vct w x0 9) then if vkd w x0 = 22 then if vkd w (vct w x0 6) = 2 ∧ (0 : Int) ≤ x6 ∧ x6 < vln w (vct w x0 6) then if vkd w x0 = 22 then if vkd w (vct w x0 8) = 1 ∧ (0 : Int) ≤ x6 ∧ x6 < vln w (vct w x0 8) then vcl (vrun n) d 131 137 82 7 1 [(2, x0), (1, x1), (9, 0), (0, x3), (0, x4), (0, x5), (0, x6), (0, x7)] [(0, vct w (vct w x0 8) x6), (1, vct w (vct w x0 6) x6), (0, vct w (vct w x0 9) x6), (0, x7), (0, x5), (1, x1), (2, x0), (2, x0)] w else none else none else none else none else none else none) (fun _ => rfl)).trans (EX_if.trans (and_congr Iff.rfl (EX_if.trans (and_congr Iff.rfl (EX_if.trans (and_congr Iff.rfl (EX_if.trans (and_congr Iff.rfl (EX_if.trans (and_congr Iff.rfl (EX_if.trans (and_congr Iff.rfl (EX_call rfl)))))))))))))
set_option maxRecDepth 100000 in
theorem b131_137 {d : Nat} {w : vW} {x0 x1 x3 x4 x5 x6 x7 y0 y1 : Int} {Q : Int → vW → Prop} : VW d 131 137 [(2, x0), (1, x1), (9, 0), (0, x3), (0, x4), (0, x5), (0, x6), (0, x7)] [(1, y1), (2, y0)] w Q ↔ VC d 132 [(2, y0), (1, y1), (0, x4)] w (fun _ w1 => VW d 131 142 [(2, x0), (1, x1), (9, 0), (0, x3), (0, x4), (0, x5), (0, x6), (0, x7)] [] w1 Q) :=
  (VW_b 2 (F := fun n => vcl (vrun n) d 131 142 132 3 9 [(2, x0), (1, x1), (9, 0), (0, x3), (0, x4), (0, x5), (0, x6), (0, x7)] [(0, x4), (1, y1), (2, y0)] w) (fun _ => rfl)).trans (EX_call rfl)
set_option maxRecDepth 100000 in
theorem b131_142 {d : Nat} {w : vW} {x0 x1 x3 x4 x5 x6 x7 : Int} {Q : Int → vW → Prop} : VW d 131 142 [(2, x0), (1, x1), (9, 0), (0, x3), (0, x4), (0, x5), (0, x6), (0, x7)] [] w Q ↔ VW d 131 22 [(2, x0), (1, x1), (9, 0), (0, x3), (0, x4), (0, x5), (0, x6), (0, w32 (x7 + 1))] [] w Q :=
  (VW_b 2 (F := fun n => vrun n d 131 22 [(2, x0), (1, x1), (9, 0), (0, x3), (0, x4), (0, x5), (0, x6), (0, w32 (x7 + 1))] [] w) (fun _ => rfl)).trans (Iff.rfl)
set_option maxRecDepth 100000 in
theorem b131_148 {d : Nat} {w : vW} {x0 x1 x3 x4 x5 x6 x7 : Int} {Q : Int → vW → Prop} : VW d 131 148 [(2, x0), (1, x1), (9, 0), (0, x3), (0, x4), (0, x5), (0, x6), (0, x7)] [] w Q ↔ VW d 131 10 [(2, x0), (1, x1), (9, 0), (0, x3), (0, x4), (0, x5), (0, w32 (x6 + 1)), (0, x7)] [] w Q :=
  (VW_b 2 (F := fun n => vrun n d 131 10 [(2, x0), (1, x1), (9, 0), (0, x3), (0, x4), (0, x5), (0, w32 (x6 + 1)), (0, x7)] [] w) (fun _ => rfl)).trans (Iff.rfl)
set_option maxRecDepth 100000 in
theorem b131_154 {d : Nat} {w : vW} {x0 x1 x3 x4 x5 x6 : Int} {v7 : vV} {Q : Int → vW → Prop} : VW d 131 154 [(2, x0), (1, x1), (9, 0), (0, x3), (0, x4), (0, x5), (0, x6), v7] [] w Q ↔ Q 0 w :=
  (VW_b 1 (F := fun n => some (0, 0, w)) (fun _ => rfl)).trans (EX_ret0)
/-! 132: StrikeWhatCancelsModel.comesTo(JI)V -/
set_option maxRecDepth 100000 in
theorem b132_0 {d : Nat} {w : vW} {x0 x1 x3 : Int} {Q : Int → vW → Prop} : VW d 132 0 [(2, x0), (1, x1), (9, 0), (0, x3), (9, 0)] [] w Q ↔ (vkd w x0 = 22) ∧ (((vct w x0 54) = 0 → VW d 132 39 [(2, x0), (1, x1), (9, 0), (0, x3), (9, 0)] [] w Q) ∧ (¬ ((vct w x0 54) = 0) → VW d 132 7 [(2, x0), (1, x1), (9, 0), (0, x3), (9, 0)] [] w Q)) :=
  (VW_b 3 (F := fun n => if vkd w x0 = 22 then (if (vct w x0 54) = 0 then vrun n d 132 39 [(2, x0), (1, x1), (9, 0), (0, x3), (9, 0)] [] w else vrun n d 132 7 [(2, x0), (1, x1), (9, 0), (0, x3), (9, 0)] [] w) else none) (fun _ => rfl)).trans (EX_if.trans (and_congr Iff.rfl (EX_br.trans (and_congr (imp_congr Iff.rfl Iff.rfl) (imp_congr Iff.rfl Iff.rfl)))))
set_option maxRecDepth 100000 in
theorem b132_7 {d : Nat} {w : vW} {x0 x1 x3 : Int} {Q : Int → vW → Prop} : VW d 132 7 [(2, x0), (1, x1), (9, 0), (0, x3), (9, 0)] [] w Q ↔ VC d 98 [(2, x0), (1, x1)] w (fun r w1 => VW d 132 12 [(2, x0), (1, x1), (9, 0), (0, x3), (9, 0)] [(0, r)] w1 Q) :=
  (VW_b 3 (F := fun n => vcl (vrun n) d 132 12 98 2 0 [(2, x0), (1, x1), (9, 0), (0, x3), (9, 0)] [(1, x1), (2, x0)] w) (fun _ => rfl)).trans (EX_call rfl)
set_option maxRecDepth 100000 in
theorem b132_12 {d : Nat} {w : vW} {x0 x1 x3 y0 : Int} {Q : Int → vW → Prop} : VW d 132 12 [(2, x0), (1, x1), (9, 0), (0, x3), (9, 0)] [(0, y0)] w Q ↔ ((y0 < 0 → VW d 132 38 [(2, x0), (1, x1), (9, 0), (0, x3), (0, y0)] [] w Q) ∧ (¬ (y0 < 0) → VW d 132 19 [(2, x0), (1, x1), (9, 0), (0, x3), (0, y0)] [] w Q)) :=
  (VW_b 3 (F := fun n => (if y0 < 0 then vrun n d 132 38 [(2, x0), (1, x1), (9, 0), (0, x3), (0, y0)] [] w else vrun n d 132 19 [(2, x0), (1, x1), (9, 0), (0, x3), (0, y0)] [] w)) (fun _ => rfl)).trans (EX_br.trans (and_congr (imp_congr Iff.rfl Iff.rfl) (imp_congr Iff.rfl Iff.rfl)))
set_option maxRecDepth 100000 in
theorem b132_19 {d : Nat} {w : vW} {x0 x1 x3 x4 : Int} {Q : Int → vW → Prop} : VW d 132 19 [(2, x0), (1, x1), (9, 0), (0, x3), (0, x4)] [] w Q ↔ (vkd w x0 = 22) ∧ (vkd w (vct w x0 49) = 1 ∧ (0 : Int) ≤ x4 ∧ x4 < vln w (vct w x0 49)) ∧ (((vct w (vct w x0 49) x4) = x3 → VW d 132 30 [(2, x0), (1, x1), (9, 0), (0, x3), (0, x4)] [] w Q) ∧ (¬ ((vct w (vct w x0 49) x4) = x3) → VW d 132 38 [(2, x0), (1, x1), (9, 0), (0, x3), (0, x4)] [] w Q)) :=
  (VW_b 6 (F := fun n => if vkd w x0 = 22 then if vkd w (vct w x0 49) = 1 ∧ (0 : Int) ≤ x4 ∧ x4 < vln w (vct w x0 49) then (if (vct w (vct w x0 49) x4) = x3 then vrun n d 132 30 [(2, x0), (1, x1), (9, 0), (0, x3), (0, x4)] [] w else vrun n d 132 38 [(2, x0), (1, x1), (9, 0), (0, x3), (0, x4)] [] w) else none else none) (fun _ => rfl)).trans (EX_if.trans (and_congr Iff.rfl (EX_if.trans (and_congr Iff.rfl (EX_br.trans (and_congr (imp_congr Iff.rfl Iff.rfl) (imp_congr Iff.rfl Iff.rfl)))))))
set_option maxRecDepth 100000 in
theorem b132_30 {d : Nat} {w : vW} {x0 x1 x3 x4 : Int} {Q : Int → vW → Prop} : VW d 132 30 [(2, x0), (1, x1), (9, 0), (0, x3), (0, x4)] [] w Q ↔ (vkd w x0 = 22) ∧ (vkd w (vct w x0 53) = 1 ∧ (0 : Int) ≤ x4 ∧ x4 < vln w (vct w x0 53)) ∧ VW d 132 38 [(2, x0), (1, x1), (9, 0), (0, x3), (0, x4)] [] (vsv w (vct w x0 53) x4 0) Q :=
  (VW_b 5 (F := fun n => if vkd w x0 = 22 then if vkd w (vct w x0 53) = 1 ∧ (0 : Int) ≤ x4 ∧ x4 < vln w (vct w x0 53) then vrun n d 132 38 [(2, x0), (1, x1), (9, 0), (0, x3), (0, x4)] [] (vsv w (vct w x0 53) x4 0) else none else none) (fun _ => rfl)).trans (EX_if.trans (and_congr Iff.rfl (EX_if.trans (and_congr Iff.rfl (Iff.rfl)))))
set_option maxRecDepth 100000 in
theorem b132_38 {d : Nat} {w : vW} {x0 x1 x3 x4 : Int} {Q : Int → vW → Prop} : VW d 132 38 [(2, x0), (1, x1), (9, 0), (0, x3), (0, x4)] [] w Q ↔ Q 0 w :=
  (VW_b 1 (F := fun n => some (0, 0, w)) (fun _ => rfl)).trans (EX_ret0)
set_option maxRecDepth 100000 in
theorem b132_39 {d : Nat} {w : vW} {x0 x1 x3 : Int} {Q : Int → vW → Prop} : VW d 132 39 [(2, x0), (1, x1), (9, 0), (0, x3), (9, 0)] [] w Q ↔ (vkd w x0 = 22) ∧ (((vct w x0 50) = 0 → VW d 132 47 [(2, x0), (1, x1), (9, 0), (0, x3), (9, 0)] [(2, x0)] w Q) ∧ (¬ ((vct w x0 50) = 0) → VW d 132 56 [(2, x0), (1, x1), (9, 0), (0, x3), (9, 0)] [(2, x0)] w Q)) :=
  (VW_b 4 (F := fun n => if vkd w x0 = 22 then (if (vct w x0 50) = 0 then vrun n d 132 47 [(2, x0), (1, x1), (9, 0), (0, x3), (9, 0)] [(2, x0)] w else vrun n d 132 56 [(2, x0), (1, x1), (9, 0), (0, x3), (9, 0)] [(2, x0)] w) else none) (fun _ => rfl)).trans (EX_if.trans (and_congr Iff.rfl (EX_br.trans (and_congr (imp_congr Iff.rfl Iff.rfl) (imp_congr Iff.rfl Iff.rfl)))))
set_option maxRecDepth 100000 in
theorem b132_47 {d : Nat} {w : vW} {x0 x1 x3 y0 : Int} {Q : Int → vW → Prop} : VW d 132 47 [(2, x0), (1, x1), (9, 0), (0, x3), (9, 0)] [(2, y0)] w Q ↔ (vkd w x0 = 22) ∧ (((vlc x1 (vct w x0 52)) = 0 → VW d 132 56 [(2, x0), (1, x1), (9, 0), (0, x3), (9, 0)] [(2, y0)] w Q) ∧ (¬ ((vlc x1 (vct w x0 52)) = 0) → VW d 132 60 [(2, x0), (1, x1), (9, 0), (0, x3), (9, 0)] [(2, y0)] w Q)) :=
  (VW_b 5 (F := fun n => if vkd w x0 = 22 then (if (vlc x1 (vct w x0 52)) = 0 then vrun n d 132 56 [(2, x0), (1, x1), (9, 0), (0, x3), (9, 0)] [(2, y0)] w else vrun n d 132 60 [(2, x0), (1, x1), (9, 0), (0, x3), (9, 0)] [(2, y0)] w) else none) (fun _ => rfl)).trans (EX_if.trans (and_congr Iff.rfl (EX_br.trans (and_congr (imp_congr Iff.rfl Iff.rfl) (imp_congr Iff.rfl Iff.rfl)))))
set_option maxRecDepth 100000 in
theorem b132_56 {d : Nat} {w : vW} {x0 x1 x3 y0 : Int} {Q : Int → vW → Prop} : VW d 132 56 [(2, x0), (1, x1), (9, 0), (0, x3), (9, 0)] [(2, y0)] w Q ↔ VW d 132 61 [(2, x0), (1, x1), (9, 0), (0, x3), (9, 0)] [(0, 1), (2, y0)] w Q :=
  (VW_b 2 (F := fun n => vrun n d 132 61 [(2, x0), (1, x1), (9, 0), (0, x3), (9, 0)] [(0, 1), (2, y0)] w) (fun _ => rfl)).trans (Iff.rfl)
set_option maxRecDepth 100000 in
theorem b132_60 {d : Nat} {w : vW} {x0 x1 x3 y0 : Int} {Q : Int → vW → Prop} : VW d 132 60 [(2, x0), (1, x1), (9, 0), (0, x3), (9, 0)] [(2, y0)] w Q ↔ VW d 132 61 [(2, x0), (1, x1), (9, 0), (0, x3), (9, 0)] [(0, 0), (2, y0)] w Q :=
  (VW_b 1 (F := fun n => vrun n d 132 61 [(2, x0), (1, x1), (9, 0), (0, x3), (9, 0)] [(0, 0), (2, y0)] w) (fun _ => rfl)).trans (Iff.rfl)
set_option maxRecDepth 100000 in
theorem b132_61 {d : Nat} {w : vW} {x0 x1 x3 y0 y1 : Int} {Q : Int → vW → Prop} : VW d 132 61 [(2, x0), (1, x1), (9, 0), (0, x3), (9, 0)] [(0, y1), (2, y0)] w Q ↔ ((0 : Int) ≤ y1 ∧ y1 ≤ 1) ∧ (vkd w y0 = 22) ∧ VW d 132 64 [(2, x0), (1, x1), (9, 0), (0, x3), (9, 0)] [] (vsv w y0 50 y1) Q :=
  (VW_b 1 (F := fun n => if (0 : Int) ≤ y1 ∧ y1 ≤ 1 then if vkd w y0 = 22 then vrun n d 132 64 [(2, x0), (1, x1), (9, 0), (0, x3), (9, 0)] [] (vsv w y0 50 y1) else none else none) (fun _ => rfl)).trans (EX_if.trans (and_congr Iff.rfl (EX_if.trans (and_congr Iff.rfl (Iff.rfl)))))
set_option maxRecDepth 100000 in
theorem b132_64 {d : Nat} {w : vW} {x0 x1 x3 : Int} {Q : Int → vW → Prop} : VW d 132 64 [(2, x0), (1, x1), (9, 0), (0, x3), (9, 0)] [] w Q ↔ (vkd w x0 = 22) ∧ VC d 98 [(2, x0), (1, x1)] w (fun r w1 => VW d 132 75 [(2, x0), (1, x1), (9, 0), (0, x3), (0, vct w x0 28)] [(0, r)] w1 Q) :=
  (VW_b 6 (F := fun n => if vkd w x0 = 22 then vcl (vrun n) d 132 75 98 2 0 [(2, x0), (1, x1), (9, 0), (0, x3), (0, vct w x0 28)] [(1, x1), (2, x0)] w else none) (fun _ => rfl)).trans (EX_if.trans (and_congr Iff.rfl (EX_call rfl)))
set_option maxRecDepth 100000 in
theorem b132_75 {d : Nat} {w : vW} {x0 x1 x3 x4 y0 : Int} {Q : Int → vW → Prop} : VW d 132 75 [(2, x0), (1, x1), (9, 0), (0, x3), (0, x4)] [(0, y0)] w Q ↔ ((y0 < 0 → VW d 132 79 [(2, x0), (1, x1), (9, 0), (0, x3), (0, x4)] [] w Q) ∧ (¬ (y0 < 0) → VW d 132 78 [(2, x0), (1, x1), (9, 0), (0, x3), (0, x4)] [] w Q)) :=
  (VW_b 1 (F := fun n => (if y0 < 0 then vrun n d 132 79 [(2, x0), (1, x1), (9, 0), (0, x3), (0, x4)] [] w else vrun n d 132 78 [(2, x0), (1, x1), (9, 0), (0, x3), (0, x4)] [] w)) (fun _ => rfl)).trans (EX_br.trans (and_congr (imp_congr Iff.rfl Iff.rfl) (imp_congr Iff.rfl Iff.rfl)))
set_option maxRecDepth 100000 in
theorem b132_78 {d : Nat} {w : vW} {x0 x1 x3 x4 : Int} {Q : Int → vW → Prop} : VW d 132 78 [(2, x0), (1, x1), (9, 0), (0, x3), (0, x4)] [] w Q ↔ Q 0 w :=
  (VW_b 1 (F := fun n => some (0, 0, w)) (fun _ => rfl)).trans (EX_ret0)
set_option maxRecDepth 100000 in
theorem b132_79 {d : Nat} {w : vW} {x0 x1 x3 x4 : Int} {Q : Int → vW → Prop} : VW d 132 79 [(2, x0), (1, x1), (9, 0), (0, x3), (0, x4)] [] w Q ↔ VC d 100 [(2, x0), (1, x1)] w (fun r w1 => VW d 132 84 [(2, x0), (1, x1), (9, 0), (0, x3), (0, x4)] [(0, r)] w1 Q) :=
  (VW_b 3 (F := fun n => vcl (vrun n) d 132 84 100 2 0 [(2, x0), (1, x1), (9, 0), (0, x3), (0, x4)] [(1, x1), (2, x0)] w) (fun _ => rfl)).trans (EX_call rfl)
set_option maxRecDepth 100000 in
theorem b132_84 {d : Nat} {w : vW} {x0 x1 x3 x4 y0 : Int} {Q : Int → vW → Prop} : VW d 132 84 [(2, x0), (1, x1), (9, 0), (0, x3), (0, x4)] [(0, y0)] w Q ↔ ((y0 = 0 → VW d 132 95 [(2, x0), (1, x1), (9, 0), (0, x3), (0, x4)] [] w Q) ∧ (¬ (y0 = 0) → VW d 132 87 [(2, x0), (1, x1), (9, 0), (0, x3), (0, x4)] [] w Q)) :=
  (VW_b 1 (F := fun n => (if y0 = 0 then vrun n d 132 95 [(2, x0), (1, x1), (9, 0), (0, x3), (0, x4)] [] w else vrun n d 132 87 [(2, x0), (1, x1), (9, 0), (0, x3), (0, x4)] [] w)) (fun _ => rfl)).trans (EX_br.trans (and_congr (imp_congr Iff.rfl Iff.rfl) (imp_congr Iff.rfl Iff.rfl)))
set_option maxRecDepth 100000 in
theorem b132_87 {d : Nat} {w : vW} {x0 x1 x3 x4 : Int} {Q : Int → vW → Prop} : VW d 132 87 [(2, x0), (1, x1), (9, 0), (0, x3), (0, x4)] [] w Q ↔ ((0 : Int) ≤ 1 ∧ 1 ≤ 1) ∧ (vkd w x0 = 22) ∧ VW d 132 92 [(2, x0), (1, x1), (9, 0), (0, x3), (0, x4)] [] (vsv w x0 51 1) Q :=
  (VW_b 3 (F := fun n => if (0 : Int) ≤ 1 ∧ 1 ≤ 1 then if vkd w x0 = 22 then vrun n d 132 92 [(2, x0), (1, x1), (9, 0), (0, x3), (0, x4)] [] (vsv w x0 51 1) else none else none) (fun _ => rfl)).trans (EX_if.trans (and_congr Iff.rfl (EX_if.trans (and_congr Iff.rfl (Iff.rfl)))))
set_option maxRecDepth 100000 in
theorem b132_92 {d : Nat} {w : vW} {x0 x1 x3 x4 : Int} {Q : Int → vW → Prop} : VW d 132 92 [(2, x0), (1, x1), (9, 0), (0, x3), (0, x4)] [] w Q ↔ VW d 132 103 [(2, x0), (1, x1), (9, 0), (0, x3), (0, x4)] [] w Q :=
  (VW_b 1 (F := fun n => vrun n d 132 103 [(2, x0), (1, x1), (9, 0), (0, x3), (0, x4)] [] w) (fun _ => rfl)).trans (Iff.rfl)
set_option maxRecDepth 100000 in
theorem b132_95 {d : Nat} {w : vW} {x0 x1 x3 x4 : Int} {Q : Int → vW → Prop} : VW d 132 95 [(2, x0), (1, x1), (9, 0), (0, x3), (0, x4)] [] w Q ↔ (vkd w x0 = 22) ∧ (vkd w (vct w x0 49) = 1 ∧ (0 : Int) ≤ x4 ∧ x4 < vln w (vct w x0 49)) ∧ VW d 132 103 [(2, x0), (1, x1), (9, 0), (0, x3), (0, x4)] [] (vsv w (vct w x0 49) x4 x3) Q :=
  (VW_b 5 (F := fun n => if vkd w x0 = 22 then if vkd w (vct w x0 49) = 1 ∧ (0 : Int) ≤ x4 ∧ x4 < vln w (vct w x0 49) then vrun n d 132 103 [(2, x0), (1, x1), (9, 0), (0, x3), (0, x4)] [] (vsv w (vct w x0 49) x4 x3) else none else none) (fun _ => rfl)).trans (EX_if.trans (and_congr Iff.rfl (EX_if.trans (and_congr Iff.rfl (Iff.rfl)))))
set_option maxRecDepth 100000 in
theorem b132_103 {d : Nat} {w : vW} {x0 x1 x3 x4 : Int} {Q : Int → vW → Prop} : VW d 132 103 [(2, x0), (1, x1), (9, 0), (0, x3), (0, x4)] [] w Q ↔ Q 0 w :=
  (VW_b 1 (F := fun n => some (0, 0, w)) (fun _ => rfl)).trans (EX_ret0)
/-! 133: StrikeWhatCancelsModel.areNext(JJ)Z -/
set_option maxRecDepth 100000 in
theorem b133_0 {d : Nat} {w : vW} {x0 x1 x3 : Int} {Q : Int → vW → Prop} : VW d 133 0 [(2, x0), (1, x1), (9, 0), (1, x3), (9, 0)] [] w Q ↔ VC d 134 [(2, x0), (1, x1), (1, x3)] w (fun r w1 => VW d 133 6 [(2, x0), (1, x1), (9, 0), (1, x3), (9, 0)] [(0, r)] w1 Q) :=
  (VW_b 4 (F := fun n => vcl (vrun n) d 133 6 134 3 0 [(2, x0), (1, x1), (9, 0), (1, x3), (9, 0)] [(1, x3), (1, x1), (2, x0)] w) (fun _ => rfl)).trans (EX_call rfl)
set_option maxRecDepth 100000 in
theorem b133_6 {d : Nat} {w : vW} {x0 x1 x3 y0 : Int} {Q : Int → vW → Prop} : VW d 133 6 [(2, x0), (1, x1), (9, 0), (1, x3), (9, 0)] [(0, y0)] w Q ↔ ((y0 = 0 → VW d 133 9 [(2, x0), (1, x1), (9, 0), (1, x3), (9, 0)] [] w Q) ∧ (¬ (y0 = 0) → VW d 133 18 [(2, x0), (1, x1), (9, 0), (1, x3), (9, 0)] [] w Q)) :=
  (VW_b 1 (F := fun n => (if y0 = 0 then vrun n d 133 9 [(2, x0), (1, x1), (9, 0), (1, x3), (9, 0)] [] w else vrun n d 133 18 [(2, x0), (1, x1), (9, 0), (1, x3), (9, 0)] [] w)) (fun _ => rfl)).trans (EX_br.trans (and_congr (imp_congr Iff.rfl Iff.rfl) (imp_congr Iff.rfl Iff.rfl)))
set_option maxRecDepth 100000 in
theorem b133_9 {d : Nat} {w : vW} {x0 x1 x3 : Int} {Q : Int → vW → Prop} : VW d 133 9 [(2, x0), (1, x1), (9, 0), (1, x3), (9, 0)] [] w Q ↔ VC d 134 [(2, x0), (1, x3), (1, x1)] w (fun r w1 => VW d 133 15 [(2, x0), (1, x1), (9, 0), (1, x3), (9, 0)] [(0, r)] w1 Q) :=
  (VW_b 4 (F := fun n => vcl (vrun n) d 133 15 134 3 0 [(2, x0), (1, x1), (9, 0), (1, x3), (9, 0)] [(1, x1), (1, x3), (2, x0)] w) (fun _ => rfl)).trans (EX_call rfl)
set_option maxRecDepth 100000 in
theorem b133_15 {d : Nat} {w : vW} {x0 x1 x3 y0 : Int} {Q : Int → vW → Prop} : VW d 133 15 [(2, x0), (1, x1), (9, 0), (1, x3), (9, 0)] [(0, y0)] w Q ↔ ((y0 = 0 → VW d 133 22 [(2, x0), (1, x1), (9, 0), (1, x3), (9, 0)] [] w Q) ∧ (¬ (y0 = 0) → VW d 133 18 [(2, x0), (1, x1), (9, 0), (1, x3), (9, 0)] [] w Q)) :=
  (VW_b 1 (F := fun n => (if y0 = 0 then vrun n d 133 22 [(2, x0), (1, x1), (9, 0), (1, x3), (9, 0)] [] w else vrun n d 133 18 [(2, x0), (1, x1), (9, 0), (1, x3), (9, 0)] [] w)) (fun _ => rfl)).trans (EX_br.trans (and_congr (imp_congr Iff.rfl Iff.rfl) (imp_congr Iff.rfl Iff.rfl)))
set_option maxRecDepth 100000 in
theorem b133_18 {d : Nat} {w : vW} {x0 x1 x3 : Int} {Q : Int → vW → Prop} : VW d 133 18 [(2, x0), (1, x1), (9, 0), (1, x3), (9, 0)] [] w Q ↔ VW d 133 23 [(2, x0), (1, x1), (9, 0), (1, x3), (9, 0)] [(0, 1)] w Q :=
  (VW_b 2 (F := fun n => vrun n d 133 23 [(2, x0), (1, x1), (9, 0), (1, x3), (9, 0)] [(0, 1)] w) (fun _ => rfl)).trans (Iff.rfl)
set_option maxRecDepth 100000 in
theorem b133_22 {d : Nat} {w : vW} {x0 x1 x3 : Int} {Q : Int → vW → Prop} : VW d 133 22 [(2, x0), (1, x1), (9, 0), (1, x3), (9, 0)] [] w Q ↔ VW d 133 23 [(2, x0), (1, x1), (9, 0), (1, x3), (9, 0)] [(0, 0)] w Q :=
  (VW_b 1 (F := fun n => vrun n d 133 23 [(2, x0), (1, x1), (9, 0), (1, x3), (9, 0)] [(0, 0)] w) (fun _ => rfl)).trans (Iff.rfl)
set_option maxRecDepth 100000 in
theorem b133_23 {d : Nat} {w : vW} {x0 x1 x3 y0 : Int} {Q : Int → vW → Prop} : VW d 133 23 [(2, x0), (1, x1), (9, 0), (1, x3), (9, 0)] [(0, y0)] w Q ↔ Q y0 w :=
  (VW_b 1 (F := fun n => some (0, y0, w)) (fun _ => rfl)).trans (EX_ret0)
/-! 134: StrikeWhatCancelsModel.isFrom(JJ)Z -/
set_option maxRecDepth 100000 in
theorem b134_0 {d : Nat} {w : vW} {x0 x1 x3 : Int} {Q : Int → vW → Prop} : VW d 134 0 [(2, x0), (1, x1), (9, 0), (1, x3), (9, 0), (9, 0), (9, 0), (9, 0)] [] w Q ↔ VC d 60 [(2, x0), (1, x1)] w (fun r w1 => VW d 134 5 [(2, x0), (1, x1), (9, 0), (1, x3), (9, 0), (9, 0), (9, 0), (9, 0)] [(0, r)] w1 Q) :=
  (VW_b 3 (F := fun n => vcl (vrun n) d 134 5 60 2 0 [(2, x0), (1, x1), (9, 0), (1, x3), (9, 0), (9, 0), (9, 0), (9, 0)] [(1, x1), (2, x0)] w) (fun _ => rfl)).trans (EX_call rfl)
set_option maxRecDepth 100000 in
theorem b134_5 {d : Nat} {w : vW} {x0 x1 x3 y0 : Int} {Q : Int → vW → Prop} : VW d 134 5 [(2, x0), (1, x1), (9, 0), (1, x3), (9, 0), (9, 0), (9, 0), (9, 0)] [(0, y0)] w Q ↔ VW d 134 10 [(2, x0), (1, x1), (9, 0), (1, x3), (9, 0), (0, y0), (0, 0), (9, 0)] [] w Q :=
  (VW_b 3 (F := fun n => vrun n d 134 10 [(2, x0), (1, x1), (9, 0), (1, x3), (9, 0), (0, y0), (0, 0), (9, 0)] [] w) (fun _ => rfl)).trans (Iff.rfl)
set_option maxRecDepth 100000 in
theorem b134_10 {d : Nat} {w : vW} {x0 x1 x3 x5 x6 : Int} {v7 : vV} {Q : Int → vW → Prop} : VW d 134 10 [(2, x0), (1, x1), (9, 0), (1, x3), (9, 0), (0, x5), (0, x6), v7] [] w Q ↔ (vkd w x0 = 22) ∧ ((x6 < (vct w x0 4) → VW d 134 19 [(2, x0), (1, x1), (9, 0), (1, x3), (9, 0), (0, x5), (0, x6), v7] [] w Q) ∧ (¬ (x6 < (vct w x0 4)) → VW d 134 71 [(2, x0), (1, x1), (9, 0), (1, x3), (9, 0), (0, x5), (0, x6), v7] [] w Q)) :=
  (VW_b 4 (F := fun n => if vkd w x0 = 22 then (if x6 < (vct w x0 4) then vrun n d 134 19 [(2, x0), (1, x1), (9, 0), (1, x3), (9, 0), (0, x5), (0, x6), v7] [] w else vrun n d 134 71 [(2, x0), (1, x1), (9, 0), (1, x3), (9, 0), (0, x5), (0, x6), v7] [] w) else none) (fun _ => rfl)).trans (EX_if.trans (and_congr Iff.rfl (EX_br.trans (and_congr (imp_congr Iff.rfl Iff.rfl) (imp_congr Iff.rfl Iff.rfl)))))
set_option maxRecDepth 100000 in
theorem b134_19 {d : Nat} {w : vW} {x0 x1 x3 x5 x6 : Int} {v7 : vV} {Q : Int → vW → Prop} : VW d 134 19 [(2, x0), (1, x1), (9, 0), (1, x3), (9, 0), (0, x5), (0, x6), v7] [] w Q ↔ VW d 134 22 [(2, x0), (1, x1), (9, 0), (1, x3), (9, 0), (0, x5), (0, x6), (0, 0)] [] w Q :=
  (VW_b 2 (F := fun n => vrun n d 134 22 [(2, x0), (1, x1), (9, 0), (1, x3), (9, 0), (0, x5), (0, x6), (0, 0)] [] w) (fun _ => rfl)).trans (Iff.rfl)
set_option maxRecDepth 100000 in
theorem b134_22 {d : Nat} {w : vW} {x0 x1 x3 x5 x6 x7 : Int} {Q : Int → vW → Prop} : VW d 134 22 [(2, x0), (1, x1), (9, 0), (1, x3), (9, 0), (0, x5), (0, x6), (0, x7)] [] w Q ↔ ((x7 < x5 → VW d 134 29 [(2, x0), (1, x1), (9, 0), (1, x3), (9, 0), (0, x5), (0, x6), (0, x7)] [] w Q) ∧ (¬ (x7 < x5) → VW d 134 65 [(2, x0), (1, x1), (9, 0), (1, x3), (9, 0), (0, x5), (0, x6), (0, x7)] [] w Q)) :=
  (VW_b 3 (F := fun n => (if x7 < x5 then vrun n d 134 29 [(2, x0), (1, x1), (9, 0), (1, x3), (9, 0), (0, x5), (0, x6), (0, x7)] [] w else vrun n d 134 65 [(2, x0), (1, x1), (9, 0), (1, x3), (9, 0), (0, x5), (0, x6), (0, x7)] [] w)) (fun _ => rfl)).trans (EX_br.trans (and_congr (imp_congr Iff.rfl Iff.rfl) (imp_congr Iff.rfl Iff.rfl)))
set_option maxRecDepth 100000 in
theorem b134_29 {d : Nat} {w : vW} {x0 x1 x3 x5 x6 x7 : Int} {Q : Int → vW → Prop} : VW d 134 29 [(2, x0), (1, x1), (9, 0), (1, x3), (9, 0), (0, x5), (0, x6), (0, x7)] [] w Q ↔ VC d 84 [(2, x0), (1, x1), (0, x5), (0, x6), (0, x7)] w (fun r w1 => VW d 134 40 [(2, x0), (1, x1), (9, 0), (1, x3), (9, 0), (0, x5), (0, x6), (0, x7)] [(0, r)] w1 Q) :=
  (VW_b 6 (F := fun n => vcl (vrun n) d 134 40 84 5 0 [(2, x0), (1, x1), (9, 0), (1, x3), (9, 0), (0, x5), (0, x6), (0, x7)] [(0, x7), (0, x6), (0, x5), (1, x1), (2, x0)] w) (fun _ => rfl)).trans (EX_call rfl)
set_option maxRecDepth 100000 in
theorem b134_40 {d : Nat} {w : vW} {x0 x1 x3 x5 x6 x7 y0 : Int} {Q : Int → vW → Prop} : VW d 134 40 [(2, x0), (1, x1), (9, 0), (1, x3), (9, 0), (0, x5), (0, x6), (0, x7)] [(0, y0)] w Q ↔ ((y0 = 0 → VW d 134 59 [(2, x0), (1, x1), (9, 0), (1, x3), (9, 0), (0, x5), (0, x6), (0, x7)] [] w Q) ∧ (¬ (y0 = 0) → VW d 134 43 [(2, x0), (1, x1), (9, 0), (1, x3), (9, 0), (0, x5), (0, x6), (0, x7)] [] w Q)) :=
  (VW_b 1 (F := fun n => (if y0 = 0 then vrun n d 134 59 [(2, x0), (1, x1), (9, 0), (1, x3), (9, 0), (0, x5), (0, x6), (0, x7)] [] w else vrun n d 134 43 [(2, x0), (1, x1), (9, 0), (1, x3), (9, 0), (0, x5), (0, x6), (0, x7)] [] w)) (fun _ => rfl)).trans (EX_br.trans (and_congr (imp_congr Iff.rfl Iff.rfl) (imp_congr Iff.rfl Iff.rfl)))
set_option maxRecDepth 100000 in
theorem b134_43 {d : Nat} {w : vW} {x0 x1 x3 x5 x6 x7 : Int} {Q : Int → vW → Prop} : VW d 134 43 [(2, x0), (1, x1), (9, 0), (1, x3), (9, 0), (0, x5), (0, x6), (0, x7)] [] w Q ↔ VC d 83 [(2, x0), (1, x1), (0, x6), (0, x7)] w (fun r w1 => VW d 134 52 [(2, x0), (1, x1), (9, 0), (1, x3), (9, 0), (0, x5), (0, x6), (0, x7)] [(1, r)] w1 Q) :=
  (VW_b 5 (F := fun n => vcl (vrun n) d 134 52 83 4 1 [(2, x0), (1, x1), (9, 0), (1, x3), (9, 0), (0, x5), (0, x6), (0, x7)] [(0, x7), (0, x6), (1, x1), (2, x0)] w) (fun _ => rfl)).trans (EX_call rfl)
set_option maxRecDepth 100000 in
theorem b134_52 {d : Nat} {w : vW} {x0 x1 x3 x5 x6 x7 y0 : Int} {Q : Int → vW → Prop} : VW d 134 52 [(2, x0), (1, x1), (9, 0), (1, x3), (9, 0), (0, x5), (0, x6), (0, x7)] [(1, y0)] w Q ↔ (((vlc y0 x3) = 0 → VW d 134 57 [(2, x0), (1, x1), (9, 0), (1, x3), (9, 0), (0, x5), (0, x6), (0, x7)] [] w Q) ∧ (¬ ((vlc y0 x3) = 0) → VW d 134 59 [(2, x0), (1, x1), (9, 0), (1, x3), (9, 0), (0, x5), (0, x6), (0, x7)] [] w Q)) :=
  (VW_b 3 (F := fun n => (if (vlc y0 x3) = 0 then vrun n d 134 57 [(2, x0), (1, x1), (9, 0), (1, x3), (9, 0), (0, x5), (0, x6), (0, x7)] [] w else vrun n d 134 59 [(2, x0), (1, x1), (9, 0), (1, x3), (9, 0), (0, x5), (0, x6), (0, x7)] [] w)) (fun _ => rfl)).trans (EX_br.trans (and_congr (imp_congr Iff.rfl Iff.rfl) (imp_congr Iff.rfl Iff.rfl)))
set_option maxRecDepth 100000 in
theorem b134_57 {d : Nat} {w : vW} {x0 x1 x3 x5 x6 x7 : Int} {Q : Int → vW → Prop} : VW d 134 57 [(2, x0), (1, x1), (9, 0), (1, x3), (9, 0), (0, x5), (0, x6), (0, x7)] [] w Q ↔ Q 1 w :=
  (VW_b 2 (F := fun n => some (0, 1, w)) (fun _ => rfl)).trans (EX_ret0)
set_option maxRecDepth 100000 in
theorem b134_59 {d : Nat} {w : vW} {x0 x1 x3 x5 x6 x7 : Int} {Q : Int → vW → Prop} : VW d 134 59 [(2, x0), (1, x1), (9, 0), (1, x3), (9, 0), (0, x5), (0, x6), (0, x7)] [] w Q ↔ VW d 134 22 [(2, x0), (1, x1), (9, 0), (1, x3), (9, 0), (0, x5), (0, x6), (0, w32 (x7 + 1))] [] w Q :=
  (VW_b 2 (F := fun n => vrun n d 134 22 [(2, x0), (1, x1), (9, 0), (1, x3), (9, 0), (0, x5), (0, x6), (0, w32 (x7 + 1))] [] w) (fun _ => rfl)).trans (Iff.rfl)
set_option maxRecDepth 100000 in
theorem b134_65 {d : Nat} {w : vW} {x0 x1 x3 x5 x6 x7 : Int} {Q : Int → vW → Prop} : VW d 134 65 [(2, x0), (1, x1), (9, 0), (1, x3), (9, 0), (0, x5), (0, x6), (0, x7)] [] w Q ↔ VW d 134 10 [(2, x0), (1, x1), (9, 0), (1, x3), (9, 0), (0, x5), (0, w32 (x6 + 1)), (0, x7)] [] w Q :=
  (VW_b 2 (F := fun n => vrun n d 134 10 [(2, x0), (1, x1), (9, 0), (1, x3), (9, 0), (0, x5), (0, w32 (x6 + 1)), (0, x7)] [] w) (fun _ => rfl)).trans (Iff.rfl)
set_option maxRecDepth 100000 in
theorem b134_71 {d : Nat} {w : vW} {x0 x1 x3 x5 x6 : Int} {v7 : vV} {Q : Int → vW → Prop} : VW d 134 71 [(2, x0), (1, x1), (9, 0), (1, x3), (9, 0), (0, x5), (0, x6), v7] [] w Q ↔ Q 0 w :=
  (VW_b 2 (F := fun n => some (0, 0, w)) (fun _ => rfl)).trans (EX_ret0)
/-! 135: StrikeWhatCancelsModel.measures(II)V -/
set_option maxRecDepth 100000 in
theorem b135_0 {d : Nat} {w : vW} {x0 x1 x2 : Int} {Q : Int → vW → Prop} : VW d 135 0 [(2, x0), (0, x1), (0, x2), (9, 0), (9, 0)] [] w Q ↔ VW d 135 2 [(2, x0), (0, x1), (0, x2), (0, 0), (9, 0)] [] w Q :=
  (VW_b 2 (F := fun n => vrun n d 135 2 [(2, x0), (0, x1), (0, x2), (0, 0), (9, 0)] [] w) (fun _ => rfl)).trans (Iff.rfl)
set_option maxRecDepth 100000 in
theorem b135_2 {d : Nat} {w : vW} {x0 x1 x2 x3 : Int} {Q : Int → vW → Prop} : VW d 135 2 [(2, x0), (0, x1), (0, x2), (0, x3), (9, 0)] [] w Q ↔ (vkd w x0 = 22) ∧ ((x3 < (vct w x0 28) → VW d 135 10 [(2, x0), (0, x1), (0, x2), (0, x3), (9, 0)] [] w Q) ∧ (¬ (x3 < (vct w x0 28)) → VW d 135 25 [(2, x0), (0, x1), (0, x2), (0, x3), (9, 0)] [] w Q)) :=
  (VW_b 4 (F := fun n => if vkd w x0 = 22 then (if x3 < (vct w x0 28) then vrun n d 135 10 [(2, x0), (0, x1), (0, x2), (0, x3), (9, 0)] [] w else vrun n d 135 25 [(2, x0), (0, x1), (0, x2), (0, x3), (9, 0)] [] w) else none) (fun _ => rfl)).trans (EX_if.trans (and_congr Iff.rfl (EX_br.trans (and_congr (imp_congr Iff.rfl Iff.rfl) (imp_congr Iff.rfl Iff.rfl)))))
set_option maxRecDepth 100000 in
theorem b135_10 {d : Nat} {w : vW} {x0 x1 x2 x3 : Int} {Q : Int → vW → Prop} : VW d 135 10 [(2, x0), (0, x1), (0, x2), (0, x3), (9, 0)] [] w Q ↔ (vkd w x0 = 22) ∧ (vkd w (vct w x0 53) = 1 ∧ (0 : Int) ≤ x3 ∧ x3 < vln w (vct w x0 53)) ∧ VW d 135 19 [(2, x0), (0, x1), (0, x2), (0, x3), (9, 0)] [] (vsv w (vct w x0 53) x3 1000000) Q :=
  (VW_b 5 (F := fun n => if vkd w x0 = 22 then if vkd w (vct w x0 53) = 1 ∧ (0 : Int) ≤ x3 ∧ x3 < vln w (vct w x0 53) then vrun n d 135 19 [(2, x0), (0, x1), (0, x2), (0, x3), (9, 0)] [] (vsv w (vct w x0 53) x3 1000000) else none else none) (fun _ => rfl)).trans (EX_if.trans (and_congr Iff.rfl (EX_if.trans (and_congr Iff.rfl (Iff.rfl)))))
set_option maxRecDepth 100000 in
theorem b135_19 {d : Nat} {w : vW} {x0 x1 x2 x3 : Int} {Q : Int → vW → Prop} : VW d 135 19 [(2, x0), (0, x1), (0, x2), (0, x3), (9, 0)] [] w Q ↔ VW d 135 2 [(2, x0), (0, x1), (0, x2), (0, w32 (x3 + 1)), (9, 0)] [] w Q :=
  (VW_b 2 (F := fun n => vrun n d 135 2 [(2, x0), (0, x1), (0, x2), (0, w32 (x3 + 1)), (9, 0)] [] w) (fun _ => rfl)).trans (Iff.rfl)
set_option maxRecDepth 100000 in
theorem b135_25 {d : Nat} {w : vW} {x0 x1 x2 x3 : Int} {Q : Int → vW → Prop} : VW d 135 25 [(2, x0), (0, x1), (0, x2), (0, x3), (9, 0)] [] w Q ↔ ((0 : Int) ≤ 1 ∧ 1 ≤ 1) ∧ (vkd w x0 = 22) ∧ VW d 135 30 [(2, x0), (0, x1), (0, x2), (0, x3), (9, 0)] [] (vsv w x0 54 1) Q :=
  (VW_b 3 (F := fun n => if (0 : Int) ≤ 1 ∧ 1 ≤ 1 then if vkd w x0 = 22 then vrun n d 135 30 [(2, x0), (0, x1), (0, x2), (0, x3), (9, 0)] [] (vsv w x0 54 1) else none else none) (fun _ => rfl)).trans (EX_if.trans (and_congr Iff.rfl (EX_if.trans (and_congr Iff.rfl (Iff.rfl)))))
set_option maxRecDepth 100000 in
theorem b135_30 {d : Nat} {w : vW} {x0 x1 x2 x3 : Int} {Q : Int → vW → Prop} : VW d 135 30 [(2, x0), (0, x1), (0, x2), (0, x3), (9, 0)] [] w Q ↔ (vkd w x0 = 22) ∧ VC d 131 [(2, x0), (1, vct w x0 52), (0, x2), (0, w32 (x1 - 1))] w (fun _ w1 => VW d 135 42 [(2, x0), (0, x1), (0, x2), (0, x3), (9, 0)] [] w1 Q) :=
  (VW_b 8 (F := fun n => if vkd w x0 = 22 then vcl (vrun n) d 135 42 131 4 9 [(2, x0), (0, x1), (0, x2), (0, x3), (9, 0)] [(0, w32 (x1 - 1)), (0, x2), (1, vct w x0 52), (2, x0)] w else none) (fun _ => rfl)).trans (EX_if.trans (and_congr Iff.rfl (EX_call rfl)))
set_option maxRecDepth 100000 in
theorem b135_42 {d : Nat} {w : vW} {x0 x1 x2 x3 : Int} {Q : Int → vW → Prop} : VW d 135 42 [(2, x0), (0, x1), (0, x2), (0, x3), (9, 0)] [] w Q ↔ VW d 135 46 [(2, x0), (0, x1), (0, x2), (0, w32 (x1 - 2)), (9, 0)] [] w Q :=
  (VW_b 4 (F := fun n => vrun n d 135 46 [(2, x0), (0, x1), (0, x2), (0, w32 (x1 - 2)), (9, 0)] [] w) (fun _ => rfl)).trans (Iff.rfl)
set_option maxRecDepth 100000 in
theorem b135_46 {d : Nat} {w : vW} {x0 x1 x2 x3 : Int} {v4 : vV} {Q : Int → vW → Prop} : VW d 135 46 [(2, x0), (0, x1), (0, x2), (0, x3), v4] [] w Q ↔ ((x3 < 0 → VW d 135 113 [(2, x0), (0, x1), (0, x2), (0, x3), v4] [] w Q) ∧ (¬ (x3 < 0) → VW d 135 50 [(2, x0), (0, x1), (0, x2), (0, x3), v4] [] w Q)) :=
  (VW_b 2 (F := fun n => (if x3 < 0 then vrun n d 135 113 [(2, x0), (0, x1), (0, x2), (0, x3), v4] [] w else vrun n d 135 50 [(2, x0), (0, x1), (0, x2), (0, x3), v4] [] w)) (fun _ => rfl)).trans (EX_br.trans (and_congr (imp_congr Iff.rfl Iff.rfl) (imp_congr Iff.rfl Iff.rfl)))
set_option maxRecDepth 100000 in
theorem b135_50 {d : Nat} {w : vW} {x0 x1 x2 x3 : Int} {v4 : vV} {Q : Int → vW → Prop} : VW d 135 50 [(2, x0), (0, x1), (0, x2), (0, x3), v4] [] w Q ↔ VW d 135 53 [(2, x0), (0, x1), (0, x2), (0, x3), (0, 0)] [] w Q :=
  (VW_b 2 (F := fun n => vrun n d 135 53 [(2, x0), (0, x1), (0, x2), (0, x3), (0, 0)] [] w) (fun _ => rfl)).trans (Iff.rfl)
set_option maxRecDepth 100000 in
theorem b135_53 {d : Nat} {w : vW} {x0 x1 x2 x3 x4 : Int} {Q : Int → vW → Prop} : VW d 135 53 [(2, x0), (0, x1), (0, x2), (0, x3), (0, x4)] [] w Q ↔ (vkd w x0 = 22) ∧ ((x4 < (vct w x0 28) → VW d 135 62 [(2, x0), (0, x1), (0, x2), (0, x3), (0, x4)] [] w Q) ∧ (¬ (x4 < (vct w x0 28)) → VW d 135 107 [(2, x0), (0, x1), (0, x2), (0, x3), (0, x4)] [] w Q)) :=
  (VW_b 4 (F := fun n => if vkd w x0 = 22 then (if x4 < (vct w x0 28) then vrun n d 135 62 [(2, x0), (0, x1), (0, x2), (0, x3), (0, x4)] [] w else vrun n d 135 107 [(2, x0), (0, x1), (0, x2), (0, x3), (0, x4)] [] w) else none) (fun _ => rfl)).trans (EX_if.trans (and_congr Iff.rfl (EX_br.trans (and_congr (imp_congr Iff.rfl Iff.rfl) (imp_congr Iff.rfl Iff.rfl)))))
set_option maxRecDepth 100000 in
theorem b135_62 {d : Nat} {w : vW} {x0 x1 x2 x3 x4 : Int} {Q : Int → vW → Prop} : VW d 135 62 [(2, x0), (0, x1), (0, x2), (0, x3), (0, x4)] [] w Q ↔ (vkd w x0 = 22) ∧ (vkd w (vct w x0 49) = 1 ∧ (0 : Int) ≤ x4 ∧ x4 < vln w (vct w x0 49)) ∧ (((vct w (vct w x0 49) x4) = (w32 (x3 + 1)) → VW d 135 75 [(2, x0), (0, x1), (0, x2), (0, x3), (0, x4)] [] w Q) ∧ (¬ ((vct w (vct w x0 49) x4) = (w32 (x3 + 1))) → VW d 135 101 [(2, x0), (0, x1), (0, x2), (0, x3), (0, x4)] [] w Q)) :=
  (VW_b 8 (F := fun n => if vkd w x0 = 22 then if vkd w (vct w x0 49) = 1 ∧ (0 : Int) ≤ x4 ∧ x4 < vln w (vct w x0 49) then (if (vct w (vct w x0 49) x4) = (w32 (x3 + 1)) then vrun n d 135 75 [(2, x0), (0, x1), (0, x2), (0, x3), (0, x4)] [] w else vrun n d 135 101 [(2, x0), (0, x1), (0, x2), (0, x3), (0, x4)] [] w) else none else none) (fun _ => rfl)).trans (EX_if.trans (and_congr Iff.rfl (EX_if.trans (and_congr Iff.rfl (EX_br.trans (and_congr (imp_congr Iff.rfl Iff.rfl) (imp_congr Iff.rfl Iff.rfl)))))))
set_option maxRecDepth 100000 in
theorem b135_75 {d : Nat} {w : vW} {x0 x1 x2 x3 x4 : Int} {Q : Int → vW → Prop} : VW d 135 75 [(2, x0), (0, x1), (0, x2), (0, x3), (0, x4)] [] w Q ↔ (vkd w x0 = 22) ∧ (vkd w (vct w x0 53) = 1 ∧ (0 : Int) ≤ x4 ∧ x4 < vln w (vct w x0 53)) ∧ (((vct w (vct w x0 53) x4) < 1000000 → VW d 135 88 [(2, x0), (0, x1), (0, x2), (0, x3), (0, x4)] [] w Q) ∧ (¬ ((vct w (vct w x0 53) x4) < 1000000) → VW d 135 101 [(2, x0), (0, x1), (0, x2), (0, x3), (0, x4)] [] w Q)) :=
  (VW_b 6 (F := fun n => if vkd w x0 = 22 then if vkd w (vct w x0 53) = 1 ∧ (0 : Int) ≤ x4 ∧ x4 < vln w (vct w x0 53) then (if (vct w (vct w x0 53) x4) < 1000000 then vrun n d 135 88 [(2, x0), (0, x1), (0, x2), (0, x3), (0, x4)] [] w else vrun n d 135 101 [(2, x0), (0, x1), (0, x2), (0, x3), (0, x4)] [] w) else none else none) (fun _ => rfl)).trans (EX_if.trans (and_congr Iff.rfl (EX_if.trans (and_congr Iff.rfl (EX_br.trans (and_congr (imp_congr Iff.rfl Iff.rfl) (imp_congr Iff.rfl Iff.rfl)))))))
set_option maxRecDepth 100000 in
theorem b135_88 {d : Nat} {w : vW} {x0 x1 x2 x3 x4 : Int} {Q : Int → vW → Prop} : VW d 135 88 [(2, x0), (0, x1), (0, x2), (0, x3), (0, x4)] [] w Q ↔ (vkd w x0 = 22) ∧ (vkd w (vct w x0 27) = 2 ∧ (0 : Int) ≤ x4 ∧ x4 < vln w (vct w x0 27)) ∧ VC d 131 [(2, x0), (1, vct w (vct w x0 27) x4), (0, x2), (0, x3)] w (fun _ w1 => VW d 135 101 [(2, x0), (0, x1), (0, x2), (0, x3), (0, x4)] [] w1 Q) :=
  (VW_b 8 (F := fun n => if vkd w x0 = 22 then if vkd w (vct w x0 27) = 2 ∧ (0 : Int) ≤ x4 ∧ x4 < vln w (vct w x0 27) then vcl (vrun n) d 135 101 131 4 9 [(2, x0), (0, x1), (0, x2), (0, x3), (0, x4)] [(0, x3), (0, x2), (1, vct w (vct w x0 27) x4), (2, x0)] w else none else none) (fun _ => rfl)).trans (EX_if.trans (and_congr Iff.rfl (EX_if.trans (and_congr Iff.rfl (EX_call rfl)))))
set_option maxRecDepth 100000 in
theorem b135_101 {d : Nat} {w : vW} {x0 x1 x2 x3 x4 : Int} {Q : Int → vW → Prop} : VW d 135 101 [(2, x0), (0, x1), (0, x2), (0, x3), (0, x4)] [] w Q ↔ VW d 135 53 [(2, x0), (0, x1), (0, x2), (0, x3), (0, w32 (x4 + 1))] [] w Q :=
  (VW_b 2 (F := fun n => vrun n d 135 53 [(2, x0), (0, x1), (0, x2), (0, x3), (0, w32 (x4 + 1))] [] w) (fun _ => rfl)).trans (Iff.rfl)
set_option maxRecDepth 100000 in
theorem b135_107 {d : Nat} {w : vW} {x0 x1 x2 x3 x4 : Int} {Q : Int → vW → Prop} : VW d 135 107 [(2, x0), (0, x1), (0, x2), (0, x3), (0, x4)] [] w Q ↔ VW d 135 46 [(2, x0), (0, x1), (0, x2), (0, w32 (x3 + (-1))), (0, x4)] [] w Q :=
  (VW_b 2 (F := fun n => vrun n d 135 46 [(2, x0), (0, x1), (0, x2), (0, w32 (x3 + (-1))), (0, x4)] [] w) (fun _ => rfl)).trans (Iff.rfl)
set_option maxRecDepth 100000 in
theorem b135_113 {d : Nat} {w : vW} {x0 x1 x2 x3 : Int} {v4 : vV} {Q : Int → vW → Prop} : VW d 135 113 [(2, x0), (0, x1), (0, x2), (0, x3), v4] [] w Q ↔ ((0 : Int) ≤ 0 ∧ 0 ≤ 1) ∧ (vkd w x0 = 22) ∧ VW d 135 118 [(2, x0), (0, x1), (0, x2), (0, x3), v4] [] (vsv w x0 54 0) Q :=
  (VW_b 3 (F := fun n => if (0 : Int) ≤ 0 ∧ 0 ≤ 1 then if vkd w x0 = 22 then vrun n d 135 118 [(2, x0), (0, x1), (0, x2), (0, x3), v4] [] (vsv w x0 54 0) else none else none) (fun _ => rfl)).trans (EX_if.trans (and_congr Iff.rfl (EX_if.trans (and_congr Iff.rfl (Iff.rfl)))))
set_option maxRecDepth 100000 in
theorem b135_118 {d : Nat} {w : vW} {x0 x1 x2 x3 : Int} {v4 : vV} {Q : Int → vW → Prop} : VW d 135 118 [(2, x0), (0, x1), (0, x2), (0, x3), v4] [] w Q ↔ Q 0 w :=
  (VW_b 1 (F := fun n => some (0, 0, w)) (fun _ => rfl)).trans (EX_ret0)
/-! 136: StrikeWhatCancelsModel.between(JJI)I -/
set_option maxRecDepth 100000 in
theorem b136_0 {d : Nat} {w : vW} {x0 x1 x3 x5 : Int} {Q : Int → vW → Prop} : VW d 136 0 [(2, x0), (1, x1), (9, 0), (1, x3), (9, 0), (0, x5), (9, 0), (9, 0), (9, 0), (9, 0), (9, 0), (9, 0), (9, 0), (9, 0), (9, 0)] [] w Q ↔ (vkd w x0 = 22) ∧ VW d 136 5 [(2, x0), (1, x1), (9, 0), (1, x3), (9, 0), (0, x5), (9, 0), (9, 0), (9, 0), (9, 0), (9, 0), (9, 0), (9, 0), (9, 0), (9, 0)] [] (vsv w x0 0 0) Q :=
  (VW_b 3 (F := fun n => if vkd w x0 = 22 then vrun n d 136 5 [(2, x0), (1, x1), (9, 0), (1, x3), (9, 0), (0, x5), (9, 0), (9, 0), (9, 0), (9, 0), (9, 0), (9, 0), (9, 0), (9, 0), (9, 0)] [] (vsv w x0 0 0) else none) (fun _ => rfl)).trans (EX_if.trans (and_congr Iff.rfl (Iff.rfl)))
set_option maxRecDepth 100000 in
theorem b136_5 {d : Nat} {w : vW} {x0 x1 x3 x5 : Int} {Q : Int → vW → Prop} : VW d 136 5 [(2, x0), (1, x1), (9, 0), (1, x3), (9, 0), (0, x5), (9, 0), (9, 0), (9, 0), (9, 0), (9, 0), (9, 0), (9, 0), (9, 0), (9, 0)] [] w Q ↔ VC d 56 [(1, x5), (1, 0), (1, 8)] w (fun r w1 => VW d 136 15 [(2, x0), (1, x1), (9, 0), (1, x3), (9, 0), (0, x5), (9, 0), (9, 0), (9, 0), (9, 0), (9, 0), (9, 0), (9, 0), (9, 0), (9, 0)] [(0, r)] w1 Q) :=
  (VW_b 5 (F := fun n => vcl (vrun n) d 136 15 56 3 0 [(2, x0), (1, x1), (9, 0), (1, x3), (9, 0), (0, x5), (9, 0), (9, 0), (9, 0), (9, 0), (9, 0), (9, 0), (9, 0), (9, 0), (9, 0)] [(1, 8), (1, 0), (1, x5)] w) (fun _ => rfl)).trans (EX_call rfl)
set_option maxRecDepth 100000 in
theorem b136_15 {d : Nat} {w : vW} {x0 x1 x3 x5 y0 : Int} {Q : Int → vW → Prop} : VW d 136 15 [(2, x0), (1, x1), (9, 0), (1, x3), (9, 0), (0, x5), (9, 0), (9, 0), (9, 0), (9, 0), (9, 0), (9, 0), (9, 0), (9, 0), (9, 0)] [(0, y0)] w Q ↔ ((y0 = 0 → VW d 136 54 [(2, x0), (1, x1), (9, 0), (1, x3), (9, 0), (0, x5), (9, 0), (9, 0), (9, 0), (9, 0), (9, 0), (9, 0), (9, 0), (9, 0), (9, 0)] [] w Q) ∧ (¬ (y0 = 0) → VW d 136 18 [(2, x0), (1, x1), (9, 0), (1, x3), (9, 0), (0, x5), (9, 0), (9, 0), (9, 0), (9, 0), (9, 0), (9, 0), (9, 0), (9, 0), (9, 0)] [] w Q)) :=
  (VW_b 1 (F := fun n => (if y0 = 0 then vrun n d 136 54 [(2, x0), (1, x1), (9, 0), (1, x3), (9, 0), (0, x5), (9, 0), (9, 0), (9, 0), (9, 0), (9, 0), (9, 0), (9, 0), (9, 0), (9, 0)] [] w else vrun n d 136 18 [(2, x0), (1, x1), (9, 0), (1, x3), (9, 0), (0, x5), (9, 0), (9, 0), (9, 0), (9, 0), (9, 0), (9, 0), (9, 0), (9, 0), (9, 0)] [] w)) (fun _ => rfl)).trans (EX_br.trans (and_congr (imp_congr Iff.rfl Iff.rfl) (imp_congr Iff.rfl Iff.rfl)))
set_option maxRecDepth 100000 in
theorem b136_18 {d : Nat} {w : vW} {x0 x1 x3 x5 : Int} {Q : Int → vW → Prop} : VW d 136 18 [(2, x0), (1, x1), (9, 0), (1, x3), (9, 0), (0, x5), (9, 0), (9, 0), (9, 0), (9, 0), (9, 0), (9, 0), (9, 0), (9, 0), (9, 0)] [] w Q ↔ VC d 61 [(2, x0), (1, x1)] w (fun r w1 => VW d 136 23 [(2, x0), (1, x1), (9, 0), (1, x3), (9, 0), (0, x5), (9, 0), (9, 0), (9, 0), (9, 0), (9, 0), (9, 0), (9, 0), (9, 0), (9, 0)] [(0, r)] w1 Q) :=
  (VW_b 3 (F := fun n => vcl (vrun n) d 136 23 61 2 0 [(2, x0), (1, x1), (9, 0), (1, x3), (9, 0), (0, x5), (9, 0), (9, 0), (9, 0), (9, 0), (9, 0), (9, 0), (9, 0), (9, 0), (9, 0)] [(1, x1), (2, x0)] w) (fun _ => rfl)).trans (EX_call rfl)
set_option maxRecDepth 100000 in
theorem b136_23 {d : Nat} {w : vW} {x0 x1 x3 x5 y0 : Int} {Q : Int → vW → Prop} : VW d 136 23 [(2, x0), (1, x1), (9, 0), (1, x3), (9, 0), (0, x5), (9, 0), (9, 0), (9, 0), (9, 0), (9, 0), (9, 0), (9, 0), (9, 0), (9, 0)] [(0, y0)] w Q ↔ ((y0 = 0 → VW d 136 54 [(2, x0), (1, x1), (9, 0), (1, x3), (9, 0), (0, x5), (9, 0), (9, 0), (9, 0), (9, 0), (9, 0), (9, 0), (9, 0), (9, 0), (9, 0)] [] w Q) ∧ (¬ (y0 = 0) → VW d 136 26 [(2, x0), (1, x1), (9, 0), (1, x3), (9, 0), (0, x5), (9, 0), (9, 0), (9, 0), (9, 0), (9, 0), (9, 0), (9, 0), (9, 0), (9, 0)] [] w Q)) :=
  (VW_b 1 (F := fun n => (if y0 = 0 then vrun n d 136 54 [(2, x0), (1, x1), (9, 0), (1, x3), (9, 0), (0, x5), (9, 0), (9, 0), (9, 0), (9, 0), (9, 0), (9, 0), (9, 0), (9, 0), (9, 0)] [] w else vrun n d 136 26 [(2, x0), (1, x1), (9, 0), (1, x3), (9, 0), (0, x5), (9, 0), (9, 0), (9, 0), (9, 0), (9, 0), (9, 0), (9, 0), (9, 0), (9, 0)] [] w)) (fun _ => rfl)).trans (EX_br.trans (and_congr (imp_congr Iff.rfl Iff.rfl) (imp_congr Iff.rfl Iff.rfl)))
set_option maxRecDepth 100000 in
theorem b136_26 {d : Nat} {w : vW} {x0 x1 x3 x5 : Int} {Q : Int → vW → Prop} : VW d 136 26 [(2, x0), (1, x1), (9, 0), (1, x3), (9, 0), (0, x5), (9, 0), (9, 0), (9, 0), (9, 0), (9, 0), (9, 0), (9, 0), (9, 0), (9, 0)] [] w Q ↔ VC d 61 [(2, x0), (1, x3)] w (fun r w1 => VW d 136 31 [(2, x0), (1, x1), (9, 0), (1, x3), (9, 0), (0, x5), (9, 0), (9, 0), (9, 0), (9, 0), (9, 0), (9, 0), (9, 0), (9, 0), (9, 0)] [(0, r)] w1 Q) :=
  (VW_b 3 (F := fun n => vcl (vrun n) d 136 31 61 2 0 [(2, x0), (1, x1), (9, 0), (1, x3), (9, 0), (0, x5), (9, 0), (9, 0), (9, 0), (9, 0), (9, 0), (9, 0), (9, 0), (9, 0), (9, 0)] [(1, x3), (2, x0)] w) (fun _ => rfl)).trans (EX_call rfl)
set_option maxRecDepth 100000 in
theorem b136_31 {d : Nat} {w : vW} {x0 x1 x3 x5 y0 : Int} {Q : Int → vW → Prop} : VW d 136 31 [(2, x0), (1, x1), (9, 0), (1, x3), (9, 0), (0, x5), (9, 0), (9, 0), (9, 0), (9, 0), (9, 0), (9, 0), (9, 0), (9, 0), (9, 0)] [(0, y0)] w Q ↔ ((y0 = 0 → VW d 136 54 [(2, x0), (1, x1), (9, 0), (1, x3), (9, 0), (0, x5), (9, 0), (9, 0), (9, 0), (9, 0), (9, 0), (9, 0), (9, 0), (9, 0), (9, 0)] [] w Q) ∧ (¬ (y0 = 0) → VW d 136 34 [(2, x0), (1, x1), (9, 0), (1, x3), (9, 0), (0, x5), (9, 0), (9, 0), (9, 0), (9, 0), (9, 0), (9, 0), (9, 0), (9, 0), (9, 0)] [] w Q)) :=
  (VW_b 1 (F := fun n => (if y0 = 0 then vrun n d 136 54 [(2, x0), (1, x1), (9, 0), (1, x3), (9, 0), (0, x5), (9, 0), (9, 0), (9, 0), (9, 0), (9, 0), (9, 0), (9, 0), (9, 0), (9, 0)] [] w else vrun n d 136 34 [(2, x0), (1, x1), (9, 0), (1, x3), (9, 0), (0, x5), (9, 0), (9, 0), (9, 0), (9, 0), (9, 0), (9, 0), (9, 0), (9, 0), (9, 0)] [] w)) (fun _ => rfl)).trans (EX_br.trans (and_congr (imp_congr Iff.rfl Iff.rfl) (imp_congr Iff.rfl Iff.rfl)))
set_option maxRecDepth 100000 in
theorem b136_34 {d : Nat} {w : vW} {x0 x1 x3 x5 : Int} {Q : Int → vW → Prop} : VW d 136 34 [(2, x0), (1, x1), (9, 0), (1, x3), (9, 0), (0, x5), (9, 0), (9, 0), (9, 0), (9, 0), (9, 0), (9, 0), (9, 0), (9, 0), (9, 0)] [] w Q ↔ VC d 60 [(2, x0), (1, x1)] w (fun r w1 => VW d 136 39 [(2, x0), (1, x1), (9, 0), (1, x3), (9, 0), (0, x5), (9, 0), (9, 0), (9, 0), (9, 0), (9, 0), (9, 0), (9, 0), (9, 0), (9, 0)] [(0, r)] w1 Q) :=
  (VW_b 3 (F := fun n => vcl (vrun n) d 136 39 60 2 0 [(2, x0), (1, x1), (9, 0), (1, x3), (9, 0), (0, x5), (9, 0), (9, 0), (9, 0), (9, 0), (9, 0), (9, 0), (9, 0), (9, 0), (9, 0)] [(1, x1), (2, x0)] w) (fun _ => rfl)).trans (EX_call rfl)
set_option maxRecDepth 100000 in
theorem b136_39 {d : Nat} {w : vW} {x0 x1 x3 x5 y0 : Int} {Q : Int → vW → Prop} : VW d 136 39 [(2, x0), (1, x1), (9, 0), (1, x3), (9, 0), (0, x5), (9, 0), (9, 0), (9, 0), (9, 0), (9, 0), (9, 0), (9, 0), (9, 0), (9, 0)] [(0, y0)] w Q ↔ ((x5 < y0 → VW d 136 54 [(2, x0), (1, x1), (9, 0), (1, x3), (9, 0), (0, x5), (9, 0), (9, 0), (9, 0), (9, 0), (9, 0), (9, 0), (9, 0), (9, 0), (9, 0)] [] w Q) ∧ (¬ (x5 < y0) → VW d 136 44 [(2, x0), (1, x1), (9, 0), (1, x3), (9, 0), (0, x5), (9, 0), (9, 0), (9, 0), (9, 0), (9, 0), (9, 0), (9, 0), (9, 0), (9, 0)] [] w Q)) :=
  (VW_b 2 (F := fun n => (if x5 < y0 then vrun n d 136 54 [(2, x0), (1, x1), (9, 0), (1, x3), (9, 0), (0, x5), (9, 0), (9, 0), (9, 0), (9, 0), (9, 0), (9, 0), (9, 0), (9, 0), (9, 0)] [] w else vrun n d 136 44 [(2, x0), (1, x1), (9, 0), (1, x3), (9, 0), (0, x5), (9, 0), (9, 0), (9, 0), (9, 0), (9, 0), (9, 0), (9, 0), (9, 0), (9, 0)] [] w)) (fun _ => rfl)).trans (EX_br.trans (and_congr (imp_congr Iff.rfl Iff.rfl) (imp_congr Iff.rfl Iff.rfl)))
set_option maxRecDepth 100000 in
theorem b136_44 {d : Nat} {w : vW} {x0 x1 x3 x5 : Int} {Q : Int → vW → Prop} : VW d 136 44 [(2, x0), (1, x1), (9, 0), (1, x3), (9, 0), (0, x5), (9, 0), (9, 0), (9, 0), (9, 0), (9, 0), (9, 0), (9, 0), (9, 0), (9, 0)] [] w Q ↔ VC d 60 [(2, x0), (1, x3)] w (fun r w1 => VW d 136 49 [(2, x0), (1, x1), (9, 0), (1, x3), (9, 0), (0, x5), (9, 0), (9, 0), (9, 0), (9, 0), (9, 0), (9, 0), (9, 0), (9, 0), (9, 0)] [(0, r)] w1 Q) :=
  (VW_b 3 (F := fun n => vcl (vrun n) d 136 49 60 2 0 [(2, x0), (1, x1), (9, 0), (1, x3), (9, 0), (0, x5), (9, 0), (9, 0), (9, 0), (9, 0), (9, 0), (9, 0), (9, 0), (9, 0), (9, 0)] [(1, x3), (2, x0)] w) (fun _ => rfl)).trans (EX_call rfl)
set_option maxRecDepth 100000 in
theorem b136_49 {d : Nat} {w : vW} {x0 x1 x3 x5 y0 : Int} {Q : Int → vW → Prop} : VW d 136 49 [(2, x0), (1, x1), (9, 0), (1, x3), (9, 0), (0, x5), (9, 0), (9, 0), (9, 0), (9, 0), (9, 0), (9, 0), (9, 0), (9, 0), (9, 0)] [(0, y0)] w Q ↔ ((x5 < y0 → VW d 136 54 [(2, x0), (1, x1), (9, 0), (1, x3), (9, 0), (0, x5), (9, 0), (9, 0), (9, 0), (9, 0), (9, 0), (9, 0), (9, 0), (9, 0), (9, 0)] [] w Q) ∧ (¬ (x5 < y0) → VW d 136 56 [(2, x0), (1, x1), (9, 0), (1, x3), (9, 0), (0, x5), (9, 0), (9, 0), (9, 0), (9, 0), (9, 0), (9, 0), (9, 0), (9, 0), (9, 0)] [] w Q)) :=
  (VW_b 2 (F := fun n => (if x5 < y0 then vrun n d 136 54 [(2, x0), (1, x1), (9, 0), (1, x3), (9, 0), (0, x5), (9, 0), (9, 0), (9, 0), (9, 0), (9, 0), (9, 0), (9, 0), (9, 0), (9, 0)] [] w else vrun n d 136 56 [(2, x0), (1, x1), (9, 0), (1, x3), (9, 0), (0, x5), (9, 0), (9, 0), (9, 0), (9, 0), (9, 0), (9, 0), (9, 0), (9, 0), (9, 0)] [] w)) (fun _ => rfl)).trans (EX_br.trans (and_congr (imp_congr Iff.rfl Iff.rfl) (imp_congr Iff.rfl Iff.rfl)))
set_option maxRecDepth 100000 in
theorem b136_54 {d : Nat} {w : vW} {x0 x1 x3 x5 : Int} {Q : Int → vW → Prop} : VW d 136 54 [(2, x0), (1, x1), (9, 0), (1, x3), (9, 0), (0, x5), (9, 0), (9, 0), (9, 0), (9, 0), (9, 0), (9, 0), (9, 0), (9, 0), (9, 0)] [] w Q ↔ Q (-1) w :=
  (VW_b 2 (F := fun n => some (0, (-1), w)) (fun _ => rfl)).trans (EX_ret0)
set_option maxRecDepth 100000 in
theorem b136_56 {d : Nat} {w : vW} {x0 x1 x3 x5 : Int} {Q : Int → vW → Prop} : VW d 136 56 [(2, x0), (1, x1), (9, 0), (1, x3), (9, 0), (0, x5), (9, 0), (9, 0), (9, 0), (9, 0), (9, 0), (9, 0), (9, 0), (9, 0), (9, 0)] [] w Q ↔ (((vlc x1 x3) = 0 → VW d 136 62 [(2, x0), (1, x1), (9, 0), (1, x3), (9, 0), (0, x5), (9, 0), (9, 0), (9, 0), (9, 0), (9, 0), (9, 0), (9, 0), (9, 0), (9, 0)] [] w Q) ∧ (¬ ((vlc x1 x3) = 0) → VW d 136 69 [(2, x0), (1, x1), (9, 0), (1, x3), (9, 0), (0, x5), (9, 0), (9, 0), (9, 0), (9, 0), (9, 0), (9, 0), (9, 0), (9, 0), (9, 0)] [] w Q)) :=
  (VW_b 4 (F := fun n => (if (vlc x1 x3) = 0 then vrun n d 136 62 [(2, x0), (1, x1), (9, 0), (1, x3), (9, 0), (0, x5), (9, 0), (9, 0), (9, 0), (9, 0), (9, 0), (9, 0), (9, 0), (9, 0), (9, 0)] [] w else vrun n d 136 69 [(2, x0), (1, x1), (9, 0), (1, x3), (9, 0), (0, x5), (9, 0), (9, 0), (9, 0), (9, 0), (9, 0), (9, 0), (9, 0), (9, 0), (9, 0)] [] w)) (fun _ => rfl)).trans (EX_br.trans (and_congr (imp_congr Iff.rfl Iff.rfl) (imp_congr Iff.rfl Iff.rfl)))
set_option maxRecDepth 100000 in
theorem b136_62 {d : Nat} {w : vW} {x0 x1 x3 x5 : Int} {Q : Int → vW → Prop} : VW d 136 62 [(2, x0), (1, x1), (9, 0), (1, x3), (9, 0), (0, x5), (9, 0), (9, 0), (9, 0), (9, 0), (9, 0), (9, 0), (9, 0), (9, 0), (9, 0)] [] w Q ↔ (vkd w x0 = 22) ∧ VW d 136 67 [(2, x0), (1, x1), (9, 0), (1, x3), (9, 0), (0, x5), (9, 0), (9, 0), (9, 0), (9, 0), (9, 0), (9, 0), (9, 0), (9, 0), (9, 0)] [] (vsv w x0 1 0) Q :=
  (VW_b 3 (F := fun n => if vkd w x0 = 22 then vrun n d 136 67 [(2, x0), (1, x1), (9, 0), (1, x3), (9, 0), (0, x5), (9, 0), (9, 0), (9, 0), (9, 0), (9, 0), (9, 0), (9, 0), (9, 0), (9, 0)] [] (vsv w x0 1 0) else none) (fun _ => rfl)).trans (EX_if.trans (and_congr Iff.rfl (Iff.rfl)))
set_option maxRecDepth 100000 in
theorem b136_67 {d : Nat} {w : vW} {x0 x1 x3 x5 : Int} {Q : Int → vW → Prop} : VW d 136 67 [(2, x0), (1, x1), (9, 0), (1, x3), (9, 0), (0, x5), (9, 0), (9, 0), (9, 0), (9, 0), (9, 0), (9, 0), (9, 0), (9, 0), (9, 0)] [] w Q ↔ Q 0 w :=
  (VW_b 2 (F := fun n => some (0, 0, w)) (fun _ => rfl)).trans (EX_ret0)
set_option maxRecDepth 100000 in
theorem b136_69 {d : Nat} {w : vW} {x0 x1 x3 x5 : Int} {Q : Int → vW → Prop} : VW d 136 69 [(2, x0), (1, x1), (9, 0), (1, x3), (9, 0), (0, x5), (9, 0), (9, 0), (9, 0), (9, 0), (9, 0), (9, 0), (9, 0), (9, 0), (9, 0)] [] w Q ↔ VC d 97 [(2, x0)] w (fun _ w1 => VW d 136 73 [(2, x0), (1, x1), (9, 0), (1, x3), (9, 0), (0, x5), (9, 0), (9, 0), (9, 0), (9, 0), (9, 0), (9, 0), (9, 0), (9, 0), (9, 0)] [] w1 Q) :=
  (VW_b 2 (F := fun n => vcl (vrun n) d 136 73 97 1 9 [(2, x0), (1, x1), (9, 0), (1, x3), (9, 0), (0, x5), (9, 0), (9, 0), (9, 0), (9, 0), (9, 0), (9, 0), (9, 0), (9, 0), (9, 0)] [(2, x0)] w) (fun _ => rfl)).trans (EX_call rfl)
set_option maxRecDepth 100000 in
theorem b136_73 {d : Nat} {w : vW} {x0 x1 x3 x5 : Int} {Q : Int → vW → Prop} : VW d 136 73 [(2, x0), (1, x1), (9, 0), (1, x3), (9, 0), (0, x5), (9, 0), (9, 0), (9, 0), (9, 0), (9, 0), (9, 0), (9, 0), (9, 0), (9, 0)] [] w Q ↔ VC d 100 [(2, x0), (1, x1)] w (fun r w1 => VW d 136 78 [(2, x0), (1, x1), (9, 0), (1, x3), (9, 0), (0, x5), (9, 0), (9, 0), (9, 0), (9, 0), (9, 0), (9, 0), (9, 0), (9, 0), (9, 0)] [(0, r)] w1 Q) :=
  (VW_b 3 (F := fun n => vcl (vrun n) d 136 78 100 2 0 [(2, x0), (1, x1), (9, 0), (1, x3), (9, 0), (0, x5), (9, 0), (9, 0), (9, 0), (9, 0), (9, 0), (9, 0), (9, 0), (9, 0), (9, 0)] [(1, x1), (2, x0)] w) (fun _ => rfl)).trans (EX_call rfl)
set_option maxRecDepth 100000 in
theorem b136_78 {d : Nat} {w : vW} {x0 x1 x3 x5 y0 : Int} {Q : Int → vW → Prop} : VW d 136 78 [(2, x0), (1, x1), (9, 0), (1, x3), (9, 0), (0, x5), (9, 0), (9, 0), (9, 0), (9, 0), (9, 0), (9, 0), (9, 0), (9, 0), (9, 0)] [(0, y0)] w Q ↔ (vkd w x0 = 22) ∧ (vkd w (vct w x0 49) = 1 ∧ (0 : Int) ≤ 0 ∧ 0 < vln w (vct w x0 49)) ∧ VW d 136 86 [(2, x0), (1, x1), (9, 0), (1, x3), (9, 0), (0, x5), (9, 0), (9, 0), (9, 0), (9, 0), (9, 0), (9, 0), (9, 0), (9, 0), (9, 0)] [] (vsv w (vct w x0 49) 0 0) Q :=
  (VW_b 6 (F := fun n => if vkd w x0 = 22 then if vkd w (vct w x0 49) = 1 ∧ (0 : Int) ≤ 0 ∧ 0 < vln w (vct w x0 49) then vrun n d 136 86 [(2, x0), (1, x1), (9, 0), (1, x3), (9, 0), (0, x5), (9, 0), (9, 0), (9, 0), (9, 0), (9, 0), (9, 0), (9, 0), (9, 0), (9, 0)] [] (vsv w (vct w x0 49) 0 0) else none else none) (fun _ => rfl)).trans (EX_if.trans (and_congr Iff.rfl (EX_if.trans (and_congr Iff.rfl (Iff.rfl)))))
set_option maxRecDepth 100000 in
theorem b136_86 {d : Nat} {w : vW} {x0 x1 x3 x5 : Int} {Q : Int → vW → Prop} : VW d 136 86 [(2, x0), (1, x1), (9, 0), (1, x3), (9, 0), (0, x5), (9, 0), (9, 0), (9, 0), (9, 0), (9, 0), (9, 0), (9, 0), (9, 0), (9, 0)] [] w Q ↔ (vkd w x0 = 22) ∧ VW d 136 91 [(2, x0), (1, x1), (9, 0), (1, x3), (9, 0), (0, x5), (9, 0), (9, 0), (9, 0), (9, 0), (9, 0), (9, 0), (9, 0), (9, 0), (9, 0)] [] (vsv w x0 52 x3) Q :=
  (VW_b 3 (F := fun n => if vkd w x0 = 22 then vrun n d 136 91 [(2, x0), (1, x1), (9, 0), (1, x3), (9, 0), (0, x5), (9, 0), (9, 0), (9, 0), (9, 0), (9, 0), (9, 0), (9, 0), (9, 0), (9, 0)] [] (vsv w x0 52 x3) else none) (fun _ => rfl)).trans (EX_if.trans (and_congr Iff.rfl (Iff.rfl)))
set_option maxRecDepth 100000 in
theorem b136_91 {d : Nat} {w : vW} {x0 x1 x3 x5 : Int} {Q : Int → vW → Prop} : VW d 136 91 [(2, x0), (1, x1), (9, 0), (1, x3), (9, 0), (0, x5), (9, 0), (9, 0), (9, 0), (9, 0), (9, 0), (9, 0), (9, 0), (9, 0), (9, 0)] [] w Q ↔ ((0 : Int) ≤ 0 ∧ 0 ≤ 1) ∧ (vkd w x0 = 22) ∧ VW d 136 96 [(2, x0), (1, x1), (9, 0), (1, x3), (9, 0), (0, x5), (9, 0), (9, 0), (9, 0), (9, 0), (9, 0), (9, 0), (9, 0), (9, 0), (9, 0)] [] (vsv w x0 50 0) Q :=
  (VW_b 3 (F := fun n => if (0 : Int) ≤ 0 ∧ 0 ≤ 1 then if vkd w x0 = 22 then vrun n d 136 96 [(2, x0), (1, x1), (9, 0), (1, x3), (9, 0), (0, x5), (9, 0), (9, 0), (9, 0), (9, 0), (9, 0), (9, 0), (9, 0), (9, 0), (9, 0)] [] (vsv w x0 50 0) else none else none) (fun _ => rfl)).trans (EX_if.trans (and_congr Iff.rfl (EX_if.trans (and_congr Iff.rfl (Iff.rfl)))))
set_option maxRecDepth 100000 in
theorem b136_96 {d : Nat} {w : vW} {x0 x1 x3 x5 : Int} {Q : Int → vW → Prop} : VW d 136 96 [(2, x0), (1, x1), (9, 0), (1, x3), (9, 0), (0, x5), (9, 0), (9, 0), (9, 0), (9, 0), (9, 0), (9, 0), (9, 0), (9, 0), (9, 0)] [] w Q ↔ ((0 : Int) ≤ 0 ∧ 0 ≤ 1) ∧ (vkd w x0 = 22) ∧ VW d 136 101 [(2, x0), (1, x1), (9, 0), (1, x3), (9, 0), (0, x5), (9, 0), (9, 0), (9, 0), (9, 0), (9, 0), (9, 0), (9, 0), (9, 0), (9, 0)] [] (vsv w x0 51 0) Q :=
  (VW_b 3 (F := fun n => if (0 : Int) ≤ 0 ∧ 0 ≤ 1 then if vkd w x0 = 22 then vrun n d 136 101 [(2, x0), (1, x1), (9, 0), (1, x3), (9, 0), (0, x5), (9, 0), (9, 0), (9, 0), (9, 0), (9, 0), (9, 0), (9, 0), (9, 0), (9, 0)] [] (vsv w x0 51 0) else none else none) (fun _ => rfl)).trans (EX_if.trans (and_congr Iff.rfl (EX_if.trans (and_congr Iff.rfl (Iff.rfl)))))
set_option maxRecDepth 100000 in
theorem b136_101 {d : Nat} {w : vW} {x0 x1 x3 x5 : Int} {Q : Int → vW → Prop} : VW d 136 101 [(2, x0), (1, x1), (9, 0), (1, x3), (9, 0), (0, x5), (9, 0), (9, 0), (9, 0), (9, 0), (9, 0), (9, 0), (9, 0), (9, 0), (9, 0)] [] w Q ↔ VW d 136 107 [(2, x0), (1, x1), (9, 0), (1, x3), (9, 0), (0, x5), (0, 0), (0, 0), (9, 0), (9, 0), (9, 0), (9, 0), (9, 0), (9, 0), (9, 0)] [] w Q :=
  (VW_b 4 (F := fun n => vrun n d 136 107 [(2, x0), (1, x1), (9, 0), (1, x3), (9, 0), (0, x5), (0, 0), (0, 0), (9, 0), (9, 0), (9, 0), (9, 0), (9, 0), (9, 0), (9, 0)] [] w) (fun _ => rfl)).trans (Iff.rfl)
set_option maxRecDepth 100000 in
theorem b136_107 {d : Nat} {w : vW} {x0 x1 x3 x5 x6 x7 : Int} {v8 v9 : vV} {Q : Int → vW → Prop} : VW d 136 107 [(2, x0), (1, x1), (9, 0), (1, x3), (9, 0), (0, x5), (0, x6), (0, x7), v8, v9, (9, 0), (9, 0), (9, 0), (9, 0), (9, 0)] [] w Q ↔ (vkd w x0 = 22) ∧ (((vct w x0 50) = 0 → VW d 136 114 [(2, x0), (1, x1), (9, 0), (1, x3), (9, 0), (0, x5), (0, x6), (0, x7), v8, v9, (9, 0), (9, 0), (9, 0), (9, 0), (9, 0)] [] w Q) ∧ (¬ ((vct w x0 50) = 0) → VW d 136 189 [(2, x0), (1, x1), (9, 0), (1, x3), (9, 0), (0, x5), (0, x6), (0, x7), v8, v9, (9, 0), (9, 0), (9, 0), (9, 0), (9, 0)] [] w Q)) :=
  (VW_b 3 (F := fun n => if vkd w x0 = 22 then (if (vct w x0 50) = 0 then vrun n d 136 114 [(2, x0), (1, x1), (9, 0), (1, x3), (9, 0), (0, x5), (0, x6), (0, x7), v8, v9, (9, 0), (9, 0), (9, 0), (9, 0), (9, 0)] [] w else vrun n d 136 189 [(2, x0), (1, x1), (9, 0), (1, x3), (9, 0), (0, x5), (0, x6), (0, x7), v8, v9, (9, 0), (9, 0), (9, 0), (9, 0), (9, 0)] [] w) else none) (fun _ => rfl)).trans (EX_if.trans (and_congr Iff.rfl (EX_br.trans (and_congr (imp_congr Iff.rfl Iff.rfl) (imp_congr Iff.rfl Iff.rfl)))))
set_option maxRecDepth 100000 in
theorem b136_114 {d : Nat} {w : vW} {x0 x1 x3 x5 x6 x7 : Int} {v8 v9 : vV} {Q : Int → vW → Prop} : VW d 136 114 [(2, x0), (1, x1), (9, 0), (1, x3), (9, 0), (0, x5), (0, x6), (0, x7), v8, v9, (9, 0), (9, 0), (9, 0), (9, 0), (9, 0)] [] w Q ↔ (vkd w x0 = 22) ∧ ((x6 = (vct w x0 28) → VW d 136 127 [(2, x0), (1, x1), (9, 0), (1, x3), (9, 0), (0, x5), (0, x6), (0, x7), (0, vct w x0 28), v9, (9, 0), (9, 0), (9, 0), (9, 0), (9, 0)] [] w Q) ∧ (¬ (x6 = (vct w x0 28)) → VW d 136 130 [(2, x0), (1, x1), (9, 0), (1, x3), (9, 0), (0, x5), (0, x6), (0, x7), (0, vct w x0 28), v9, (9, 0), (9, 0), (9, 0), (9, 0), (9, 0)] [] w Q)) :=
  (VW_b 6 (F := fun n => if vkd w x0 = 22 then (if x6 = (vct w x0 28) then vrun n d 136 127 [(2, x0), (1, x1), (9, 0), (1, x3), (9, 0), (0, x5), (0, x6), (0, x7), (0, vct w x0 28), v9, (9, 0), (9, 0), (9, 0), (9, 0), (9, 0)] [] w else vrun n d 136 130 [(2, x0), (1, x1), (9, 0), (1, x3), (9, 0), (0, x5), (0, x6), (0, x7), (0, vct w x0 28), v9, (9, 0), (9, 0), (9, 0), (9, 0), (9, 0)] [] w) else none) (fun _ => rfl)).trans (EX_if.trans (and_congr Iff.rfl (EX_br.trans (and_congr (imp_congr Iff.rfl Iff.rfl) (imp_congr Iff.rfl Iff.rfl)))))
set_option maxRecDepth 100000 in
theorem b136_127 {d : Nat} {w : vW} {x0 x1 x3 x5 x6 x7 x8 : Int} {v9 : vV} {Q : Int → vW → Prop} : VW d 136 127 [(2, x0), (1, x1), (9, 0), (1, x3), (9, 0), (0, x5), (0, x6), (0, x7), (0, x8), v9, (9, 0), (9, 0), (9, 0), (9, 0), (9, 0)] [] w Q ↔ Q (-2) w :=
  (VW_b 2 (F := fun n => some (0, (-2), w)) (fun _ => rfl)).trans (EX_ret0)
set_option maxRecDepth 100000 in
theorem b136_130 {d : Nat} {w : vW} {x0 x1 x3 x5 x6 x7 x8 : Int} {v9 : vV} {Q : Int → vW → Prop} : VW d 136 130 [(2, x0), (1, x1), (9, 0), (1, x3), (9, 0), (0, x5), (0, x6), (0, x7), (0, x8), v9, (9, 0), (9, 0), (9, 0), (9, 0), (9, 0)] [] w Q ↔ VW d 136 137 [(2, x0), (1, x1), (9, 0), (1, x3), (9, 0), (0, x5), (0, x6), (0, w32 (x7 + 1)), (0, x8), (0, x6), (9, 0), (9, 0), (9, 0), (9, 0), (9, 0)] [] w Q :=
  (VW_b 3 (F := fun n => vrun n d 136 137 [(2, x0), (1, x1), (9, 0), (1, x3), (9, 0), (0, x5), (0, x6), (0, w32 (x7 + 1)), (0, x8), (0, x6), (9, 0), (9, 0), (9, 0), (9, 0), (9, 0)] [] w) (fun _ => rfl)).trans (Iff.rfl)
set_option maxRecDepth 100000 in
theorem b136_137 {d : Nat} {w : vW} {x0 x1 x3 x5 x6 x7 x8 x9 : Int} {Q : Int → vW → Prop} : VW d 136 137 [(2, x0), (1, x1), (9, 0), (1, x3), (9, 0), (0, x5), (0, x6), (0, x7), (0, x8), (0, x9), (9, 0), (9, 0), (9, 0), (9, 0), (9, 0)] [] w Q ↔ ((x9 < x8 → VW d 136 144 [(2, x0), (1, x1), (9, 0), (1, x3), (9, 0), (0, x5), (0, x6), (0, x7), (0, x8), (0, x9), (9, 0), (9, 0), (9, 0), (9, 0), (9, 0)] [] w Q) ∧ (¬ (x9 < x8) → VW d 136 165 [(2, x0), (1, x1), (9, 0), (1, x3), (9, 0), (0, x5), (0, x6), (0, x7), (0, x8), (0, x9), (9, 0), (9, 0), (9, 0), (9, 0), (9, 0)] [] w Q)) :=
  (VW_b 3 (F := fun n => (if x9 < x8 then vrun n d 136 144 [(2, x0), (1, x1), (9, 0), (1, x3), (9, 0), (0, x5), (0, x6), (0, x7), (0, x8), (0, x9), (9, 0), (9, 0), (9, 0), (9, 0), (9, 0)] [] w else vrun n d 136 165 [(2, x0), (1, x1), (9, 0), (1, x3), (9, 0), (0, x5), (0, x6), (0, x7), (0, x8), (0, x9), (9, 0), (9, 0), (9, 0), (9, 0), (9, 0)] [] w)) (fun _ => rfl)).trans (EX_br.trans (and_congr (imp_congr Iff.rfl Iff.rfl) (imp_congr Iff.rfl Iff.rfl)))
set_option maxRecDepth 100000 in
theorem b136_144 {d : Nat} {w : vW} {x0 x1 x3 x5 x6 x7 x8 x9 : Int} {Q : Int → vW → Prop} : VW d 136 144 [(2, x0), (1, x1), (9, 0), (1, x3), (9, 0), (0, x5), (0, x6), (0, x7), (0, x8), (0, x9), (9, 0), (9, 0), (9, 0), (9, 0), (9, 0)] [] w Q ↔ (vkd w x0 = 22) ∧ (vkd w (vct w x0 27) = 2 ∧ (0 : Int) ≤ x9 ∧ x9 < vln w (vct w x0 27)) ∧ VC d 131 [(2, x0), (1, vct w (vct w x0 27) x9), (0, x5), (0, x7)] w (fun _ w1 => VW d 136 159 [(2, x0), (1, x1), (9, 0), (1, x3), (9, 0), (0, x5), (0, x6), (0, x7), (0, x8), (0, x9), (9, 0), (9, 0), (9, 0), (9, 0), (9, 0)] [] w1 Q) :=
  (VW_b 8 (F := fun n => if vkd w x0 = 22 then if vkd w (vct w x0 27) = 2 ∧ (0 : Int) ≤ x9 ∧ x9 < vln w (vct w x0 27) then vcl (vrun n) d 136 159 131 4 9 [(2, x0), (1, x1), (9, 0), (1, x3), (9, 0), (0, x5), (0, x6), (0, x7), (0, x8), (0, x9), (9, 0), (9, 0), (9, 0), (9, 0), (9, 0)] [(0, x7), (0, x5), (1, vct w (vct w x0 27) x9), (2, x0)] w else none else none) (fun _ => rfl)).trans (EX_if.trans (and_congr Iff.rfl (EX_if.trans (and_congr Iff.rfl (EX_call rfl)))))
set_option maxRecDepth 100000 in
theorem b136_159 {d : Nat} {w : vW} {x0 x1 x3 x5 x6 x7 x8 x9 : Int} {Q : Int → vW → Prop} : VW d 136 159 [(2, x0), (1, x1), (9, 0), (1, x3), (9, 0), (0, x5), (0, x6), (0, x7), (0, x8), (0, x9), (9, 0), (9, 0), (9, 0), (9, 0), (9, 0)] [] w Q ↔ VW d 136 137 [(2, x0), (1, x1), (9, 0), (1, x3), (9, 0), (0, x5), (0, x6), (0, x7), (0, x8), (0, w32 (x9 + 1)), (9, 0), (9, 0), (9, 0), (9, 0), (9, 0)] [] w Q :=
  (VW_b 2 (F := fun n => vrun n d 136 137 [(2, x0), (1, x1), (9, 0), (1, x3), (9, 0), (0, x5), (0, x6), (0, x7), (0, x8), (0, w32 (x9 + 1)), (9, 0), (9, 0), (9, 0), (9, 0), (9, 0)] [] w) (fun _ => rfl)).trans (Iff.rfl)
set_option maxRecDepth 100000 in
theorem b136_165 {d : Nat} {w : vW} {x0 x1 x3 x5 x6 x7 x8 x9 : Int} {Q : Int → vW → Prop} : VW d 136 165 [(2, x0), (1, x1), (9, 0), (1, x3), (9, 0), (0, x5), (0, x6), (0, x7), (0, x8), (0, x9), (9, 0), (9, 0), (9, 0), (9, 0), (9, 0)] [] w Q ↔ (vkd w x0 = 22) ∧ (((vct w x0 50) = 0 → VW d 136 172 [(2, x0), (1, x1), (9, 0), (1, x3), (9, 0), (0, x5), (0, x6), (0, x7), (0, x8), (0, x9), (9, 0), (9, 0), (9, 0), (9, 0), (9, 0)] [] w Q) ∧ (¬ ((vct w x0 50) = 0) → VW d 136 182 [(2, x0), (1, x1), (9, 0), (1, x3), (9, 0), (0, x5), (0, x6), (0, x7), (0, x8), (0, x9), (9, 0), (9, 0), (9, 0), (9, 0), (9, 0)] [] w Q)) :=
  (VW_b 3 (F := fun n => if vkd w x0 = 22 then (if (vct w x0 50) = 0 then vrun n d 136 172 [(2, x0), (1, x1), (9, 0), (1, x3), (9, 0), (0, x5), (0, x6), (0, x7), (0, x8), (0, x9), (9, 0), (9, 0), (9, 0), (9, 0), (9, 0)] [] w else vrun n d 136 182 [(2, x0), (1, x1), (9, 0), (1, x3), (9, 0), (0, x5), (0, x6), (0, x7), (0, x8), (0, x9), (9, 0), (9, 0), (9, 0), (9, 0), (9, 0)] [] w) else none) (fun _ => rfl)).trans (EX_if.trans (and_congr Iff.rfl (EX_br.trans (and_congr (imp_congr Iff.rfl Iff.rfl) (imp_congr Iff.rfl Iff.rfl)))))
set_option maxRecDepth 100000 in
theorem b136_172 {d : Nat} {w : vW} {x0 x1 x3 x5 x6 x7 x8 x9 : Int} {Q : Int → vW → Prop} : VW d 136 172 [(2, x0), (1, x1), (9, 0), (1, x3), (9, 0), (0, x5), (0, x6), (0, x7), (0, x8), (0, x9), (9, 0), (9, 0), (9, 0), (9, 0), (9, 0)] [] w Q ↔ (vkd w x0 = 22) ∧ (((vct w x0 51) = 0 → VW d 136 182 [(2, x0), (1, x1), (9, 0), (1, x3), (9, 0), (0, x5), (0, x6), (0, x7), (0, x8), (0, x9), (9, 0), (9, 0), (9, 0), (9, 0), (9, 0)] [] w Q) ∧ (¬ ((vct w x0 51) = 0) → VW d 136 179 [(2, x0), (1, x1), (9, 0), (1, x3), (9, 0), (0, x5), (0, x6), (0, x7), (0, x8), (0, x9), (9, 0), (9, 0), (9, 0), (9, 0), (9, 0)] [] w Q)) :=
  (VW_b 3 (F := fun n => if vkd w x0 = 22 then (if (vct w x0 51) = 0 then vrun n d 136 182 [(2, x0), (1, x1), (9, 0), (1, x3), (9, 0), (0, x5), (0, x6), (0, x7), (0, x8), (0, x9), (9, 0), (9, 0), (9, 0), (9, 0), (9, 0)] [] w else vrun n d 136 179 [(2, x0), (1, x1), (9, 0), (1, x3), (9, 0), (0, x5), (0, x6), (0, x7), (0, x8), (0, x9), (9, 0), (9, 0), (9, 0), (9, 0), (9, 0)] [] w) else none) (fun _ => rfl)).trans (EX_if.trans (and_congr Iff.rfl (EX_br.trans (and_congr (imp_congr Iff.rfl Iff.rfl) (imp_congr Iff.rfl Iff.rfl)))))
set_option maxRecDepth 100000 in
theorem b136_179 {d : Nat} {w : vW} {x0 x1 x3 x5 x6 x7 x8 x9 : Int} {Q : Int → vW → Prop} : VW d 136 179 [(2, x0), (1, x1), (9, 0), (1, x3), (9, 0), (0, x5), (0, x6), (0, x7), (0, x8), (0, x9), (9, 0), (9, 0), (9, 0), (9, 0), (9, 0)] [] w Q ↔ Q (-3) w :=
  (VW_b 2 (F := fun n => some (0, (-3), w)) (fun _ => rfl)).trans (EX_ret0)
set_option maxRecDepth 100000 in
theorem b136_182 {d : Nat} {w : vW} {x0 x1 x3 x5 x6 x7 x8 x9 : Int} {Q : Int → vW → Prop} : VW d 136 182 [(2, x0), (1, x1), (9, 0), (1, x3), (9, 0), (0, x5), (0, x6), (0, x7), (0, x8), (0, x9), (9, 0), (9, 0), (9, 0), (9, 0), (9, 0)] [] w Q ↔ VW d 136 107 [(2, x0), (1, x1), (9, 0), (1, x3), (9, 0), (0, x5), (0, x8), (0, x7), (0, x8), (0, x9), (9, 0), (9, 0), (9, 0), (9, 0), (9, 0)] [] w Q :=
  (VW_b 3 (F := fun n => vrun n d 136 107 [(2, x0), (1, x1), (9, 0), (1, x3), (9, 0), (0, x5), (0, x8), (0, x7), (0, x8), (0, x9), (9, 0), (9, 0), (9, 0), (9, 0), (9, 0)] [] w) (fun _ => rfl)).trans (Iff.rfl)
set_option maxRecDepth 100000 in
theorem b136_189 {d : Nat} {w : vW} {x0 x1 x3 x5 x6 x7 : Int} {v8 v9 : vV} {Q : Int → vW → Prop} : VW d 136 189 [(2, x0), (1, x1), (9, 0), (1, x3), (9, 0), (0, x5), (0, x6), (0, x7), v8, v9, (9, 0), (9, 0), (9, 0), (9, 0), (9, 0)] [] w Q ↔ VC d 135 [(2, x0), (0, x7), (0, x5)] w (fun _ w1 => VW d 136 197 [(2, x0), (1, x1), (9, 0), (1, x3), (9, 0), (0, x5), (0, x6), (0, x7), v8, v9, (9, 0), (9, 0), (9, 0), (9, 0), (9, 0)] [] w1 Q) :=
  (VW_b 4 (F := fun n => vcl (vrun n) d 136 197 135 3 9 [(2, x0), (1, x1), (9, 0), (1, x3), (9, 0), (0, x5), (0, x6), (0, x7), v8, v9, (9, 0), (9, 0), (9, 0), (9, 0), (9, 0)] [(0, x5), (0, x7), (2, x0)] w) (fun _ => rfl)).trans (EX_call rfl)
set_option maxRecDepth 100000 in
theorem b136_197 {d : Nat} {w : vW} {x0 x1 x3 x5 x6 x7 : Int} {v8 v9 : vV} {Q : Int → vW → Prop} : VW d 136 197 [(2, x0), (1, x1), (9, 0), (1, x3), (9, 0), (0, x5), (0, x6), (0, x7), v8, v9, (9, 0), (9, 0), (9, 0), (9, 0), (9, 0)] [] w Q ↔ (vkd w x0 = 22) ∧ VW d 136 202 [(2, x0), (1, x1), (9, 0), (1, x3), (9, 0), (0, x5), (0, x6), (0, x7), v8, v9, (9, 0), (9, 0), (9, 0), (9, 0), (9, 0)] [] (vsv w x0 1 0) Q :=
  (VW_b 3 (F := fun n => if vkd w x0 = 22 then vrun n d 136 202 [(2, x0), (1, x1), (9, 0), (1, x3), (9, 0), (0, x5), (0, x6), (0, x7), v8, v9, (9, 0), (9, 0), (9, 0), (9, 0), (9, 0)] [] (vsv w x0 1 0) else none) (fun _ => rfl)).trans (EX_if.trans (and_congr Iff.rfl (Iff.rfl)))
set_option maxRecDepth 100000 in
theorem b136_202 {d : Nat} {w : vW} {x0 x1 x3 x5 x6 x7 : Int} {v8 v9 : vV} {Q : Int → vW → Prop} : VW d 136 202 [(2, x0), (1, x1), (9, 0), (1, x3), (9, 0), (0, x5), (0, x6), (0, x7), v8, v9, (9, 0), (9, 0), (9, 0), (9, 0), (9, 0)] [] w Q ↔ VW d 136 208 [(2, x0), (1, x1), (9, 0), (1, x3), (9, 0), (0, x5), (0, x6), (0, x7), (1, x1), (9, 0), (0, 1), (9, 0), (9, 0), (9, 0), (9, 0)] [] w Q :=
  (VW_b 4 (F := fun n => vrun n d 136 208 [(2, x0), (1, x1), (9, 0), (1, x3), (9, 0), (0, x5), (0, x6), (0, x7), (1, x1), (9, 0), (0, 1), (9, 0), (9, 0), (9, 0), (9, 0)] [] w) (fun _ => rfl)).trans (Iff.rfl)
set_option maxRecDepth 100000 in
theorem b136_208 {d : Nat} {w : vW} {x0 x1 x3 x5 x6 x7 x8 x10 : Int} {v11 v12 v13 v14 : vV} {Q : Int → vW → Prop} : VW d 136 208 [(2, x0), (1, x1), (9, 0), (1, x3), (9, 0), (0, x5), (0, x6), (0, x7), (1, x8), (9, 0), (0, x10), v11, v12, v13, v14] [] w Q ↔ ((x7 < x10 → VW d 136 363 [(2, x0), (1, x1), (9, 0), (1, x3), (9, 0), (0, x5), (0, x6), (0, x7), (1, x8), (9, 0), (0, x10), v11, v12, v13, v14] [] w Q) ∧ (¬ (x7 < x10) → VW d 136 215 [(2, x0), (1, x1), (9, 0), (1, x3), (9, 0), (0, x5), (0, x6), (0, x7), (1, x8), (9, 0), (0, x10), v11, v12, v13, v14] [] w Q)) :=
  (VW_b 3 (F := fun n => (if x7 < x10 then vrun n d 136 363 [(2, x0), (1, x1), (9, 0), (1, x3), (9, 0), (0, x5), (0, x6), (0, x7), (1, x8), (9, 0), (0, x10), v11, v12, v13, v14] [] w else vrun n d 136 215 [(2, x0), (1, x1), (9, 0), (1, x3), (9, 0), (0, x5), (0, x6), (0, x7), (1, x8), (9, 0), (0, x10), v11, v12, v13, v14] [] w)) (fun _ => rfl)).trans (EX_br.trans (and_congr (imp_congr Iff.rfl Iff.rfl) (imp_congr Iff.rfl Iff.rfl)))
set_option maxRecDepth 100000 in
theorem b136_215 {d : Nat} {w : vW} {x0 x1 x3 x5 x6 x7 x8 x10 : Int} {v11 v12 v13 v14 : vV} {Q : Int → vW → Prop} : VW d 136 215 [(2, x0), (1, x1), (9, 0), (1, x3), (9, 0), (0, x5), (0, x6), (0, x7), (1, x8), (9, 0), (0, x10), v11, v12, v13, v14] [] w Q ↔ ((8 < x10 → VW d 136 363 [(2, x0), (1, x1), (9, 0), (1, x3), (9, 0), (0, x5), (0, x6), (0, x7), (1, x8), (9, 0), (0, x10), v11, v12, v13, v14] [] w Q) ∧ (¬ (8 < x10) → VW d 136 222 [(2, x0), (1, x1), (9, 0), (1, x3), (9, 0), (0, x5), (0, x6), (0, x7), (1, x8), (9, 0), (0, x10), v11, v12, v13, v14] [] w Q)) :=
  (VW_b 3 (F := fun n => (if 8 < x10 then vrun n d 136 363 [(2, x0), (1, x1), (9, 0), (1, x3), (9, 0), (0, x5), (0, x6), (0, x7), (1, x8), (9, 0), (0, x10), v11, v12, v13, v14] [] w else vrun n d 136 222 [(2, x0), (1, x1), (9, 0), (1, x3), (9, 0), (0, x5), (0, x6), (0, x7), (1, x8), (9, 0), (0, x10), v11, v12, v13, v14] [] w)) (fun _ => rfl)).trans (EX_br.trans (and_congr (imp_congr Iff.rfl Iff.rfl) (imp_congr Iff.rfl Iff.rfl)))
set_option maxRecDepth 100000 in
theorem b136_222 {d : Nat} {w : vW} {x0 x1 x3 x5 x6 x7 x8 x10 : Int} {v11 v12 v13 v14 : vV} {Q : Int → vW → Prop} : VW d 136 222 [(2, x0), (1, x1), (9, 0), (1, x3), (9, 0), (0, x5), (0, x6), (0, x7), (1, x8), (9, 0), (0, x10), v11, v12, v13, v14] [] w Q ↔ ((x10 = x7 → VW d 136 229 [(2, x0), (1, x1), (9, 0), (1, x3), (9, 0), (0, x5), (0, x6), (0, x7), (1, x8), (9, 0), (0, x10), v11, v12, v13, v14] [] w Q) ∧ (¬ (x10 = x7) → VW d 136 233 [(2, x0), (1, x1), (9, 0), (1, x3), (9, 0), (0, x5), (0, x6), (0, x7), (1, x8), (9, 0), (0, x10), v11, v12, v13, v14] [] w Q)) :=
  (VW_b 3 (F := fun n => (if x10 = x7 then vrun n d 136 229 [(2, x0), (1, x1), (9, 0), (1, x3), (9, 0), (0, x5), (0, x6), (0, x7), (1, x8), (9, 0), (0, x10), v11, v12, v13, v14] [] w else vrun n d 136 233 [(2, x0), (1, x1), (9, 0), (1, x3), (9, 0), (0, x5), (0, x6), (0, x7), (1, x8), (9, 0), (0, x10), v11, v12, v13, v14] [] w)) (fun _ => rfl)).trans (EX_br.trans (and_congr (imp_congr Iff.rfl Iff.rfl) (imp_congr Iff.rfl Iff.rfl)))
set_option maxRecDepth 100000 in
theorem b136_229 {d : Nat} {w : vW} {x0 x1 x3 x5 x6 x7 x8 x10 : Int} {v11 v12 v13 v14 : vV} {Q : Int → vW → Prop} : VW d 136 229 [(2, x0), (1, x1), (9, 0), (1, x3), (9, 0), (0, x5), (0, x6), (0, x7), (1, x8), (9, 0), (0, x10), v11, v12, v13, v14] [] w Q ↔ VW d 136 236 [(2, x0), (1, x1), (9, 0), (1, x3), (9, 0), (0, x5), (0, x6), (0, x7), (1, x8), (9, 0), (0, x10), v11, v12, v13, v14] [(1, x3)] w Q :=
  (VW_b 2 (F := fun n => vrun n d 136 236 [(2, x0), (1, x1), (9, 0), (1, x3), (9, 0), (0, x5), (0, x6), (0, x7), (1, x8), (9, 0), (0, x10), v11, v12, v13, v14] [(1, x3)] w) (fun _ => rfl)).trans (Iff.rfl)
set_option maxRecDepth 100000 in
theorem b136_233 {d : Nat} {w : vW} {x0 x1 x3 x5 x6 x7 x8 x10 : Int} {v11 v12 v13 v14 : vV} {Q : Int → vW → Prop} : VW d 136 233 [(2, x0), (1, x1), (9, 0), (1, x3), (9, 0), (0, x5), (0, x6), (0, x7), (1, x8), (9, 0), (0, x10), v11, v12, v13, v14] [] w Q ↔ VW d 136 236 [(2, x0), (1, x1), (9, 0), (1, x3), (9, 0), (0, x5), (0, x6), (0, x7), (1, x8), (9, 0), (0, x10), v11, v12, v13, v14] [(1, (-1))] w Q :=
  (VW_b 1 (F := fun n => vrun n d 136 236 [(2, x0), (1, x1), (9, 0), (1, x3), (9, 0), (0, x5), (0, x6), (0, x7), (1, x8), (9, 0), (0, x10), v11, v12, v13, v14] [(1, (-1))] w) (fun _ => rfl)).trans (Iff.rfl)
set_option maxRecDepth 100000 in
theorem b136_236 {d : Nat} {w : vW} {x0 x1 x3 x5 x6 x7 x8 x10 y0 : Int} {v11 v12 v13 v14 : vV} {Q : Int → vW → Prop} : VW d 136 236 [(2, x0), (1, x1), (9, 0), (1, x3), (9, 0), (0, x5), (0, x6), (0, x7), (1, x8), (9, 0), (0, x10), v11, v12, v13, v14] [(1, y0)] w Q ↔ VW d 136 241 [(2, x0), (1, x1), (9, 0), (1, x3), (9, 0), (0, x5), (0, x6), (0, x7), (1, x8), (9, 0), (0, x10), (1, y0), (9, 0), (0, 0), v14] [] w Q :=
  (VW_b 3 (F := fun n => vrun n d 136 241 [(2, x0), (1, x1), (9, 0), (1, x3), (9, 0), (0, x5), (0, x6), (0, x7), (1, x8), (9, 0), (0, x10), (1, y0), (9, 0), (0, 0), v14] [] w) (fun _ => rfl)).trans (Iff.rfl)
set_option maxRecDepth 100000 in
theorem b136_241 {d : Nat} {w : vW} {x0 x1 x3 x5 x6 x7 x8 x10 x11 x13 : Int} {v14 : vV} {Q : Int → vW → Prop} : VW d 136 241 [(2, x0), (1, x1), (9, 0), (1, x3), (9, 0), (0, x5), (0, x6), (0, x7), (1, x8), (9, 0), (0, x10), (1, x11), (9, 0), (0, x13), v14] [] w Q ↔ (vkd w x0 = 22) ∧ ((x13 < (vct w x0 28) → VW d 136 250 [(2, x0), (1, x1), (9, 0), (1, x3), (9, 0), (0, x5), (0, x6), (0, x7), (1, x8), (9, 0), (0, x10), (1, x11), (9, 0), (0, x13), v14] [] w Q) ∧ (¬ (x13 < (vct w x0 28)) → VW d 136 347 [(2, x0), (1, x1), (9, 0), (1, x3), (9, 0), (0, x5), (0, x6), (0, x7), (1, x8), (9, 0), (0, x10), (1, x11), (9, 0), (0, x13), v14] [] w Q)) :=
  (VW_b 4 (F := fun n => if vkd w x0 = 22 then (if x13 < (vct w x0 28) then vrun n d 136 250 [(2, x0), (1, x1), (9, 0), (1, x3), (9, 0), (0, x5), (0, x6), (0, x7), (1, x8), (9, 0), (0, x10), (1, x11), (9, 0), (0, x13), v14] [] w else vrun n d 136 347 [(2, x0), (1, x1), (9, 0), (1, x3), (9, 0), (0, x5), (0, x6), (0, x7), (1, x8), (9, 0), (0, x10), (1, x11), (9, 0), (0, x13), v14] [] w) else none) (fun _ => rfl)).trans (EX_if.trans (and_congr Iff.rfl (EX_br.trans (and_congr (imp_congr Iff.rfl Iff.rfl) (imp_congr Iff.rfl Iff.rfl)))))
set_option maxRecDepth 100000 in
theorem b136_250 {d : Nat} {w : vW} {x0 x1 x3 x5 x6 x7 x8 x10 x11 x13 : Int} {v14 : vV} {Q : Int → vW → Prop} : VW d 136 250 [(2, x0), (1, x1), (9, 0), (1, x3), (9, 0), (0, x5), (0, x6), (0, x7), (1, x8), (9, 0), (0, x10), (1, x11), (9, 0), (0, x13), v14] [] w Q ↔ ((x10 < x7 → VW d 136 257 [(2, x0), (1, x1), (9, 0), (1, x3), (9, 0), (0, x5), (0, x6), (0, x7), (1, x8), (9, 0), (0, x10), (1, x11), (9, 0), (0, x13), v14] [] w Q) ∧ (¬ (x10 < x7) → VW d 136 347 [(2, x0), (1, x1), (9, 0), (1, x3), (9, 0), (0, x5), (0, x6), (0, x7), (1, x8), (9, 0), (0, x10), (1, x11), (9, 0), (0, x13), v14] [] w Q)) :=
  (VW_b 3 (F := fun n => (if x10 < x7 then vrun n d 136 257 [(2, x0), (1, x1), (9, 0), (1, x3), (9, 0), (0, x5), (0, x6), (0, x7), (1, x8), (9, 0), (0, x10), (1, x11), (9, 0), (0, x13), v14] [] w else vrun n d 136 347 [(2, x0), (1, x1), (9, 0), (1, x3), (9, 0), (0, x5), (0, x6), (0, x7), (1, x8), (9, 0), (0, x10), (1, x11), (9, 0), (0, x13), v14] [] w)) (fun _ => rfl)).trans (EX_br.trans (and_congr (imp_congr Iff.rfl Iff.rfl) (imp_congr Iff.rfl Iff.rfl)))
set_option maxRecDepth 100000 in
theorem b136_257 {d : Nat} {w : vW} {x0 x1 x3 x5 x6 x7 x8 x10 x11 x13 : Int} {v14 : vV} {Q : Int → vW → Prop} : VW d 136 257 [(2, x0), (1, x1), (9, 0), (1, x3), (9, 0), (0, x5), (0, x6), (0, x7), (1, x8), (9, 0), (0, x10), (1, x11), (9, 0), (0, x13), v14] [] w Q ↔ (vkd w x0 = 22) ∧ (vkd w (vct w x0 49) = 1 ∧ (0 : Int) ≤ x13 ∧ x13 < vln w (vct w x0 49)) ∧ (((vct w (vct w x0 49) x13) = x10 → VW d 136 269 [(2, x0), (1, x1), (9, 0), (1, x3), (9, 0), (0, x5), (0, x6), (0, x7), (1, x8), (9, 0), (0, x10), (1, x11), (9, 0), (0, x13), v14] [] w Q) ∧ (¬ ((vct w (vct w x0 49) x13) = x10) → VW d 136 299 [(2, x0), (1, x1), (9, 0), (1, x3), (9, 0), (0, x5), (0, x6), (0, x7), (1, x8), (9, 0), (0, x10), (1, x11), (9, 0), (0, x13), v14] [] w Q)) :=
  (VW_b 6 (F := fun n => if vkd w x0 = 22 then if vkd w (vct w x0 49) = 1 ∧ (0 : Int) ≤ x13 ∧ x13 < vln w (vct w x0 49) then (if (vct w (vct w x0 49) x13) = x10 then vrun n d 136 269 [(2, x0), (1, x1), (9, 0), (1, x3), (9, 0), (0, x5), (0, x6), (0, x7), (1, x8), (9, 0), (0, x10), (1, x11), (9, 0), (0, x13), v14] [] w else vrun n d 136 299 [(2, x0), (1, x1), (9, 0), (1, x3), (9, 0), (0, x5), (0, x6), (0, x7), (1, x8), (9, 0), (0, x10), (1, x11), (9, 0), (0, x13), v14] [] w) else none else none) (fun _ => rfl)).trans (EX_if.trans (and_congr Iff.rfl (EX_if.trans (and_congr Iff.rfl (EX_br.trans (and_congr (imp_congr Iff.rfl Iff.rfl) (imp_congr Iff.rfl Iff.rfl)))))))
set_option maxRecDepth 100000 in
theorem b136_269 {d : Nat} {w : vW} {x0 x1 x3 x5 x6 x7 x8 x10 x11 x13 : Int} {v14 : vV} {Q : Int → vW → Prop} : VW d 136 269 [(2, x0), (1, x1), (9, 0), (1, x3), (9, 0), (0, x5), (0, x6), (0, x7), (1, x8), (9, 0), (0, x10), (1, x11), (9, 0), (0, x13), v14] [] w Q ↔ (vkd w x0 = 22) ∧ (vkd w (vct w x0 53) = 1 ∧ (0 : Int) ≤ x13 ∧ x13 < vln w (vct w x0 53)) ∧ (((vct w (vct w x0 53) x13) = 0 → VW d 136 279 [(2, x0), (1, x1), (9, 0), (1, x3), (9, 0), (0, x5), (0, x6), (0, x7), (1, x8), (9, 0), (0, x10), (1, x11), (9, 0), (0, x13), v14] [] w Q) ∧ (¬ ((vct w (vct w x0 53) x13) = 0) → VW d 136 299 [(2, x0), (1, x1), (9, 0), (1, x3), (9, 0), (0, x5), (0, x6), (0, x7), (1, x8), (9, 0), (0, x10), (1, x11), (9, 0), (0, x13), v14] [] w Q)) :=
  (VW_b 5 (F := fun n => if vkd w x0 = 22 then if vkd w (vct w x0 53) = 1 ∧ (0 : Int) ≤ x13 ∧ x13 < vln w (vct w x0 53) then (if (vct w (vct w x0 53) x13) = 0 then vrun n d 136 279 [(2, x0), (1, x1), (9, 0), (1, x3), (9, 0), (0, x5), (0, x6), (0, x7), (1, x8), (9, 0), (0, x10), (1, x11), (9, 0), (0, x13), v14] [] w else vrun n d 136 299 [(2, x0), (1, x1), (9, 0), (1, x3), (9, 0), (0, x5), (0, x6), (0, x7), (1, x8), (9, 0), (0, x10), (1, x11), (9, 0), (0, x13), v14] [] w) else none else none) (fun _ => rfl)).trans (EX_if.trans (and_congr Iff.rfl (EX_if.trans (and_congr Iff.rfl (EX_br.trans (and_congr (imp_congr Iff.rfl Iff.rfl) (imp_congr Iff.rfl Iff.rfl)))))))
set_option maxRecDepth 100000 in
theorem b136_279 {d : Nat} {w : vW} {x0 x1 x3 x5 x6 x7 x8 x10 x11 x13 : Int} {v14 : vV} {Q : Int → vW → Prop} : VW d 136 279 [(2, x0), (1, x1), (9, 0), (1, x3), (9, 0), (0, x5), (0, x6), (0, x7), (1, x8), (9, 0), (0, x10), (1, x11), (9, 0), (0, x13), v14] [] w Q ↔ (vkd w x0 = 22) ∧ (vkd w (vct w x0 27) = 2 ∧ (0 : Int) ≤ x13 ∧ x13 < vln w (vct w x0 27)) ∧ VC d 133 [(2, x0), (1, x8), (1, vct w (vct w x0 27) x13)] w (fun r w1 => VW d 136 292 [(2, x0), (1, x1), (9, 0), (1, x3), (9, 0), (0, x5), (0, x6), (0, x7), (1, x8), (9, 0), (0, x10), (1, x11), (9, 0), (0, x13), v14] [(0, r)] w1 Q) :=
  (VW_b 7 (F := fun n => if vkd w x0 = 22 then if vkd w (vct w x0 27) = 2 ∧ (0 : Int) ≤ x13 ∧ x13 < vln w (vct w x0 27) then vcl (vrun n) d 136 292 133 3 0 [(2, x0), (1, x1), (9, 0), (1, x3), (9, 0), (0, x5), (0, x6), (0, x7), (1, x8), (9, 0), (0, x10), (1, x11), (9, 0), (0, x13), v14] [(1, vct w (vct w x0 27) x13), (1, x8), (2, x0)] w else none else none) (fun _ => rfl)).trans (EX_if.trans (and_congr Iff.rfl (EX_if.trans (and_congr Iff.rfl (EX_call rfl)))))
set_option maxRecDepth 100000 in
theorem b136_292 {d : Nat} {w : vW} {x0 x1 x3 x5 x6 x7 x8 x10 x11 x13 y0 : Int} {v14 : vV} {Q : Int → vW → Prop} : VW d 136 292 [(2, x0), (1, x1), (9, 0), (1, x3), (9, 0), (0, x5), (0, x6), (0, x7), (1, x8), (9, 0), (0, x10), (1, x11), (9, 0), (0, x13), v14] [(0, y0)] w Q ↔ ((y0 = 0 → VW d 136 299 [(2, x0), (1, x1), (9, 0), (1, x3), (9, 0), (0, x5), (0, x6), (0, x7), (1, x8), (9, 0), (0, x10), (1, x11), (9, 0), (0, x13), v14] [] w Q) ∧ (¬ (y0 = 0) → VW d 136 295 [(2, x0), (1, x1), (9, 0), (1, x3), (9, 0), (0, x5), (0, x6), (0, x7), (1, x8), (9, 0), (0, x10), (1, x11), (9, 0), (0, x13), v14] [] w Q)) :=
  (VW_b 1 (F := fun n => (if y0 = 0 then vrun n d 136 299 [(2, x0), (1, x1), (9, 0), (1, x3), (9, 0), (0, x5), (0, x6), (0, x7), (1, x8), (9, 0), (0, x10), (1, x11), (9, 0), (0, x13), v14] [] w else vrun n d 136 295 [(2, x0), (1, x1), (9, 0), (1, x3), (9, 0), (0, x5), (0, x6), (0, x7), (1, x8), (9, 0), (0, x10), (1, x11), (9, 0), (0, x13), v14] [] w)) (fun _ => rfl)).trans (EX_br.trans (and_congr (imp_congr Iff.rfl Iff.rfl) (imp_congr Iff.rfl Iff.rfl)))
set_option maxRecDepth 100000 in
theorem b136_295 {d : Nat} {w : vW} {x0 x1 x3 x5 x6 x7 x8 x10 x11 x13 : Int} {v14 : vV} {Q : Int → vW → Prop} : VW d 136 295 [(2, x0), (1, x1), (9, 0), (1, x3), (9, 0), (0, x5), (0, x6), (0, x7), (1, x8), (9, 0), (0, x10), (1, x11), (9, 0), (0, x13), v14] [] w Q ↔ VW d 136 300 [(2, x0), (1, x1), (9, 0), (1, x3), (9, 0), (0, x5), (0, x6), (0, x7), (1, x8), (9, 0), (0, x10), (1, x11), (9, 0), (0, x13), v14] [(0, 1)] w Q :=
  (VW_b 2 (F := fun n => vrun n d 136 300 [(2, x0), (1, x1), (9, 0), (1, x3), (9, 0), (0, x5), (0, x6), (0, x7), (1, x8), (9, 0), (0, x10), (1, x11), (9, 0), (0, x13), v14] [(0, 1)] w) (fun _ => rfl)).trans (Iff.rfl)
set_option maxRecDepth 100000 in
theorem b136_299 {d : Nat} {w : vW} {x0 x1 x3 x5 x6 x7 x8 x10 x11 x13 : Int} {v14 : vV} {Q : Int → vW → Prop} : VW d 136 299 [(2, x0), (1, x1), (9, 0), (1, x3), (9, 0), (0, x5), (0, x6), (0, x7), (1, x8), (9, 0), (0, x10), (1, x11), (9, 0), (0, x13), v14] [] w Q ↔ VW d 136 300 [(2, x0), (1, x1), (9, 0), (1, x3), (9, 0), (0, x5), (0, x6), (0, x7), (1, x8), (9, 0), (0, x10), (1, x11), (9, 0), (0, x13), v14] [(0, 0)] w Q :=
  (VW_b 1 (F := fun n => vrun n d 136 300 [(2, x0), (1, x1), (9, 0), (1, x3), (9, 0), (0, x5), (0, x6), (0, x7), (1, x8), (9, 0), (0, x10), (1, x11), (9, 0), (0, x13), v14] [(0, 0)] w) (fun _ => rfl)).trans (Iff.rfl)
set_option maxRecDepth 100000 in
theorem b136_300 {d : Nat} {w : vW} {x0 x1 x3 x5 x6 x7 x8 x10 x11 x13 y0 : Int} {v14 : vV} {Q : Int → vW → Prop} : VW d 136 300 [(2, x0), (1, x1), (9, 0), (1, x3), (9, 0), (0, x5), (0, x6), (0, x7), (1, x8), (9, 0), (0, x10), (1, x11), (9, 0), (0, x13), v14] [(0, y0)] w Q ↔ ((y0 = 0 → VW d 136 337 [(2, x0), (1, x1), (9, 0), (1, x3), (9, 0), (0, x5), (0, x6), (0, x7), (1, x8), (9, 0), (0, x10), (1, x11), (9, 0), (0, x13), (0, y0)] [] w Q) ∧ (¬ (y0 = 0) → VW d 136 307 [(2, x0), (1, x1), (9, 0), (1, x3), (9, 0), (0, x5), (0, x6), (0, x7), (1, x8), (9, 0), (0, x10), (1, x11), (9, 0), (0, x13), (0, y0)] [] w Q)) :=
  (VW_b 3 (F := fun n => (if y0 = 0 then vrun n d 136 337 [(2, x0), (1, x1), (9, 0), (1, x3), (9, 0), (0, x5), (0, x6), (0, x7), (1, x8), (9, 0), (0, x10), (1, x11), (9, 0), (0, x13), (0, y0)] [] w else vrun n d 136 307 [(2, x0), (1, x1), (9, 0), (1, x3), (9, 0), (0, x5), (0, x6), (0, x7), (1, x8), (9, 0), (0, x10), (1, x11), (9, 0), (0, x13), (0, y0)] [] w)) (fun _ => rfl)).trans (EX_br.trans (and_congr (imp_congr Iff.rfl Iff.rfl) (imp_congr Iff.rfl Iff.rfl)))
set_option maxRecDepth 100000 in
theorem b136_307 {d : Nat} {w : vW} {x0 x1 x3 x5 x6 x7 x8 x10 x11 x13 x14 : Int} {Q : Int → vW → Prop} : VW d 136 307 [(2, x0), (1, x1), (9, 0), (1, x3), (9, 0), (0, x5), (0, x6), (0, x7), (1, x8), (9, 0), (0, x10), (1, x11), (9, 0), (0, x13), (0, x14)] [] w Q ↔ (((vlc x11 0) < 0 → VW d 136 327 [(2, x0), (1, x1), (9, 0), (1, x3), (9, 0), (0, x5), (0, x6), (0, x7), (1, x8), (9, 0), (0, x10), (1, x11), (9, 0), (0, x13), (0, x14)] [] w Q) ∧ (¬ ((vlc x11 0) < 0) → VW d 136 314 [(2, x0), (1, x1), (9, 0), (1, x3), (9, 0), (0, x5), (0, x6), (0, x7), (1, x8), (9, 0), (0, x10), (1, x11), (9, 0), (0, x13), (0, x14)] [] w Q)) :=
  (VW_b 4 (F := fun n => (if (vlc x11 0) < 0 then vrun n d 136 327 [(2, x0), (1, x1), (9, 0), (1, x3), (9, 0), (0, x5), (0, x6), (0, x7), (1, x8), (9, 0), (0, x10), (1, x11), (9, 0), (0, x13), (0, x14)] [] w else vrun n d 136 314 [(2, x0), (1, x1), (9, 0), (1, x3), (9, 0), (0, x5), (0, x6), (0, x7), (1, x8), (9, 0), (0, x10), (1, x11), (9, 0), (0, x13), (0, x14)] [] w)) (fun _ => rfl)).trans (EX_br.trans (and_congr (imp_congr Iff.rfl Iff.rfl) (imp_congr Iff.rfl Iff.rfl)))
set_option maxRecDepth 100000 in
theorem b136_314 {d : Nat} {w : vW} {x0 x1 x3 x5 x6 x7 x8 x10 x11 x13 x14 : Int} {Q : Int → vW → Prop} : VW d 136 314 [(2, x0), (1, x1), (9, 0), (1, x3), (9, 0), (0, x5), (0, x6), (0, x7), (1, x8), (9, 0), (0, x10), (1, x11), (9, 0), (0, x13), (0, x14)] [] w Q ↔ (vkd w x0 = 22) ∧ (vkd w (vct w x0 27) = 2 ∧ (0 : Int) ≤ x13 ∧ x13 < vln w (vct w x0 27)) ∧ (((vlc (vct w (vct w x0 27) x13) x11) < 0 → VW d 136 327 [(2, x0), (1, x1), (9, 0), (1, x3), (9, 0), (0, x5), (0, x6), (0, x7), (1, x8), (9, 0), (0, x10), (1, x11), (9, 0), (0, x13), (0, x14)] [] w Q) ∧ (¬ ((vlc (vct w (vct w x0 27) x13) x11) < 0) → VW d 136 337 [(2, x0), (1, x1), (9, 0), (1, x3), (9, 0), (0, x5), (0, x6), (0, x7), (1, x8), (9, 0), (0, x10), (1, x11), (9, 0), (0, x13), (0, x14)] [] w Q)) :=
  (VW_b 7 (F := fun n => if vkd w x0 = 22 then if vkd w (vct w x0 27) = 2 ∧ (0 : Int) ≤ x13 ∧ x13 < vln w (vct w x0 27) then (if (vlc (vct w (vct w x0 27) x13) x11) < 0 then vrun n d 136 327 [(2, x0), (1, x1), (9, 0), (1, x3), (9, 0), (0, x5), (0, x6), (0, x7), (1, x8), (9, 0), (0, x10), (1, x11), (9, 0), (0, x13), (0, x14)] [] w else vrun n d 136 337 [(2, x0), (1, x1), (9, 0), (1, x3), (9, 0), (0, x5), (0, x6), (0, x7), (1, x8), (9, 0), (0, x10), (1, x11), (9, 0), (0, x13), (0, x14)] [] w) else none else none) (fun _ => rfl)).trans (EX_if.trans (and_congr Iff.rfl (EX_if.trans (and_congr Iff.rfl (EX_br.trans (and_congr (imp_congr Iff.rfl Iff.rfl) (imp_congr Iff.rfl Iff.rfl)))))))
set_option maxRecDepth 100000 in
theorem b136_327 {d : Nat} {w : vW} {x0 x1 x3 x5 x6 x7 x8 x10 x11 x13 x14 : Int} {Q : Int → vW → Prop} : VW d 136 327 [(2, x0), (1, x1), (9, 0), (1, x3), (9, 0), (0, x5), (0, x6), (0, x7), (1, x8), (9, 0), (0, x10), (1, x11), (9, 0), (0, x13), (0, x14)] [] w Q ↔ (vkd w x0 = 22) ∧ (vkd w (vct w x0 27) = 2 ∧ (0 : Int) ≤ x13 ∧ x13 < vln w (vct w x0 27)) ∧ VW d 136 339 [(2, x0), (1, x1), (9, 0), (1, x3), (9, 0), (0, x5), (0, x6), (0, x7), (1, x8), (9, 0), (0, x10), (1, x11), (9, 0), (0, x13), (0, x14)] [(1, vct w (vct w x0 27) x13)] w Q :=
  (VW_b 5 (F := fun n => if vkd w x0 = 22 then if vkd w (vct w x0 27) = 2 ∧ (0 : Int) ≤ x13 ∧ x13 < vln w (vct w x0 27) then vrun n d 136 339 [(2, x0), (1, x1), (9, 0), (1, x3), (9, 0), (0, x5), (0, x6), (0, x7), (1, x8), (9, 0), (0, x10), (1, x11), (9, 0), (0, x13), (0, x14)] [(1, vct w (vct w x0 27) x13)] w else none else none) (fun _ => rfl)).trans (EX_if.trans (and_congr Iff.rfl (EX_if.trans (and_congr Iff.rfl (Iff.rfl)))))
set_option maxRecDepth 100000 in
theorem b136_337 {d : Nat} {w : vW} {x0 x1 x3 x5 x6 x7 x8 x10 x11 x13 x14 : Int} {Q : Int → vW → Prop} : VW d 136 337 [(2, x0), (1, x1), (9, 0), (1, x3), (9, 0), (0, x5), (0, x6), (0, x7), (1, x8), (9, 0), (0, x10), (1, x11), (9, 0), (0, x13), (0, x14)] [] w Q ↔ VW d 136 339 [(2, x0), (1, x1), (9, 0), (1, x3), (9, 0), (0, x5), (0, x6), (0, x7), (1, x8), (9, 0), (0, x10), (1, x11), (9, 0), (0, x13), (0, x14)] [(1, x11)] w Q :=
  (VW_b 1 (F := fun n => vrun n d 136 339 [(2, x0), (1, x1), (9, 0), (1, x3), (9, 0), (0, x5), (0, x6), (0, x7), (1, x8), (9, 0), (0, x10), (1, x11), (9, 0), (0, x13), (0, x14)] [(1, x11)] w) (fun _ => rfl)).trans (Iff.rfl)
set_option maxRecDepth 100000 in
theorem b136_339 {d : Nat} {w : vW} {x0 x1 x3 x5 x6 x7 x8 x10 x11 x13 x14 y0 : Int} {Q : Int → vW → Prop} : VW d 136 339 [(2, x0), (1, x1), (9, 0), (1, x3), (9, 0), (0, x5), (0, x6), (0, x7), (1, x8), (9, 0), (0, x10), (1, x11), (9, 0), (0, x13), (0, x14)] [(1, y0)] w Q ↔ VW d 136 241 [(2, x0), (1, x1), (9, 0), (1, x3), (9, 0), (0, x5), (0, x6), (0, x7), (1, x8), (9, 0), (0, x10), (1, y0), (9, 0), (0, w32 (x13 + 1)), (0, x14)] [] w Q :=
  (VW_b 3 (F := fun n => vrun n d 136 241 [(2, x0), (1, x1), (9, 0), (1, x3), (9, 0), (0, x5), (0, x6), (0, x7), (1, x8), (9, 0), (0, x10), (1, y0), (9, 0), (0, w32 (x13 + 1)), (0, x14)] [] w) (fun _ => rfl)).trans (Iff.rfl)
set_option maxRecDepth 100000 in
theorem b136_347 {d : Nat} {w : vW} {x0 x1 x3 x5 x6 x7 x8 x10 x11 x13 : Int} {v14 : vV} {Q : Int → vW → Prop} : VW d 136 347 [(2, x0), (1, x1), (9, 0), (1, x3), (9, 0), (0, x5), (0, x6), (0, x7), (1, x8), (9, 0), (0, x10), (1, x11), (9, 0), (0, x13), v14] [] w Q ↔ VC d 58 [(2, x0), (1, x11)] w (fun _ w1 => VW d 136 353 [(2, x0), (1, x1), (9, 0), (1, x3), (9, 0), (0, x5), (0, x6), (0, x7), (1, x8), (9, 0), (0, x10), (1, x11), (9, 0), (0, x13), v14] [] w1 Q) :=
  (VW_b 3 (F := fun n => vcl (vrun n) d 136 353 58 2 9 [(2, x0), (1, x1), (9, 0), (1, x3), (9, 0), (0, x5), (0, x6), (0, x7), (1, x8), (9, 0), (0, x10), (1, x11), (9, 0), (0, x13), v14] [(1, x11), (2, x0)] w) (fun _ => rfl)).trans (EX_call rfl)
set_option maxRecDepth 100000 in
theorem b136_353 {d : Nat} {w : vW} {x0 x1 x3 x5 x6 x7 x8 x10 x11 x13 : Int} {v14 : vV} {Q : Int → vW → Prop} : VW d 136 353 [(2, x0), (1, x1), (9, 0), (1, x3), (9, 0), (0, x5), (0, x6), (0, x7), (1, x8), (9, 0), (0, x10), (1, x11), (9, 0), (0, x13), v14] [] w Q ↔ VW d 136 208 [(2, x0), (1, x1), (9, 0), (1, x3), (9, 0), (0, x5), (0, x6), (0, x7), (1, x11), (9, 0), (0, w32 (x10 + 1)), (1, x11), (9, 0), (0, x13), v14] [] w Q :=
  (VW_b 4 (F := fun n => vrun n d 136 208 [(2, x0), (1, x1), (9, 0), (1, x3), (9, 0), (0, x5), (0, x6), (0, x7), (1, x11), (9, 0), (0, w32 (x10 + 1)), (1, x11), (9, 0), (0, x13), v14] [] w) (fun _ => rfl)).trans (Iff.rfl)
set_option maxRecDepth 100000 in
theorem b136_363 {d : Nat} {w : vW} {x0 x1 x3 x5 x6 x7 x8 x10 : Int} {v11 v12 v13 v14 : vV} {Q : Int → vW → Prop} : VW d 136 363 [(2, x0), (1, x1), (9, 0), (1, x3), (9, 0), (0, x5), (0, x6), (0, x7), (1, x8), (9, 0), (0, x10), v11, v12, v13, v14] [] w Q ↔ Q x7 w :=
  (VW_b 2 (F := fun n => some (0, x7, w)) (fun _ => rfl)).trans (EX_ret0)
/-! 137: StrikeWhatCancelsModel.sayingsOf(I)I -/
set_option maxRecDepth 100000 in
theorem b137_0 {d : Nat} {w : vW} {x0 x1 : Int} {Q : Int → vW → Prop} : VW d 137 0 [(2, x0), (0, x1), (9, 0), (9, 0)] [] w Q ↔ VW d 137 4 [(2, x0), (0, x1), (0, 1), (0, 0)] [] w Q :=
  (VW_b 4 (F := fun n => vrun n d 137 4 [(2, x0), (0, x1), (0, 1), (0, 0)] [] w) (fun _ => rfl)).trans (Iff.rfl)
set_option maxRecDepth 100000 in
theorem b137_4 {d : Nat} {w : vW} {x0 x1 x2 x3 : Int} {Q : Int → vW → Prop} : VW d 137 4 [(2, x0), (0, x1), (0, x2), (0, x3)] [] w Q ↔ ((x3 < x1 → VW d 137 9 [(2, x0), (0, x1), (0, x2), (0, x3)] [] w Q) ∧ (¬ (x3 < x1) → VW d 137 29 [(2, x0), (0, x1), (0, x2), (0, x3)] [] w Q)) :=
  (VW_b 3 (F := fun n => (if x3 < x1 then vrun n d 137 9 [(2, x0), (0, x1), (0, x2), (0, x3)] [] w else vrun n d 137 29 [(2, x0), (0, x1), (0, x2), (0, x3)] [] w)) (fun _ => rfl)).trans (EX_br.trans (and_congr (imp_congr Iff.rfl Iff.rfl) (imp_congr Iff.rfl Iff.rfl)))
set_option maxRecDepth 100000 in
theorem b137_9 {d : Nat} {w : vW} {x0 x1 x2 x3 : Int} {Q : Int → vW → Prop} : VW d 137 9 [(2, x0), (0, x1), (0, x2), (0, x3)] [] w Q ↔ ((4096 < x2 → VW d 137 29 [(2, x0), (0, x1), (0, x2), (0, x3)] [] w Q) ∧ (¬ (4096 < x2) → VW d 137 16 [(2, x0), (0, x1), (0, x2), (0, x3)] [] w Q)) :=
  (VW_b 3 (F := fun n => (if 4096 < x2 then vrun n d 137 29 [(2, x0), (0, x1), (0, x2), (0, x3)] [] w else vrun n d 137 16 [(2, x0), (0, x1), (0, x2), (0, x3)] [] w)) (fun _ => rfl)).trans (EX_br.trans (and_congr (imp_congr Iff.rfl Iff.rfl) (imp_congr Iff.rfl Iff.rfl)))
set_option maxRecDepth 100000 in
theorem b137_16 {d : Nat} {w : vW} {x0 x1 x2 x3 : Int} {Q : Int → vW → Prop} : VW d 137 16 [(2, x0), (0, x1), (0, x2), (0, x3)] [] w Q ↔ (vkd w x0 = 22) ∧ VW d 137 4 [(2, x0), (0, x1), (0, w32 (x2 * (vct w x0 12))), (0, w32 (x3 + 1))] [] w Q :=
  (VW_b 7 (F := fun n => if vkd w x0 = 22 then vrun n d 137 4 [(2, x0), (0, x1), (0, w32 (x2 * (vct w x0 12))), (0, w32 (x3 + 1))] [] w else none) (fun _ => rfl)).trans (EX_if.trans (and_congr Iff.rfl (Iff.rfl)))
set_option maxRecDepth 100000 in
theorem b137_29 {d : Nat} {w : vW} {x0 x1 x2 x3 : Int} {Q : Int → vW → Prop} : VW d 137 29 [(2, x0), (0, x1), (0, x2), (0, x3)] [] w Q ↔ Q x2 w :=
  (VW_b 2 (F := fun n => some (0, x2, w)) (fun _ => rfl)).trans (EX_ret0)
/-! 138: StrikeWhatCancelsModel.sayingAt(II)J -/
set_option maxRecDepth 100000 in
theorem b138_0 {d : Nat} {w : vW} {x0 x1 x2 : Int} {Q : Int → vW → Prop} : VW d 138 0 [(2, x0), (0, x1), (0, x2), (9, 0), (9, 0), (9, 0), (9, 0)] [] w Q ↔ VW d 138 8 [(2, x0), (0, x1), (0, x2), (1, 0), (9, 0), (0, x2), (0, 0)] [] w Q :=
  (VW_b 6 (F := fun n => vrun n d 138 8 [(2, x0), (0, x1), (0, x2), (1, 0), (9, 0), (0, x2), (0, 0)] [] w) (fun _ => rfl)).trans (Iff.rfl)
set_option maxRecDepth 100000 in
theorem b138_8 {d : Nat} {w : vW} {x0 x1 x2 x3 x5 x6 : Int} {Q : Int → vW → Prop} : VW d 138 8 [(2, x0), (0, x1), (0, x2), (1, x3), (9, 0), (0, x5), (0, x6)] [] w Q ↔ ((x6 < x1 → VW d 138 14 [(2, x0), (0, x1), (0, x2), (1, x3), (9, 0), (0, x5), (0, x6)] [] w Q) ∧ (¬ (x6 < x1) → VW d 138 50 [(2, x0), (0, x1), (0, x2), (1, x3), (9, 0), (0, x5), (0, x6)] [] w Q)) :=
  (VW_b 3 (F := fun n => (if x6 < x1 then vrun n d 138 14 [(2, x0), (0, x1), (0, x2), (1, x3), (9, 0), (0, x5), (0, x6)] [] w else vrun n d 138 50 [(2, x0), (0, x1), (0, x2), (1, x3), (9, 0), (0, x5), (0, x6)] [] w)) (fun _ => rfl)).trans (EX_br.trans (and_congr (imp_congr Iff.rfl Iff.rfl) (imp_congr Iff.rfl Iff.rfl)))
set_option maxRecDepth 100000 in
theorem b138_14 {d : Nat} {w : vW} {x0 x1 x2 x3 x5 x6 : Int} {Q : Int → vW → Prop} : VW d 138 14 [(2, x0), (0, x1), (0, x2), (1, x3), (9, 0), (0, x5), (0, x6)] [] w Q ↔ (vkd w x0 = 22) ∧ ¬ ((vct w x0 12) = 0) ∧ (vkd w x0 = 22) ∧ (vkd w (vct w x0 3) = 2 ∧ (0 : Int) ≤ x6 ∧ x6 < vln w (vct w x0 3)) ∧ (vkd w x0 = 22) ∧ ¬ ((vct w x0 12) = 0) ∧ VW d 138 8 [(2, x0), (0, x1), (0, x2), (1, w64 (x3 + (w64 ((w32 ((Int.tmod x5 (vct w x0 12)) + 1)) * (vct w (vct w x0 3) x6))))), (9, 0), (0, w32 (Int.tdiv x5 (vct w x0 12))), (0, w32 (x6 + 1))] [] w Q :=
  (VW_b 22 (F := fun n => if vkd w x0 = 22 then if (vct w x0 12) = 0 then none else if vkd w x0 = 22 then if vkd w (vct w x0 3) = 2 ∧ (0 : Int) ≤ x6 ∧ x6 < vln w (vct w x0 3) then if vkd w x0 = 22 then if (vct w x0 12) = 0 then none else vrun n d 138 8 [(2, x0), (0, x1), (0, x2), (1, w64 (x3 + (w64 ((w32 ((Int.tmod x5 (vct w x0 12)) + 1)) * (vct w (vct w x0 3) x6))))), (9, 0), (0, w32 (Int.tdiv x5 (vct w x0 12))), (0, w32 (x6 + 1))] [] w else none else none else none else none) (fun _ => rfl)).trans (EX_if.trans (and_congr Iff.rfl (EX_ifn.trans (and_congr Iff.rfl (EX_if.trans (and_congr Iff.rfl (EX_if.trans (and_congr Iff.rfl (EX_if.trans (and_congr Iff.rfl (EX_ifn.trans (and_congr Iff.rfl (Iff.rfl)))))))))))))
set_option maxRecDepth 100000 in
theorem b138_50 {d : Nat} {w : vW} {x0 x1 x2 x3 x5 x6 : Int} {Q : Int → vW → Prop} : VW d 138 50 [(2, x0), (0, x1), (0, x2), (1, x3), (9, 0), (0, x5), (0, x6)] [] w Q ↔ Q x3 w :=
  (VW_b 2 (F := fun n => some (0, x3, w)) (fun _ => rfl)).trans (EX_ret0)
/-! 139: StrikeWhatCancelsModel.isClerk(I)Z -/
set_option maxRecDepth 100000 in
theorem b139_0 {d : Nat} {w : vW} {x0 : Int} {Q : Int → vW → Prop} : VW d 139 0 [(0, x0)] [] w Q ↔ VC d 56 [(1, x0), (1, 0), (1, 2)] w (fun r w1 => VW d 139 9 [(0, x0)] [(0, r)] w1 Q) :=
  (VW_b 5 (F := fun n => vcl (vrun n) d 139 9 56 3 0 [(0, x0)] [(1, 2), (1, 0), (1, x0)] w) (fun _ => rfl)).trans (EX_call rfl)
set_option maxRecDepth 100000 in
theorem b139_9 {d : Nat} {w : vW} {x0 y0 : Int} {Q : Int → vW → Prop} : VW d 139 9 [(0, x0)] [(0, y0)] w Q ↔ Q y0 w :=
  (VW_b 1 (F := fun n => some (0, y0, w)) (fun _ => rfl)).trans (EX_ret0)
/-! 140: StrikeWhatCancelsModel.isLong(I)Z -/
set_option maxRecDepth 100000 in
theorem b140_0 {d : Nat} {w : vW} {x0 : Int} {Q : Int → vW → Prop} : VW d 140 0 [(0, x0)] [] w Q ↔ VC d 56 [(1, x0), (1, 0), (1, 14)] w (fun r w1 => VW d 140 9 [(0, x0)] [(0, r)] w1 Q) :=
  (VW_b 5 (F := fun n => vcl (vrun n) d 140 9 56 3 0 [(0, x0)] [(1, 14), (1, 0), (1, x0)] w) (fun _ => rfl)).trans (EX_call rfl)
set_option maxRecDepth 100000 in
theorem b140_9 {d : Nat} {w : vW} {x0 y0 : Int} {Q : Int → vW → Prop} : VW d 140 9 [(0, x0)] [(0, y0)] w Q ↔ Q y0 w :=
  (VW_b 1 (F := fun n => some (0, y0, w)) (fun _ => rfl)).trans (EX_ret0)
/-! 141: StrikeWhatCancelsModel.comes(IIJ)I -/
set_option maxRecDepth 100000 in
theorem b141_0 {d : Nat} {w : vW} {x0 x1 x2 x3 : Int} {Q : Int → vW → Prop} : VW d 141 0 [(2, x0), (0, x1), (0, x2), (1, x3), (9, 0), (9, 0), (9, 0), (9, 0), (9, 0)] [] w Q ↔ (vkd w x0 = 22) ∧ VW d 141 10 [(2, x0), (0, x1), (0, x2), (1, x3), (9, 0), (0, 0), (9, 0), (9, 0), (9, 0)] [] (vsv w x0 55 (-1)) Q :=
  (VW_b 5 (F := fun n => if vkd w x0 = 22 then vrun n d 141 10 [(2, x0), (0, x1), (0, x2), (1, x3), (9, 0), (0, 0), (9, 0), (9, 0), (9, 0)] [] (vsv w x0 55 (-1)) else none) (fun _ => rfl)).trans (EX_if.trans (and_congr Iff.rfl (Iff.rfl)))
set_option maxRecDepth 100000 in
theorem b141_10 {d : Nat} {w : vW} {x0 x1 x2 x3 x5 : Int} {Q : Int → vW → Prop} : VW d 141 10 [(2, x0), (0, x1), (0, x2), (1, x3), (9, 0), (0, x5), (9, 0), (9, 0), (9, 0)] [] w Q ↔ VW d 141 13 [(2, x0), (0, x1), (0, x2), (1, x3), (9, 0), (0, x5), (0, 0), (9, 0), (9, 0)] [] w Q :=
  (VW_b 2 (F := fun n => vrun n d 141 13 [(2, x0), (0, x1), (0, x2), (1, x3), (9, 0), (0, x5), (0, 0), (9, 0), (9, 0)] [] w) (fun _ => rfl)).trans (Iff.rfl)
set_option maxRecDepth 100000 in
theorem b141_13 {d : Nat} {w : vW} {x0 x1 x2 x3 x5 x6 : Int} {v7 v8 : vV} {Q : Int → vW → Prop} : VW d 141 13 [(2, x0), (0, x1), (0, x2), (1, x3), (9, 0), (0, x5), (0, x6), v7, v8] [] w Q ↔ VC d 137 [(2, x0), (0, x2)] w (fun r w1 => VW d 141 20 [(2, x0), (0, x1), (0, x2), (1, x3), (9, 0), (0, x5), (0, x6), v7, v8] [(0, r), (0, x6)] w1 Q) :=
  (VW_b 4 (F := fun n => vcl (vrun n) d 141 20 137 2 0 [(2, x0), (0, x1), (0, x2), (1, x3), (9, 0), (0, x5), (0, x6), v7, v8] [(0, x2), (2, x0), (0, x6)] w) (fun _ => rfl)).trans (EX_call rfl)
set_option maxRecDepth 100000 in
theorem b141_20 {d : Nat} {w : vW} {x0 x1 x2 x3 x5 x6 y0 y1 : Int} {v7 v8 : vV} {Q : Int → vW → Prop} : VW d 141 20 [(2, x0), (0, x1), (0, x2), (1, x3), (9, 0), (0, x5), (0, x6), v7, v8] [(0, y1), (0, y0)] w Q ↔ ((y0 < y1 → VW d 141 23 [(2, x0), (0, x1), (0, x2), (1, x3), (9, 0), (0, x5), (0, x6), v7, v8] [] w Q) ∧ (¬ (y0 < y1) → VW d 141 75 [(2, x0), (0, x1), (0, x2), (1, x3), (9, 0), (0, x5), (0, x6), v7, v8] [] w Q)) :=
  (VW_b 1 (F := fun n => (if y0 < y1 then vrun n d 141 23 [(2, x0), (0, x1), (0, x2), (1, x3), (9, 0), (0, x5), (0, x6), v7, v8] [] w else vrun n d 141 75 [(2, x0), (0, x1), (0, x2), (1, x3), (9, 0), (0, x5), (0, x6), v7, v8] [] w)) (fun _ => rfl)).trans (EX_br.trans (and_congr (imp_congr Iff.rfl Iff.rfl) (imp_congr Iff.rfl Iff.rfl)))
set_option maxRecDepth 100000 in
theorem b141_23 {d : Nat} {w : vW} {x0 x1 x2 x3 x5 x6 : Int} {v7 v8 : vV} {Q : Int → vW → Prop} : VW d 141 23 [(2, x0), (0, x1), (0, x2), (1, x3), (9, 0), (0, x5), (0, x6), v7, v8] [] w Q ↔ VC d 138 [(2, x0), (0, x2), (0, x6)] w (fun r w1 => VW d 141 30 [(2, x0), (0, x1), (0, x2), (1, x3), (9, 0), (0, x5), (0, x6), v7, v8] [(1, r)] w1 Q) :=
  (VW_b 4 (F := fun n => vcl (vrun n) d 141 30 138 3 1 [(2, x0), (0, x1), (0, x2), (1, x3), (9, 0), (0, x5), (0, x6), v7, v8] [(0, x6), (0, x2), (2, x0)] w) (fun _ => rfl)).trans (EX_call rfl)
set_option maxRecDepth 100000 in
theorem b141_30 {d : Nat} {w : vW} {x0 x1 x2 x3 x5 x6 y0 : Int} {v7 v8 : vV} {Q : Int → vW → Prop} : VW d 141 30 [(2, x0), (0, x1), (0, x2), (1, x3), (9, 0), (0, x5), (0, x6), v7, v8] [(1, y0)] w Q ↔ (vkd w x0 = 22) ∧ VC d 112 [(2, x0), (1, y0), (0, x1), (0, vct w x0 4)] w (fun r w1 => VW d 141 43 [(2, x0), (0, x1), (0, x2), (1, x3), (9, 0), (0, x5), (0, x6), (1, y0), (9, 0)] [(1, r)] w1 Q) :=
  (VW_b 7 (F := fun n => if vkd w x0 = 22 then vcl (vrun n) d 141 43 112 4 1 [(2, x0), (0, x1), (0, x2), (1, x3), (9, 0), (0, x5), (0, x6), (1, y0), (9, 0)] [(0, vct w x0 4), (0, x1), (1, y0), (2, x0)] w else none) (fun _ => rfl)).trans (EX_if.trans (and_congr Iff.rfl (EX_call rfl)))
set_option maxRecDepth 100000 in
theorem b141_43 {d : Nat} {w : vW} {x0 x1 x2 x3 x5 x6 x7 y0 : Int} {Q : Int → vW → Prop} : VW d 141 43 [(2, x0), (0, x1), (0, x2), (1, x3), (9, 0), (0, x5), (0, x6), (1, x7), (9, 0)] [(1, y0)] w Q ↔ (((vlc y0 x3) = 0 → VW d 141 48 [(2, x0), (0, x1), (0, x2), (1, x3), (9, 0), (0, x5), (0, x6), (1, x7), (9, 0)] [] w Q) ∧ (¬ ((vlc y0 x3) = 0) → VW d 141 69 [(2, x0), (0, x1), (0, x2), (1, x3), (9, 0), (0, x5), (0, x6), (1, x7), (9, 0)] [] w Q)) :=
  (VW_b 3 (F := fun n => (if (vlc y0 x3) = 0 then vrun n d 141 48 [(2, x0), (0, x1), (0, x2), (1, x3), (9, 0), (0, x5), (0, x6), (1, x7), (9, 0)] [] w else vrun n d 141 69 [(2, x0), (0, x1), (0, x2), (1, x3), (9, 0), (0, x5), (0, x6), (1, x7), (9, 0)] [] w)) (fun _ => rfl)).trans (EX_br.trans (and_congr (imp_congr Iff.rfl Iff.rfl) (imp_congr Iff.rfl Iff.rfl)))
set_option maxRecDepth 100000 in
theorem b141_48 {d : Nat} {w : vW} {x0 x1 x2 x3 x5 x6 x7 : Int} {Q : Int → vW → Prop} : VW d 141 48 [(2, x0), (0, x1), (0, x2), (1, x3), (9, 0), (0, x5), (0, x6), (1, x7), (9, 0)] [] w Q ↔ ((x5 = 0 → VW d 141 54 [(2, x0), (0, x1), (0, x2), (1, x3), (9, 0), (0, x5), (0, x6), (1, x7), (9, 0)] [(2, x0)] w Q) ∧ (¬ (x5 = 0) → VW d 141 59 [(2, x0), (0, x1), (0, x2), (1, x3), (9, 0), (0, x5), (0, x6), (1, x7), (9, 0)] [(2, x0)] w Q)) :=
  (VW_b 3 (F := fun n => (if x5 = 0 then vrun n d 141 54 [(2, x0), (0, x1), (0, x2), (1, x3), (9, 0), (0, x5), (0, x6), (1, x7), (9, 0)] [(2, x0)] w else vrun n d 141 59 [(2, x0), (0, x1), (0, x2), (1, x3), (9, 0), (0, x5), (0, x6), (1, x7), (9, 0)] [(2, x0)] w)) (fun _ => rfl)).trans (EX_br.trans (and_congr (imp_congr Iff.rfl Iff.rfl) (imp_congr Iff.rfl Iff.rfl)))
set_option maxRecDepth 100000 in
theorem b141_54 {d : Nat} {w : vW} {x0 x1 x2 x3 x5 x6 x7 y0 : Int} {Q : Int → vW → Prop} : VW d 141 54 [(2, x0), (0, x1), (0, x2), (1, x3), (9, 0), (0, x5), (0, x6), (1, x7), (9, 0)] [(2, y0)] w Q ↔ VW d 141 63 [(2, x0), (0, x1), (0, x2), (1, x3), (9, 0), (0, x5), (0, x6), (1, x7), (9, 0)] [(1, x7), (2, y0)] w Q :=
  (VW_b 2 (F := fun n => vrun n d 141 63 [(2, x0), (0, x1), (0, x2), (1, x3), (9, 0), (0, x5), (0, x6), (1, x7), (9, 0)] [(1, x7), (2, y0)] w) (fun _ => rfl)).trans (Iff.rfl)
set_option maxRecDepth 100000 in
theorem b141_59 {d : Nat} {w : vW} {x0 x1 x2 x3 x5 x6 x7 y0 : Int} {Q : Int → vW → Prop} : VW d 141 59 [(2, x0), (0, x1), (0, x2), (1, x3), (9, 0), (0, x5), (0, x6), (1, x7), (9, 0)] [(2, y0)] w Q ↔ (vkd w x0 = 22) ∧ VW d 141 63 [(2, x0), (0, x1), (0, x2), (1, x3), (9, 0), (0, x5), (0, x6), (1, x7), (9, 0)] [(1, vct w x0 55), (2, y0)] w Q :=
  (VW_b 2 (F := fun n => if vkd w x0 = 22 then vrun n d 141 63 [(2, x0), (0, x1), (0, x2), (1, x3), (9, 0), (0, x5), (0, x6), (1, x7), (9, 0)] [(1, vct w x0 55), (2, y0)] w else none) (fun _ => rfl)).trans (EX_if.trans (and_congr Iff.rfl (Iff.rfl)))
set_option maxRecDepth 100000 in
theorem b141_63 {d : Nat} {w : vW} {x0 x1 x2 x3 x5 x6 x7 y0 y1 : Int} {Q : Int → vW → Prop} : VW d 141 63 [(2, x0), (0, x1), (0, x2), (1, x3), (9, 0), (0, x5), (0, x6), (1, x7), (9, 0)] [(1, y1), (2, y0)] w Q ↔ (vkd w y0 = 22) ∧ VW d 141 66 [(2, x0), (0, x1), (0, x2), (1, x3), (9, 0), (0, x5), (0, x6), (1, x7), (9, 0)] [] (vsv w y0 55 y1) Q :=
  (VW_b 1 (F := fun n => if vkd w y0 = 22 then vrun n d 141 66 [(2, x0), (0, x1), (0, x2), (1, x3), (9, 0), (0, x5), (0, x6), (1, x7), (9, 0)] [] (vsv w y0 55 y1) else none) (fun _ => rfl)).trans (EX_if.trans (and_congr Iff.rfl (Iff.rfl)))
set_option maxRecDepth 100000 in
theorem b141_66 {d : Nat} {w : vW} {x0 x1 x2 x3 x5 x6 x7 : Int} {Q : Int → vW → Prop} : VW d 141 66 [(2, x0), (0, x1), (0, x2), (1, x3), (9, 0), (0, x5), (0, x6), (1, x7), (9, 0)] [] w Q ↔ VW d 141 69 [(2, x0), (0, x1), (0, x2), (1, x3), (9, 0), (0, w32 (x5 + 1)), (0, x6), (1, x7), (9, 0)] [] w Q :=
  (VW_b 1 (F := fun n => vrun n d 141 69 [(2, x0), (0, x1), (0, x2), (1, x3), (9, 0), (0, w32 (x5 + 1)), (0, x6), (1, x7), (9, 0)] [] w) (fun _ => rfl)).trans (Iff.rfl)
set_option maxRecDepth 100000 in
theorem b141_69 {d : Nat} {w : vW} {x0 x1 x2 x3 x5 x6 x7 : Int} {Q : Int → vW → Prop} : VW d 141 69 [(2, x0), (0, x1), (0, x2), (1, x3), (9, 0), (0, x5), (0, x6), (1, x7), (9, 0)] [] w Q ↔ VW d 141 13 [(2, x0), (0, x1), (0, x2), (1, x3), (9, 0), (0, x5), (0, w32 (x6 + 1)), (1, x7), (9, 0)] [] w Q :=
  (VW_b 2 (F := fun n => vrun n d 141 13 [(2, x0), (0, x1), (0, x2), (1, x3), (9, 0), (0, x5), (0, w32 (x6 + 1)), (1, x7), (9, 0)] [] w) (fun _ => rfl)).trans (Iff.rfl)
set_option maxRecDepth 100000 in
theorem b141_75 {d : Nat} {w : vW} {x0 x1 x2 x3 x5 x6 : Int} {v7 v8 : vV} {Q : Int → vW → Prop} : VW d 141 75 [(2, x0), (0, x1), (0, x2), (1, x3), (9, 0), (0, x5), (0, x6), v7, v8] [] w Q ↔ Q x5 w :=
  (VW_b 2 (F := fun n => some (0, x5, w)) (fun _ => rfl)).trans (EX_ret0)
/-! 142: StrikeWhatCancelsModel.entersFirst(I)V -/
set_option maxRecDepth 100000 in
theorem b142_0 {d : Nat} {w : vW} {x0 x1 : Int} {Q : Int → vW → Prop} : VW d 142 0 [(2, x0), (0, x1)] [] w Q ↔ (vkd w x0 = 22) ∧ VW d 142 5 [(2, x0), (0, x1)] [] (vsv w x0 1 0) Q :=
  (VW_b 3 (F := fun n => if vkd w x0 = 22 then vrun n d 142 5 [(2, x0), (0, x1)] [] (vsv w x0 1 0) else none) (fun _ => rfl)).trans (EX_if.trans (and_congr Iff.rfl (Iff.rfl)))
set_option maxRecDepth 100000 in
theorem b142_5 {d : Nat} {w : vW} {x0 x1 : Int} {Q : Int → vW → Prop} : VW d 142 5 [(2, x0), (0, x1)] [] w Q ↔ ((0 < x1 → VW d 142 9 [(2, x0), (0, x1)] [] w Q) ∧ (¬ (0 < x1) → VW d 142 17 [(2, x0), (0, x1)] [] w Q)) :=
  (VW_b 2 (F := fun n => (if 0 < x1 then vrun n d 142 9 [(2, x0), (0, x1)] [] w else vrun n d 142 17 [(2, x0), (0, x1)] [] w)) (fun _ => rfl)).trans (EX_br.trans (and_congr (imp_congr Iff.rfl Iff.rfl) (imp_congr Iff.rfl Iff.rfl)))
set_option maxRecDepth 100000 in
theorem b142_9 {d : Nat} {w : vW} {x0 x1 : Int} {Q : Int → vW → Prop} : VW d 142 9 [(2, x0), (0, x1)] [] w Q ↔ (vkd w x0 = 22) ∧ VC d 58 [(2, x0), (1, vct w x0 55)] w (fun _ w1 => VW d 142 17 [(2, x0), (0, x1)] [] w1 Q) :=
  (VW_b 4 (F := fun n => if vkd w x0 = 22 then vcl (vrun n) d 142 17 58 2 9 [(2, x0), (0, x1)] [(1, vct w x0 55), (2, x0)] w else none) (fun _ => rfl)).trans (EX_if.trans (and_congr Iff.rfl (EX_call rfl)))
set_option maxRecDepth 100000 in
theorem b142_17 {d : Nat} {w : vW} {x0 x1 : Int} {Q : Int → vW → Prop} : VW d 142 17 [(2, x0), (0, x1)] [] w Q ↔ Q 0 w :=
  (VW_b 1 (F := fun n => some (0, 0, w)) (fun _ => rfl)).trans (EX_ret0)
/-! 143: StrikeWhatCancelsModel.come(IIJ)I -/
set_option maxRecDepth 100000 in
theorem b143_0 {d : Nat} {w : vW} {x0 x1 x2 x3 : Int} {Q : Int → vW → Prop} : VW d 143 0 [(2, x0), (0, x1), (0, x2), (1, x3), (9, 0), (9, 0)] [] w Q ↔ (vkd w x0 = 22) ∧ VW d 143 5 [(2, x0), (0, x1), (0, x2), (1, x3), (9, 0), (9, 0)] [] (vsv w x0 0 0) Q :=
  (VW_b 3 (F := fun n => if vkd w x0 = 22 then vrun n d 143 5 [(2, x0), (0, x1), (0, x2), (1, x3), (9, 0), (9, 0)] [] (vsv w x0 0 0) else none) (fun _ => rfl)).trans (EX_if.trans (and_congr Iff.rfl (Iff.rfl)))
set_option maxRecDepth 100000 in
theorem b143_5 {d : Nat} {w : vW} {x0 x1 x2 x3 : Int} {Q : Int → vW → Prop} : VW d 143 5 [(2, x0), (0, x1), (0, x2), (1, x3), (9, 0), (9, 0)] [] w Q ↔ VC d 139 [(0, x1)] w (fun r w1 => VW d 143 9 [(2, x0), (0, x1), (0, x2), (1, x3), (9, 0), (9, 0)] [(0, r)] w1 Q) :=
  (VW_b 2 (F := fun n => vcl (vrun n) d 143 9 139 1 0 [(2, x0), (0, x1), (0, x2), (1, x3), (9, 0), (9, 0)] [(0, x1)] w) (fun _ => rfl)).trans (EX_call rfl)
set_option maxRecDepth 100000 in
theorem b143_9 {d : Nat} {w : vW} {x0 x1 x2 x3 y0 : Int} {Q : Int → vW → Prop} : VW d 143 9 [(2, x0), (0, x1), (0, x2), (1, x3), (9, 0), (9, 0)] [(0, y0)] w Q ↔ ((y0 = 0 → VW d 143 27 [(2, x0), (0, x1), (0, x2), (1, x3), (9, 0), (9, 0)] [] w Q) ∧ (¬ (y0 = 0) → VW d 143 12 [(2, x0), (0, x1), (0, x2), (1, x3), (9, 0), (9, 0)] [] w Q)) :=
  (VW_b 1 (F := fun n => (if y0 = 0 then vrun n d 143 27 [(2, x0), (0, x1), (0, x2), (1, x3), (9, 0), (9, 0)] [] w else vrun n d 143 12 [(2, x0), (0, x1), (0, x2), (1, x3), (9, 0), (9, 0)] [] w)) (fun _ => rfl)).trans (EX_br.trans (and_congr (imp_congr Iff.rfl Iff.rfl) (imp_congr Iff.rfl Iff.rfl)))
set_option maxRecDepth 100000 in
theorem b143_12 {d : Nat} {w : vW} {x0 x1 x2 x3 : Int} {Q : Int → vW → Prop} : VW d 143 12 [(2, x0), (0, x1), (0, x2), (1, x3), (9, 0), (9, 0)] [] w Q ↔ VC d 140 [(0, x2)] w (fun r w1 => VW d 143 16 [(2, x0), (0, x1), (0, x2), (1, x3), (9, 0), (9, 0)] [(0, r)] w1 Q) :=
  (VW_b 2 (F := fun n => vcl (vrun n) d 143 16 140 1 0 [(2, x0), (0, x1), (0, x2), (1, x3), (9, 0), (9, 0)] [(0, x2)] w) (fun _ => rfl)).trans (EX_call rfl)
set_option maxRecDepth 100000 in
theorem b143_16 {d : Nat} {w : vW} {x0 x1 x2 x3 y0 : Int} {Q : Int → vW → Prop} : VW d 143 16 [(2, x0), (0, x1), (0, x2), (1, x3), (9, 0), (9, 0)] [(0, y0)] w Q ↔ ((y0 = 0 → VW d 143 27 [(2, x0), (0, x1), (0, x2), (1, x3), (9, 0), (9, 0)] [] w Q) ∧ (¬ (y0 = 0) → VW d 143 19 [(2, x0), (0, x1), (0, x2), (1, x3), (9, 0), (9, 0)] [] w Q)) :=
  (VW_b 1 (F := fun n => (if y0 = 0 then vrun n d 143 27 [(2, x0), (0, x1), (0, x2), (1, x3), (9, 0), (9, 0)] [] w else vrun n d 143 19 [(2, x0), (0, x1), (0, x2), (1, x3), (9, 0), (9, 0)] [] w)) (fun _ => rfl)).trans (EX_br.trans (and_congr (imp_congr Iff.rfl Iff.rfl) (imp_congr Iff.rfl Iff.rfl)))
set_option maxRecDepth 100000 in
theorem b143_19 {d : Nat} {w : vW} {x0 x1 x2 x3 : Int} {Q : Int → vW → Prop} : VW d 143 19 [(2, x0), (0, x1), (0, x2), (1, x3), (9, 0), (9, 0)] [] w Q ↔ VC d 61 [(2, x0), (1, x3)] w (fun r w1 => VW d 143 24 [(2, x0), (0, x1), (0, x2), (1, x3), (9, 0), (9, 0)] [(0, r)] w1 Q) :=
  (VW_b 3 (F := fun n => vcl (vrun n) d 143 24 61 2 0 [(2, x0), (0, x1), (0, x2), (1, x3), (9, 0), (9, 0)] [(1, x3), (2, x0)] w) (fun _ => rfl)).trans (EX_call rfl)
set_option maxRecDepth 100000 in
theorem b143_24 {d : Nat} {w : vW} {x0 x1 x2 x3 y0 : Int} {Q : Int → vW → Prop} : VW d 143 24 [(2, x0), (0, x1), (0, x2), (1, x3), (9, 0), (9, 0)] [(0, y0)] w Q ↔ ((y0 = 0 → VW d 143 27 [(2, x0), (0, x1), (0, x2), (1, x3), (9, 0), (9, 0)] [] w Q) ∧ (¬ (y0 = 0) → VW d 143 29 [(2, x0), (0, x1), (0, x2), (1, x3), (9, 0), (9, 0)] [] w Q)) :=
  (VW_b 1 (F := fun n => (if y0 = 0 then vrun n d 143 27 [(2, x0), (0, x1), (0, x2), (1, x3), (9, 0), (9, 0)] [] w else vrun n d 143 29 [(2, x0), (0, x1), (0, x2), (1, x3), (9, 0), (9, 0)] [] w)) (fun _ => rfl)).trans (EX_br.trans (and_congr (imp_congr Iff.rfl Iff.rfl) (imp_congr Iff.rfl Iff.rfl)))
set_option maxRecDepth 100000 in
theorem b143_27 {d : Nat} {w : vW} {x0 x1 x2 x3 : Int} {Q : Int → vW → Prop} : VW d 143 27 [(2, x0), (0, x1), (0, x2), (1, x3), (9, 0), (9, 0)] [] w Q ↔ Q (-1) w :=
  (VW_b 2 (F := fun n => some (0, (-1), w)) (fun _ => rfl)).trans (EX_ret0)
set_option maxRecDepth 100000 in
theorem b143_29 {d : Nat} {w : vW} {x0 x1 x2 x3 : Int} {Q : Int → vW → Prop} : VW d 143 29 [(2, x0), (0, x1), (0, x2), (1, x3), (9, 0), (9, 0)] [] w Q ↔ VC d 137 [(2, x0), (0, x2)] w (fun r w1 => VW d 143 34 [(2, x0), (0, x1), (0, x2), (1, x3), (9, 0), (9, 0)] [(0, r)] w1 Q) :=
  (VW_b 3 (F := fun n => vcl (vrun n) d 143 34 137 2 0 [(2, x0), (0, x1), (0, x2), (1, x3), (9, 0), (9, 0)] [(0, x2), (2, x0)] w) (fun _ => rfl)).trans (EX_call rfl)
set_option maxRecDepth 100000 in
theorem b143_34 {d : Nat} {w : vW} {x0 x1 x2 x3 y0 : Int} {Q : Int → vW → Prop} : VW d 143 34 [(2, x0), (0, x1), (0, x2), (1, x3), (9, 0), (9, 0)] [(0, y0)] w Q ↔ ((4096 < y0 → VW d 143 40 [(2, x0), (0, x1), (0, x2), (1, x3), (9, 0), (9, 0)] [] w Q) ∧ (¬ (4096 < y0) → VW d 143 43 [(2, x0), (0, x1), (0, x2), (1, x3), (9, 0), (9, 0)] [] w Q)) :=
  (VW_b 2 (F := fun n => (if 4096 < y0 then vrun n d 143 40 [(2, x0), (0, x1), (0, x2), (1, x3), (9, 0), (9, 0)] [] w else vrun n d 143 43 [(2, x0), (0, x1), (0, x2), (1, x3), (9, 0), (9, 0)] [] w)) (fun _ => rfl)).trans (EX_br.trans (and_congr (imp_congr Iff.rfl Iff.rfl) (imp_congr Iff.rfl Iff.rfl)))
set_option maxRecDepth 100000 in
theorem b143_40 {d : Nat} {w : vW} {x0 x1 x2 x3 : Int} {Q : Int → vW → Prop} : VW d 143 40 [(2, x0), (0, x1), (0, x2), (1, x3), (9, 0), (9, 0)] [] w Q ↔ Q (-3) w :=
  (VW_b 2 (F := fun n => some (0, (-3), w)) (fun _ => rfl)).trans (EX_ret0)
set_option maxRecDepth 100000 in
theorem b143_43 {d : Nat} {w : vW} {x0 x1 x2 x3 : Int} {Q : Int → vW → Prop} : VW d 143 43 [(2, x0), (0, x1), (0, x2), (1, x3), (9, 0), (9, 0)] [] w Q ↔ VC d 141 [(2, x0), (0, x1), (0, x2), (1, x3)] w (fun r w1 => VW d 143 50 [(2, x0), (0, x1), (0, x2), (1, x3), (9, 0), (9, 0)] [(0, r)] w1 Q) :=
  (VW_b 5 (F := fun n => vcl (vrun n) d 143 50 141 4 0 [(2, x0), (0, x1), (0, x2), (1, x3), (9, 0), (9, 0)] [(1, x3), (0, x2), (0, x1), (2, x0)] w) (fun _ => rfl)).trans (EX_call rfl)
set_option maxRecDepth 100000 in
theorem b143_50 {d : Nat} {w : vW} {x0 x1 x2 x3 y0 : Int} {Q : Int → vW → Prop} : VW d 143 50 [(2, x0), (0, x1), (0, x2), (1, x3), (9, 0), (9, 0)] [(0, y0)] w Q ↔ VC d 142 [(2, x0), (0, y0)] w (fun _ w1 => VW d 143 58 [(2, x0), (0, x1), (0, x2), (1, x3), (9, 0), (0, y0)] [] w1 Q) :=
  (VW_b 4 (F := fun n => vcl (vrun n) d 143 58 142 2 9 [(2, x0), (0, x1), (0, x2), (1, x3), (9, 0), (0, y0)] [(0, y0), (2, x0)] w) (fun _ => rfl)).trans (EX_call rfl)
set_option maxRecDepth 100000 in
theorem b143_58 {d : Nat} {w : vW} {x0 x1 x2 x3 x5 : Int} {Q : Int → vW → Prop} : VW d 143 58 [(2, x0), (0, x1), (0, x2), (1, x3), (9, 0), (0, x5)] [] w Q ↔ Q x5 w :=
  (VW_b 2 (F := fun n => some (0, x5, w)) (fun _ => rfl)).trans (EX_ret0)
/-! 144: StrikeWhatCancelsModel.shortest(IJ)I -/
set_option maxRecDepth 100000 in
theorem b144_0 {d : Nat} {w : vW} {x0 x1 x2 : Int} {Q : Int → vW → Prop} : VW d 144 0 [(2, x0), (0, x1), (1, x2), (9, 0), (9, 0)] [] w Q ↔ (vkd w x0 = 22) ∧ VW d 144 5 [(2, x0), (0, x1), (1, x2), (9, 0), (9, 0)] [] (vsv w x0 0 0) Q :=
  (VW_b 3 (F := fun n => if vkd w x0 = 22 then vrun n d 144 5 [(2, x0), (0, x1), (1, x2), (9, 0), (9, 0)] [] (vsv w x0 0 0) else none) (fun _ => rfl)).trans (EX_if.trans (and_congr Iff.rfl (Iff.rfl)))
set_option maxRecDepth 100000 in
theorem b144_5 {d : Nat} {w : vW} {x0 x1 x2 : Int} {Q : Int → vW → Prop} : VW d 144 5 [(2, x0), (0, x1), (1, x2), (9, 0), (9, 0)] [] w Q ↔ VC d 139 [(0, x1)] w (fun r w1 => VW d 144 9 [(2, x0), (0, x1), (1, x2), (9, 0), (9, 0)] [(0, r)] w1 Q) :=
  (VW_b 2 (F := fun n => vcl (vrun n) d 144 9 139 1 0 [(2, x0), (0, x1), (1, x2), (9, 0), (9, 0)] [(0, x1)] w) (fun _ => rfl)).trans (EX_call rfl)
set_option maxRecDepth 100000 in
theorem b144_9 {d : Nat} {w : vW} {x0 x1 x2 y0 : Int} {Q : Int → vW → Prop} : VW d 144 9 [(2, x0), (0, x1), (1, x2), (9, 0), (9, 0)] [(0, y0)] w Q ↔ ((y0 = 0 → VW d 144 20 [(2, x0), (0, x1), (1, x2), (9, 0), (9, 0)] [] w Q) ∧ (¬ (y0 = 0) → VW d 144 12 [(2, x0), (0, x1), (1, x2), (9, 0), (9, 0)] [] w Q)) :=
  (VW_b 1 (F := fun n => (if y0 = 0 then vrun n d 144 20 [(2, x0), (0, x1), (1, x2), (9, 0), (9, 0)] [] w else vrun n d 144 12 [(2, x0), (0, x1), (1, x2), (9, 0), (9, 0)] [] w)) (fun _ => rfl)).trans (EX_br.trans (and_congr (imp_congr Iff.rfl Iff.rfl) (imp_congr Iff.rfl Iff.rfl)))
set_option maxRecDepth 100000 in
theorem b144_12 {d : Nat} {w : vW} {x0 x1 x2 : Int} {Q : Int → vW → Prop} : VW d 144 12 [(2, x0), (0, x1), (1, x2), (9, 0), (9, 0)] [] w Q ↔ VC d 61 [(2, x0), (1, x2)] w (fun r w1 => VW d 144 17 [(2, x0), (0, x1), (1, x2), (9, 0), (9, 0)] [(0, r)] w1 Q) :=
  (VW_b 3 (F := fun n => vcl (vrun n) d 144 17 61 2 0 [(2, x0), (0, x1), (1, x2), (9, 0), (9, 0)] [(1, x2), (2, x0)] w) (fun _ => rfl)).trans (EX_call rfl)
set_option maxRecDepth 100000 in
theorem b144_17 {d : Nat} {w : vW} {x0 x1 x2 y0 : Int} {Q : Int → vW → Prop} : VW d 144 17 [(2, x0), (0, x1), (1, x2), (9, 0), (9, 0)] [(0, y0)] w Q ↔ ((y0 = 0 → VW d 144 20 [(2, x0), (0, x1), (1, x2), (9, 0), (9, 0)] [] w Q) ∧ (¬ (y0 = 0) → VW d 144 22 [(2, x0), (0, x1), (1, x2), (9, 0), (9, 0)] [] w Q)) :=
  (VW_b 1 (F := fun n => (if y0 = 0 then vrun n d 144 20 [(2, x0), (0, x1), (1, x2), (9, 0), (9, 0)] [] w else vrun n d 144 22 [(2, x0), (0, x1), (1, x2), (9, 0), (9, 0)] [] w)) (fun _ => rfl)).trans (EX_br.trans (and_congr (imp_congr Iff.rfl Iff.rfl) (imp_congr Iff.rfl Iff.rfl)))
set_option maxRecDepth 100000 in
theorem b144_20 {d : Nat} {w : vW} {x0 x1 x2 : Int} {Q : Int → vW → Prop} : VW d 144 20 [(2, x0), (0, x1), (1, x2), (9, 0), (9, 0)] [] w Q ↔ Q (-1) w :=
  (VW_b 2 (F := fun n => some (0, (-1), w)) (fun _ => rfl)).trans (EX_ret0)
set_option maxRecDepth 100000 in
theorem b144_22 {d : Nat} {w : vW} {x0 x1 x2 : Int} {Q : Int → vW → Prop} : VW d 144 22 [(2, x0), (0, x1), (1, x2), (9, 0), (9, 0)] [] w Q ↔ VC d 60 [(2, x0), (1, x2)] w (fun r w1 => VW d 144 27 [(2, x0), (0, x1), (1, x2), (9, 0), (9, 0)] [(0, r)] w1 Q) :=
  (VW_b 3 (F := fun n => vcl (vrun n) d 144 27 60 2 0 [(2, x0), (0, x1), (1, x2), (9, 0), (9, 0)] [(1, x2), (2, x0)] w) (fun _ => rfl)).trans (EX_call rfl)
set_option maxRecDepth 100000 in
theorem b144_27 {d : Nat} {w : vW} {x0 x1 x2 y0 : Int} {Q : Int → vW → Prop} : VW d 144 27 [(2, x0), (0, x1), (1, x2), (9, 0), (9, 0)] [(0, y0)] w Q ↔ VW d 144 31 [(2, x0), (0, x1), (1, x2), (9, 0), (0, w32 (y0 + 1))] [] w Q :=
  (VW_b 3 (F := fun n => vrun n d 144 31 [(2, x0), (0, x1), (1, x2), (9, 0), (0, w32 (y0 + 1))] [] w) (fun _ => rfl)).trans (Iff.rfl)
set_option maxRecDepth 100000 in
theorem b144_31 {d : Nat} {w : vW} {x0 x1 x2 x4 : Int} {Q : Int → vW → Prop} : VW d 144 31 [(2, x0), (0, x1), (1, x2), (9, 0), (0, x4)] [] w Q ↔ ((14 < x4 → VW d 144 75 [(2, x0), (0, x1), (1, x2), (9, 0), (0, x4)] [] w Q) ∧ (¬ (14 < x4) → VW d 144 38 [(2, x0), (0, x1), (1, x2), (9, 0), (0, x4)] [] w Q)) :=
  (VW_b 3 (F := fun n => (if 14 < x4 then vrun n d 144 75 [(2, x0), (0, x1), (1, x2), (9, 0), (0, x4)] [] w else vrun n d 144 38 [(2, x0), (0, x1), (1, x2), (9, 0), (0, x4)] [] w)) (fun _ => rfl)).trans (EX_br.trans (and_congr (imp_congr Iff.rfl Iff.rfl) (imp_congr Iff.rfl Iff.rfl)))
set_option maxRecDepth 100000 in
theorem b144_38 {d : Nat} {w : vW} {x0 x1 x2 x4 : Int} {Q : Int → vW → Prop} : VW d 144 38 [(2, x0), (0, x1), (1, x2), (9, 0), (0, x4)] [] w Q ↔ VC d 137 [(2, x0), (0, x4)] w (fun r w1 => VW d 144 44 [(2, x0), (0, x1), (1, x2), (9, 0), (0, x4)] [(0, r)] w1 Q) :=
  (VW_b 3 (F := fun n => vcl (vrun n) d 144 44 137 2 0 [(2, x0), (0, x1), (1, x2), (9, 0), (0, x4)] [(0, x4), (2, x0)] w) (fun _ => rfl)).trans (EX_call rfl)
set_option maxRecDepth 100000 in
theorem b144_44 {d : Nat} {w : vW} {x0 x1 x2 x4 y0 : Int} {Q : Int → vW → Prop} : VW d 144 44 [(2, x0), (0, x1), (1, x2), (9, 0), (0, x4)] [(0, y0)] w Q ↔ ((4096 < y0 → VW d 144 75 [(2, x0), (0, x1), (1, x2), (9, 0), (0, x4)] [] w Q) ∧ (¬ (4096 < y0) → VW d 144 50 [(2, x0), (0, x1), (1, x2), (9, 0), (0, x4)] [] w Q)) :=
  (VW_b 2 (F := fun n => (if 4096 < y0 then vrun n d 144 75 [(2, x0), (0, x1), (1, x2), (9, 0), (0, x4)] [] w else vrun n d 144 50 [(2, x0), (0, x1), (1, x2), (9, 0), (0, x4)] [] w)) (fun _ => rfl)).trans (EX_br.trans (and_congr (imp_congr Iff.rfl Iff.rfl) (imp_congr Iff.rfl Iff.rfl)))
set_option maxRecDepth 100000 in
theorem b144_50 {d : Nat} {w : vW} {x0 x1 x2 x4 : Int} {Q : Int → vW → Prop} : VW d 144 50 [(2, x0), (0, x1), (1, x2), (9, 0), (0, x4)] [] w Q ↔ VC d 141 [(2, x0), (0, x1), (0, x4), (1, x2)] w (fun r w1 => VW d 144 58 [(2, x0), (0, x1), (1, x2), (9, 0), (0, x4)] [(0, r)] w1 Q) :=
  (VW_b 5 (F := fun n => vcl (vrun n) d 144 58 141 4 0 [(2, x0), (0, x1), (1, x2), (9, 0), (0, x4)] [(1, x2), (0, x4), (0, x1), (2, x0)] w) (fun _ => rfl)).trans (EX_call rfl)
set_option maxRecDepth 100000 in
theorem b144_58 {d : Nat} {w : vW} {x0 x1 x2 x4 y0 : Int} {Q : Int → vW → Prop} : VW d 144 58 [(2, x0), (0, x1), (1, x2), (9, 0), (0, x4)] [(0, y0)] w Q ↔ ((0 < y0 → VW d 144 61 [(2, x0), (0, x1), (1, x2), (9, 0), (0, x4)] [] w Q) ∧ (¬ (0 < y0) → VW d 144 69 [(2, x0), (0, x1), (1, x2), (9, 0), (0, x4)] [] w Q)) :=
  (VW_b 1 (F := fun n => (if 0 < y0 then vrun n d 144 61 [(2, x0), (0, x1), (1, x2), (9, 0), (0, x4)] [] w else vrun n d 144 69 [(2, x0), (0, x1), (1, x2), (9, 0), (0, x4)] [] w)) (fun _ => rfl)).trans (EX_br.trans (and_congr (imp_congr Iff.rfl Iff.rfl) (imp_congr Iff.rfl Iff.rfl)))
set_option maxRecDepth 100000 in
theorem b144_61 {d : Nat} {w : vW} {x0 x1 x2 x4 : Int} {Q : Int → vW → Prop} : VW d 144 61 [(2, x0), (0, x1), (1, x2), (9, 0), (0, x4)] [] w Q ↔ VC d 142 [(2, x0), (0, 1)] w (fun _ w1 => VW d 144 66 [(2, x0), (0, x1), (1, x2), (9, 0), (0, x4)] [] w1 Q) :=
  (VW_b 3 (F := fun n => vcl (vrun n) d 144 66 142 2 9 [(2, x0), (0, x1), (1, x2), (9, 0), (0, x4)] [(0, 1), (2, x0)] w) (fun _ => rfl)).trans (EX_call rfl)
set_option maxRecDepth 100000 in
theorem b144_66 {d : Nat} {w : vW} {x0 x1 x2 x4 : Int} {Q : Int → vW → Prop} : VW d 144 66 [(2, x0), (0, x1), (1, x2), (9, 0), (0, x4)] [] w Q ↔ Q x4 w :=
  (VW_b 2 (F := fun n => some (0, x4, w)) (fun _ => rfl)).trans (EX_ret0)
set_option maxRecDepth 100000 in
theorem b144_69 {d : Nat} {w : vW} {x0 x1 x2 x4 : Int} {Q : Int → vW → Prop} : VW d 144 69 [(2, x0), (0, x1), (1, x2), (9, 0), (0, x4)] [] w Q ↔ VW d 144 31 [(2, x0), (0, x1), (1, x2), (9, 0), (0, w32 (x4 + 1))] [] w Q :=
  (VW_b 2 (F := fun n => vrun n d 144 31 [(2, x0), (0, x1), (1, x2), (9, 0), (0, w32 (x4 + 1))] [] w) (fun _ => rfl)).trans (Iff.rfl)
set_option maxRecDepth 100000 in
theorem b144_75 {d : Nat} {w : vW} {x0 x1 x2 x4 : Int} {Q : Int → vW → Prop} : VW d 144 75 [(2, x0), (0, x1), (1, x2), (9, 0), (0, x4)] [] w Q ↔ Q (-2) w :=
  (VW_b 2 (F := fun n => some (0, (-2), w)) (fun _ => rfl)).trans (EX_ret0)
/-! 145: StrikeWhatCancelsModel.longest(II)I -/
set_option maxRecDepth 100000 in
theorem b145_0 {d : Nat} {w : vW} {x0 x1 x2 : Int} {Q : Int → vW → Prop} : VW d 145 0 [(2, x0), (0, x1), (0, x2), (9, 0), (9, 0), (9, 0), (9, 0), (9, 0), (9, 0), (9, 0)] [] w Q ↔ (vkd w x0 = 22) ∧ VW d 145 5 [(2, x0), (0, x1), (0, x2), (9, 0), (9, 0), (9, 0), (9, 0), (9, 0), (9, 0), (9, 0)] [] (vsv w x0 0 0) Q :=
  (VW_b 3 (F := fun n => if vkd w x0 = 22 then vrun n d 145 5 [(2, x0), (0, x1), (0, x2), (9, 0), (9, 0), (9, 0), (9, 0), (9, 0), (9, 0), (9, 0)] [] (vsv w x0 0 0) else none) (fun _ => rfl)).trans (EX_if.trans (and_congr Iff.rfl (Iff.rfl)))
set_option maxRecDepth 100000 in
theorem b145_5 {d : Nat} {w : vW} {x0 x1 x2 : Int} {Q : Int → vW → Prop} : VW d 145 5 [(2, x0), (0, x1), (0, x2), (9, 0), (9, 0), (9, 0), (9, 0), (9, 0), (9, 0), (9, 0)] [] w Q ↔ VC d 139 [(0, x1)] w (fun r w1 => VW d 145 9 [(2, x0), (0, x1), (0, x2), (9, 0), (9, 0), (9, 0), (9, 0), (9, 0), (9, 0), (9, 0)] [(0, r)] w1 Q) :=
  (VW_b 2 (F := fun n => vcl (vrun n) d 145 9 139 1 0 [(2, x0), (0, x1), (0, x2), (9, 0), (9, 0), (9, 0), (9, 0), (9, 0), (9, 0), (9, 0)] [(0, x1)] w) (fun _ => rfl)).trans (EX_call rfl)
set_option maxRecDepth 100000 in
theorem b145_9 {d : Nat} {w : vW} {x0 x1 x2 y0 : Int} {Q : Int → vW → Prop} : VW d 145 9 [(2, x0), (0, x1), (0, x2), (9, 0), (9, 0), (9, 0), (9, 0), (9, 0), (9, 0), (9, 0)] [(0, y0)] w Q ↔ ((y0 = 0 → VW d 145 19 [(2, x0), (0, x1), (0, x2), (9, 0), (9, 0), (9, 0), (9, 0), (9, 0), (9, 0), (9, 0)] [] w Q) ∧ (¬ (y0 = 0) → VW d 145 12 [(2, x0), (0, x1), (0, x2), (9, 0), (9, 0), (9, 0), (9, 0), (9, 0), (9, 0), (9, 0)] [] w Q)) :=
  (VW_b 1 (F := fun n => (if y0 = 0 then vrun n d 145 19 [(2, x0), (0, x1), (0, x2), (9, 0), (9, 0), (9, 0), (9, 0), (9, 0), (9, 0), (9, 0)] [] w else vrun n d 145 12 [(2, x0), (0, x1), (0, x2), (9, 0), (9, 0), (9, 0), (9, 0), (9, 0), (9, 0), (9, 0)] [] w)) (fun _ => rfl)).trans (EX_br.trans (and_congr (imp_congr Iff.rfl Iff.rfl) (imp_congr Iff.rfl Iff.rfl)))
set_option maxRecDepth 100000 in
theorem b145_12 {d : Nat} {w : vW} {x0 x1 x2 : Int} {Q : Int → vW → Prop} : VW d 145 12 [(2, x0), (0, x1), (0, x2), (9, 0), (9, 0), (9, 0), (9, 0), (9, 0), (9, 0), (9, 0)] [] w Q ↔ VC d 140 [(0, x2)] w (fun r w1 => VW d 145 16 [(2, x0), (0, x1), (0, x2), (9, 0), (9, 0), (9, 0), (9, 0), (9, 0), (9, 0), (9, 0)] [(0, r)] w1 Q) :=
  (VW_b 2 (F := fun n => vcl (vrun n) d 145 16 140 1 0 [(2, x0), (0, x1), (0, x2), (9, 0), (9, 0), (9, 0), (9, 0), (9, 0), (9, 0), (9, 0)] [(0, x2)] w) (fun _ => rfl)).trans (EX_call rfl)
set_option maxRecDepth 100000 in
theorem b145_16 {d : Nat} {w : vW} {x0 x1 x2 y0 : Int} {Q : Int → vW → Prop} : VW d 145 16 [(2, x0), (0, x1), (0, x2), (9, 0), (9, 0), (9, 0), (9, 0), (9, 0), (9, 0), (9, 0)] [(0, y0)] w Q ↔ ((y0 = 0 → VW d 145 19 [(2, x0), (0, x1), (0, x2), (9, 0), (9, 0), (9, 0), (9, 0), (9, 0), (9, 0), (9, 0)] [] w Q) ∧ (¬ (y0 = 0) → VW d 145 21 [(2, x0), (0, x1), (0, x2), (9, 0), (9, 0), (9, 0), (9, 0), (9, 0), (9, 0), (9, 0)] [] w Q)) :=
  (VW_b 1 (F := fun n => (if y0 = 0 then vrun n d 145 19 [(2, x0), (0, x1), (0, x2), (9, 0), (9, 0), (9, 0), (9, 0), (9, 0), (9, 0), (9, 0)] [] w else vrun n d 145 21 [(2, x0), (0, x1), (0, x2), (9, 0), (9, 0), (9, 0), (9, 0), (9, 0), (9, 0), (9, 0)] [] w)) (fun _ => rfl)).trans (EX_br.trans (and_congr (imp_congr Iff.rfl Iff.rfl) (imp_congr Iff.rfl Iff.rfl)))
set_option maxRecDepth 100000 in
theorem b145_19 {d : Nat} {w : vW} {x0 x1 x2 : Int} {Q : Int → vW → Prop} : VW d 145 19 [(2, x0), (0, x1), (0, x2), (9, 0), (9, 0), (9, 0), (9, 0), (9, 0), (9, 0), (9, 0)] [] w Q ↔ Q (-1) w :=
  (VW_b 2 (F := fun n => some (0, (-1), w)) (fun _ => rfl)).trans (EX_ret0)
set_option maxRecDepth 100000 in
theorem b145_21 {d : Nat} {w : vW} {x0 x1 x2 : Int} {Q : Int → vW → Prop} : VW d 145 21 [(2, x0), (0, x1), (0, x2), (9, 0), (9, 0), (9, 0), (9, 0), (9, 0), (9, 0), (9, 0)] [] w Q ↔ VC d 137 [(2, x0), (0, x2)] w (fun r w1 => VW d 145 26 [(2, x0), (0, x1), (0, x2), (9, 0), (9, 0), (9, 0), (9, 0), (9, 0), (9, 0), (9, 0)] [(0, r)] w1 Q) :=
  (VW_b 3 (F := fun n => vcl (vrun n) d 145 26 137 2 0 [(2, x0), (0, x1), (0, x2), (9, 0), (9, 0), (9, 0), (9, 0), (9, 0), (9, 0), (9, 0)] [(0, x2), (2, x0)] w) (fun _ => rfl)).trans (EX_call rfl)
set_option maxRecDepth 100000 in
theorem b145_26 {d : Nat} {w : vW} {x0 x1 x2 y0 : Int} {Q : Int → vW → Prop} : VW d 145 26 [(2, x0), (0, x1), (0, x2), (9, 0), (9, 0), (9, 0), (9, 0), (9, 0), (9, 0), (9, 0)] [(0, y0)] w Q ↔ ((4096 < y0 → VW d 145 32 [(2, x0), (0, x1), (0, x2), (9, 0), (9, 0), (9, 0), (9, 0), (9, 0), (9, 0), (9, 0)] [] w Q) ∧ (¬ (4096 < y0) → VW d 145 35 [(2, x0), (0, x1), (0, x2), (9, 0), (9, 0), (9, 0), (9, 0), (9, 0), (9, 0), (9, 0)] [] w Q)) :=
  (VW_b 2 (F := fun n => (if 4096 < y0 then vrun n d 145 32 [(2, x0), (0, x1), (0, x2), (9, 0), (9, 0), (9, 0), (9, 0), (9, 0), (9, 0), (9, 0)] [] w else vrun n d 145 35 [(2, x0), (0, x1), (0, x2), (9, 0), (9, 0), (9, 0), (9, 0), (9, 0), (9, 0), (9, 0)] [] w)) (fun _ => rfl)).trans (EX_br.trans (and_congr (imp_congr Iff.rfl Iff.rfl) (imp_congr Iff.rfl Iff.rfl)))
set_option maxRecDepth 100000 in
theorem b145_32 {d : Nat} {w : vW} {x0 x1 x2 : Int} {Q : Int → vW → Prop} : VW d 145 32 [(2, x0), (0, x1), (0, x2), (9, 0), (9, 0), (9, 0), (9, 0), (9, 0), (9, 0), (9, 0)] [] w Q ↔ Q (-3) w :=
  (VW_b 2 (F := fun n => some (0, (-3), w)) (fun _ => rfl)).trans (EX_ret0)
set_option maxRecDepth 100000 in
theorem b145_35 {d : Nat} {w : vW} {x0 x1 x2 : Int} {Q : Int → vW → Prop} : VW d 145 35 [(2, x0), (0, x1), (0, x2), (9, 0), (9, 0), (9, 0), (9, 0), (9, 0), (9, 0), (9, 0)] [] w Q ↔ VW d 145 48 [(2, x0), (0, x1), (0, x2), (0, (-1)), (1, (-1)), (9, 0), (0, 0), (0, 0), (9, 0), (9, 0)] [] w Q :=
  (VW_b 8 (F := fun n => vrun n d 145 48 [(2, x0), (0, x1), (0, x2), (0, (-1)), (1, (-1)), (9, 0), (0, 0), (0, 0), (9, 0), (9, 0)] [] w) (fun _ => rfl)).trans (Iff.rfl)
set_option maxRecDepth 100000 in
theorem b145_48 {d : Nat} {w : vW} {x0 x1 x2 x3 x4 x6 x7 : Int} {v8 v9 : vV} {Q : Int → vW → Prop} : VW d 145 48 [(2, x0), (0, x1), (0, x2), (0, x3), (1, x4), (9, 0), (0, x6), (0, x7), v8, v9] [] w Q ↔ VC d 137 [(2, x0), (0, x2)] w (fun r w1 => VW d 145 55 [(2, x0), (0, x1), (0, x2), (0, x3), (1, x4), (9, 0), (0, x6), (0, x7), v8, v9] [(0, r), (0, x7)] w1 Q) :=
  (VW_b 4 (F := fun n => vcl (vrun n) d 145 55 137 2 0 [(2, x0), (0, x1), (0, x2), (0, x3), (1, x4), (9, 0), (0, x6), (0, x7), v8, v9] [(0, x2), (2, x0), (0, x7)] w) (fun _ => rfl)).trans (EX_call rfl)
set_option maxRecDepth 100000 in
theorem b145_55 {d : Nat} {w : vW} {x0 x1 x2 x3 x4 x6 x7 y0 y1 : Int} {v8 v9 : vV} {Q : Int → vW → Prop} : VW d 145 55 [(2, x0), (0, x1), (0, x2), (0, x3), (1, x4), (9, 0), (0, x6), (0, x7), v8, v9] [(0, y1), (0, y0)] w Q ↔ ((y0 < y1 → VW d 145 58 [(2, x0), (0, x1), (0, x2), (0, x3), (1, x4), (9, 0), (0, x6), (0, x7), v8, v9] [] w Q) ∧ (¬ (y0 < y1) → VW d 145 131 [(2, x0), (0, x1), (0, x2), (0, x3), (1, x4), (9, 0), (0, x6), (0, x7), v8, v9] [] w Q)) :=
  (VW_b 1 (F := fun n => (if y0 < y1 then vrun n d 145 58 [(2, x0), (0, x1), (0, x2), (0, x3), (1, x4), (9, 0), (0, x6), (0, x7), v8, v9] [] w else vrun n d 145 131 [(2, x0), (0, x1), (0, x2), (0, x3), (1, x4), (9, 0), (0, x6), (0, x7), v8, v9] [] w)) (fun _ => rfl)).trans (EX_br.trans (and_congr (imp_congr Iff.rfl Iff.rfl) (imp_congr Iff.rfl Iff.rfl)))
set_option maxRecDepth 100000 in
theorem b145_58 {d : Nat} {w : vW} {x0 x1 x2 x3 x4 x6 x7 : Int} {v8 v9 : vV} {Q : Int → vW → Prop} : VW d 145 58 [(2, x0), (0, x1), (0, x2), (0, x3), (1, x4), (9, 0), (0, x6), (0, x7), v8, v9] [] w Q ↔ VC d 138 [(2, x0), (0, x2), (0, x7)] w (fun r w1 => VW d 145 65 [(2, x0), (0, x1), (0, x2), (0, x3), (1, x4), (9, 0), (0, x6), (0, x7), v8, v9] [(1, r)] w1 Q) :=
  (VW_b 4 (F := fun n => vcl (vrun n) d 145 65 138 3 1 [(2, x0), (0, x1), (0, x2), (0, x3), (1, x4), (9, 0), (0, x6), (0, x7), v8, v9] [(0, x7), (0, x2), (2, x0)] w) (fun _ => rfl)).trans (EX_call rfl)
set_option maxRecDepth 100000 in
theorem b145_65 {d : Nat} {w : vW} {x0 x1 x2 x3 x4 x6 x7 y0 : Int} {v8 v9 : vV} {Q : Int → vW → Prop} : VW d 145 65 [(2, x0), (0, x1), (0, x2), (0, x3), (1, x4), (9, 0), (0, x6), (0, x7), v8, v9] [(1, y0)] w Q ↔ (vkd w x0 = 22) ∧ VC d 112 [(2, x0), (1, y0), (0, x1), (0, vct w x0 4)] w (fun r w1 => VW d 145 78 [(2, x0), (0, x1), (0, x2), (0, x3), (1, x4), (9, 0), (0, x6), (0, x7), (1, y0), (9, 0)] [(1, r)] w1 Q) :=
  (VW_b 7 (F := fun n => if vkd w x0 = 22 then vcl (vrun n) d 145 78 112 4 1 [(2, x0), (0, x1), (0, x2), (0, x3), (1, x4), (9, 0), (0, x6), (0, x7), (1, y0), (9, 0)] [(0, vct w x0 4), (0, x1), (1, y0), (2, x0)] w else none) (fun _ => rfl)).trans (EX_if.trans (and_congr Iff.rfl (EX_call rfl)))
set_option maxRecDepth 100000 in
theorem b145_78 {d : Nat} {w : vW} {x0 x1 x2 x3 x4 x6 x7 x8 y0 : Int} {Q : Int → vW → Prop} : VW d 145 78 [(2, x0), (0, x1), (0, x2), (0, x3), (1, x4), (9, 0), (0, x6), (0, x7), (1, x8), (9, 0)] [(1, y0)] w Q ↔ (vkd w x0 = 22) ∧ (((vct w x0 35) = 0 → VW d 145 88 [(2, x0), (0, x1), (0, x2), (0, x3), (1, x4), (9, 0), (0, x6), (0, x7), (1, x8), (9, 0)] [(0, x6)] w Q) ∧ (¬ ((vct w x0 35) = 0) → VW d 145 92 [(2, x0), (0, x1), (0, x2), (0, x3), (1, x4), (9, 0), (0, x6), (0, x7), (1, x8), (9, 0)] [(0, x6)] w Q)) :=
  (VW_b 5 (F := fun n => if vkd w x0 = 22 then (if (vct w x0 35) = 0 then vrun n d 145 88 [(2, x0), (0, x1), (0, x2), (0, x3), (1, x4), (9, 0), (0, x6), (0, x7), (1, x8), (9, 0)] [(0, x6)] w else vrun n d 145 92 [(2, x0), (0, x1), (0, x2), (0, x3), (1, x4), (9, 0), (0, x6), (0, x7), (1, x8), (9, 0)] [(0, x6)] w) else none) (fun _ => rfl)).trans (EX_if.trans (and_congr Iff.rfl (EX_br.trans (and_congr (imp_congr Iff.rfl Iff.rfl) (imp_congr Iff.rfl Iff.rfl)))))
set_option maxRecDepth 100000 in
theorem b145_88 {d : Nat} {w : vW} {x0 x1 x2 x3 x4 x6 x7 x8 y0 : Int} {Q : Int → vW → Prop} : VW d 145 88 [(2, x0), (0, x1), (0, x2), (0, x3), (1, x4), (9, 0), (0, x6), (0, x7), (1, x8), (9, 0)] [(0, y0)] w Q ↔ VW d 145 93 [(2, x0), (0, x1), (0, x2), (0, x3), (1, x4), (9, 0), (0, x6), (0, x7), (1, x8), (9, 0)] [(0, 1), (0, y0)] w Q :=
  (VW_b 2 (F := fun n => vrun n d 145 93 [(2, x0), (0, x1), (0, x2), (0, x3), (1, x4), (9, 0), (0, x6), (0, x7), (1, x8), (9, 0)] [(0, 1), (0, y0)] w) (fun _ => rfl)).trans (Iff.rfl)
set_option maxRecDepth 100000 in
theorem b145_92 {d : Nat} {w : vW} {x0 x1 x2 x3 x4 x6 x7 x8 y0 : Int} {Q : Int → vW → Prop} : VW d 145 92 [(2, x0), (0, x1), (0, x2), (0, x3), (1, x4), (9, 0), (0, x6), (0, x7), (1, x8), (9, 0)] [(0, y0)] w Q ↔ VW d 145 93 [(2, x0), (0, x1), (0, x2), (0, x3), (1, x4), (9, 0), (0, x6), (0, x7), (1, x8), (9, 0)] [(0, 0), (0, y0)] w Q :=
  (VW_b 1 (F := fun n => vrun n d 145 93 [(2, x0), (0, x1), (0, x2), (0, x3), (1, x4), (9, 0), (0, x6), (0, x7), (1, x8), (9, 0)] [(0, 0), (0, y0)] w) (fun _ => rfl)).trans (Iff.rfl)
set_option maxRecDepth 100000 in
theorem b145_93 {d : Nat} {w : vW} {x0 x1 x2 x3 x4 x6 x7 x8 y0 y1 : Int} {Q : Int → vW → Prop} : VW d 145 93 [(2, x0), (0, x1), (0, x2), (0, x3), (1, x4), (9, 0), (0, x6), (0, x7), (1, x8), (9, 0)] [(0, y1), (0, y0)] w Q ↔ VC d 57 [(0, y1)] w (fun r w1 => VW d 145 96 [(2, x0), (0, x1), (0, x2), (0, x3), (1, x4), (9, 0), (0, x6), (0, x7), (1, x8), (9, 0)] [(0, r), (0, y0)] w1 Q) :=
  (VW_b 1 (F := fun n => vcl (vrun n) d 145 96 57 1 0 [(2, x0), (0, x1), (0, x2), (0, x3), (1, x4), (9, 0), (0, x6), (0, x7), (1, x8), (9, 0)] [(0, y1), (0, y0)] w) (fun _ => rfl)).trans (EX_call rfl)
set_option maxRecDepth 100000 in
theorem b145_96 {d : Nat} {w : vW} {x0 x1 x2 x3 x4 x6 x7 x8 y0 y1 : Int} {Q : Int → vW → Prop} : VW d 145 96 [(2, x0), (0, x1), (0, x2), (0, x3), (1, x4), (9, 0), (0, x6), (0, x7), (1, x8), (9, 0)] [(0, y1), (0, y0)] w Q ↔ (vkd w x0 = 22) ∧ ((x3 < (vct w x0 35) → VW d 145 107 [(2, x0), (0, x1), (0, x2), (0, x3), (1, x4), (9, 0), (0, w32 (y0 + y1)), (0, x7), (1, x8), (9, 0)] [] w Q) ∧ (¬ (x3 < (vct w x0 35)) → VW d 145 112 [(2, x0), (0, x1), (0, x2), (0, x3), (1, x4), (9, 0), (0, w32 (y0 + y1)), (0, x7), (1, x8), (9, 0)] [] w Q)) :=
  (VW_b 6 (F := fun n => if vkd w x0 = 22 then (if x3 < (vct w x0 35) then vrun n d 145 107 [(2, x0), (0, x1), (0, x2), (0, x3), (1, x4), (9, 0), (0, w32 (y0 + y1)), (0, x7), (1, x8), (9, 0)] [] w else vrun n d 145 112 [(2, x0), (0, x1), (0, x2), (0, x3), (1, x4), (9, 0), (0, w32 (y0 + y1)), (0, x7), (1, x8), (9, 0)] [] w) else none) (fun _ => rfl)).trans (EX_if.trans (and_congr Iff.rfl (EX_br.trans (and_congr (imp_congr Iff.rfl Iff.rfl) (imp_congr Iff.rfl Iff.rfl)))))
set_option maxRecDepth 100000 in
theorem b145_107 {d : Nat} {w : vW} {x0 x1 x2 x3 x4 x6 x7 x8 : Int} {Q : Int → vW → Prop} : VW d 145 107 [(2, x0), (0, x1), (0, x2), (0, x3), (1, x4), (9, 0), (0, x6), (0, x7), (1, x8), (9, 0)] [] w Q ↔ VW d 145 114 [(2, x0), (0, x1), (0, x2), (0, x3), (1, x4), (9, 0), (0, x6), (0, x7), (1, x8), (9, 0)] [(1, x8)] w Q :=
  (VW_b 2 (F := fun n => vrun n d 145 114 [(2, x0), (0, x1), (0, x2), (0, x3), (1, x4), (9, 0), (0, x6), (0, x7), (1, x8), (9, 0)] [(1, x8)] w) (fun _ => rfl)).trans (Iff.rfl)
set_option maxRecDepth 100000 in
theorem b145_112 {d : Nat} {w : vW} {x0 x1 x2 x3 x4 x6 x7 x8 : Int} {Q : Int → vW → Prop} : VW d 145 112 [(2, x0), (0, x1), (0, x2), (0, x3), (1, x4), (9, 0), (0, x6), (0, x7), (1, x8), (9, 0)] [] w Q ↔ VW d 145 114 [(2, x0), (0, x1), (0, x2), (0, x3), (1, x4), (9, 0), (0, x6), (0, x7), (1, x8), (9, 0)] [(1, x4)] w Q :=
  (VW_b 1 (F := fun n => vrun n d 145 114 [(2, x0), (0, x1), (0, x2), (0, x3), (1, x4), (9, 0), (0, x6), (0, x7), (1, x8), (9, 0)] [(1, x4)] w) (fun _ => rfl)).trans (Iff.rfl)
set_option maxRecDepth 100000 in
theorem b145_114 {d : Nat} {w : vW} {x0 x1 x2 x3 x4 x6 x7 x8 y0 : Int} {Q : Int → vW → Prop} : VW d 145 114 [(2, x0), (0, x1), (0, x2), (0, x3), (1, x4), (9, 0), (0, x6), (0, x7), (1, x8), (9, 0)] [(1, y0)] w Q ↔ (vkd w x0 = 22) ∧ VW d 145 48 [(2, x0), (0, x1), (0, x2), (0, max x3 (vct w x0 35)), (1, y0), (9, 0), (0, x6), (0, w32 (x7 + 1)), (1, x8), (9, 0)] [] w Q :=
  (VW_b 8 (F := fun n => if vkd w x0 = 22 then vrun n d 145 48 [(2, x0), (0, x1), (0, x2), (0, max x3 (vct w x0 35)), (1, y0), (9, 0), (0, x6), (0, w32 (x7 + 1)), (1, x8), (9, 0)] [] w else none) (fun _ => rfl)).trans (EX_if.trans (and_congr Iff.rfl (Iff.rfl)))
set_option maxRecDepth 100000 in
theorem b145_131 {d : Nat} {w : vW} {x0 x1 x2 x3 x4 x6 x7 : Int} {v8 v9 : vV} {Q : Int → vW → Prop} : VW d 145 131 [(2, x0), (0, x1), (0, x2), (0, x3), (1, x4), (9, 0), (0, x6), (0, x7), v8, v9] [] w Q ↔ (vkd w x0 = 22) ∧ VW d 145 136 [(2, x0), (0, x1), (0, x2), (0, x3), (1, x4), (9, 0), (0, x6), (0, x7), v8, v9] [] (vsv w x0 1 0) Q :=
  (VW_b 3 (F := fun n => if vkd w x0 = 22 then vrun n d 145 136 [(2, x0), (0, x1), (0, x2), (0, x3), (1, x4), (9, 0), (0, x6), (0, x7), v8, v9] [] (vsv w x0 1 0) else none) (fun _ => rfl)).trans (EX_if.trans (and_congr Iff.rfl (Iff.rfl)))
set_option maxRecDepth 100000 in
theorem b145_136 {d : Nat} {w : vW} {x0 x1 x2 x3 x4 x6 x7 : Int} {v8 v9 : vV} {Q : Int → vW → Prop} : VW d 145 136 [(2, x0), (0, x1), (0, x2), (0, x3), (1, x4), (9, 0), (0, x6), (0, x7), v8, v9] [] w Q ↔ VC d 58 [(2, x0), (1, x4)] w (fun _ w1 => VW d 145 142 [(2, x0), (0, x1), (0, x2), (0, x3), (1, x4), (9, 0), (0, x6), (0, x7), v8, v9] [] w1 Q) :=
  (VW_b 3 (F := fun n => vcl (vrun n) d 145 142 58 2 9 [(2, x0), (0, x1), (0, x2), (0, x3), (1, x4), (9, 0), (0, x6), (0, x7), v8, v9] [(1, x4), (2, x0)] w) (fun _ => rfl)).trans (EX_call rfl)
set_option maxRecDepth 100000 in
theorem b145_142 {d : Nat} {w : vW} {x0 x1 x2 x3 x4 x6 x7 : Int} {v8 v9 : vV} {Q : Int → vW → Prop} : VW d 145 142 [(2, x0), (0, x1), (0, x2), (0, x3), (1, x4), (9, 0), (0, x6), (0, x7), v8, v9] [] w Q ↔ VC d 58 [(2, x0), (1, x6)] w (fun _ w1 => VW d 145 149 [(2, x0), (0, x1), (0, x2), (0, x3), (1, x4), (9, 0), (0, x6), (0, x7), v8, v9] [] w1 Q) :=
  (VW_b 4 (F := fun n => vcl (vrun n) d 145 149 58 2 9 [(2, x0), (0, x1), (0, x2), (0, x3), (1, x4), (9, 0), (0, x6), (0, x7), v8, v9] [(1, x6), (2, x0)] w) (fun _ => rfl)).trans (EX_call rfl)
set_option maxRecDepth 100000 in
theorem b145_149 {d : Nat} {w : vW} {x0 x1 x2 x3 x4 x6 x7 : Int} {v8 v9 : vV} {Q : Int → vW → Prop} : VW d 145 149 [(2, x0), (0, x1), (0, x2), (0, x3), (1, x4), (9, 0), (0, x6), (0, x7), v8, v9] [] w Q ↔ Q x3 w :=
  (VW_b 2 (F := fun n => some (0, x3, w)) (fun _ => rfl)).trans (EX_ret0)
/-! 146: StrikeWhatCancelsModel.endsIn(JI)Z -/
set_option maxRecDepth 100000 in
theorem b146_0 {d : Nat} {w : vW} {x0 x1 x3 : Int} {Q : Int → vW → Prop} : VW d 146 0 [(2, x0), (1, x1), (9, 0), (0, x3), (9, 0), (9, 0)] [] w Q ↔ VW d 146 6 [(2, x0), (1, x1), (9, 0), (0, x3), (0, 0), (0, 0)] [] w Q :=
  (VW_b 4 (F := fun n => vrun n d 146 6 [(2, x0), (1, x1), (9, 0), (0, x3), (0, 0), (0, 0)] [] w) (fun _ => rfl)).trans (Iff.rfl)
set_option maxRecDepth 100000 in
theorem b146_6 {d : Nat} {w : vW} {x0 x1 x3 x4 x5 : Int} {Q : Int → vW → Prop} : VW d 146 6 [(2, x0), (1, x1), (9, 0), (0, x3), (0, x4), (0, x5)] [] w Q ↔ (vkd w x0 = 22) ∧ ((x5 < (vct w x0 4) → VW d 146 15 [(2, x0), (1, x1), (9, 0), (0, x3), (0, x4), (0, x5)] [] w Q) ∧ (¬ (x5 < (vct w x0 4)) → VW d 146 69 [(2, x0), (1, x1), (9, 0), (0, x3), (0, x4), (0, x5)] [] w Q)) :=
  (VW_b 4 (F := fun n => if vkd w x0 = 22 then (if x5 < (vct w x0 4) then vrun n d 146 15 [(2, x0), (1, x1), (9, 0), (0, x3), (0, x4), (0, x5)] [] w else vrun n d 146 69 [(2, x0), (1, x1), (9, 0), (0, x3), (0, x4), (0, x5)] [] w) else none) (fun _ => rfl)).trans (EX_if.trans (and_congr Iff.rfl (EX_br.trans (and_congr (imp_congr Iff.rfl Iff.rfl) (imp_congr Iff.rfl Iff.rfl)))))
set_option maxRecDepth 100000 in
theorem b146_15 {d : Nat} {w : vW} {x0 x1 x3 x4 x5 : Int} {Q : Int → vW → Prop} : VW d 146 15 [(2, x0), (1, x1), (9, 0), (0, x3), (0, x4), (0, x5)] [] w Q ↔ ((x4 = 0 → VW d 146 20 [(2, x0), (1, x1), (9, 0), (0, x3), (0, x4), (0, x5)] [] w Q) ∧ (¬ (x4 = 0) → VW d 146 56 [(2, x0), (1, x1), (9, 0), (0, x3), (0, x4), (0, x5)] [] w Q)) :=
  (VW_b 2 (F := fun n => (if x4 = 0 then vrun n d 146 20 [(2, x0), (1, x1), (9, 0), (0, x3), (0, x4), (0, x5)] [] w else vrun n d 146 56 [(2, x0), (1, x1), (9, 0), (0, x3), (0, x4), (0, x5)] [] w)) (fun _ => rfl)).trans (EX_br.trans (and_congr (imp_congr Iff.rfl Iff.rfl) (imp_congr Iff.rfl Iff.rfl)))
set_option maxRecDepth 100000 in
theorem b146_20 {d : Nat} {w : vW} {x0 x1 x3 x4 x5 : Int} {Q : Int → vW → Prop} : VW d 146 20 [(2, x0), (1, x1), (9, 0), (0, x3), (0, x4), (0, x5)] [] w Q ↔ (vkd w x0 = 22) ∧ (vkd w (vct w x0 8) = 1 ∧ (0 : Int) ≤ x5 ∧ x5 < vln w (vct w x0 8)) ∧ ((x3 < (vct w (vct w x0 8) x5) → VW d 146 60 [(2, x0), (1, x1), (9, 0), (0, x3), (0, x4), (0, x5)] [] w Q) ∧ (¬ (x3 < (vct w (vct w x0 8) x5)) → VW d 146 31 [(2, x0), (1, x1), (9, 0), (0, x3), (0, x4), (0, x5)] [] w Q)) :=
  (VW_b 6 (F := fun n => if vkd w x0 = 22 then if vkd w (vct w x0 8) = 1 ∧ (0 : Int) ≤ x5 ∧ x5 < vln w (vct w x0 8) then (if x3 < (vct w (vct w x0 8) x5) then vrun n d 146 60 [(2, x0), (1, x1), (9, 0), (0, x3), (0, x4), (0, x5)] [] w else vrun n d 146 31 [(2, x0), (1, x1), (9, 0), (0, x3), (0, x4), (0, x5)] [] w) else none else none) (fun _ => rfl)).trans (EX_if.trans (and_congr Iff.rfl (EX_if.trans (and_congr Iff.rfl (EX_br.trans (and_congr (imp_congr Iff.rfl Iff.rfl) (imp_congr Iff.rfl Iff.rfl)))))))
set_option maxRecDepth 100000 in
theorem b146_31 {d : Nat} {w : vW} {x0 x1 x3 x4 x5 : Int} {Q : Int → vW → Prop} : VW d 146 31 [(2, x0), (1, x1), (9, 0), (0, x3), (0, x4), (0, x5)] [] w Q ↔ (vkd w x0 = 22) ∧ (vkd w x0 = 22) ∧ (vkd w (vct w x0 8) = 1 ∧ (0 : Int) ≤ x5 ∧ x5 < vln w (vct w x0 8)) ∧ (vkd w (vct w x0 3) = 2 ∧ (0 : Int) ≤ (vct w (vct w x0 8) x5) ∧ (vct w (vct w x0 8) x5) < vln w (vct w x0 3)) ∧ ¬ ((vct w (vct w x0 3) (vct w (vct w x0 8) x5)) = 0) ∧ (vkd w x0 = 22) ∧ (vkd w (vct w x0 6) = 2 ∧ (0 : Int) ≤ x5 ∧ x5 < vln w (vct w x0 6)) ∧ (((vlc (Int.tmod x1 (vct w (vct w x0 3) (vct w (vct w x0 8) x5))) (vct w (vct w x0 6) x5)) = 0 → VW d 146 56 [(2, x0), (1, x1), (9, 0), (0, x3), (0, x4), (0, x5)] [] w Q) ∧ (¬ ((vlc (Int.tmod x1 (vct w (vct w x0 3) (vct w (vct w x0 8) x5))) (vct w (vct w x0 6) x5)) = 0) → VW d 146 60 [(2, x0), (1, x1), (9, 0), (0, x3), (0, x4), (0, x5)] [] w Q)) :=
  (VW_b 15 (F := fun n => if vkd w x0 = 22 then if vkd w x0 = 22 then if vkd w (vct w x0 8) = 1 ∧ (0 : Int) ≤ x5 ∧ x5 < vln w (vct w x0 8) then if vkd w (vct w x0 3) = 2 ∧ (0 : Int) ≤ (vct w (vct w x0 8) x5) ∧ (vct w (vct w x0 8) x5) < vln w (vct w x0 3) then if (vct w (vct w x0 3) (vct w (vct w x0 8) x5)) = 0 then none else if vkd w x0 = 22 then if vkd w (vct w x0 6) = 2 ∧ (0 : Int) ≤ x5 ∧ x5 < vln w (vct w x0 6) then (if (vlc (Int.tmod x1 (vct w (vct w x0 3) (vct w (vct w x0 8) x5))) (vct w (vct w x0 6) x5)) = 0 then vrun n d 146 56 [(2, x0), (1, x1), (9, 0), (0, x3), (0, x4), (0, x5)] [] w else vrun n d 146 60 [(2, x0), (1, x1), (9, 0), (0, x3), (0, x4), (0, x5)] [] w) else none else none else none else none else none else none) (fun _ => rfl)).trans (EX_if.trans (and_congr Iff.rfl (EX_if.trans (and_congr Iff.rfl (EX_if.trans (and_congr Iff.rfl (EX_if.trans (and_congr Iff.rfl (EX_ifn.trans (and_congr Iff.rfl (EX_if.trans (and_congr Iff.rfl (EX_if.trans (and_congr Iff.rfl (EX_br.trans (and_congr (imp_congr Iff.rfl Iff.rfl) (imp_congr Iff.rfl Iff.rfl)))))))))))))))))
set_option maxRecDepth 100000 in
theorem b146_56 {d : Nat} {w : vW} {x0 x1 x3 x4 x5 : Int} {Q : Int → vW → Prop} : VW d 146 56 [(2, x0), (1, x1), (9, 0), (0, x3), (0, x4), (0, x5)] [] w Q ↔ VW d 146 61 [(2, x0), (1, x1), (9, 0), (0, x3), (0, x4), (0, x5)] [(0, 1)] w Q :=
  (VW_b 2 (F := fun n => vrun n d 146 61 [(2, x0), (1, x1), (9, 0), (0, x3), (0, x4), (0, x5)] [(0, 1)] w) (fun _ => rfl)).trans (Iff.rfl)
set_option maxRecDepth 100000 in
theorem b146_60 {d : Nat} {w : vW} {x0 x1 x3 x4 x5 : Int} {Q : Int → vW → Prop} : VW d 146 60 [(2, x0), (1, x1), (9, 0), (0, x3), (0, x4), (0, x5)] [] w Q ↔ VW d 146 61 [(2, x0), (1, x1), (9, 0), (0, x3), (0, x4), (0, x5)] [(0, 0)] w Q :=
  (VW_b 1 (F := fun n => vrun n d 146 61 [(2, x0), (1, x1), (9, 0), (0, x3), (0, x4), (0, x5)] [(0, 0)] w) (fun _ => rfl)).trans (Iff.rfl)
set_option maxRecDepth 100000 in
theorem b146_61 {d : Nat} {w : vW} {x0 x1 x3 x4 x5 y0 : Int} {Q : Int → vW → Prop} : VW d 146 61 [(2, x0), (1, x1), (9, 0), (0, x3), (0, x4), (0, x5)] [(0, y0)] w Q ↔ VW d 146 6 [(2, x0), (1, x1), (9, 0), (0, x3), (0, y0), (0, w32 (x5 + 1))] [] w Q :=
  (VW_b 3 (F := fun n => vrun n d 146 6 [(2, x0), (1, x1), (9, 0), (0, x3), (0, y0), (0, w32 (x5 + 1))] [] w) (fun _ => rfl)).trans (Iff.rfl)
set_option maxRecDepth 100000 in
theorem b146_69 {d : Nat} {w : vW} {x0 x1 x3 x4 x5 : Int} {Q : Int → vW → Prop} : VW d 146 69 [(2, x0), (1, x1), (9, 0), (0, x3), (0, x4), (0, x5)] [] w Q ↔ Q x4 w :=
  (VW_b 2 (F := fun n => some (0, x4, w)) (fun _ => rfl)).trans (EX_ret0)
/-! 147: StrikeWhatCancelsModel.still(I)J -/
set_option maxRecDepth 100000 in
theorem b147_0 {d : Nat} {w : vW} {x0 x1 : Int} {Q : Int → vW → Prop} : VW d 147 0 [(2, x0), (0, x1), (9, 0), (9, 0), (9, 0), (9, 0), (9, 0)] [] w Q ↔ (vkd w x0 = 22) ∧ VW d 147 5 [(2, x0), (0, x1), (9, 0), (9, 0), (9, 0), (9, 0), (9, 0)] [] (vsv w x0 0 0) Q :=
  (VW_b 3 (F := fun n => if vkd w x0 = 22 then vrun n d 147 5 [(2, x0), (0, x1), (9, 0), (9, 0), (9, 0), (9, 0), (9, 0)] [] (vsv w x0 0 0) else none) (fun _ => rfl)).trans (EX_if.trans (and_congr Iff.rfl (Iff.rfl)))
set_option maxRecDepth 100000 in
theorem b147_5 {d : Nat} {w : vW} {x0 x1 : Int} {Q : Int → vW → Prop} : VW d 147 5 [(2, x0), (0, x1), (9, 0), (9, 0), (9, 0), (9, 0), (9, 0)] [] w Q ↔ VC d 56 [(1, x1), (1, 0), (1, 20)] w (fun r w1 => VW d 147 14 [(2, x0), (0, x1), (9, 0), (9, 0), (9, 0), (9, 0), (9, 0)] [(0, r)] w1 Q) :=
  (VW_b 5 (F := fun n => vcl (vrun n) d 147 14 56 3 0 [(2, x0), (0, x1), (9, 0), (9, 0), (9, 0), (9, 0), (9, 0)] [(1, 20), (1, 0), (1, x1)] w) (fun _ => rfl)).trans (EX_call rfl)
set_option maxRecDepth 100000 in
theorem b147_14 {d : Nat} {w : vW} {x0 x1 y0 : Int} {Q : Int → vW → Prop} : VW d 147 14 [(2, x0), (0, x1), (9, 0), (9, 0), (9, 0), (9, 0), (9, 0)] [(0, y0)] w Q ↔ ((y0 = 0 → VW d 147 17 [(2, x0), (0, x1), (9, 0), (9, 0), (9, 0), (9, 0), (9, 0)] [] w Q) ∧ (¬ (y0 = 0) → VW d 147 21 [(2, x0), (0, x1), (9, 0), (9, 0), (9, 0), (9, 0), (9, 0)] [] w Q)) :=
  (VW_b 1 (F := fun n => (if y0 = 0 then vrun n d 147 17 [(2, x0), (0, x1), (9, 0), (9, 0), (9, 0), (9, 0), (9, 0)] [] w else vrun n d 147 21 [(2, x0), (0, x1), (9, 0), (9, 0), (9, 0), (9, 0), (9, 0)] [] w)) (fun _ => rfl)).trans (EX_br.trans (and_congr (imp_congr Iff.rfl Iff.rfl) (imp_congr Iff.rfl Iff.rfl)))
set_option maxRecDepth 100000 in
theorem b147_17 {d : Nat} {w : vW} {x0 x1 : Int} {Q : Int → vW → Prop} : VW d 147 17 [(2, x0), (0, x1), (9, 0), (9, 0), (9, 0), (9, 0), (9, 0)] [] w Q ↔ Q (-1) w :=
  (VW_b 2 (F := fun n => some (0, (-1), w)) (fun _ => rfl)).trans (EX_ret0)
set_option maxRecDepth 100000 in
theorem b147_21 {d : Nat} {w : vW} {x0 x1 : Int} {Q : Int → vW → Prop} : VW d 147 21 [(2, x0), (0, x1), (9, 0), (9, 0), (9, 0), (9, 0), (9, 0)] [] w Q ↔ VW d 147 23 [(2, x0), (0, x1), (0, 0), (9, 0), (9, 0), (9, 0), (9, 0)] [] w Q :=
  (VW_b 2 (F := fun n => vrun n d 147 23 [(2, x0), (0, x1), (0, 0), (9, 0), (9, 0), (9, 0), (9, 0)] [] w) (fun _ => rfl)).trans (Iff.rfl)
set_option maxRecDepth 100000 in
theorem b147_23 {d : Nat} {w : vW} {x0 x1 x2 : Int} {Q : Int → vW → Prop} : VW d 147 23 [(2, x0), (0, x1), (0, x2), (9, 0), (9, 0), (9, 0), (9, 0)] [] w Q ↔ ((x2 < 6561 → VW d 147 30 [(2, x0), (0, x1), (0, x2), (9, 0), (9, 0), (9, 0), (9, 0)] [] w Q) ∧ (¬ (x2 < 6561) → VW d 147 55 [(2, x0), (0, x1), (0, x2), (9, 0), (9, 0), (9, 0), (9, 0)] [] w Q)) :=
  (VW_b 3 (F := fun n => (if x2 < 6561 then vrun n d 147 30 [(2, x0), (0, x1), (0, x2), (9, 0), (9, 0), (9, 0), (9, 0)] [] w else vrun n d 147 55 [(2, x0), (0, x1), (0, x2), (9, 0), (9, 0), (9, 0), (9, 0)] [] w)) (fun _ => rfl)).trans (EX_br.trans (and_congr (imp_congr Iff.rfl Iff.rfl) (imp_congr Iff.rfl Iff.rfl)))
set_option maxRecDepth 100000 in
theorem b147_30 {d : Nat} {w : vW} {x0 x1 x2 : Int} {Q : Int → vW → Prop} : VW d 147 30 [(2, x0), (0, x1), (0, x2), (9, 0), (9, 0), (9, 0), (9, 0)] [] w Q ↔ (vkd w x0 = 22) ∧ ((x2 = 0 → VW d 147 39 [(2, x0), (0, x1), (0, x2), (9, 0), (9, 0), (9, 0), (9, 0)] [(0, x2), (2, vct w x0 56)] w Q) ∧ (¬ (x2 = 0) → VW d 147 43 [(2, x0), (0, x1), (0, x2), (9, 0), (9, 0), (9, 0), (9, 0)] [(0, x2), (2, vct w x0 56)] w Q)) :=
  (VW_b 5 (F := fun n => if vkd w x0 = 22 then (if x2 = 0 then vrun n d 147 39 [(2, x0), (0, x1), (0, x2), (9, 0), (9, 0), (9, 0), (9, 0)] [(0, x2), (2, vct w x0 56)] w else vrun n d 147 43 [(2, x0), (0, x1), (0, x2), (9, 0), (9, 0), (9, 0), (9, 0)] [(0, x2), (2, vct w x0 56)] w) else none) (fun _ => rfl)).trans (EX_if.trans (and_congr Iff.rfl (EX_br.trans (and_congr (imp_congr Iff.rfl Iff.rfl) (imp_congr Iff.rfl Iff.rfl)))))
set_option maxRecDepth 100000 in
theorem b147_39 {d : Nat} {w : vW} {x0 x1 x2 y0 y1 : Int} {Q : Int → vW → Prop} : VW d 147 39 [(2, x0), (0, x1), (0, x2), (9, 0), (9, 0), (9, 0), (9, 0)] [(0, y1), (2, y0)] w Q ↔ VW d 147 44 [(2, x0), (0, x1), (0, x2), (9, 0), (9, 0), (9, 0), (9, 0)] [(0, 1), (0, y1), (2, y0)] w Q :=
  (VW_b 2 (F := fun n => vrun n d 147 44 [(2, x0), (0, x1), (0, x2), (9, 0), (9, 0), (9, 0), (9, 0)] [(0, 1), (0, y1), (2, y0)] w) (fun _ => rfl)).trans (Iff.rfl)
set_option maxRecDepth 100000 in
theorem b147_43 {d : Nat} {w : vW} {x0 x1 x2 y0 y1 : Int} {Q : Int → vW → Prop} : VW d 147 43 [(2, x0), (0, x1), (0, x2), (9, 0), (9, 0), (9, 0), (9, 0)] [(0, y1), (2, y0)] w Q ↔ VW d 147 44 [(2, x0), (0, x1), (0, x2), (9, 0), (9, 0), (9, 0), (9, 0)] [(0, 0), (0, y1), (2, y0)] w Q :=
  (VW_b 1 (F := fun n => vrun n d 147 44 [(2, x0), (0, x1), (0, x2), (9, 0), (9, 0), (9, 0), (9, 0)] [(0, 0), (0, y1), (2, y0)] w) (fun _ => rfl)).trans (Iff.rfl)
set_option maxRecDepth 100000 in
theorem b147_44 {d : Nat} {w : vW} {x0 x1 x2 y0 y1 y2 : Int} {Q : Int → vW → Prop} : VW d 147 44 [(2, x0), (0, x1), (0, x2), (9, 0), (9, 0), (9, 0), (9, 0)] [(0, y2), (0, y1), (2, y0)] w Q ↔ VC d 57 [(0, y2)] w (fun r w1 => VW d 147 47 [(2, x0), (0, x1), (0, x2), (9, 0), (9, 0), (9, 0), (9, 0)] [(0, r), (0, y1), (2, y0)] w1 Q) :=
  (VW_b 1 (F := fun n => vcl (vrun n) d 147 47 57 1 0 [(2, x0), (0, x1), (0, x2), (9, 0), (9, 0), (9, 0), (9, 0)] [(0, y2), (0, y1), (2, y0)] w) (fun _ => rfl)).trans (EX_call rfl)
set_option maxRecDepth 100000 in
theorem b147_47 {d : Nat} {w : vW} {x0 x1 x2 y0 y1 y2 : Int} {Q : Int → vW → Prop} : VW d 147 47 [(2, x0), (0, x1), (0, x2), (9, 0), (9, 0), (9, 0), (9, 0)] [(0, y2), (0, y1), (2, y0)] w Q ↔ (vkd w y0 = 2 ∧ (0 : Int) ≤ y1 ∧ y1 < vln w y0) ∧ VW d 147 49 [(2, x0), (0, x1), (0, x2), (9, 0), (9, 0), (9, 0), (9, 0)] [] (vsv w y0 y1 y2) Q :=
  (VW_b 2 (F := fun n => if vkd w y0 = 2 ∧ (0 : Int) ≤ y1 ∧ y1 < vln w y0 then vrun n d 147 49 [(2, x0), (0, x1), (0, x2), (9, 0), (9, 0), (9, 0), (9, 0)] [] (vsv w y0 y1 y2) else none) (fun _ => rfl)).trans (EX_if.trans (and_congr Iff.rfl (Iff.rfl)))
set_option maxRecDepth 100000 in
theorem b147_49 {d : Nat} {w : vW} {x0 x1 x2 : Int} {Q : Int → vW → Prop} : VW d 147 49 [(2, x0), (0, x1), (0, x2), (9, 0), (9, 0), (9, 0), (9, 0)] [] w Q ↔ VW d 147 23 [(2, x0), (0, x1), (0, w32 (x2 + 1)), (9, 0), (9, 0), (9, 0), (9, 0)] [] w Q :=
  (VW_b 2 (F := fun n => vrun n d 147 23 [(2, x0), (0, x1), (0, w32 (x2 + 1)), (9, 0), (9, 0), (9, 0), (9, 0)] [] w) (fun _ => rfl)).trans (Iff.rfl)
set_option maxRecDepth 100000 in
theorem b147_55 {d : Nat} {w : vW} {x0 x1 x2 : Int} {Q : Int → vW → Prop} : VW d 147 55 [(2, x0), (0, x1), (0, x2), (9, 0), (9, 0), (9, 0), (9, 0)] [] w Q ↔ VW d 147 57 [(2, x0), (0, x1), (0, 0), (9, 0), (9, 0), (9, 0), (9, 0)] [] w Q :=
  (VW_b 2 (F := fun n => vrun n d 147 57 [(2, x0), (0, x1), (0, 0), (9, 0), (9, 0), (9, 0), (9, 0)] [] w) (fun _ => rfl)).trans (Iff.rfl)
set_option maxRecDepth 100000 in
theorem b147_57 {d : Nat} {w : vW} {x0 x1 x2 : Int} {v3 v4 v5 v6 : vV} {Q : Int → vW → Prop} : VW d 147 57 [(2, x0), (0, x1), (0, x2), v3, v4, v5, v6] [] w Q ↔ ((x2 < x1 → VW d 147 62 [(2, x0), (0, x1), (0, x2), v3, v4, v5, v6] [] w Q) ∧ (¬ (x2 < x1) → VW d 147 200 [(2, x0), (0, x1), (0, x2), v3, v4, v5, v6] [] w Q)) :=
  (VW_b 3 (F := fun n => (if x2 < x1 then vrun n d 147 62 [(2, x0), (0, x1), (0, x2), v3, v4, v5, v6] [] w else vrun n d 147 200 [(2, x0), (0, x1), (0, x2), v3, v4, v5, v6] [] w)) (fun _ => rfl)).trans (EX_br.trans (and_congr (imp_congr Iff.rfl Iff.rfl) (imp_congr Iff.rfl Iff.rfl)))
set_option maxRecDepth 100000 in
theorem b147_62 {d : Nat} {w : vW} {x0 x1 x2 : Int} {v3 v4 v5 v6 : vV} {Q : Int → vW → Prop} : VW d 147 62 [(2, x0), (0, x1), (0, x2), v3, v4, v5, v6] [] w Q ↔ VW d 147 64 [(2, x0), (0, x1), (0, x2), (0, 0), v4, v5, v6] [] w Q :=
  (VW_b 2 (F := fun n => vrun n d 147 64 [(2, x0), (0, x1), (0, x2), (0, 0), v4, v5, v6] [] w) (fun _ => rfl)).trans (Iff.rfl)
set_option maxRecDepth 100000 in
theorem b147_64 {d : Nat} {w : vW} {x0 x1 x2 x3 : Int} {v4 v5 v6 : vV} {Q : Int → vW → Prop} : VW d 147 64 [(2, x0), (0, x1), (0, x2), (0, x3), v4, v5, v6] [] w Q ↔ ((x3 < 6561 → VW d 147 71 [(2, x0), (0, x1), (0, x2), (0, x3), v4, v5, v6] [] w Q) ∧ (¬ (x3 < 6561) → VW d 147 84 [(2, x0), (0, x1), (0, x2), (0, x3), v4, v5, v6] [] w Q)) :=
  (VW_b 3 (F := fun n => (if x3 < 6561 then vrun n d 147 71 [(2, x0), (0, x1), (0, x2), (0, x3), v4, v5, v6] [] w else vrun n d 147 84 [(2, x0), (0, x1), (0, x2), (0, x3), v4, v5, v6] [] w)) (fun _ => rfl)).trans (EX_br.trans (and_congr (imp_congr Iff.rfl Iff.rfl) (imp_congr Iff.rfl Iff.rfl)))
set_option maxRecDepth 100000 in
theorem b147_71 {d : Nat} {w : vW} {x0 x1 x2 x3 : Int} {v4 v5 v6 : vV} {Q : Int → vW → Prop} : VW d 147 71 [(2, x0), (0, x1), (0, x2), (0, x3), v4, v5, v6] [] w Q ↔ (vkd w x0 = 22) ∧ (vkd w (vct w x0 57) = 2 ∧ (0 : Int) ≤ x3 ∧ x3 < vln w (vct w x0 57)) ∧ VW d 147 78 [(2, x0), (0, x1), (0, x2), (0, x3), v4, v5, v6] [] (vsv w (vct w x0 57) x3 0) Q :=
  (VW_b 5 (F := fun n => if vkd w x0 = 22 then if vkd w (vct w x0 57) = 2 ∧ (0 : Int) ≤ x3 ∧ x3 < vln w (vct w x0 57) then vrun n d 147 78 [(2, x0), (0, x1), (0, x2), (0, x3), v4, v5, v6] [] (vsv w (vct w x0 57) x3 0) else none else none) (fun _ => rfl)).trans (EX_if.trans (and_congr Iff.rfl (EX_if.trans (and_congr Iff.rfl (Iff.rfl)))))
set_option maxRecDepth 100000 in
theorem b147_78 {d : Nat} {w : vW} {x0 x1 x2 x3 : Int} {v4 v5 v6 : vV} {Q : Int → vW → Prop} : VW d 147 78 [(2, x0), (0, x1), (0, x2), (0, x3), v4, v5, v6] [] w Q ↔ VW d 147 64 [(2, x0), (0, x1), (0, x2), (0, w32 (x3 + 1)), v4, v5, v6] [] w Q :=
  (VW_b 2 (F := fun n => vrun n d 147 64 [(2, x0), (0, x1), (0, x2), (0, w32 (x3 + 1)), v4, v5, v6] [] w) (fun _ => rfl)).trans (Iff.rfl)
set_option maxRecDepth 100000 in
theorem b147_84 {d : Nat} {w : vW} {x0 x1 x2 x3 : Int} {v4 v5 v6 : vV} {Q : Int → vW → Prop} : VW d 147 84 [(2, x0), (0, x1), (0, x2), (0, x3), v4, v5, v6] [] w Q ↔ VW d 147 86 [(2, x0), (0, x1), (0, x2), (0, 0), v4, v5, v6] [] w Q :=
  (VW_b 2 (F := fun n => vrun n d 147 86 [(2, x0), (0, x1), (0, x2), (0, 0), v4, v5, v6] [] w) (fun _ => rfl)).trans (Iff.rfl)
set_option maxRecDepth 100000 in
theorem b147_86 {d : Nat} {w : vW} {x0 x1 x2 x3 : Int} {v4 v5 v6 : vV} {Q : Int → vW → Prop} : VW d 147 86 [(2, x0), (0, x1), (0, x2), (0, x3), v4, v5, v6] [] w Q ↔ ((x3 < 6561 → VW d 147 93 [(2, x0), (0, x1), (0, x2), (0, x3), v4, v5, v6] [] w Q) ∧ (¬ (x3 < 6561) → VW d 147 176 [(2, x0), (0, x1), (0, x2), (0, x3), v4, v5, v6] [] w Q)) :=
  (VW_b 3 (F := fun n => (if x3 < 6561 then vrun n d 147 93 [(2, x0), (0, x1), (0, x2), (0, x3), v4, v5, v6] [] w else vrun n d 147 176 [(2, x0), (0, x1), (0, x2), (0, x3), v4, v5, v6] [] w)) (fun _ => rfl)).trans (EX_br.trans (and_congr (imp_congr Iff.rfl Iff.rfl) (imp_congr Iff.rfl Iff.rfl)))
set_option maxRecDepth 100000 in
theorem b147_93 {d : Nat} {w : vW} {x0 x1 x2 x3 : Int} {v4 v5 v6 : vV} {Q : Int → vW → Prop} : VW d 147 93 [(2, x0), (0, x1), (0, x2), (0, x3), v4, v5, v6] [] w Q ↔ VW d 147 96 [(2, x0), (0, x1), (0, x2), (0, x3), (0, 1), v5, v6] [] w Q :=
  (VW_b 2 (F := fun n => vrun n d 147 96 [(2, x0), (0, x1), (0, x2), (0, x3), (0, 1), v5, v6] [] w) (fun _ => rfl)).trans (Iff.rfl)
set_option maxRecDepth 100000 in
theorem b147_96 {d : Nat} {w : vW} {x0 x1 x2 x3 x4 : Int} {v5 v6 : vV} {Q : Int → vW → Prop} : VW d 147 96 [(2, x0), (0, x1), (0, x2), (0, x3), (0, x4), v5, v6] [] w Q ↔ (vkd w x0 = 22) ∧ (((vct w x0 12) < x4 → VW d 147 170 [(2, x0), (0, x1), (0, x2), (0, x3), (0, x4), v5, v6] [] w Q) ∧ (¬ ((vct w x0 12) < x4) → VW d 147 105 [(2, x0), (0, x1), (0, x2), (0, x3), (0, x4), v5, v6] [] w Q)) :=
  (VW_b 4 (F := fun n => if vkd w x0 = 22 then (if (vct w x0 12) < x4 then vrun n d 147 170 [(2, x0), (0, x1), (0, x2), (0, x3), (0, x4), v5, v6] [] w else vrun n d 147 105 [(2, x0), (0, x1), (0, x2), (0, x3), (0, x4), v5, v6] [] w) else none) (fun _ => rfl)).trans (EX_if.trans (and_congr Iff.rfl (EX_br.trans (and_congr (imp_congr Iff.rfl Iff.rfl) (imp_congr Iff.rfl Iff.rfl)))))
set_option maxRecDepth 100000 in
theorem b147_105 {d : Nat} {w : vW} {x0 x1 x2 x3 x4 : Int} {v5 v6 : vV} {Q : Int → vW → Prop} : VW d 147 105 [(2, x0), (0, x1), (0, x2), (0, x3), (0, x4), v5, v6] [] w Q ↔ (vkd w x0 = 22) ∧ (vkd w (vct w x0 56) = 2 ∧ (0 : Int) ≤ x3 ∧ x3 < vln w (vct w x0 56)) ∧ ((0 < (vlc (vct w (vct w x0 56) x3) 0) → VW d 147 116 [(2, x0), (0, x1), (0, x2), (0, x3), (0, x4), v5, v6] [] w Q) ∧ (¬ (0 < (vlc (vct w (vct w x0 56) x3) 0)) → VW d 147 170 [(2, x0), (0, x1), (0, x2), (0, x3), (0, x4), v5, v6] [] w Q)) :=
  (VW_b 7 (F := fun n => if vkd w x0 = 22 then if vkd w (vct w x0 56) = 2 ∧ (0 : Int) ≤ x3 ∧ x3 < vln w (vct w x0 56) then (if 0 < (vlc (vct w (vct w x0 56) x3) 0) then vrun n d 147 116 [(2, x0), (0, x1), (0, x2), (0, x3), (0, x4), v5, v6] [] w else vrun n d 147 170 [(2, x0), (0, x1), (0, x2), (0, x3), (0, x4), v5, v6] [] w) else none else none) (fun _ => rfl)).trans (EX_if.trans (and_congr Iff.rfl (EX_if.trans (and_congr Iff.rfl (EX_br.trans (and_congr (imp_congr Iff.rfl Iff.rfl) (imp_congr Iff.rfl Iff.rfl)))))))
set_option maxRecDepth 100000 in
theorem b147_116 {d : Nat} {w : vW} {x0 x1 x2 x3 x4 : Int} {v5 v6 : vV} {Q : Int → vW → Prop} : VW d 147 116 [(2, x0), (0, x1), (0, x2), (0, x3), (0, x4), v5, v6] [] w Q ↔ VC d 60 [(2, x0), (1, w64 ((w64 (x3 * 9)) + x4))] w (fun r w1 => VW d 147 137 [(2, x0), (0, x1), (0, x2), (0, x3), (0, x4), (1, w64 ((w64 (x3 * 9)) + x4)), (9, 0)] [(0, r), (1, w64 ((w64 (x3 * 9)) + x4)), (2, x0)] w1 Q) :=
  (VW_b 13 (F := fun n => vcl (vrun n) d 147 137 60 2 0 [(2, x0), (0, x1), (0, x2), (0, x3), (0, x4), (1, w64 ((w64 (x3 * 9)) + x4)), (9, 0)] [(1, w64 ((w64 (x3 * 9)) + x4)), (2, x0), (1, w64 ((w64 (x3 * 9)) + x4)), (2, x0)] w) (fun _ => rfl)).trans (EX_call rfl)
set_option maxRecDepth 100000 in
theorem b147_137 {d : Nat} {w : vW} {x0 x1 x2 x3 x4 x5 y0 y1 y2 : Int} {Q : Int → vW → Prop} : VW d 147 137 [(2, x0), (0, x1), (0, x2), (0, x3), (0, x4), (1, x5), (9, 0)] [(0, y2), (1, y1), (2, y0)] w Q ↔ VC d 146 [(2, y0), (1, y1), (0, y2)] w (fun r w1 => VW d 147 140 [(2, x0), (0, x1), (0, x2), (0, x3), (0, x4), (1, x5), (9, 0)] [(0, r)] w1 Q) :=
  (VW_b 1 (F := fun n => vcl (vrun n) d 147 140 146 3 0 [(2, x0), (0, x1), (0, x2), (0, x3), (0, x4), (1, x5), (9, 0)] [(0, y2), (1, y1), (2, y0)] w) (fun _ => rfl)).trans (EX_call rfl)
set_option maxRecDepth 100000 in
theorem b147_140 {d : Nat} {w : vW} {x0 x1 x2 x3 x4 x5 y0 : Int} {Q : Int → vW → Prop} : VW d 147 140 [(2, x0), (0, x1), (0, x2), (0, x3), (0, x4), (1, x5), (9, 0)] [(0, y0)] w Q ↔ ((y0 = 0 → VW d 147 143 [(2, x0), (0, x1), (0, x2), (0, x3), (0, x4), (1, x5), (9, 0)] [] w Q) ∧ (¬ (y0 = 0) → VW d 147 164 [(2, x0), (0, x1), (0, x2), (0, x3), (0, x4), (1, x5), (9, 0)] [] w Q)) :=
  (VW_b 1 (F := fun n => (if y0 = 0 then vrun n d 147 143 [(2, x0), (0, x1), (0, x2), (0, x3), (0, x4), (1, x5), (9, 0)] [] w else vrun n d 147 164 [(2, x0), (0, x1), (0, x2), (0, x3), (0, x4), (1, x5), (9, 0)] [] w)) (fun _ => rfl)).trans (EX_br.trans (and_congr (imp_congr Iff.rfl Iff.rfl) (imp_congr Iff.rfl Iff.rfl)))
set_option maxRecDepth 100000 in
theorem b147_143 {d : Nat} {w : vW} {x0 x1 x2 x3 x4 x5 : Int} {Q : Int → vW → Prop} : VW d 147 143 [(2, x0), (0, x1), (0, x2), (0, x3), (0, x4), (1, x5), (9, 0)] [] w Q ↔ (vkd w x0 = 22) ∧ (vkd w (vct w x0 57) = 2 ∧ (0 : Int) ≤ (w32 (Int.tmod x5 6561)) ∧ (w32 (Int.tmod x5 6561)) < vln w (vct w x0 57)) ∧ (vkd w x0 = 22) ∧ (vkd w (vct w x0 56) = 2 ∧ (0 : Int) ≤ x3 ∧ x3 < vln w (vct w x0 56)) ∧ (vkd w (vct w x0 57) = 2 ∧ (0 : Int) ≤ (w32 (Int.tmod x5 6561)) ∧ (w32 (Int.tmod x5 6561)) < vln w (vct w x0 57)) ∧ VW d 147 164 [(2, x0), (0, x1), (0, x2), (0, x3), (0, x4), (1, x5), (9, 0)] [] (vsv w (vct w x0 57) (w32 (Int.tmod x5 6561)) (w64 ((vct w (vct w x0 57) (w32 (Int.tmod x5 6561))) + (vct w (vct w x0 56) x3)))) Q :=
  (VW_b 14 (F := fun n => if vkd w x0 = 22 then if vkd w (vct w x0 57) = 2 ∧ (0 : Int) ≤ (w32 (Int.tmod x5 6561)) ∧ (w32 (Int.tmod x5 6561)) < vln w (vct w x0 57) then if vkd w x0 = 22 then if vkd w (vct w x0 56) = 2 ∧ (0 : Int) ≤ x3 ∧ x3 < vln w (vct w x0 56) then if vkd w (vct w x0 57) = 2 ∧ (0 : Int) ≤ (w32 (Int.tmod x5 6561)) ∧ (w32 (Int.tmod x5 6561)) < vln w (vct w x0 57) then vrun n d 147 164 [(2, x0), (0, x1), (0, x2), (0, x3), (0, x4), (1, x5), (9, 0)] [] (vsv w (vct w x0 57) (w32 (Int.tmod x5 6561)) (w64 ((vct w (vct w x0 57) (w32 (Int.tmod x5 6561))) + (vct w (vct w x0 56) x3)))) else none else none else none else none else none) (fun _ => rfl)).trans (EX_if.trans (and_congr Iff.rfl (EX_if.trans (and_congr Iff.rfl (EX_if.trans (and_congr Iff.rfl (EX_if.trans (and_congr Iff.rfl (EX_if.trans (and_congr Iff.rfl (Iff.rfl)))))))))))
set_option maxRecDepth 100000 in
theorem b147_164 {d : Nat} {w : vW} {x0 x1 x2 x3 x4 x5 : Int} {Q : Int → vW → Prop} : VW d 147 164 [(2, x0), (0, x1), (0, x2), (0, x3), (0, x4), (1, x5), (9, 0)] [] w Q ↔ VW d 147 96 [(2, x0), (0, x1), (0, x2), (0, x3), (0, w32 (x4 + 1)), (1, x5), (9, 0)] [] w Q :=
  (VW_b 2 (F := fun n => vrun n d 147 96 [(2, x0), (0, x1), (0, x2), (0, x3), (0, w32 (x4 + 1)), (1, x5), (9, 0)] [] w) (fun _ => rfl)).trans (Iff.rfl)
set_option maxRecDepth 100000 in
theorem b147_170 {d : Nat} {w : vW} {x0 x1 x2 x3 x4 : Int} {v5 v6 : vV} {Q : Int → vW → Prop} : VW d 147 170 [(2, x0), (0, x1), (0, x2), (0, x3), (0, x4), v5, v6] [] w Q ↔ VW d 147 86 [(2, x0), (0, x1), (0, x2), (0, w32 (x3 + 1)), (0, x4), v5, v6] [] w Q :=
  (VW_b 2 (F := fun n => vrun n d 147 86 [(2, x0), (0, x1), (0, x2), (0, w32 (x3 + 1)), (0, x4), v5, v6] [] w) (fun _ => rfl)).trans (Iff.rfl)
set_option maxRecDepth 100000 in
theorem b147_176 {d : Nat} {w : vW} {x0 x1 x2 x3 : Int} {v4 v5 v6 : vV} {Q : Int → vW → Prop} : VW d 147 176 [(2, x0), (0, x1), (0, x2), (0, x3), v4, v5, v6] [] w Q ↔ (vkd w x0 = 22) ∧ (vkd w x0 = 22) ∧ (vkd w x0 = 22) ∧ VW d 147 189 [(2, x0), (0, x1), (0, x2), (2, vct w x0 56), v4, v5, v6] [] (vsv w x0 56 (vct w x0 57)) Q :=
  (VW_b 7 (F := fun n => if vkd w x0 = 22 then if vkd w x0 = 22 then if vkd w x0 = 22 then vrun n d 147 189 [(2, x0), (0, x1), (0, x2), (2, vct w x0 56), v4, v5, v6] [] (vsv w x0 56 (vct w x0 57)) else none else none else none) (fun _ => rfl)).trans (EX_if.trans (and_congr Iff.rfl (EX_if.trans (and_congr Iff.rfl (EX_if.trans (and_congr Iff.rfl (Iff.rfl)))))))
set_option maxRecDepth 100000 in
theorem b147_189 {d : Nat} {w : vW} {x0 x1 x2 x3 : Int} {v4 v5 v6 : vV} {Q : Int → vW → Prop} : VW d 147 189 [(2, x0), (0, x1), (0, x2), (2, x3), v4, v5, v6] [] w Q ↔ (vkd w x0 = 22) ∧ VW d 147 194 [(2, x0), (0, x1), (0, x2), (2, x3), v4, v5, v6] [] (vsv w x0 57 x3) Q :=
  (VW_b 3 (F := fun n => if vkd w x0 = 22 then vrun n d 147 194 [(2, x0), (0, x1), (0, x2), (2, x3), v4, v5, v6] [] (vsv w x0 57 x3) else none) (fun _ => rfl)).trans (EX_if.trans (and_congr Iff.rfl (Iff.rfl)))
set_option maxRecDepth 100000 in
theorem b147_194 {d : Nat} {w : vW} {x0 x1 x2 x3 : Int} {v4 v5 v6 : vV} {Q : Int → vW → Prop} : VW d 147 194 [(2, x0), (0, x1), (0, x2), (2, x3), v4, v5, v6] [] w Q ↔ VW d 147 57 [(2, x0), (0, x1), (0, w32 (x2 + 1)), (2, x3), v4, v5, v6] [] w Q :=
  (VW_b 2 (F := fun n => vrun n d 147 57 [(2, x0), (0, x1), (0, w32 (x2 + 1)), (2, x3), v4, v5, v6] [] w) (fun _ => rfl)).trans (Iff.rfl)
set_option maxRecDepth 100000 in
theorem b147_200 {d : Nat} {w : vW} {x0 x1 x2 : Int} {v3 v4 v5 v6 : vV} {Q : Int → vW → Prop} : VW d 147 200 [(2, x0), (0, x1), (0, x2), v3, v4, v5, v6] [] w Q ↔ VW d 147 205 [(2, x0), (0, x1), (1, 0), (9, 0), (0, 0), v5, v6] [] w Q :=
  (VW_b 4 (F := fun n => vrun n d 147 205 [(2, x0), (0, x1), (1, 0), (9, 0), (0, 0), v5, v6] [] w) (fun _ => rfl)).trans (Iff.rfl)
set_option maxRecDepth 100000 in
theorem b147_205 {d : Nat} {w : vW} {x0 x1 x2 x4 : Int} {v5 v6 : vV} {Q : Int → vW → Prop} : VW d 147 205 [(2, x0), (0, x1), (1, x2), (9, 0), (0, x4), v5, v6] [] w Q ↔ ((x4 < 6561 → VW d 147 213 [(2, x0), (0, x1), (1, x2), (9, 0), (0, x4), v5, v6] [] w Q) ∧ (¬ (x4 < 6561) → VW d 147 229 [(2, x0), (0, x1), (1, x2), (9, 0), (0, x4), v5, v6] [] w Q)) :=
  (VW_b 3 (F := fun n => (if x4 < 6561 then vrun n d 147 213 [(2, x0), (0, x1), (1, x2), (9, 0), (0, x4), v5, v6] [] w else vrun n d 147 229 [(2, x0), (0, x1), (1, x2), (9, 0), (0, x4), v5, v6] [] w)) (fun _ => rfl)).trans (EX_br.trans (and_congr (imp_congr Iff.rfl Iff.rfl) (imp_congr Iff.rfl Iff.rfl)))
set_option maxRecDepth 100000 in
theorem b147_213 {d : Nat} {w : vW} {x0 x1 x2 x4 : Int} {v5 v6 : vV} {Q : Int → vW → Prop} : VW d 147 213 [(2, x0), (0, x1), (1, x2), (9, 0), (0, x4), v5, v6] [] w Q ↔ (vkd w x0 = 22) ∧ (vkd w (vct w x0 56) = 2 ∧ (0 : Int) ≤ x4 ∧ x4 < vln w (vct w x0 56)) ∧ VW d 147 205 [(2, x0), (0, x1), (1, w64 (x2 + (vct w (vct w x0 56) x4))), (9, 0), (0, w32 (x4 + 1)), v5, v6] [] w Q :=
  (VW_b 9 (F := fun n => if vkd w x0 = 22 then if vkd w (vct w x0 56) = 2 ∧ (0 : Int) ≤ x4 ∧ x4 < vln w (vct w x0 56) then vrun n d 147 205 [(2, x0), (0, x1), (1, w64 (x2 + (vct w (vct w x0 56) x4))), (9, 0), (0, w32 (x4 + 1)), v5, v6] [] w else none else none) (fun _ => rfl)).trans (EX_if.trans (and_congr Iff.rfl (EX_if.trans (and_congr Iff.rfl (Iff.rfl)))))
set_option maxRecDepth 100000 in
theorem b147_229 {d : Nat} {w : vW} {x0 x1 x2 x4 : Int} {v5 v6 : vV} {Q : Int → vW → Prop} : VW d 147 229 [(2, x0), (0, x1), (1, x2), (9, 0), (0, x4), v5, v6] [] w Q ↔ Q x2 w :=
  (VW_b 2 (F := fun n => some (0, x2, w)) (fun _ => rfl)).trans (EX_ret0)
/-! 148: StrikeWhatCancelsModel.sortsLefts(II)V -/
set_option maxRecDepth 100000 in
theorem b148_0 {d : Nat} {w : vW} {x0 x1 x2 : Int} {Q : Int → vW → Prop} : VW d 148 0 [(2, x0), (0, x1), (0, x2), (9, 0), (9, 0), (9, 0), (9, 0), (9, 0)] [] w Q ↔ (((w32 (x2 - x1)) < 2 → VW d 148 7 [(2, x0), (0, x1), (0, x2), (9, 0), (9, 0), (9, 0), (9, 0), (9, 0)] [] w Q) ∧ (¬ ((w32 (x2 - x1)) < 2) → VW d 148 8 [(2, x0), (0, x1), (0, x2), (9, 0), (9, 0), (9, 0), (9, 0), (9, 0)] [] w Q)) :=
  (VW_b 5 (F := fun n => (if (w32 (x2 - x1)) < 2 then vrun n d 148 7 [(2, x0), (0, x1), (0, x2), (9, 0), (9, 0), (9, 0), (9, 0), (9, 0)] [] w else vrun n d 148 8 [(2, x0), (0, x1), (0, x2), (9, 0), (9, 0), (9, 0), (9, 0), (9, 0)] [] w)) (fun _ => rfl)).trans (EX_br.trans (and_congr (imp_congr Iff.rfl Iff.rfl) (imp_congr Iff.rfl Iff.rfl)))
set_option maxRecDepth 100000 in
theorem b148_7 {d : Nat} {w : vW} {x0 x1 x2 : Int} {Q : Int → vW → Prop} : VW d 148 7 [(2, x0), (0, x1), (0, x2), (9, 0), (9, 0), (9, 0), (9, 0), (9, 0)] [] w Q ↔ Q 0 w :=
  (VW_b 1 (F := fun n => some (0, 0, w)) (fun _ => rfl)).trans (EX_ret0)
set_option maxRecDepth 100000 in
theorem b148_8 {d : Nat} {w : vW} {x0 x1 x2 : Int} {Q : Int → vW → Prop} : VW d 148 8 [(2, x0), (0, x1), (0, x2), (9, 0), (9, 0), (9, 0), (9, 0), (9, 0)] [] w Q ↔ VC d 148 [(2, x0), (0, x1), (0, w32 (Int.tdiv (w32 (x1 + x2)) 2))] w (fun _ w1 => VW d 148 20 [(2, x0), (0, x1), (0, x2), (0, w32 (Int.tdiv (w32 (x1 + x2)) 2)), (9, 0), (9, 0), (9, 0), (9, 0)] [] w1 Q) :=
  (VW_b 10 (F := fun n => vcl (vrun n) d 148 20 148 3 9 [(2, x0), (0, x1), (0, x2), (0, w32 (Int.tdiv (w32 (x1 + x2)) 2)), (9, 0), (9, 0), (9, 0), (9, 0)] [(0, w32 (Int.tdiv (w32 (x1 + x2)) 2)), (0, x1), (2, x0)] w) (fun _ => rfl)).trans (EX_call rfl)
set_option maxRecDepth 100000 in
theorem b148_20 {d : Nat} {w : vW} {x0 x1 x2 x3 : Int} {Q : Int → vW → Prop} : VW d 148 20 [(2, x0), (0, x1), (0, x2), (0, x3), (9, 0), (9, 0), (9, 0), (9, 0)] [] w Q ↔ VC d 148 [(2, x0), (0, x3), (0, x2)] w (fun _ w1 => VW d 148 26 [(2, x0), (0, x1), (0, x2), (0, x3), (9, 0), (9, 0), (9, 0), (9, 0)] [] w1 Q) :=
  (VW_b 4 (F := fun n => vcl (vrun n) d 148 26 148 3 9 [(2, x0), (0, x1), (0, x2), (0, x3), (9, 0), (9, 0), (9, 0), (9, 0)] [(0, x2), (0, x3), (2, x0)] w) (fun _ => rfl)).trans (EX_call rfl)
set_option maxRecDepth 100000 in
theorem b148_26 {d : Nat} {w : vW} {x0 x1 x2 x3 : Int} {Q : Int → vW → Prop} : VW d 148 26 [(2, x0), (0, x1), (0, x2), (0, x3), (9, 0), (9, 0), (9, 0), (9, 0)] [] w Q ↔ VW d 148 35 [(2, x0), (0, x1), (0, x2), (0, x3), (0, x1), (0, x3), (0, x1), (9, 0)] [] w Q :=
  (VW_b 6 (F := fun n => vrun n d 148 35 [(2, x0), (0, x1), (0, x2), (0, x3), (0, x1), (0, x3), (0, x1), (9, 0)] [] w) (fun _ => rfl)).trans (Iff.rfl)
set_option maxRecDepth 100000 in
theorem b148_35 {d : Nat} {w : vW} {x0 x1 x2 x3 x4 x5 x6 : Int} {v7 : vV} {Q : Int → vW → Prop} : VW d 148 35 [(2, x0), (0, x1), (0, x2), (0, x3), (0, x4), (0, x5), (0, x6), v7] [] w Q ↔ ((x6 < x2 → VW d 148 41 [(2, x0), (0, x1), (0, x2), (0, x3), (0, x4), (0, x5), (0, x6), v7] [] w Q) ∧ (¬ (x6 < x2) → VW d 148 141 [(2, x0), (0, x1), (0, x2), (0, x3), (0, x4), (0, x5), (0, x6), v7] [] w Q)) :=
  (VW_b 3 (F := fun n => (if x6 < x2 then vrun n d 148 41 [(2, x0), (0, x1), (0, x2), (0, x3), (0, x4), (0, x5), (0, x6), v7] [] w else vrun n d 148 141 [(2, x0), (0, x1), (0, x2), (0, x3), (0, x4), (0, x5), (0, x6), v7] [] w)) (fun _ => rfl)).trans (EX_br.trans (and_congr (imp_congr Iff.rfl Iff.rfl) (imp_congr Iff.rfl Iff.rfl)))
set_option maxRecDepth 100000 in
theorem b148_41 {d : Nat} {w : vW} {x0 x1 x2 x3 x4 x5 x6 : Int} {v7 : vV} {Q : Int → vW → Prop} : VW d 148 41 [(2, x0), (0, x1), (0, x2), (0, x3), (0, x4), (0, x5), (0, x6), v7] [] w Q ↔ ((x5 = x2 → VW d 148 71 [(2, x0), (0, x1), (0, x2), (0, x3), (0, x4), (0, x5), (0, x6), v7] [] w Q) ∧ (¬ (x5 = x2) → VW d 148 47 [(2, x0), (0, x1), (0, x2), (0, x3), (0, x4), (0, x5), (0, x6), v7] [] w Q)) :=
  (VW_b 3 (F := fun n => (if x5 = x2 then vrun n d 148 71 [(2, x0), (0, x1), (0, x2), (0, x3), (0, x4), (0, x5), (0, x6), v7] [] w else vrun n d 148 47 [(2, x0), (0, x1), (0, x2), (0, x3), (0, x4), (0, x5), (0, x6), v7] [] w)) (fun _ => rfl)).trans (EX_br.trans (and_congr (imp_congr Iff.rfl Iff.rfl) (imp_congr Iff.rfl Iff.rfl)))
set_option maxRecDepth 100000 in
theorem b148_47 {d : Nat} {w : vW} {x0 x1 x2 x3 x4 x5 x6 : Int} {v7 : vV} {Q : Int → vW → Prop} : VW d 148 47 [(2, x0), (0, x1), (0, x2), (0, x3), (0, x4), (0, x5), (0, x6), v7] [] w Q ↔ ((x4 < x3 → VW d 148 53 [(2, x0), (0, x1), (0, x2), (0, x3), (0, x4), (0, x5), (0, x6), v7] [] w Q) ∧ (¬ (x4 < x3) → VW d 148 75 [(2, x0), (0, x1), (0, x2), (0, x3), (0, x4), (0, x5), (0, x6), v7] [] w Q)) :=
  (VW_b 3 (F := fun n => (if x4 < x3 then vrun n d 148 53 [(2, x0), (0, x1), (0, x2), (0, x3), (0, x4), (0, x5), (0, x6), v7] [] w else vrun n d 148 75 [(2, x0), (0, x1), (0, x2), (0, x3), (0, x4), (0, x5), (0, x6), v7] [] w)) (fun _ => rfl)).trans (EX_br.trans (and_congr (imp_congr Iff.rfl Iff.rfl) (imp_congr Iff.rfl Iff.rfl)))
set_option maxRecDepth 100000 in
theorem b148_53 {d : Nat} {w : vW} {x0 x1 x2 x3 x4 x5 x6 : Int} {v7 : vV} {Q : Int → vW → Prop} : VW d 148 53 [(2, x0), (0, x1), (0, x2), (0, x3), (0, x4), (0, x5), (0, x6), v7] [] w Q ↔ (vkd w x0 = 22) ∧ (vkd w (vct w x0 58) = 2 ∧ (0 : Int) ≤ x4 ∧ x4 < vln w (vct w x0 58)) ∧ (vkd w x0 = 22) ∧ (vkd w (vct w x0 58) = 2 ∧ (0 : Int) ≤ x5 ∧ x5 < vln w (vct w x0 58)) ∧ ((0 < (vlc (vct w (vct w x0 58) x4) (vct w (vct w x0 58) x5)) → VW d 148 75 [(2, x0), (0, x1), (0, x2), (0, x3), (0, x4), (0, x5), (0, x6), v7] [] w Q) ∧ (¬ (0 < (vlc (vct w (vct w x0 58) x4) (vct w (vct w x0 58) x5))) → VW d 148 71 [(2, x0), (0, x1), (0, x2), (0, x3), (0, x4), (0, x5), (0, x6), v7] [] w Q)) :=
  (VW_b 10 (F := fun n => if vkd w x0 = 22 then if vkd w (vct w x0 58) = 2 ∧ (0 : Int) ≤ x4 ∧ x4 < vln w (vct w x0 58) then if vkd w x0 = 22 then if vkd w (vct w x0 58) = 2 ∧ (0 : Int) ≤ x5 ∧ x5 < vln w (vct w x0 58) then (if 0 < (vlc (vct w (vct w x0 58) x4) (vct w (vct w x0 58) x5)) then vrun n d 148 75 [(2, x0), (0, x1), (0, x2), (0, x3), (0, x4), (0, x5), (0, x6), v7] [] w else vrun n d 148 71 [(2, x0), (0, x1), (0, x2), (0, x3), (0, x4), (0, x5), (0, x6), v7] [] w) else none else none else none else none) (fun _ => rfl)).trans (EX_if.trans (and_congr Iff.rfl (EX_if.trans (and_congr Iff.rfl (EX_if.trans (and_congr Iff.rfl (EX_if.trans (and_congr Iff.rfl (EX_br.trans (and_congr (imp_congr Iff.rfl Iff.rfl) (imp_congr Iff.rfl Iff.rfl)))))))))))
set_option maxRecDepth 100000 in
theorem b148_71 {d : Nat} {w : vW} {x0 x1 x2 x3 x4 x5 x6 : Int} {v7 : vV} {Q : Int → vW → Prop} : VW d 148 71 [(2, x0), (0, x1), (0, x2), (0, x3), (0, x4), (0, x5), (0, x6), v7] [] w Q ↔ VW d 148 76 [(2, x0), (0, x1), (0, x2), (0, x3), (0, x4), (0, x5), (0, x6), v7] [(0, 1)] w Q :=
  (VW_b 2 (F := fun n => vrun n d 148 76 [(2, x0), (0, x1), (0, x2), (0, x3), (0, x4), (0, x5), (0, x6), v7] [(0, 1)] w) (fun _ => rfl)).trans (Iff.rfl)
set_option maxRecDepth 100000 in
theorem b148_75 {d : Nat} {w : vW} {x0 x1 x2 x3 x4 x5 x6 : Int} {v7 : vV} {Q : Int → vW → Prop} : VW d 148 75 [(2, x0), (0, x1), (0, x2), (0, x3), (0, x4), (0, x5), (0, x6), v7] [] w Q ↔ VW d 148 76 [(2, x0), (0, x1), (0, x2), (0, x3), (0, x4), (0, x5), (0, x6), v7] [(0, 0)] w Q :=
  (VW_b 1 (F := fun n => vrun n d 148 76 [(2, x0), (0, x1), (0, x2), (0, x3), (0, x4), (0, x5), (0, x6), v7] [(0, 0)] w) (fun _ => rfl)).trans (Iff.rfl)
set_option maxRecDepth 100000 in
theorem b148_76 {d : Nat} {w : vW} {x0 x1 x2 x3 x4 x5 x6 y0 : Int} {v7 : vV} {Q : Int → vW → Prop} : VW d 148 76 [(2, x0), (0, x1), (0, x2), (0, x3), (0, x4), (0, x5), (0, x6), v7] [(0, y0)] w Q ↔ (vkd w x0 = 22) ∧ ((y0 = 0 → VW d 148 99 [(2, x0), (0, x1), (0, x2), (0, x3), (0, x4), (0, x5), (0, x6), (0, y0)] [(0, x6), (2, vct w x0 59)] w Q) ∧ (¬ (y0 = 0) → VW d 148 89 [(2, x0), (0, x1), (0, x2), (0, x3), (0, x4), (0, x5), (0, x6), (0, y0)] [(0, x6), (2, vct w x0 59)] w Q)) :=
  (VW_b 6 (F := fun n => if vkd w x0 = 22 then (if y0 = 0 then vrun n d 148 99 [(2, x0), (0, x1), (0, x2), (0, x3), (0, x4), (0, x5), (0, x6), (0, y0)] [(0, x6), (2, vct w x0 59)] w else vrun n d 148 89 [(2, x0), (0, x1), (0, x2), (0, x3), (0, x4), (0, x5), (0, x6), (0, y0)] [(0, x6), (2, vct w x0 59)] w) else none) (fun _ => rfl)).trans (EX_if.trans (and_congr Iff.rfl (EX_br.trans (and_congr (imp_congr Iff.rfl Iff.rfl) (imp_congr Iff.rfl Iff.rfl)))))
set_option maxRecDepth 100000 in
theorem b148_89 {d : Nat} {w : vW} {x0 x1 x2 x3 x4 x5 x6 x7 y0 y1 : Int} {Q : Int → vW → Prop} : VW d 148 89 [(2, x0), (0, x1), (0, x2), (0, x3), (0, x4), (0, x5), (0, x6), (0, x7)] [(0, y1), (2, y0)] w Q ↔ (vkd w x0 = 22) ∧ (vkd w (vct w x0 58) = 2 ∧ (0 : Int) ≤ x4 ∧ x4 < vln w (vct w x0 58)) ∧ VW d 148 106 [(2, x0), (0, x1), (0, x2), (0, x3), (0, x4), (0, x5), (0, x6), (0, x7)] [(1, vct w (vct w x0 58) x4), (0, y1), (2, y0)] w Q :=
  (VW_b 5 (F := fun n => if vkd w x0 = 22 then if vkd w (vct w x0 58) = 2 ∧ (0 : Int) ≤ x4 ∧ x4 < vln w (vct w x0 58) then vrun n d 148 106 [(2, x0), (0, x1), (0, x2), (0, x3), (0, x4), (0, x5), (0, x6), (0, x7)] [(1, vct w (vct w x0 58) x4), (0, y1), (2, y0)] w else none else none) (fun _ => rfl)).trans (EX_if.trans (and_congr Iff.rfl (EX_if.trans (and_congr Iff.rfl (Iff.rfl)))))
set_option maxRecDepth 100000 in
theorem b148_99 {d : Nat} {w : vW} {x0 x1 x2 x3 x4 x5 x6 x7 y0 y1 : Int} {Q : Int → vW → Prop} : VW d 148 99 [(2, x0), (0, x1), (0, x2), (0, x3), (0, x4), (0, x5), (0, x6), (0, x7)] [(0, y1), (2, y0)] w Q ↔ (vkd w x0 = 22) ∧ (vkd w (vct w x0 58) = 2 ∧ (0 : Int) ≤ x5 ∧ x5 < vln w (vct w x0 58)) ∧ VW d 148 106 [(2, x0), (0, x1), (0, x2), (0, x3), (0, x4), (0, x5), (0, x6), (0, x7)] [(1, vct w (vct w x0 58) x5), (0, y1), (2, y0)] w Q :=
  (VW_b 4 (F := fun n => if vkd w x0 = 22 then if vkd w (vct w x0 58) = 2 ∧ (0 : Int) ≤ x5 ∧ x5 < vln w (vct w x0 58) then vrun n d 148 106 [(2, x0), (0, x1), (0, x2), (0, x3), (0, x4), (0, x5), (0, x6), (0, x7)] [(1, vct w (vct w x0 58) x5), (0, y1), (2, y0)] w else none else none) (fun _ => rfl)).trans (EX_if.trans (and_congr Iff.rfl (EX_if.trans (and_congr Iff.rfl (Iff.rfl)))))
set_option maxRecDepth 100000 in
theorem b148_106 {d : Nat} {w : vW} {x0 x1 x2 x3 x4 x5 x6 x7 y0 y1 y2 : Int} {Q : Int → vW → Prop} : VW d 148 106 [(2, x0), (0, x1), (0, x2), (0, x3), (0, x4), (0, x5), (0, x6), (0, x7)] [(1, y2), (0, y1), (2, y0)] w Q ↔ (vkd w y0 = 2 ∧ (0 : Int) ≤ y1 ∧ y1 < vln w y0) ∧ VW d 148 107 [(2, x0), (0, x1), (0, x2), (0, x3), (0, x4), (0, x5), (0, x6), (0, x7)] [] (vsv w y0 y1 y2) Q :=
  (VW_b 1 (F := fun n => if vkd w y0 = 2 ∧ (0 : Int) ≤ y1 ∧ y1 < vln w y0 then vrun n d 148 107 [(2, x0), (0, x1), (0, x2), (0, x3), (0, x4), (0, x5), (0, x6), (0, x7)] [] (vsv w y0 y1 y2) else none) (fun _ => rfl)).trans (EX_if.trans (and_congr Iff.rfl (Iff.rfl)))
set_option maxRecDepth 100000 in
theorem b148_107 {d : Nat} {w : vW} {x0 x1 x2 x3 x4 x5 x6 x7 : Int} {Q : Int → vW → Prop} : VW d 148 107 [(2, x0), (0, x1), (0, x2), (0, x3), (0, x4), (0, x5), (0, x6), (0, x7)] [] w Q ↔ VC d 57 [(0, x7)] w (fun r w1 => VW d 148 114 [(2, x0), (0, x1), (0, x2), (0, x3), (0, x4), (0, x5), (0, x6), (0, x7)] [(0, r), (0, x4)] w1 Q) :=
  (VW_b 3 (F := fun n => vcl (vrun n) d 148 114 57 1 0 [(2, x0), (0, x1), (0, x2), (0, x3), (0, x4), (0, x5), (0, x6), (0, x7)] [(0, x7), (0, x4)] w) (fun _ => rfl)).trans (EX_call rfl)
set_option maxRecDepth 100000 in
theorem b148_114 {d : Nat} {w : vW} {x0 x1 x2 x3 x4 x5 x6 x7 y0 y1 : Int} {Q : Int → vW → Prop} : VW d 148 114 [(2, x0), (0, x1), (0, x2), (0, x3), (0, x4), (0, x5), (0, x6), (0, x7)] [(0, y1), (0, y0)] w Q ↔ ((x7 = 0 → VW d 148 124 [(2, x0), (0, x1), (0, x2), (0, x3), (0, w32 (y0 + y1)), (0, x5), (0, x6), (0, x7)] [(0, x5)] w Q) ∧ (¬ (x7 = 0) → VW d 148 128 [(2, x0), (0, x1), (0, x2), (0, x3), (0, w32 (y0 + y1)), (0, x5), (0, x6), (0, x7)] [(0, x5)] w Q)) :=
  (VW_b 5 (F := fun n => (if x7 = 0 then vrun n d 148 124 [(2, x0), (0, x1), (0, x2), (0, x3), (0, w32 (y0 + y1)), (0, x5), (0, x6), (0, x7)] [(0, x5)] w else vrun n d 148 128 [(2, x0), (0, x1), (0, x2), (0, x3), (0, w32 (y0 + y1)), (0, x5), (0, x6), (0, x7)] [(0, x5)] w)) (fun _ => rfl)).trans (EX_br.trans (and_congr (imp_congr Iff.rfl Iff.rfl) (imp_congr Iff.rfl Iff.rfl)))
set_option maxRecDepth 100000 in
theorem b148_124 {d : Nat} {w : vW} {x0 x1 x2 x3 x4 x5 x6 x7 y0 : Int} {Q : Int → vW → Prop} : VW d 148 124 [(2, x0), (0, x1), (0, x2), (0, x3), (0, x4), (0, x5), (0, x6), (0, x7)] [(0, y0)] w Q ↔ VW d 148 129 [(2, x0), (0, x1), (0, x2), (0, x3), (0, x4), (0, x5), (0, x6), (0, x7)] [(0, 1), (0, y0)] w Q :=
  (VW_b 2 (F := fun n => vrun n d 148 129 [(2, x0), (0, x1), (0, x2), (0, x3), (0, x4), (0, x5), (0, x6), (0, x7)] [(0, 1), (0, y0)] w) (fun _ => rfl)).trans (Iff.rfl)
set_option maxRecDepth 100000 in
theorem b148_128 {d : Nat} {w : vW} {x0 x1 x2 x3 x4 x5 x6 x7 y0 : Int} {Q : Int → vW → Prop} : VW d 148 128 [(2, x0), (0, x1), (0, x2), (0, x3), (0, x4), (0, x5), (0, x6), (0, x7)] [(0, y0)] w Q ↔ VW d 148 129 [(2, x0), (0, x1), (0, x2), (0, x3), (0, x4), (0, x5), (0, x6), (0, x7)] [(0, 0), (0, y0)] w Q :=
  (VW_b 1 (F := fun n => vrun n d 148 129 [(2, x0), (0, x1), (0, x2), (0, x3), (0, x4), (0, x5), (0, x6), (0, x7)] [(0, 0), (0, y0)] w) (fun _ => rfl)).trans (Iff.rfl)
set_option maxRecDepth 100000 in
theorem b148_129 {d : Nat} {w : vW} {x0 x1 x2 x3 x4 x5 x6 x7 y0 y1 : Int} {Q : Int → vW → Prop} : VW d 148 129 [(2, x0), (0, x1), (0, x2), (0, x3), (0, x4), (0, x5), (0, x6), (0, x7)] [(0, y1), (0, y0)] w Q ↔ VC d 57 [(0, y1)] w (fun r w1 => VW d 148 132 [(2, x0), (0, x1), (0, x2), (0, x3), (0, x4), (0, x5), (0, x6), (0, x7)] [(0, r), (0, y0)] w1 Q) :=
  (VW_b 1 (F := fun n => vcl (vrun n) d 148 132 57 1 0 [(2, x0), (0, x1), (0, x2), (0, x3), (0, x4), (0, x5), (0, x6), (0, x7)] [(0, y1), (0, y0)] w) (fun _ => rfl)).trans (EX_call rfl)
set_option maxRecDepth 100000 in
theorem b148_132 {d : Nat} {w : vW} {x0 x1 x2 x3 x4 x5 x6 x7 y0 y1 : Int} {Q : Int → vW → Prop} : VW d 148 132 [(2, x0), (0, x1), (0, x2), (0, x3), (0, x4), (0, x5), (0, x6), (0, x7)] [(0, y1), (0, y0)] w Q ↔ VW d 148 35 [(2, x0), (0, x1), (0, x2), (0, x3), (0, x4), (0, w32 (y0 + y1)), (0, w32 (x6 + 1)), (0, x7)] [] w Q :=
  (VW_b 4 (F := fun n => vrun n d 148 35 [(2, x0), (0, x1), (0, x2), (0, x3), (0, x4), (0, w32 (y0 + y1)), (0, w32 (x6 + 1)), (0, x7)] [] w) (fun _ => rfl)).trans (Iff.rfl)
set_option maxRecDepth 100000 in
theorem b148_141 {d : Nat} {w : vW} {x0 x1 x2 x3 x4 x5 x6 : Int} {v7 : vV} {Q : Int → vW → Prop} : VW d 148 141 [(2, x0), (0, x1), (0, x2), (0, x3), (0, x4), (0, x5), (0, x6), v7] [] w Q ↔ VW d 148 144 [(2, x0), (0, x1), (0, x2), (0, x3), (0, x4), (0, x5), (0, x1), v7] [] w Q :=
  (VW_b 2 (F := fun n => vrun n d 148 144 [(2, x0), (0, x1), (0, x2), (0, x3), (0, x4), (0, x5), (0, x1), v7] [] w) (fun _ => rfl)).trans (Iff.rfl)
set_option maxRecDepth 100000 in
theorem b148_144 {d : Nat} {w : vW} {x0 x1 x2 x3 x4 x5 x6 : Int} {v7 : vV} {Q : Int → vW → Prop} : VW d 148 144 [(2, x0), (0, x1), (0, x2), (0, x3), (0, x4), (0, x5), (0, x6), v7] [] w Q ↔ ((x6 < x2 → VW d 148 150 [(2, x0), (0, x1), (0, x2), (0, x3), (0, x4), (0, x5), (0, x6), v7] [] w Q) ∧ (¬ (x6 < x2) → VW d 148 170 [(2, x0), (0, x1), (0, x2), (0, x3), (0, x4), (0, x5), (0, x6), v7] [] w Q)) :=
  (VW_b 3 (F := fun n => (if x6 < x2 then vrun n d 148 150 [(2, x0), (0, x1), (0, x2), (0, x3), (0, x4), (0, x5), (0, x6), v7] [] w else vrun n d 148 170 [(2, x0), (0, x1), (0, x2), (0, x3), (0, x4), (0, x5), (0, x6), v7] [] w)) (fun _ => rfl)).trans (EX_br.trans (and_congr (imp_congr Iff.rfl Iff.rfl) (imp_congr Iff.rfl Iff.rfl)))
set_option maxRecDepth 100000 in
theorem b148_150 {d : Nat} {w : vW} {x0 x1 x2 x3 x4 x5 x6 : Int} {v7 : vV} {Q : Int → vW → Prop} : VW d 148 150 [(2, x0), (0, x1), (0, x2), (0, x3), (0, x4), (0, x5), (0, x6), v7] [] w Q ↔ (vkd w x0 = 22) ∧ (vkd w x0 = 22) ∧ (vkd w (vct w x0 59) = 2 ∧ (0 : Int) ≤ x6 ∧ x6 < vln w (vct w x0 59)) ∧ (vkd w (vct w x0 58) = 2 ∧ (0 : Int) ≤ x6 ∧ x6 < vln w (vct w x0 58)) ∧ VW d 148 164 [(2, x0), (0, x1), (0, x2), (0, x3), (0, x4), (0, x5), (0, x6), v7] [] (vsv w (vct w x0 58) x6 (vct w (vct w x0 59) x6)) Q :=
  (VW_b 8 (F := fun n => if vkd w x0 = 22 then if vkd w x0 = 22 then if vkd w (vct w x0 59) = 2 ∧ (0 : Int) ≤ x6 ∧ x6 < vln w (vct w x0 59) then if vkd w (vct w x0 58) = 2 ∧ (0 : Int) ≤ x6 ∧ x6 < vln w (vct w x0 58) then vrun n d 148 164 [(2, x0), (0, x1), (0, x2), (0, x3), (0, x4), (0, x5), (0, x6), v7] [] (vsv w (vct w x0 58) x6 (vct w (vct w x0 59) x6)) else none else none else none else none) (fun _ => rfl)).trans (EX_if.trans (and_congr Iff.rfl (EX_if.trans (and_congr Iff.rfl (EX_if.trans (and_congr Iff.rfl (EX_if.trans (and_congr Iff.rfl (Iff.rfl)))))))))
set_option maxRecDepth 100000 in
theorem b148_164 {d : Nat} {w : vW} {x0 x1 x2 x3 x4 x5 x6 : Int} {v7 : vV} {Q : Int → vW → Prop} : VW d 148 164 [(2, x0), (0, x1), (0, x2), (0, x3), (0, x4), (0, x5), (0, x6), v7] [] w Q ↔ VW d 148 144 [(2, x0), (0, x1), (0, x2), (0, x3), (0, x4), (0, x5), (0, w32 (x6 + 1)), v7] [] w Q :=
  (VW_b 2 (F := fun n => vrun n d 148 144 [(2, x0), (0, x1), (0, x2), (0, x3), (0, x4), (0, x5), (0, w32 (x6 + 1)), v7] [] w) (fun _ => rfl)).trans (Iff.rfl)
set_option maxRecDepth 100000 in
theorem b148_170 {d : Nat} {w : vW} {x0 x1 x2 x3 x4 x5 x6 : Int} {v7 : vV} {Q : Int → vW → Prop} : VW d 148 170 [(2, x0), (0, x1), (0, x2), (0, x3), (0, x4), (0, x5), (0, x6), v7] [] w Q ↔ Q 0 w :=
  (VW_b 1 (F := fun n => some (0, 0, w)) (fun _ => rfl)).trans (EX_ret0)
/-! 149: StrikeWhatCancelsModel.sorts(II)I -/
set_option maxRecDepth 100000 in
theorem b149_0 {d : Nat} {w : vW} {x0 x1 x2 : Int} {Q : Int → vW → Prop} : VW d 149 0 [(2, x0), (0, x1), (0, x2), (9, 0), (9, 0), (9, 0), (9, 0), (9, 0), (9, 0), (9, 0), (9, 0)] [] w Q ↔ (vkd w x0 = 22) ∧ VW d 149 5 [(2, x0), (0, x1), (0, x2), (9, 0), (9, 0), (9, 0), (9, 0), (9, 0), (9, 0), (9, 0), (9, 0)] [] (vsv w x0 0 0) Q :=
  (VW_b 3 (F := fun n => if vkd w x0 = 22 then vrun n d 149 5 [(2, x0), (0, x1), (0, x2), (9, 0), (9, 0), (9, 0), (9, 0), (9, 0), (9, 0), (9, 0), (9, 0)] [] (vsv w x0 0 0) else none) (fun _ => rfl)).trans (EX_if.trans (and_congr Iff.rfl (Iff.rfl)))
set_option maxRecDepth 100000 in
theorem b149_5 {d : Nat} {w : vW} {x0 x1 x2 : Int} {Q : Int → vW → Prop} : VW d 149 5 [(2, x0), (0, x1), (0, x2), (9, 0), (9, 0), (9, 0), (9, 0), (9, 0), (9, 0), (9, 0), (9, 0)] [] w Q ↔ VC d 139 [(0, x1)] w (fun r w1 => VW d 149 9 [(2, x0), (0, x1), (0, x2), (9, 0), (9, 0), (9, 0), (9, 0), (9, 0), (9, 0), (9, 0), (9, 0)] [(0, r)] w1 Q) :=
  (VW_b 2 (F := fun n => vcl (vrun n) d 149 9 139 1 0 [(2, x0), (0, x1), (0, x2), (9, 0), (9, 0), (9, 0), (9, 0), (9, 0), (9, 0), (9, 0), (9, 0)] [(0, x1)] w) (fun _ => rfl)).trans (EX_call rfl)
set_option maxRecDepth 100000 in
theorem b149_9 {d : Nat} {w : vW} {x0 x1 x2 y0 : Int} {Q : Int → vW → Prop} : VW d 149 9 [(2, x0), (0, x1), (0, x2), (9, 0), (9, 0), (9, 0), (9, 0), (9, 0), (9, 0), (9, 0), (9, 0)] [(0, y0)] w Q ↔ ((y0 = 0 → VW d 149 19 [(2, x0), (0, x1), (0, x2), (9, 0), (9, 0), (9, 0), (9, 0), (9, 0), (9, 0), (9, 0), (9, 0)] [] w Q) ∧ (¬ (y0 = 0) → VW d 149 12 [(2, x0), (0, x1), (0, x2), (9, 0), (9, 0), (9, 0), (9, 0), (9, 0), (9, 0), (9, 0), (9, 0)] [] w Q)) :=
  (VW_b 1 (F := fun n => (if y0 = 0 then vrun n d 149 19 [(2, x0), (0, x1), (0, x2), (9, 0), (9, 0), (9, 0), (9, 0), (9, 0), (9, 0), (9, 0), (9, 0)] [] w else vrun n d 149 12 [(2, x0), (0, x1), (0, x2), (9, 0), (9, 0), (9, 0), (9, 0), (9, 0), (9, 0), (9, 0), (9, 0)] [] w)) (fun _ => rfl)).trans (EX_br.trans (and_congr (imp_congr Iff.rfl Iff.rfl) (imp_congr Iff.rfl Iff.rfl)))
set_option maxRecDepth 100000 in
theorem b149_12 {d : Nat} {w : vW} {x0 x1 x2 : Int} {Q : Int → vW → Prop} : VW d 149 12 [(2, x0), (0, x1), (0, x2), (9, 0), (9, 0), (9, 0), (9, 0), (9, 0), (9, 0), (9, 0), (9, 0)] [] w Q ↔ VC d 140 [(0, x2)] w (fun r w1 => VW d 149 16 [(2, x0), (0, x1), (0, x2), (9, 0), (9, 0), (9, 0), (9, 0), (9, 0), (9, 0), (9, 0), (9, 0)] [(0, r)] w1 Q) :=
  (VW_b 2 (F := fun n => vcl (vrun n) d 149 16 140 1 0 [(2, x0), (0, x1), (0, x2), (9, 0), (9, 0), (9, 0), (9, 0), (9, 0), (9, 0), (9, 0), (9, 0)] [(0, x2)] w) (fun _ => rfl)).trans (EX_call rfl)
set_option maxRecDepth 100000 in
theorem b149_16 {d : Nat} {w : vW} {x0 x1 x2 y0 : Int} {Q : Int → vW → Prop} : VW d 149 16 [(2, x0), (0, x1), (0, x2), (9, 0), (9, 0), (9, 0), (9, 0), (9, 0), (9, 0), (9, 0), (9, 0)] [(0, y0)] w Q ↔ ((y0 = 0 → VW d 149 19 [(2, x0), (0, x1), (0, x2), (9, 0), (9, 0), (9, 0), (9, 0), (9, 0), (9, 0), (9, 0), (9, 0)] [] w Q) ∧ (¬ (y0 = 0) → VW d 149 21 [(2, x0), (0, x1), (0, x2), (9, 0), (9, 0), (9, 0), (9, 0), (9, 0), (9, 0), (9, 0), (9, 0)] [] w Q)) :=
  (VW_b 1 (F := fun n => (if y0 = 0 then vrun n d 149 19 [(2, x0), (0, x1), (0, x2), (9, 0), (9, 0), (9, 0), (9, 0), (9, 0), (9, 0), (9, 0), (9, 0)] [] w else vrun n d 149 21 [(2, x0), (0, x1), (0, x2), (9, 0), (9, 0), (9, 0), (9, 0), (9, 0), (9, 0), (9, 0), (9, 0)] [] w)) (fun _ => rfl)).trans (EX_br.trans (and_congr (imp_congr Iff.rfl Iff.rfl) (imp_congr Iff.rfl Iff.rfl)))
set_option maxRecDepth 100000 in
theorem b149_19 {d : Nat} {w : vW} {x0 x1 x2 : Int} {Q : Int → vW → Prop} : VW d 149 19 [(2, x0), (0, x1), (0, x2), (9, 0), (9, 0), (9, 0), (9, 0), (9, 0), (9, 0), (9, 0), (9, 0)] [] w Q ↔ Q (-1) w :=
  (VW_b 2 (F := fun n => some (0, (-1), w)) (fun _ => rfl)).trans (EX_ret0)
set_option maxRecDepth 100000 in
theorem b149_21 {d : Nat} {w : vW} {x0 x1 x2 : Int} {Q : Int → vW → Prop} : VW d 149 21 [(2, x0), (0, x1), (0, x2), (9, 0), (9, 0), (9, 0), (9, 0), (9, 0), (9, 0), (9, 0), (9, 0)] [] w Q ↔ VC d 137 [(2, x0), (0, x2)] w (fun r w1 => VW d 149 26 [(2, x0), (0, x1), (0, x2), (9, 0), (9, 0), (9, 0), (9, 0), (9, 0), (9, 0), (9, 0), (9, 0)] [(0, r)] w1 Q) :=
  (VW_b 3 (F := fun n => vcl (vrun n) d 149 26 137 2 0 [(2, x0), (0, x1), (0, x2), (9, 0), (9, 0), (9, 0), (9, 0), (9, 0), (9, 0), (9, 0), (9, 0)] [(0, x2), (2, x0)] w) (fun _ => rfl)).trans (EX_call rfl)
set_option maxRecDepth 100000 in
theorem b149_26 {d : Nat} {w : vW} {x0 x1 x2 y0 : Int} {Q : Int → vW → Prop} : VW d 149 26 [(2, x0), (0, x1), (0, x2), (9, 0), (9, 0), (9, 0), (9, 0), (9, 0), (9, 0), (9, 0), (9, 0)] [(0, y0)] w Q ↔ ((4096 < y0 → VW d 149 34 [(2, x0), (0, x1), (0, x2), (0, y0), (9, 0), (9, 0), (9, 0), (9, 0), (9, 0), (9, 0), (9, 0)] [] w Q) ∧ (¬ (4096 < y0) → VW d 149 37 [(2, x0), (0, x1), (0, x2), (0, y0), (9, 0), (9, 0), (9, 0), (9, 0), (9, 0), (9, 0), (9, 0)] [] w Q)) :=
  (VW_b 4 (F := fun n => (if 4096 < y0 then vrun n d 149 34 [(2, x0), (0, x1), (0, x2), (0, y0), (9, 0), (9, 0), (9, 0), (9, 0), (9, 0), (9, 0), (9, 0)] [] w else vrun n d 149 37 [(2, x0), (0, x1), (0, x2), (0, y0), (9, 0), (9, 0), (9, 0), (9, 0), (9, 0), (9, 0), (9, 0)] [] w)) (fun _ => rfl)).trans (EX_br.trans (and_congr (imp_congr Iff.rfl Iff.rfl) (imp_congr Iff.rfl Iff.rfl)))
set_option maxRecDepth 100000 in
theorem b149_34 {d : Nat} {w : vW} {x0 x1 x2 x3 : Int} {Q : Int → vW → Prop} : VW d 149 34 [(2, x0), (0, x1), (0, x2), (0, x3), (9, 0), (9, 0), (9, 0), (9, 0), (9, 0), (9, 0), (9, 0)] [] w Q ↔ Q (-3) w :=
  (VW_b 2 (F := fun n => some (0, (-3), w)) (fun _ => rfl)).trans (EX_ret0)
set_option maxRecDepth 100000 in
theorem b149_37 {d : Nat} {w : vW} {x0 x1 x2 x3 : Int} {Q : Int → vW → Prop} : VW d 149 37 [(2, x0), (0, x1), (0, x2), (0, x3), (9, 0), (9, 0), (9, 0), (9, 0), (9, 0), (9, 0), (9, 0)] [] w Q ↔ VW d 149 40 [(2, x0), (0, x1), (0, x2), (0, x3), (0, 0), (9, 0), (9, 0), (9, 0), (9, 0), (9, 0), (9, 0)] [] w Q :=
  (VW_b 2 (F := fun n => vrun n d 149 40 [(2, x0), (0, x1), (0, x2), (0, x3), (0, 0), (9, 0), (9, 0), (9, 0), (9, 0), (9, 0), (9, 0)] [] w) (fun _ => rfl)).trans (Iff.rfl)
set_option maxRecDepth 100000 in
theorem b149_40 {d : Nat} {w : vW} {x0 x1 x2 x3 x4 : Int} {Q : Int → vW → Prop} : VW d 149 40 [(2, x0), (0, x1), (0, x2), (0, x3), (0, x4), (9, 0), (9, 0), (9, 0), (9, 0), (9, 0), (9, 0)] [] w Q ↔ ((x4 < x3 → VW d 149 46 [(2, x0), (0, x1), (0, x2), (0, x3), (0, x4), (9, 0), (9, 0), (9, 0), (9, 0), (9, 0), (9, 0)] [] w Q) ∧ (¬ (x4 < x3) → VW d 149 75 [(2, x0), (0, x1), (0, x2), (0, x3), (0, x4), (9, 0), (9, 0), (9, 0), (9, 0), (9, 0), (9, 0)] [] w Q)) :=
  (VW_b 3 (F := fun n => (if x4 < x3 then vrun n d 149 46 [(2, x0), (0, x1), (0, x2), (0, x3), (0, x4), (9, 0), (9, 0), (9, 0), (9, 0), (9, 0), (9, 0)] [] w else vrun n d 149 75 [(2, x0), (0, x1), (0, x2), (0, x3), (0, x4), (9, 0), (9, 0), (9, 0), (9, 0), (9, 0), (9, 0)] [] w)) (fun _ => rfl)).trans (EX_br.trans (and_congr (imp_congr Iff.rfl Iff.rfl) (imp_congr Iff.rfl Iff.rfl)))
set_option maxRecDepth 100000 in
theorem b149_46 {d : Nat} {w : vW} {x0 x1 x2 x3 x4 : Int} {Q : Int → vW → Prop} : VW d 149 46 [(2, x0), (0, x1), (0, x2), (0, x3), (0, x4), (9, 0), (9, 0), (9, 0), (9, 0), (9, 0), (9, 0)] [] w Q ↔ (vkd w x0 = 22) ∧ VC d 138 [(2, x0), (0, x2), (0, x4)] w (fun r w1 => VW d 149 60 [(2, x0), (0, x1), (0, x2), (0, x3), (0, x4), (9, 0), (9, 0), (9, 0), (9, 0), (9, 0), (9, 0)] [(1, r), (2, x0), (0, x4), (2, vct w x0 58)] w1 Q) :=
  (VW_b 8 (F := fun n => if vkd w x0 = 22 then vcl (vrun n) d 149 60 138 3 1 [(2, x0), (0, x1), (0, x2), (0, x3), (0, x4), (9, 0), (9, 0), (9, 0), (9, 0), (9, 0), (9, 0)] [(0, x4), (0, x2), (2, x0), (2, x0), (0, x4), (2, vct w x0 58)] w else none) (fun _ => rfl)).trans (EX_if.trans (and_congr Iff.rfl (EX_call rfl)))
set_option maxRecDepth 100000 in
theorem b149_60 {d : Nat} {w : vW} {x0 x1 x2 x3 x4 y0 y1 y2 y3 : Int} {Q : Int → vW → Prop} : VW d 149 60 [(2, x0), (0, x1), (0, x2), (0, x3), (0, x4), (9, 0), (9, 0), (9, 0), (9, 0), (9, 0), (9, 0)] [(1, y3), (2, y2), (0, y1), (2, y0)] w Q ↔ (vkd w x0 = 22) ∧ VC d 112 [(2, y2), (1, y3), (0, x1), (0, vct w x0 4)] w (fun r w1 => VW d 149 68 [(2, x0), (0, x1), (0, x2), (0, x3), (0, x4), (9, 0), (9, 0), (9, 0), (9, 0), (9, 0), (9, 0)] [(1, r), (0, y1), (2, y0)] w1 Q) :=
  (VW_b 4 (F := fun n => if vkd w x0 = 22 then vcl (vrun n) d 149 68 112 4 1 [(2, x0), (0, x1), (0, x2), (0, x3), (0, x4), (9, 0), (9, 0), (9, 0), (9, 0), (9, 0), (9, 0)] [(0, vct w x0 4), (0, x1), (1, y3), (2, y2), (0, y1), (2, y0)] w else none) (fun _ => rfl)).trans (EX_if.trans (and_congr Iff.rfl (EX_call rfl)))
set_option maxRecDepth 100000 in
theorem b149_68 {d : Nat} {w : vW} {x0 x1 x2 x3 x4 y0 y1 y2 : Int} {Q : Int → vW → Prop} : VW d 149 68 [(2, x0), (0, x1), (0, x2), (0, x3), (0, x4), (9, 0), (9, 0), (9, 0), (9, 0), (9, 0), (9, 0)] [(1, y2), (0, y1), (2, y0)] w Q ↔ (vkd w y0 = 2 ∧ (0 : Int) ≤ y1 ∧ y1 < vln w y0) ∧ VW d 149 69 [(2, x0), (0, x1), (0, x2), (0, x3), (0, x4), (9, 0), (9, 0), (9, 0), (9, 0), (9, 0), (9, 0)] [] (vsv w y0 y1 y2) Q :=
  (VW_b 1 (F := fun n => if vkd w y0 = 2 ∧ (0 : Int) ≤ y1 ∧ y1 < vln w y0 then vrun n d 149 69 [(2, x0), (0, x1), (0, x2), (0, x3), (0, x4), (9, 0), (9, 0), (9, 0), (9, 0), (9, 0), (9, 0)] [] (vsv w y0 y1 y2) else none) (fun _ => rfl)).trans (EX_if.trans (and_congr Iff.rfl (Iff.rfl)))
set_option maxRecDepth 100000 in
theorem b149_69 {d : Nat} {w : vW} {x0 x1 x2 x3 x4 : Int} {Q : Int → vW → Prop} : VW d 149 69 [(2, x0), (0, x1), (0, x2), (0, x3), (0, x4), (9, 0), (9, 0), (9, 0), (9, 0), (9, 0), (9, 0)] [] w Q ↔ VW d 149 40 [(2, x0), (0, x1), (0, x2), (0, x3), (0, w32 (x4 + 1)), (9, 0), (9, 0), (9, 0), (9, 0), (9, 0), (9, 0)] [] w Q :=
  (VW_b 2 (F := fun n => vrun n d 149 40 [(2, x0), (0, x1), (0, x2), (0, x3), (0, w32 (x4 + 1)), (9, 0), (9, 0), (9, 0), (9, 0), (9, 0), (9, 0)] [] w) (fun _ => rfl)).trans (Iff.rfl)
set_option maxRecDepth 100000 in
theorem b149_75 {d : Nat} {w : vW} {x0 x1 x2 x3 x4 : Int} {Q : Int → vW → Prop} : VW d 149 75 [(2, x0), (0, x1), (0, x2), (0, x3), (0, x4), (9, 0), (9, 0), (9, 0), (9, 0), (9, 0), (9, 0)] [] w Q ↔ VC d 148 [(2, x0), (0, 0), (0, x3)] w (fun _ w1 => VW d 149 81 [(2, x0), (0, x1), (0, x2), (0, x3), (0, x4), (9, 0), (9, 0), (9, 0), (9, 0), (9, 0), (9, 0)] [] w1 Q) :=
  (VW_b 4 (F := fun n => vcl (vrun n) d 149 81 148 3 9 [(2, x0), (0, x1), (0, x2), (0, x3), (0, x4), (9, 0), (9, 0), (9, 0), (9, 0), (9, 0), (9, 0)] [(0, x3), (0, 0), (2, x0)] w) (fun _ => rfl)).trans (EX_call rfl)
set_option maxRecDepth 100000 in
theorem b149_81 {d : Nat} {w : vW} {x0 x1 x2 x3 x4 : Int} {Q : Int → vW → Prop} : VW d 149 81 [(2, x0), (0, x1), (0, x2), (0, x3), (0, x4), (9, 0), (9, 0), (9, 0), (9, 0), (9, 0), (9, 0)] [] w Q ↔ VW d 149 96 [(2, x0), (0, x1), (0, x2), (0, x3), (0, 0), (0, 0), (0, 0), (1, 0), (9, 0), (0, 0), (9, 0)] [] w Q :=
  (VW_b 10 (F := fun n => vrun n d 149 96 [(2, x0), (0, x1), (0, x2), (0, x3), (0, 0), (0, 0), (0, 0), (1, 0), (9, 0), (0, 0), (9, 0)] [] w) (fun _ => rfl)).trans (Iff.rfl)
set_option maxRecDepth 100000 in
theorem b149_96 {d : Nat} {w : vW} {x0 x1 x2 x3 x4 x5 x6 x7 x9 : Int} {v10 : vV} {Q : Int → vW → Prop} : VW d 149 96 [(2, x0), (0, x1), (0, x2), (0, x3), (0, x4), (0, x5), (0, x6), (1, x7), (9, 0), (0, x9), v10] [] w Q ↔ ((x9 < x3 → VW d 149 102 [(2, x0), (0, x1), (0, x2), (0, x3), (0, x4), (0, x5), (0, x6), (1, x7), (9, 0), (0, x9), v10] [] w Q) ∧ (¬ (x9 < x3) → VW d 149 195 [(2, x0), (0, x1), (0, x2), (0, x3), (0, x4), (0, x5), (0, x6), (1, x7), (9, 0), (0, x9), v10] [] w Q)) :=
  (VW_b 3 (F := fun n => (if x9 < x3 then vrun n d 149 102 [(2, x0), (0, x1), (0, x2), (0, x3), (0, x4), (0, x5), (0, x6), (1, x7), (9, 0), (0, x9), v10] [] w else vrun n d 149 195 [(2, x0), (0, x1), (0, x2), (0, x3), (0, x4), (0, x5), (0, x6), (1, x7), (9, 0), (0, x9), v10] [] w)) (fun _ => rfl)).trans (EX_br.trans (and_congr (imp_congr Iff.rfl Iff.rfl) (imp_congr Iff.rfl Iff.rfl)))
set_option maxRecDepth 100000 in
theorem b149_102 {d : Nat} {w : vW} {x0 x1 x2 x3 x4 x5 x6 x7 x9 : Int} {v10 : vV} {Q : Int → vW → Prop} : VW d 149 102 [(2, x0), (0, x1), (0, x2), (0, x3), (0, x4), (0, x5), (0, x6), (1, x7), (9, 0), (0, x9), v10] [] w Q ↔ ((x9 = 0 → VW d 149 127 [(2, x0), (0, x1), (0, x2), (0, x3), (0, x4), (0, x5), (0, x6), (1, x7), (9, 0), (0, x9), v10] [] w Q) ∧ (¬ (x9 = 0) → VW d 149 107 [(2, x0), (0, x1), (0, x2), (0, x3), (0, x4), (0, x5), (0, x6), (1, x7), (9, 0), (0, x9), v10] [] w Q)) :=
  (VW_b 2 (F := fun n => (if x9 = 0 then vrun n d 149 127 [(2, x0), (0, x1), (0, x2), (0, x3), (0, x4), (0, x5), (0, x6), (1, x7), (9, 0), (0, x9), v10] [] w else vrun n d 149 107 [(2, x0), (0, x1), (0, x2), (0, x3), (0, x4), (0, x5), (0, x6), (1, x7), (9, 0), (0, x9), v10] [] w)) (fun _ => rfl)).trans (EX_br.trans (and_congr (imp_congr Iff.rfl Iff.rfl) (imp_congr Iff.rfl Iff.rfl)))
set_option maxRecDepth 100000 in
theorem b149_107 {d : Nat} {w : vW} {x0 x1 x2 x3 x4 x5 x6 x7 x9 : Int} {v10 : vV} {Q : Int → vW → Prop} : VW d 149 107 [(2, x0), (0, x1), (0, x2), (0, x3), (0, x4), (0, x5), (0, x6), (1, x7), (9, 0), (0, x9), v10] [] w Q ↔ (vkd w x0 = 22) ∧ (vkd w (vct w x0 58) = 2 ∧ (0 : Int) ≤ x9 ∧ x9 < vln w (vct w x0 58)) ∧ (vkd w x0 = 22) ∧ (vkd w (vct w x0 58) = 2 ∧ (0 : Int) ≤ (w32 (x9 - 1)) ∧ (w32 (x9 - 1)) < vln w (vct w x0 58)) ∧ (((vlc (vct w (vct w x0 58) x9) (vct w (vct w x0 58) (w32 (x9 - 1)))) = 0 → VW d 149 131 [(2, x0), (0, x1), (0, x2), (0, x3), (0, x4), (0, x5), (0, x6), (1, x7), (9, 0), (0, x9), v10] [] w Q) ∧ (¬ ((vlc (vct w (vct w x0 58) x9) (vct w (vct w x0 58) (w32 (x9 - 1)))) = 0) → VW d 149 127 [(2, x0), (0, x1), (0, x2), (0, x3), (0, x4), (0, x5), (0, x6), (1, x7), (9, 0), (0, x9), v10] [] w Q)) :=
  (VW_b 12 (F := fun n => if vkd w x0 = 22 then if vkd w (vct w x0 58) = 2 ∧ (0 : Int) ≤ x9 ∧ x9 < vln w (vct w x0 58) then if vkd w x0 = 22 then if vkd w (vct w x0 58) = 2 ∧ (0 : Int) ≤ (w32 (x9 - 1)) ∧ (w32 (x9 - 1)) < vln w (vct w x0 58) then (if (vlc (vct w (vct w x0 58) x9) (vct w (vct w x0 58) (w32 (x9 - 1)))) = 0 then vrun n d 149 131 [(2, x0), (0, x1), (0, x2), (0, x3), (0, x4), (0, x5), (0, x6), (1, x7), (9, 0), (0, x9), v10] [] w else vrun n d 149 127 [(2, x0), (0, x1), (0, x2), (0, x3), (0, x4), (0, x5), (0, x6), (1, x7), (9, 0), (0, x9), v10] [] w) else none else none else none else none) (fun _ => rfl)).trans (EX_if.trans (and_congr Iff.rfl (EX_if.trans (and_congr Iff.rfl (EX_if.trans (and_congr Iff.rfl (EX_if.trans (and_congr Iff.rfl (EX_br.trans (and_congr (imp_congr Iff.rfl Iff.rfl) (imp_congr Iff.rfl Iff.rfl)))))))))))
set_option maxRecDepth 100000 in
theorem b149_127 {d : Nat} {w : vW} {x0 x1 x2 x3 x4 x5 x6 x7 x9 : Int} {v10 : vV} {Q : Int → vW → Prop} : VW d 149 127 [(2, x0), (0, x1), (0, x2), (0, x3), (0, x4), (0, x5), (0, x6), (1, x7), (9, 0), (0, x9), v10] [] w Q ↔ VW d 149 132 [(2, x0), (0, x1), (0, x2), (0, x3), (0, x4), (0, x5), (0, x6), (1, x7), (9, 0), (0, x9), v10] [(0, 1)] w Q :=
  (VW_b 2 (F := fun n => vrun n d 149 132 [(2, x0), (0, x1), (0, x2), (0, x3), (0, x4), (0, x5), (0, x6), (1, x7), (9, 0), (0, x9), v10] [(0, 1)] w) (fun _ => rfl)).trans (Iff.rfl)
set_option maxRecDepth 100000 in
theorem b149_131 {d : Nat} {w : vW} {x0 x1 x2 x3 x4 x5 x6 x7 x9 : Int} {v10 : vV} {Q : Int → vW → Prop} : VW d 149 131 [(2, x0), (0, x1), (0, x2), (0, x3), (0, x4), (0, x5), (0, x6), (1, x7), (9, 0), (0, x9), v10] [] w Q ↔ VW d 149 132 [(2, x0), (0, x1), (0, x2), (0, x3), (0, x4), (0, x5), (0, x6), (1, x7), (9, 0), (0, x9), v10] [(0, 0)] w Q :=
  (VW_b 1 (F := fun n => vrun n d 149 132 [(2, x0), (0, x1), (0, x2), (0, x3), (0, x4), (0, x5), (0, x6), (1, x7), (9, 0), (0, x9), v10] [(0, 0)] w) (fun _ => rfl)).trans (Iff.rfl)
set_option maxRecDepth 100000 in
theorem b149_132 {d : Nat} {w : vW} {x0 x1 x2 x3 x4 x5 x6 x7 x9 y0 : Int} {v10 : vV} {Q : Int → vW → Prop} : VW d 149 132 [(2, x0), (0, x1), (0, x2), (0, x3), (0, x4), (0, x5), (0, x6), (1, x7), (9, 0), (0, x9), v10] [(0, y0)] w Q ↔ VC d 57 [(0, y0)] w (fun r w1 => VW d 149 141 [(2, x0), (0, x1), (0, x2), (0, x3), (0, x4), (0, x5), (0, x6), (1, x7), (9, 0), (0, x9), (0, y0)] [(0, r), (0, x4)] w1 Q) :=
  (VW_b 4 (F := fun n => vcl (vrun n) d 149 141 57 1 0 [(2, x0), (0, x1), (0, x2), (0, x3), (0, x4), (0, x5), (0, x6), (1, x7), (9, 0), (0, x9), (0, y0)] [(0, y0), (0, x4)] w) (fun _ => rfl)).trans (EX_call rfl)
set_option maxRecDepth 100000 in
theorem b149_141 {d : Nat} {w : vW} {x0 x1 x2 x3 x4 x5 x6 x7 x9 x10 y0 y1 : Int} {Q : Int → vW → Prop} : VW d 149 141 [(2, x0), (0, x1), (0, x2), (0, x3), (0, x4), (0, x5), (0, x6), (1, x7), (9, 0), (0, x9), (0, x10)] [(0, y1), (0, y0)] w Q ↔ ((x10 = 0 → VW d 149 153 [(2, x0), (0, x1), (0, x2), (0, x3), (0, w32 (y0 + y1)), (0, x5), (0, x6), (1, x7), (9, 0), (0, x9), (0, x10)] [] w Q) ∧ (¬ (x10 = 0) → VW d 149 149 [(2, x0), (0, x1), (0, x2), (0, x3), (0, w32 (y0 + y1)), (0, x5), (0, x6), (1, x7), (9, 0), (0, x9), (0, x10)] [] w Q)) :=
  (VW_b 4 (F := fun n => (if x10 = 0 then vrun n d 149 153 [(2, x0), (0, x1), (0, x2), (0, x3), (0, w32 (y0 + y1)), (0, x5), (0, x6), (1, x7), (9, 0), (0, x9), (0, x10)] [] w else vrun n d 149 149 [(2, x0), (0, x1), (0, x2), (0, x3), (0, w32 (y0 + y1)), (0, x5), (0, x6), (1, x7), (9, 0), (0, x9), (0, x10)] [] w)) (fun _ => rfl)).trans (EX_br.trans (and_congr (imp_congr Iff.rfl Iff.rfl) (imp_congr Iff.rfl Iff.rfl)))
set_option maxRecDepth 100000 in
theorem b149_149 {d : Nat} {w : vW} {x0 x1 x2 x3 x4 x5 x6 x7 x9 x10 : Int} {Q : Int → vW → Prop} : VW d 149 149 [(2, x0), (0, x1), (0, x2), (0, x3), (0, x4), (0, x5), (0, x6), (1, x7), (9, 0), (0, x9), (0, x10)] [] w Q ↔ VW d 149 157 [(2, x0), (0, x1), (0, x2), (0, x3), (0, x4), (0, x5), (0, x6), (1, x7), (9, 0), (0, x9), (0, x10)] [(0, 1)] w Q :=
  (VW_b 2 (F := fun n => vrun n d 149 157 [(2, x0), (0, x1), (0, x2), (0, x3), (0, x4), (0, x5), (0, x6), (1, x7), (9, 0), (0, x9), (0, x10)] [(0, 1)] w) (fun _ => rfl)).trans (Iff.rfl)
set_option maxRecDepth 100000 in
theorem b149_153 {d : Nat} {w : vW} {x0 x1 x2 x3 x4 x5 x6 x7 x9 x10 : Int} {Q : Int → vW → Prop} : VW d 149 153 [(2, x0), (0, x1), (0, x2), (0, x3), (0, x4), (0, x5), (0, x6), (1, x7), (9, 0), (0, x9), (0, x10)] [] w Q ↔ VW d 149 157 [(2, x0), (0, x1), (0, x2), (0, x3), (0, x4), (0, x5), (0, x6), (1, x7), (9, 0), (0, x9), (0, x10)] [(0, w32 (x5 + 1))] w Q :=
  (VW_b 3 (F := fun n => vrun n d 149 157 [(2, x0), (0, x1), (0, x2), (0, x3), (0, x4), (0, x5), (0, x6), (1, x7), (9, 0), (0, x9), (0, x10)] [(0, w32 (x5 + 1))] w) (fun _ => rfl)).trans (Iff.rfl)
set_option maxRecDepth 100000 in
theorem b149_157 {d : Nat} {w : vW} {x0 x1 x2 x3 x4 x5 x6 x7 x9 x10 y0 : Int} {Q : Int → vW → Prop} : VW d 149 157 [(2, x0), (0, x1), (0, x2), (0, x3), (0, x4), (0, x5), (0, x6), (1, x7), (9, 0), (0, x9), (0, x10)] [(0, y0)] w Q ↔ ((x6 < y0 → VW d 149 166 [(2, x0), (0, x1), (0, x2), (0, x3), (0, x4), (0, y0), (0, x6), (1, x7), (9, 0), (0, x9), (0, x10)] [] w Q) ∧ (¬ (x6 < y0) → VW d 149 176 [(2, x0), (0, x1), (0, x2), (0, x3), (0, x4), (0, y0), (0, x6), (1, x7), (9, 0), (0, x9), (0, x10)] [] w Q)) :=
  (VW_b 4 (F := fun n => (if x6 < y0 then vrun n d 149 166 [(2, x0), (0, x1), (0, x2), (0, x3), (0, x4), (0, y0), (0, x6), (1, x7), (9, 0), (0, x9), (0, x10)] [] w else vrun n d 149 176 [(2, x0), (0, x1), (0, x2), (0, x3), (0, x4), (0, y0), (0, x6), (1, x7), (9, 0), (0, x9), (0, x10)] [] w)) (fun _ => rfl)).trans (EX_br.trans (and_congr (imp_congr Iff.rfl Iff.rfl) (imp_congr Iff.rfl Iff.rfl)))
set_option maxRecDepth 100000 in
theorem b149_166 {d : Nat} {w : vW} {x0 x1 x2 x3 x4 x5 x6 x7 x9 x10 : Int} {Q : Int → vW → Prop} : VW d 149 166 [(2, x0), (0, x1), (0, x2), (0, x3), (0, x4), (0, x5), (0, x6), (1, x7), (9, 0), (0, x9), (0, x10)] [] w Q ↔ (vkd w x0 = 22) ∧ (vkd w (vct w x0 58) = 2 ∧ (0 : Int) ≤ x9 ∧ x9 < vln w (vct w x0 58)) ∧ VW d 149 178 [(2, x0), (0, x1), (0, x2), (0, x3), (0, x4), (0, x5), (0, x6), (1, x7), (9, 0), (0, x9), (0, x10)] [(1, vct w (vct w x0 58) x9)] w Q :=
  (VW_b 5 (F := fun n => if vkd w x0 = 22 then if vkd w (vct w x0 58) = 2 ∧ (0 : Int) ≤ x9 ∧ x9 < vln w (vct w x0 58) then vrun n d 149 178 [(2, x0), (0, x1), (0, x2), (0, x3), (0, x4), (0, x5), (0, x6), (1, x7), (9, 0), (0, x9), (0, x10)] [(1, vct w (vct w x0 58) x9)] w else none else none) (fun _ => rfl)).trans (EX_if.trans (and_congr Iff.rfl (EX_if.trans (and_congr Iff.rfl (Iff.rfl)))))
set_option maxRecDepth 100000 in
theorem b149_176 {d : Nat} {w : vW} {x0 x1 x2 x3 x4 x5 x6 x7 x9 x10 : Int} {Q : Int → vW → Prop} : VW d 149 176 [(2, x0), (0, x1), (0, x2), (0, x3), (0, x4), (0, x5), (0, x6), (1, x7), (9, 0), (0, x9), (0, x10)] [] w Q ↔ VW d 149 178 [(2, x0), (0, x1), (0, x2), (0, x3), (0, x4), (0, x5), (0, x6), (1, x7), (9, 0), (0, x9), (0, x10)] [(1, x7)] w Q :=
  (VW_b 1 (F := fun n => vrun n d 149 178 [(2, x0), (0, x1), (0, x2), (0, x3), (0, x4), (0, x5), (0, x6), (1, x7), (9, 0), (0, x9), (0, x10)] [(1, x7)] w) (fun _ => rfl)).trans (Iff.rfl)
set_option maxRecDepth 100000 in
theorem b149_178 {d : Nat} {w : vW} {x0 x1 x2 x3 x4 x5 x6 x7 x9 x10 y0 : Int} {Q : Int → vW → Prop} : VW d 149 178 [(2, x0), (0, x1), (0, x2), (0, x3), (0, x4), (0, x5), (0, x6), (1, x7), (9, 0), (0, x9), (0, x10)] [(1, y0)] w Q ↔ VW d 149 96 [(2, x0), (0, x1), (0, x2), (0, x3), (0, x4), (0, x5), (0, max x6 x5), (1, y0), (9, 0), (0, w32 (x9 + 1)), (0, x10)] [] w Q :=
  (VW_b 7 (F := fun n => vrun n d 149 96 [(2, x0), (0, x1), (0, x2), (0, x3), (0, x4), (0, x5), (0, max x6 x5), (1, y0), (9, 0), (0, w32 (x9 + 1)), (0, x10)] [] w) (fun _ => rfl)).trans (Iff.rfl)
set_option maxRecDepth 100000 in
theorem b149_195 {d : Nat} {w : vW} {x0 x1 x2 x3 x4 x5 x6 x7 x9 : Int} {v10 : vV} {Q : Int → vW → Prop} : VW d 149 195 [(2, x0), (0, x1), (0, x2), (0, x3), (0, x4), (0, x5), (0, x6), (1, x7), (9, 0), (0, x9), v10] [] w Q ↔ (vkd w x0 = 22) ∧ VW d 149 200 [(2, x0), (0, x1), (0, x2), (0, x3), (0, x4), (0, x5), (0, x6), (1, x7), (9, 0), (0, x9), v10] [] (vsv w x0 1 0) Q :=
  (VW_b 3 (F := fun n => if vkd w x0 = 22 then vrun n d 149 200 [(2, x0), (0, x1), (0, x2), (0, x3), (0, x4), (0, x5), (0, x6), (1, x7), (9, 0), (0, x9), v10] [] (vsv w x0 1 0) else none) (fun _ => rfl)).trans (EX_if.trans (and_congr Iff.rfl (Iff.rfl)))
set_option maxRecDepth 100000 in
theorem b149_200 {d : Nat} {w : vW} {x0 x1 x2 x3 x4 x5 x6 x7 x9 : Int} {v10 : vV} {Q : Int → vW → Prop} : VW d 149 200 [(2, x0), (0, x1), (0, x2), (0, x3), (0, x4), (0, x5), (0, x6), (1, x7), (9, 0), (0, x9), v10] [] w Q ↔ VC d 58 [(2, x0), (1, x7)] w (fun _ w1 => VW d 149 206 [(2, x0), (0, x1), (0, x2), (0, x3), (0, x4), (0, x5), (0, x6), (1, x7), (9, 0), (0, x9), v10] [] w1 Q) :=
  (VW_b 3 (F := fun n => vcl (vrun n) d 149 206 58 2 9 [(2, x0), (0, x1), (0, x2), (0, x3), (0, x4), (0, x5), (0, x6), (1, x7), (9, 0), (0, x9), v10] [(1, x7), (2, x0)] w) (fun _ => rfl)).trans (EX_call rfl)
set_option maxRecDepth 100000 in
theorem b149_206 {d : Nat} {w : vW} {x0 x1 x2 x3 x4 x5 x6 x7 x9 : Int} {v10 : vV} {Q : Int → vW → Prop} : VW d 149 206 [(2, x0), (0, x1), (0, x2), (0, x3), (0, x4), (0, x5), (0, x6), (1, x7), (9, 0), (0, x9), v10] [] w Q ↔ VC d 58 [(2, x0), (1, x6)] w (fun _ w1 => VW d 149 213 [(2, x0), (0, x1), (0, x2), (0, x3), (0, x4), (0, x5), (0, x6), (1, x7), (9, 0), (0, x9), v10] [] w1 Q) :=
  (VW_b 4 (F := fun n => vcl (vrun n) d 149 213 58 2 9 [(2, x0), (0, x1), (0, x2), (0, x3), (0, x4), (0, x5), (0, x6), (1, x7), (9, 0), (0, x9), v10] [(1, x6), (2, x0)] w) (fun _ => rfl)).trans (EX_call rfl)
set_option maxRecDepth 100000 in
theorem b149_213 {d : Nat} {w : vW} {x0 x1 x2 x3 x4 x5 x6 x7 x9 : Int} {v10 : vV} {Q : Int → vW → Prop} : VW d 149 213 [(2, x0), (0, x1), (0, x2), (0, x3), (0, x4), (0, x5), (0, x6), (1, x7), (9, 0), (0, x9), v10] [] w Q ↔ Q x4 w :=
  (VW_b 2 (F := fun n => some (0, x4, w)) (fun _ => rfl)).trans (EX_ret0)
/-! 150: StrikeWhatCancelsModel.quarrels(I)I -/
set_option maxRecDepth 100000 in
theorem b150_0 {d : Nat} {w : vW} {x0 x1 : Int} {Q : Int → vW → Prop} : VW d 150 0 [(2, x0), (0, x1), (9, 0), (9, 0), (9, 0), (9, 0), (9, 0)] [] w Q ↔ (vkd w x0 = 22) ∧ VW d 150 5 [(2, x0), (0, x1), (9, 0), (9, 0), (9, 0), (9, 0), (9, 0)] [] (vsv w x0 0 0) Q :=
  (VW_b 3 (F := fun n => if vkd w x0 = 22 then vrun n d 150 5 [(2, x0), (0, x1), (9, 0), (9, 0), (9, 0), (9, 0), (9, 0)] [] (vsv w x0 0 0) else none) (fun _ => rfl)).trans (EX_if.trans (and_congr Iff.rfl (Iff.rfl)))
set_option maxRecDepth 100000 in
theorem b150_5 {d : Nat} {w : vW} {x0 x1 : Int} {Q : Int → vW → Prop} : VW d 150 5 [(2, x0), (0, x1), (9, 0), (9, 0), (9, 0), (9, 0), (9, 0)] [] w Q ↔ VC d 140 [(0, x1)] w (fun r w1 => VW d 150 9 [(2, x0), (0, x1), (9, 0), (9, 0), (9, 0), (9, 0), (9, 0)] [(0, r)] w1 Q) :=
  (VW_b 2 (F := fun n => vcl (vrun n) d 150 9 140 1 0 [(2, x0), (0, x1), (9, 0), (9, 0), (9, 0), (9, 0), (9, 0)] [(0, x1)] w) (fun _ => rfl)).trans (EX_call rfl)
set_option maxRecDepth 100000 in
theorem b150_9 {d : Nat} {w : vW} {x0 x1 y0 : Int} {Q : Int → vW → Prop} : VW d 150 9 [(2, x0), (0, x1), (9, 0), (9, 0), (9, 0), (9, 0), (9, 0)] [(0, y0)] w Q ↔ ((y0 = 0 → VW d 150 12 [(2, x0), (0, x1), (9, 0), (9, 0), (9, 0), (9, 0), (9, 0)] [] w Q) ∧ (¬ (y0 = 0) → VW d 150 14 [(2, x0), (0, x1), (9, 0), (9, 0), (9, 0), (9, 0), (9, 0)] [] w Q)) :=
  (VW_b 1 (F := fun n => (if y0 = 0 then vrun n d 150 12 [(2, x0), (0, x1), (9, 0), (9, 0), (9, 0), (9, 0), (9, 0)] [] w else vrun n d 150 14 [(2, x0), (0, x1), (9, 0), (9, 0), (9, 0), (9, 0), (9, 0)] [] w)) (fun _ => rfl)).trans (EX_br.trans (and_congr (imp_congr Iff.rfl Iff.rfl) (imp_congr Iff.rfl Iff.rfl)))
set_option maxRecDepth 100000 in
theorem b150_12 {d : Nat} {w : vW} {x0 x1 : Int} {Q : Int → vW → Prop} : VW d 150 12 [(2, x0), (0, x1), (9, 0), (9, 0), (9, 0), (9, 0), (9, 0)] [] w Q ↔ Q (-1) w :=
  (VW_b 2 (F := fun n => some (0, (-1), w)) (fun _ => rfl)).trans (EX_ret0)
set_option maxRecDepth 100000 in
theorem b150_14 {d : Nat} {w : vW} {x0 x1 : Int} {Q : Int → vW → Prop} : VW d 150 14 [(2, x0), (0, x1), (9, 0), (9, 0), (9, 0), (9, 0), (9, 0)] [] w Q ↔ VC d 137 [(2, x0), (0, x1)] w (fun r w1 => VW d 150 19 [(2, x0), (0, x1), (9, 0), (9, 0), (9, 0), (9, 0), (9, 0)] [(0, r)] w1 Q) :=
  (VW_b 3 (F := fun n => vcl (vrun n) d 150 19 137 2 0 [(2, x0), (0, x1), (9, 0), (9, 0), (9, 0), (9, 0), (9, 0)] [(0, x1), (2, x0)] w) (fun _ => rfl)).trans (EX_call rfl)
set_option maxRecDepth 100000 in
theorem b150_19 {d : Nat} {w : vW} {x0 x1 y0 : Int} {Q : Int → vW → Prop} : VW d 150 19 [(2, x0), (0, x1), (9, 0), (9, 0), (9, 0), (9, 0), (9, 0)] [(0, y0)] w Q ↔ ((4096 < y0 → VW d 150 27 [(2, x0), (0, x1), (0, y0), (9, 0), (9, 0), (9, 0), (9, 0)] [] w Q) ∧ (¬ (4096 < y0) → VW d 150 30 [(2, x0), (0, x1), (0, y0), (9, 0), (9, 0), (9, 0), (9, 0)] [] w Q)) :=
  (VW_b 4 (F := fun n => (if 4096 < y0 then vrun n d 150 27 [(2, x0), (0, x1), (0, y0), (9, 0), (9, 0), (9, 0), (9, 0)] [] w else vrun n d 150 30 [(2, x0), (0, x1), (0, y0), (9, 0), (9, 0), (9, 0), (9, 0)] [] w)) (fun _ => rfl)).trans (EX_br.trans (and_congr (imp_congr Iff.rfl Iff.rfl) (imp_congr Iff.rfl Iff.rfl)))
set_option maxRecDepth 100000 in
theorem b150_27 {d : Nat} {w : vW} {x0 x1 x2 : Int} {Q : Int → vW → Prop} : VW d 150 27 [(2, x0), (0, x1), (0, x2), (9, 0), (9, 0), (9, 0), (9, 0)] [] w Q ↔ Q (-3) w :=
  (VW_b 2 (F := fun n => some (0, (-3), w)) (fun _ => rfl)).trans (EX_ret0)
set_option maxRecDepth 100000 in
theorem b150_30 {d : Nat} {w : vW} {x0 x1 x2 : Int} {Q : Int → vW → Prop} : VW d 150 30 [(2, x0), (0, x1), (0, x2), (9, 0), (9, 0), (9, 0), (9, 0)] [] w Q ↔ (vkd w x0 = 22) ∧ VW d 150 39 [(2, x0), (0, x1), (0, x2), (0, 0), (9, 0), (9, 0), (9, 0)] [] (vsv w x0 55 (-1)) Q :=
  (VW_b 5 (F := fun n => if vkd w x0 = 22 then vrun n d 150 39 [(2, x0), (0, x1), (0, x2), (0, 0), (9, 0), (9, 0), (9, 0)] [] (vsv w x0 55 (-1)) else none) (fun _ => rfl)).trans (EX_if.trans (and_congr Iff.rfl (Iff.rfl)))
set_option maxRecDepth 100000 in
theorem b150_39 {d : Nat} {w : vW} {x0 x1 x2 x3 : Int} {Q : Int → vW → Prop} : VW d 150 39 [(2, x0), (0, x1), (0, x2), (0, x3), (9, 0), (9, 0), (9, 0)] [] w Q ↔ VW d 150 42 [(2, x0), (0, x1), (0, x2), (0, x3), (0, 0), (9, 0), (9, 0)] [] w Q :=
  (VW_b 2 (F := fun n => vrun n d 150 42 [(2, x0), (0, x1), (0, x2), (0, x3), (0, 0), (9, 0), (9, 0)] [] w) (fun _ => rfl)).trans (Iff.rfl)
set_option maxRecDepth 100000 in
theorem b150_42 {d : Nat} {w : vW} {x0 x1 x2 x3 x4 : Int} {v5 v6 : vV} {Q : Int → vW → Prop} : VW d 150 42 [(2, x0), (0, x1), (0, x2), (0, x3), (0, x4), v5, v6] [] w Q ↔ ((x4 < x2 → VW d 150 48 [(2, x0), (0, x1), (0, x2), (0, x3), (0, x4), v5, v6] [] w Q) ∧ (¬ (x4 < x2) → VW d 150 109 [(2, x0), (0, x1), (0, x2), (0, x3), (0, x4), v5, v6] [] w Q)) :=
  (VW_b 3 (F := fun n => (if x4 < x2 then vrun n d 150 48 [(2, x0), (0, x1), (0, x2), (0, x3), (0, x4), v5, v6] [] w else vrun n d 150 109 [(2, x0), (0, x1), (0, x2), (0, x3), (0, x4), v5, v6] [] w)) (fun _ => rfl)).trans (EX_br.trans (and_congr (imp_congr Iff.rfl Iff.rfl) (imp_congr Iff.rfl Iff.rfl)))
set_option maxRecDepth 100000 in
theorem b150_48 {d : Nat} {w : vW} {x0 x1 x2 x3 x4 : Int} {v5 v6 : vV} {Q : Int → vW → Prop} : VW d 150 48 [(2, x0), (0, x1), (0, x2), (0, x3), (0, x4), v5, v6] [] w Q ↔ VC d 138 [(2, x0), (0, x1), (0, x4)] w (fun r w1 => VW d 150 55 [(2, x0), (0, x1), (0, x2), (0, x3), (0, x4), v5, v6] [(1, r)] w1 Q) :=
  (VW_b 4 (F := fun n => vcl (vrun n) d 150 55 138 3 1 [(2, x0), (0, x1), (0, x2), (0, x3), (0, x4), v5, v6] [(0, x4), (0, x1), (2, x0)] w) (fun _ => rfl)).trans (EX_call rfl)
set_option maxRecDepth 100000 in
theorem b150_55 {d : Nat} {w : vW} {x0 x1 x2 x3 x4 y0 : Int} {v5 v6 : vV} {Q : Int → vW → Prop} : VW d 150 55 [(2, x0), (0, x1), (0, x2), (0, x3), (0, x4), v5, v6] [(1, y0)] w Q ↔ (vkd w x0 = 22) ∧ VC d 112 [(2, x0), (1, y0), (0, 0), (0, vct w x0 4)] w (fun r w1 => VW d 150 68 [(2, x0), (0, x1), (0, x2), (0, x3), (0, x4), (1, y0), (9, 0)] [(1, r)] w1 Q) :=
  (VW_b 7 (F := fun n => if vkd w x0 = 22 then vcl (vrun n) d 150 68 112 4 1 [(2, x0), (0, x1), (0, x2), (0, x3), (0, x4), (1, y0), (9, 0)] [(0, vct w x0 4), (0, 0), (1, y0), (2, x0)] w else none) (fun _ => rfl)).trans (EX_if.trans (and_congr Iff.rfl (EX_call rfl)))
set_option maxRecDepth 100000 in
theorem b150_68 {d : Nat} {w : vW} {x0 x1 x2 x3 x4 x5 y0 : Int} {Q : Int → vW → Prop} : VW d 150 68 [(2, x0), (0, x1), (0, x2), (0, x3), (0, x4), (1, x5), (9, 0)] [(1, y0)] w Q ↔ (vkd w x0 = 22) ∧ VC d 112 [(2, x0), (1, x5), (0, 1), (0, vct w x0 4)] w (fun r w1 => VW d 150 79 [(2, x0), (0, x1), (0, x2), (0, x3), (0, x4), (1, x5), (9, 0)] [(1, r), (1, y0)] w1 Q) :=
  (VW_b 6 (F := fun n => if vkd w x0 = 22 then vcl (vrun n) d 150 79 112 4 1 [(2, x0), (0, x1), (0, x2), (0, x3), (0, x4), (1, x5), (9, 0)] [(0, vct w x0 4), (0, 1), (1, x5), (2, x0), (1, y0)] w else none) (fun _ => rfl)).trans (EX_if.trans (and_congr Iff.rfl (EX_call rfl)))
set_option maxRecDepth 100000 in
theorem b150_79 {d : Nat} {w : vW} {x0 x1 x2 x3 x4 x5 y0 y1 : Int} {Q : Int → vW → Prop} : VW d 150 79 [(2, x0), (0, x1), (0, x2), (0, x3), (0, x4), (1, x5), (9, 0)] [(1, y1), (1, y0)] w Q ↔ (((vlc y0 y1) = 0 → VW d 150 103 [(2, x0), (0, x1), (0, x2), (0, x3), (0, x4), (1, x5), (9, 0)] [] w Q) ∧ (¬ ((vlc y0 y1) = 0) → VW d 150 83 [(2, x0), (0, x1), (0, x2), (0, x3), (0, x4), (1, x5), (9, 0)] [] w Q)) :=
  (VW_b 2 (F := fun n => (if (vlc y0 y1) = 0 then vrun n d 150 103 [(2, x0), (0, x1), (0, x2), (0, x3), (0, x4), (1, x5), (9, 0)] [] w else vrun n d 150 83 [(2, x0), (0, x1), (0, x2), (0, x3), (0, x4), (1, x5), (9, 0)] [] w)) (fun _ => rfl)).trans (EX_br.trans (and_congr (imp_congr Iff.rfl Iff.rfl) (imp_congr Iff.rfl Iff.rfl)))
set_option maxRecDepth 100000 in
theorem b150_83 {d : Nat} {w : vW} {x0 x1 x2 x3 x4 x5 : Int} {Q : Int → vW → Prop} : VW d 150 83 [(2, x0), (0, x1), (0, x2), (0, x3), (0, x4), (1, x5), (9, 0)] [] w Q ↔ ((x3 = 0 → VW d 150 88 [(2, x0), (0, x1), (0, x2), (0, x3), (0, x4), (1, x5), (9, 0)] [(2, x0)] w Q) ∧ (¬ (x3 = 0) → VW d 150 93 [(2, x0), (0, x1), (0, x2), (0, x3), (0, x4), (1, x5), (9, 0)] [(2, x0)] w Q)) :=
  (VW_b 3 (F := fun n => (if x3 = 0 then vrun n d 150 88 [(2, x0), (0, x1), (0, x2), (0, x3), (0, x4), (1, x5), (9, 0)] [(2, x0)] w else vrun n d 150 93 [(2, x0), (0, x1), (0, x2), (0, x3), (0, x4), (1, x5), (9, 0)] [(2, x0)] w)) (fun _ => rfl)).trans (EX_br.trans (and_congr (imp_congr Iff.rfl Iff.rfl) (imp_congr Iff.rfl Iff.rfl)))
set_option maxRecDepth 100000 in
theorem b150_88 {d : Nat} {w : vW} {x0 x1 x2 x3 x4 x5 y0 : Int} {Q : Int → vW → Prop} : VW d 150 88 [(2, x0), (0, x1), (0, x2), (0, x3), (0, x4), (1, x5), (9, 0)] [(2, y0)] w Q ↔ VW d 150 97 [(2, x0), (0, x1), (0, x2), (0, x3), (0, x4), (1, x5), (9, 0)] [(1, x5), (2, y0)] w Q :=
  (VW_b 2 (F := fun n => vrun n d 150 97 [(2, x0), (0, x1), (0, x2), (0, x3), (0, x4), (1, x5), (9, 0)] [(1, x5), (2, y0)] w) (fun _ => rfl)).trans (Iff.rfl)
set_option maxRecDepth 100000 in
theorem b150_93 {d : Nat} {w : vW} {x0 x1 x2 x3 x4 x5 y0 : Int} {Q : Int → vW → Prop} : VW d 150 93 [(2, x0), (0, x1), (0, x2), (0, x3), (0, x4), (1, x5), (9, 0)] [(2, y0)] w Q ↔ (vkd w x0 = 22) ∧ VW d 150 97 [(2, x0), (0, x1), (0, x2), (0, x3), (0, x4), (1, x5), (9, 0)] [(1, vct w x0 55), (2, y0)] w Q :=
  (VW_b 2 (F := fun n => if vkd w x0 = 22 then vrun n d 150 97 [(2, x0), (0, x1), (0, x2), (0, x3), (0, x4), (1, x5), (9, 0)] [(1, vct w x0 55), (2, y0)] w else none) (fun _ => rfl)).trans (EX_if.trans (and_congr Iff.rfl (Iff.rfl)))
set_option maxRecDepth 100000 in
theorem b150_97 {d : Nat} {w : vW} {x0 x1 x2 x3 x4 x5 y0 y1 : Int} {Q : Int → vW → Prop} : VW d 150 97 [(2, x0), (0, x1), (0, x2), (0, x3), (0, x4), (1, x5), (9, 0)] [(1, y1), (2, y0)] w Q ↔ (vkd w y0 = 22) ∧ VW d 150 100 [(2, x0), (0, x1), (0, x2), (0, x3), (0, x4), (1, x5), (9, 0)] [] (vsv w y0 55 y1) Q :=
  (VW_b 1 (F := fun n => if vkd w y0 = 22 then vrun n d 150 100 [(2, x0), (0, x1), (0, x2), (0, x3), (0, x4), (1, x5), (9, 0)] [] (vsv w y0 55 y1) else none) (fun _ => rfl)).trans (EX_if.trans (and_congr Iff.rfl (Iff.rfl)))
set_option maxRecDepth 100000 in
theorem b150_100 {d : Nat} {w : vW} {x0 x1 x2 x3 x4 x5 : Int} {Q : Int → vW → Prop} : VW d 150 100 [(2, x0), (0, x1), (0, x2), (0, x3), (0, x4), (1, x5), (9, 0)] [] w Q ↔ VW d 150 103 [(2, x0), (0, x1), (0, x2), (0, w32 (x3 + 1)), (0, x4), (1, x5), (9, 0)] [] w Q :=
  (VW_b 1 (F := fun n => vrun n d 150 103 [(2, x0), (0, x1), (0, x2), (0, w32 (x3 + 1)), (0, x4), (1, x5), (9, 0)] [] w) (fun _ => rfl)).trans (Iff.rfl)
set_option maxRecDepth 100000 in
theorem b150_103 {d : Nat} {w : vW} {x0 x1 x2 x3 x4 x5 : Int} {Q : Int → vW → Prop} : VW d 150 103 [(2, x0), (0, x1), (0, x2), (0, x3), (0, x4), (1, x5), (9, 0)] [] w Q ↔ VW d 150 42 [(2, x0), (0, x1), (0, x2), (0, x3), (0, w32 (x4 + 1)), (1, x5), (9, 0)] [] w Q :=
  (VW_b 2 (F := fun n => vrun n d 150 42 [(2, x0), (0, x1), (0, x2), (0, x3), (0, w32 (x4 + 1)), (1, x5), (9, 0)] [] w) (fun _ => rfl)).trans (Iff.rfl)
set_option maxRecDepth 100000 in
theorem b150_109 {d : Nat} {w : vW} {x0 x1 x2 x3 x4 : Int} {v5 v6 : vV} {Q : Int → vW → Prop} : VW d 150 109 [(2, x0), (0, x1), (0, x2), (0, x3), (0, x4), v5, v6] [] w Q ↔ VC d 142 [(2, x0), (0, x3)] w (fun _ w1 => VW d 150 114 [(2, x0), (0, x1), (0, x2), (0, x3), (0, x4), v5, v6] [] w1 Q) :=
  (VW_b 3 (F := fun n => vcl (vrun n) d 150 114 142 2 9 [(2, x0), (0, x1), (0, x2), (0, x3), (0, x4), v5, v6] [(0, x3), (2, x0)] w) (fun _ => rfl)).trans (EX_call rfl)
set_option maxRecDepth 100000 in
theorem b150_114 {d : Nat} {w : vW} {x0 x1 x2 x3 x4 : Int} {v5 v6 : vV} {Q : Int → vW → Prop} : VW d 150 114 [(2, x0), (0, x1), (0, x2), (0, x3), (0, x4), v5, v6] [] w Q ↔ Q x3 w :=
  (VW_b 2 (F := fun n => some (0, x3, w)) (fun _ => rfl)).trans (EX_ret0)
/-! 151: StrikeWhatCancelsModel.seed(I)I -/
set_option maxRecDepth 100000 in
theorem b151_0 {d : Nat} {w : vW} {x0 x1 : Int} {Q : Int → vW → Prop} : VW d 151 0 [(2, x0), (0, x1), (9, 0)] [] w Q ↔ (vkd w x0 = 22) ∧ VW d 151 5 [(2, x0), (0, x1), (9, 0)] [] (vsv w x0 0 0) Q :=
  (VW_b 3 (F := fun n => if vkd w x0 = 22 then vrun n d 151 5 [(2, x0), (0, x1), (9, 0)] [] (vsv w x0 0 0) else none) (fun _ => rfl)).trans (EX_if.trans (and_congr Iff.rfl (Iff.rfl)))
set_option maxRecDepth 100000 in
theorem b151_5 {d : Nat} {w : vW} {x0 x1 : Int} {Q : Int → vW → Prop} : VW d 151 5 [(2, x0), (0, x1), (9, 0)] [] w Q ↔ (vkd w x0 = 22) ∧ (vkd w x0 = 22) ∧ VW d 151 15 [(2, x0), (0, x1), (0, vct w x0 17)] [] (vsv w x0 17 x1) Q :=
  (VW_b 6 (F := fun n => if vkd w x0 = 22 then if vkd w x0 = 22 then vrun n d 151 15 [(2, x0), (0, x1), (0, vct w x0 17)] [] (vsv w x0 17 x1) else none else none) (fun _ => rfl)).trans (EX_if.trans (and_congr Iff.rfl (EX_if.trans (and_congr Iff.rfl (Iff.rfl)))))
set_option maxRecDepth 100000 in
theorem b151_15 {d : Nat} {w : vW} {x0 x1 x2 : Int} {Q : Int → vW → Prop} : VW d 151 15 [(2, x0), (0, x1), (0, x2)] [] w Q ↔ Q x2 w :=
  (VW_b 2 (F := fun n => some (0, x2, w)) (fun _ => rfl)).trans (EX_ret0)
/-! 152: StrikeWhatCancelsModel.keep(I)Z -/
set_option maxRecDepth 100000 in
theorem b152_0 {d : Nat} {w : vW} {x0 x1 : Int} {Q : Int → vW → Prop} : VW d 152 0 [(2, x0), (0, x1), (9, 0), (9, 0)] [] w Q ↔ (vkd w x0 = 22) ∧ VW d 152 5 [(2, x0), (0, x1), (9, 0), (9, 0)] [] (vsv w x0 0 0) Q :=
  (VW_b 3 (F := fun n => if vkd w x0 = 22 then vrun n d 152 5 [(2, x0), (0, x1), (9, 0), (9, 0)] [] (vsv w x0 0 0) else none) (fun _ => rfl)).trans (EX_if.trans (and_congr Iff.rfl (Iff.rfl)))
set_option maxRecDepth 100000 in
theorem b152_5 {d : Nat} {w : vW} {x0 x1 : Int} {Q : Int → vW → Prop} : VW d 152 5 [(2, x0), (0, x1), (9, 0), (9, 0)] [] w Q ↔ VC d 56 [(1, x1), (1, 0), (1, 2)] w (fun r w1 => VW d 152 14 [(2, x0), (0, x1), (9, 0), (9, 0)] [(0, r)] w1 Q) :=
  (VW_b 5 (F := fun n => vcl (vrun n) d 152 14 56 3 0 [(2, x0), (0, x1), (9, 0), (9, 0)] [(1, 2), (1, 0), (1, x1)] w) (fun _ => rfl)).trans (EX_call rfl)
set_option maxRecDepth 100000 in
theorem b152_14 {d : Nat} {w : vW} {x0 x1 y0 : Int} {Q : Int → vW → Prop} : VW d 152 14 [(2, x0), (0, x1), (9, 0), (9, 0)] [(0, y0)] w Q ↔ ((y0 = 0 → VW d 152 17 [(2, x0), (0, x1), (9, 0), (9, 0)] [] w Q) ∧ (¬ (y0 = 0) → VW d 152 19 [(2, x0), (0, x1), (9, 0), (9, 0)] [] w Q)) :=
  (VW_b 1 (F := fun n => (if y0 = 0 then vrun n d 152 17 [(2, x0), (0, x1), (9, 0), (9, 0)] [] w else vrun n d 152 19 [(2, x0), (0, x1), (9, 0), (9, 0)] [] w)) (fun _ => rfl)).trans (EX_br.trans (and_congr (imp_congr Iff.rfl Iff.rfl) (imp_congr Iff.rfl Iff.rfl)))
set_option maxRecDepth 100000 in
theorem b152_17 {d : Nat} {w : vW} {x0 x1 : Int} {Q : Int → vW → Prop} : VW d 152 17 [(2, x0), (0, x1), (9, 0), (9, 0)] [] w Q ↔ Q 0 w :=
  (VW_b 2 (F := fun n => some (0, 0, w)) (fun _ => rfl)).trans (EX_ret0)
set_option maxRecDepth 100000 in
theorem b152_19 {d : Nat} {w : vW} {x0 x1 : Int} {Q : Int → vW → Prop} : VW d 152 19 [(2, x0), (0, x1), (9, 0), (9, 0)] [] w Q ↔ (vkd w x0 = 22) ∧ ((0 : Int) ≤ 1 ∧ 1 ≤ 1) ∧ (vkd w (vct w x0 60) = 3 ∧ (0 : Int) ≤ x1 ∧ x1 < vln w (vct w x0 60)) ∧ VW d 152 26 [(2, x0), (0, x1), (9, 0), (9, 0)] [] (vsv w (vct w x0 60) x1 1) Q :=
  (VW_b 5 (F := fun n => if vkd w x0 = 22 then if (0 : Int) ≤ 1 ∧ 1 ≤ 1 then if vkd w (vct w x0 60) = 3 ∧ (0 : Int) ≤ x1 ∧ x1 < vln w (vct w x0 60) then vrun n d 152 26 [(2, x0), (0, x1), (9, 0), (9, 0)] [] (vsv w (vct w x0 60) x1 1) else none else none else none) (fun _ => rfl)).trans (EX_if.trans (and_congr Iff.rfl (EX_if.trans (and_congr Iff.rfl (EX_if.trans (and_congr Iff.rfl (Iff.rfl)))))))
set_option maxRecDepth 100000 in
theorem b152_26 {d : Nat} {w : vW} {x0 x1 : Int} {Q : Int → vW → Prop} : VW d 152 26 [(2, x0), (0, x1), (9, 0), (9, 0)] [] w Q ↔ (vkd w x0 = 22) ∧ (vkd w x0 = 22) ∧ (vkd w (vct w x0 61) = 2 ∧ (0 : Int) ≤ (w32 (12 * x1)) ∧ (w32 (12 * x1)) < vln w (vct w x0 61)) ∧ VW d 152 41 [(2, x0), (0, x1), (0, w32 (12 * x1)), (9, 0)] [] (vsv w (vct w x0 61) (w32 (12 * x1)) (vct w x0 13)) Q :=
  (VW_b 10 (F := fun n => if vkd w x0 = 22 then if vkd w x0 = 22 then if vkd w (vct w x0 61) = 2 ∧ (0 : Int) ≤ (w32 (12 * x1)) ∧ (w32 (12 * x1)) < vln w (vct w x0 61) then vrun n d 152 41 [(2, x0), (0, x1), (0, w32 (12 * x1)), (9, 0)] [] (vsv w (vct w x0 61) (w32 (12 * x1)) (vct w x0 13)) else none else none else none) (fun _ => rfl)).trans (EX_if.trans (and_congr Iff.rfl (EX_if.trans (and_congr Iff.rfl (EX_if.trans (and_congr Iff.rfl (Iff.rfl)))))))
set_option maxRecDepth 100000 in
theorem b152_41 {d : Nat} {w : vW} {x0 x1 x2 : Int} {Q : Int → vW → Prop} : VW d 152 41 [(2, x0), (0, x1), (0, x2), (9, 0)] [] w Q ↔ (vkd w x0 = 22) ∧ (vkd w x0 = 22) ∧ (vkd w (vct w x0 61) = 2 ∧ (0 : Int) ≤ (w32 (x2 + 1)) ∧ (w32 (x2 + 1)) < vln w (vct w x0 61)) ∧ VW d 152 53 [(2, x0), (0, x1), (0, x2), (9, 0)] [] (vsv w (vct w x0 61) (w32 (x2 + 1)) (vct w x0 14)) Q :=
  (VW_b 8 (F := fun n => if vkd w x0 = 22 then if vkd w x0 = 22 then if vkd w (vct w x0 61) = 2 ∧ (0 : Int) ≤ (w32 (x2 + 1)) ∧ (w32 (x2 + 1)) < vln w (vct w x0 61) then vrun n d 152 53 [(2, x0), (0, x1), (0, x2), (9, 0)] [] (vsv w (vct w x0 61) (w32 (x2 + 1)) (vct w x0 14)) else none else none else none) (fun _ => rfl)).trans (EX_if.trans (and_congr Iff.rfl (EX_if.trans (and_congr Iff.rfl (EX_if.trans (and_congr Iff.rfl (Iff.rfl)))))))
set_option maxRecDepth 100000 in
theorem b152_53 {d : Nat} {w : vW} {x0 x1 x2 : Int} {Q : Int → vW → Prop} : VW d 152 53 [(2, x0), (0, x1), (0, x2), (9, 0)] [] w Q ↔ (vkd w x0 = 22) ∧ (vkd w x0 = 22) ∧ (vkd w (vct w x0 61) = 2 ∧ (0 : Int) ≤ (w32 (x2 + 2)) ∧ (w32 (x2 + 2)) < vln w (vct w x0 61)) ∧ VW d 152 66 [(2, x0), (0, x1), (0, x2), (9, 0)] [] (vsv w (vct w x0 61) (w32 (x2 + 2)) (vct w x0 17)) Q :=
  (VW_b 9 (F := fun n => if vkd w x0 = 22 then if vkd w x0 = 22 then if vkd w (vct w x0 61) = 2 ∧ (0 : Int) ≤ (w32 (x2 + 2)) ∧ (w32 (x2 + 2)) < vln w (vct w x0 61) then vrun n d 152 66 [(2, x0), (0, x1), (0, x2), (9, 0)] [] (vsv w (vct w x0 61) (w32 (x2 + 2)) (vct w x0 17)) else none else none else none) (fun _ => rfl)).trans (EX_if.trans (and_congr Iff.rfl (EX_if.trans (and_congr Iff.rfl (EX_if.trans (and_congr Iff.rfl (Iff.rfl)))))))
set_option maxRecDepth 100000 in
theorem b152_66 {d : Nat} {w : vW} {x0 x1 x2 : Int} {Q : Int → vW → Prop} : VW d 152 66 [(2, x0), (0, x1), (0, x2), (9, 0)] [] w Q ↔ (vkd w x0 = 22) ∧ (vkd w x0 = 22) ∧ (vkd w (vct w x0 61) = 2 ∧ (0 : Int) ≤ (w32 (x2 + 3)) ∧ (w32 (x2 + 3)) < vln w (vct w x0 61)) ∧ VW d 152 79 [(2, x0), (0, x1), (0, x2), (9, 0)] [] (vsv w (vct w x0 61) (w32 (x2 + 3)) (vct w x0 12)) Q :=
  (VW_b 9 (F := fun n => if vkd w x0 = 22 then if vkd w x0 = 22 then if vkd w (vct w x0 61) = 2 ∧ (0 : Int) ≤ (w32 (x2 + 3)) ∧ (w32 (x2 + 3)) < vln w (vct w x0 61) then vrun n d 152 79 [(2, x0), (0, x1), (0, x2), (9, 0)] [] (vsv w (vct w x0 61) (w32 (x2 + 3)) (vct w x0 12)) else none else none else none) (fun _ => rfl)).trans (EX_if.trans (and_congr Iff.rfl (EX_if.trans (and_congr Iff.rfl (EX_if.trans (and_congr Iff.rfl (Iff.rfl)))))))
set_option maxRecDepth 100000 in
theorem b152_79 {d : Nat} {w : vW} {x0 x1 x2 : Int} {Q : Int → vW → Prop} : VW d 152 79 [(2, x0), (0, x1), (0, x2), (9, 0)] [] w Q ↔ VW d 152 81 [(2, x0), (0, x1), (0, x2), (0, 0)] [] w Q :=
  (VW_b 2 (F := fun n => vrun n d 152 81 [(2, x0), (0, x1), (0, x2), (0, 0)] [] w) (fun _ => rfl)).trans (Iff.rfl)
set_option maxRecDepth 100000 in
theorem b152_81 {d : Nat} {w : vW} {x0 x1 x2 x3 : Int} {Q : Int → vW → Prop} : VW d 152 81 [(2, x0), (0, x1), (0, x2), (0, x3)] [] w Q ↔ ((x3 < 8 → VW d 152 87 [(2, x0), (0, x1), (0, x2), (0, x3)] [] w Q) ∧ (¬ (x3 < 8) → VW d 152 110 [(2, x0), (0, x1), (0, x2), (0, x3)] [] w Q)) :=
  (VW_b 3 (F := fun n => (if x3 < 8 then vrun n d 152 87 [(2, x0), (0, x1), (0, x2), (0, x3)] [] w else vrun n d 152 110 [(2, x0), (0, x1), (0, x2), (0, x3)] [] w)) (fun _ => rfl)).trans (EX_br.trans (and_congr (imp_congr Iff.rfl Iff.rfl) (imp_congr Iff.rfl Iff.rfl)))
set_option maxRecDepth 100000 in
theorem b152_87 {d : Nat} {w : vW} {x0 x1 x2 x3 : Int} {Q : Int → vW → Prop} : VW d 152 87 [(2, x0), (0, x1), (0, x2), (0, x3)] [] w Q ↔ (vkd w x0 = 22) ∧ (vkd w x0 = 22) ∧ (vkd w (vct w x0 10) = 1 ∧ (0 : Int) ≤ x3 ∧ x3 < vln w (vct w x0 10)) ∧ (vkd w (vct w x0 61) = 2 ∧ (0 : Int) ≤ (w32 ((w32 (x2 + 4)) + x3)) ∧ (w32 ((w32 (x2 + 4)) + x3)) < vln w (vct w x0 61)) ∧ VW d 152 104 [(2, x0), (0, x1), (0, x2), (0, x3)] [] (vsv w (vct w x0 61) (w32 ((w32 (x2 + 4)) + x3)) (vct w (vct w x0 10) x3)) Q :=
  (VW_b 13 (F := fun n => if vkd w x0 = 22 then if vkd w x0 = 22 then if vkd w (vct w x0 10) = 1 ∧ (0 : Int) ≤ x3 ∧ x3 < vln w (vct w x0 10) then if vkd w (vct w x0 61) = 2 ∧ (0 : Int) ≤ (w32 ((w32 (x2 + 4)) + x3)) ∧ (w32 ((w32 (x2 + 4)) + x3)) < vln w (vct w x0 61) then vrun n d 152 104 [(2, x0), (0, x1), (0, x2), (0, x3)] [] (vsv w (vct w x0 61) (w32 ((w32 (x2 + 4)) + x3)) (vct w (vct w x0 10) x3)) else none else none else none else none) (fun _ => rfl)).trans (EX_if.trans (and_congr Iff.rfl (EX_if.trans (and_congr Iff.rfl (EX_if.trans (and_congr Iff.rfl (EX_if.trans (and_congr Iff.rfl (Iff.rfl)))))))))
set_option maxRecDepth 100000 in
theorem b152_104 {d : Nat} {w : vW} {x0 x1 x2 x3 : Int} {Q : Int → vW → Prop} : VW d 152 104 [(2, x0), (0, x1), (0, x2), (0, x3)] [] w Q ↔ VW d 152 81 [(2, x0), (0, x1), (0, x2), (0, w32 (x3 + 1))] [] w Q :=
  (VW_b 2 (F := fun n => vrun n d 152 81 [(2, x0), (0, x1), (0, x2), (0, w32 (x3 + 1))] [] w) (fun _ => rfl)).trans (Iff.rfl)
set_option maxRecDepth 100000 in
theorem b152_110 {d : Nat} {w : vW} {x0 x1 x2 x3 : Int} {Q : Int → vW → Prop} : VW d 152 110 [(2, x0), (0, x1), (0, x2), (0, x3)] [] w Q ↔ Q 1 w :=
  (VW_b 2 (F := fun n => some (0, 1, w)) (fun _ => rfl)).trans (EX_ret0)
/-! 153: StrikeWhatCancelsModel.again(I)Z -/
set_option maxRecDepth 100000 in
theorem b153_0 {d : Nat} {w : vW} {x0 x1 : Int} {Q : Int → vW → Prop} : VW d 153 0 [(2, x0), (0, x1), (9, 0), (9, 0)] [] w Q ↔ (vkd w x0 = 22) ∧ VW d 153 5 [(2, x0), (0, x1), (9, 0), (9, 0)] [] (vsv w x0 0 0) Q :=
  (VW_b 3 (F := fun n => if vkd w x0 = 22 then vrun n d 153 5 [(2, x0), (0, x1), (9, 0), (9, 0)] [] (vsv w x0 0 0) else none) (fun _ => rfl)).trans (EX_if.trans (and_congr Iff.rfl (Iff.rfl)))
set_option maxRecDepth 100000 in
theorem b153_5 {d : Nat} {w : vW} {x0 x1 : Int} {Q : Int → vW → Prop} : VW d 153 5 [(2, x0), (0, x1), (9, 0), (9, 0)] [] w Q ↔ VC d 56 [(1, x1), (1, 0), (1, 2)] w (fun r w1 => VW d 153 14 [(2, x0), (0, x1), (9, 0), (9, 0)] [(0, r)] w1 Q) :=
  (VW_b 5 (F := fun n => vcl (vrun n) d 153 14 56 3 0 [(2, x0), (0, x1), (9, 0), (9, 0)] [(1, 2), (1, 0), (1, x1)] w) (fun _ => rfl)).trans (EX_call rfl)
set_option maxRecDepth 100000 in
theorem b153_14 {d : Nat} {w : vW} {x0 x1 y0 : Int} {Q : Int → vW → Prop} : VW d 153 14 [(2, x0), (0, x1), (9, 0), (9, 0)] [(0, y0)] w Q ↔ ((y0 = 0 → VW d 153 26 [(2, x0), (0, x1), (9, 0), (9, 0)] [] w Q) ∧ (¬ (y0 = 0) → VW d 153 17 [(2, x0), (0, x1), (9, 0), (9, 0)] [] w Q)) :=
  (VW_b 1 (F := fun n => (if y0 = 0 then vrun n d 153 26 [(2, x0), (0, x1), (9, 0), (9, 0)] [] w else vrun n d 153 17 [(2, x0), (0, x1), (9, 0), (9, 0)] [] w)) (fun _ => rfl)).trans (EX_br.trans (and_congr (imp_congr Iff.rfl Iff.rfl) (imp_congr Iff.rfl Iff.rfl)))
set_option maxRecDepth 100000 in
theorem b153_17 {d : Nat} {w : vW} {x0 x1 : Int} {Q : Int → vW → Prop} : VW d 153 17 [(2, x0), (0, x1), (9, 0), (9, 0)] [] w Q ↔ (vkd w x0 = 22) ∧ (vkd w (vct w x0 60) = 3 ∧ (0 : Int) ≤ x1 ∧ x1 < vln w (vct w x0 60)) ∧ (((vct w (vct w x0 60) x1) = 0 → VW d 153 26 [(2, x0), (0, x1), (9, 0), (9, 0)] [] w Q) ∧ (¬ ((vct w (vct w x0 60) x1) = 0) → VW d 153 28 [(2, x0), (0, x1), (9, 0), (9, 0)] [] w Q)) :=
  (VW_b 5 (F := fun n => if vkd w x0 = 22 then if vkd w (vct w x0 60) = 3 ∧ (0 : Int) ≤ x1 ∧ x1 < vln w (vct w x0 60) then (if (vct w (vct w x0 60) x1) = 0 then vrun n d 153 26 [(2, x0), (0, x1), (9, 0), (9, 0)] [] w else vrun n d 153 28 [(2, x0), (0, x1), (9, 0), (9, 0)] [] w) else none else none) (fun _ => rfl)).trans (EX_if.trans (and_congr Iff.rfl (EX_if.trans (and_congr Iff.rfl (EX_br.trans (and_congr (imp_congr Iff.rfl Iff.rfl) (imp_congr Iff.rfl Iff.rfl)))))))
set_option maxRecDepth 100000 in
theorem b153_26 {d : Nat} {w : vW} {x0 x1 : Int} {Q : Int → vW → Prop} : VW d 153 26 [(2, x0), (0, x1), (9, 0), (9, 0)] [] w Q ↔ Q 0 w :=
  (VW_b 2 (F := fun n => some (0, 0, w)) (fun _ => rfl)).trans (EX_ret0)
set_option maxRecDepth 100000 in
theorem b153_28 {d : Nat} {w : vW} {x0 x1 : Int} {Q : Int → vW → Prop} : VW d 153 28 [(2, x0), (0, x1), (9, 0), (9, 0)] [] w Q ↔ (vkd w x0 = 22) ∧ (vkd w (vct w x0 61) = 2 ∧ (0 : Int) ≤ (w32 (12 * x1)) ∧ (w32 (12 * x1)) < vln w (vct w x0 61)) ∧ (vkd w x0 = 22) ∧ VW d 153 43 [(2, x0), (0, x1), (0, w32 (12 * x1)), (9, 0)] [] (vsv w x0 13 (vct w (vct w x0 61) (w32 (12 * x1)))) Q :=
  (VW_b 10 (F := fun n => if vkd w x0 = 22 then if vkd w (vct w x0 61) = 2 ∧ (0 : Int) ≤ (w32 (12 * x1)) ∧ (w32 (12 * x1)) < vln w (vct w x0 61) then if vkd w x0 = 22 then vrun n d 153 43 [(2, x0), (0, x1), (0, w32 (12 * x1)), (9, 0)] [] (vsv w x0 13 (vct w (vct w x0 61) (w32 (12 * x1)))) else none else none else none) (fun _ => rfl)).trans (EX_if.trans (and_congr Iff.rfl (EX_if.trans (and_congr Iff.rfl (EX_if.trans (and_congr Iff.rfl (Iff.rfl)))))))
set_option maxRecDepth 100000 in
theorem b153_43 {d : Nat} {w : vW} {x0 x1 x2 : Int} {Q : Int → vW → Prop} : VW d 153 43 [(2, x0), (0, x1), (0, x2), (9, 0)] [] w Q ↔ (vkd w x0 = 22) ∧ (vkd w (vct w x0 61) = 2 ∧ (0 : Int) ≤ (w32 (x2 + 1)) ∧ (w32 (x2 + 1)) < vln w (vct w x0 61)) ∧ (vkd w x0 = 22) ∧ VW d 153 55 [(2, x0), (0, x1), (0, x2), (9, 0)] [] (vsv w x0 14 (vct w (vct w x0 61) (w32 (x2 + 1)))) Q :=
  (VW_b 8 (F := fun n => if vkd w x0 = 22 then if vkd w (vct w x0 61) = 2 ∧ (0 : Int) ≤ (w32 (x2 + 1)) ∧ (w32 (x2 + 1)) < vln w (vct w x0 61) then if vkd w x0 = 22 then vrun n d 153 55 [(2, x0), (0, x1), (0, x2), (9, 0)] [] (vsv w x0 14 (vct w (vct w x0 61) (w32 (x2 + 1)))) else none else none else none) (fun _ => rfl)).trans (EX_if.trans (and_congr Iff.rfl (EX_if.trans (and_congr Iff.rfl (EX_if.trans (and_congr Iff.rfl (Iff.rfl)))))))
set_option maxRecDepth 100000 in
theorem b153_55 {d : Nat} {w : vW} {x0 x1 x2 : Int} {Q : Int → vW → Prop} : VW d 153 55 [(2, x0), (0, x1), (0, x2), (9, 0)] [] w Q ↔ (vkd w x0 = 22) ∧ (vkd w (vct w x0 61) = 2 ∧ (0 : Int) ≤ (w32 (x2 + 2)) ∧ (w32 (x2 + 2)) < vln w (vct w x0 61)) ∧ (vkd w x0 = 22) ∧ VW d 153 68 [(2, x0), (0, x1), (0, x2), (9, 0)] [] (vsv w x0 17 (w32 (vct w (vct w x0 61) (w32 (x2 + 2))))) Q :=
  (VW_b 9 (F := fun n => if vkd w x0 = 22 then if vkd w (vct w x0 61) = 2 ∧ (0 : Int) ≤ (w32 (x2 + 2)) ∧ (w32 (x2 + 2)) < vln w (vct w x0 61) then if vkd w x0 = 22 then vrun n d 153 68 [(2, x0), (0, x1), (0, x2), (9, 0)] [] (vsv w x0 17 (w32 (vct w (vct w x0 61) (w32 (x2 + 2))))) else none else none else none) (fun _ => rfl)).trans (EX_if.trans (and_congr Iff.rfl (EX_if.trans (and_congr Iff.rfl (EX_if.trans (and_congr Iff.rfl (Iff.rfl)))))))
set_option maxRecDepth 100000 in
theorem b153_68 {d : Nat} {w : vW} {x0 x1 x2 : Int} {Q : Int → vW → Prop} : VW d 153 68 [(2, x0), (0, x1), (0, x2), (9, 0)] [] w Q ↔ (vkd w x0 = 22) ∧ (vkd w (vct w x0 61) = 2 ∧ (0 : Int) ≤ (w32 (x2 + 3)) ∧ (w32 (x2 + 3)) < vln w (vct w x0 61)) ∧ (vkd w x0 = 22) ∧ VW d 153 81 [(2, x0), (0, x1), (0, x2), (9, 0)] [] (vsv w x0 12 (w32 (vct w (vct w x0 61) (w32 (x2 + 3))))) Q :=
  (VW_b 9 (F := fun n => if vkd w x0 = 22 then if vkd w (vct w x0 61) = 2 ∧ (0 : Int) ≤ (w32 (x2 + 3)) ∧ (w32 (x2 + 3)) < vln w (vct w x0 61) then if vkd w x0 = 22 then vrun n d 153 81 [(2, x0), (0, x1), (0, x2), (9, 0)] [] (vsv w x0 12 (w32 (vct w (vct w x0 61) (w32 (x2 + 3))))) else none else none else none) (fun _ => rfl)).trans (EX_if.trans (and_congr Iff.rfl (EX_if.trans (and_congr Iff.rfl (EX_if.trans (and_congr Iff.rfl (Iff.rfl)))))))
set_option maxRecDepth 100000 in
theorem b153_81 {d : Nat} {w : vW} {x0 x1 x2 : Int} {Q : Int → vW → Prop} : VW d 153 81 [(2, x0), (0, x1), (0, x2), (9, 0)] [] w Q ↔ VW d 153 83 [(2, x0), (0, x1), (0, x2), (0, 0)] [] w Q :=
  (VW_b 2 (F := fun n => vrun n d 153 83 [(2, x0), (0, x1), (0, x2), (0, 0)] [] w) (fun _ => rfl)).trans (Iff.rfl)
set_option maxRecDepth 100000 in
theorem b153_83 {d : Nat} {w : vW} {x0 x1 x2 x3 : Int} {Q : Int → vW → Prop} : VW d 153 83 [(2, x0), (0, x1), (0, x2), (0, x3)] [] w Q ↔ ((x3 < 8 → VW d 153 89 [(2, x0), (0, x1), (0, x2), (0, x3)] [] w Q) ∧ (¬ (x3 < 8) → VW d 153 112 [(2, x0), (0, x1), (0, x2), (0, x3)] [] w Q)) :=
  (VW_b 3 (F := fun n => (if x3 < 8 then vrun n d 153 89 [(2, x0), (0, x1), (0, x2), (0, x3)] [] w else vrun n d 153 112 [(2, x0), (0, x1), (0, x2), (0, x3)] [] w)) (fun _ => rfl)).trans (EX_br.trans (and_congr (imp_congr Iff.rfl Iff.rfl) (imp_congr Iff.rfl Iff.rfl)))
set_option maxRecDepth 100000 in
theorem b153_89 {d : Nat} {w : vW} {x0 x1 x2 x3 : Int} {Q : Int → vW → Prop} : VW d 153 89 [(2, x0), (0, x1), (0, x2), (0, x3)] [] w Q ↔ (vkd w x0 = 22) ∧ (vkd w x0 = 22) ∧ (vkd w (vct w x0 61) = 2 ∧ (0 : Int) ≤ (w32 ((w32 (x2 + 4)) + x3)) ∧ (w32 ((w32 (x2 + 4)) + x3)) < vln w (vct w x0 61)) ∧ (vkd w (vct w x0 10) = 1 ∧ (0 : Int) ≤ x3 ∧ x3 < vln w (vct w x0 10)) ∧ VW d 153 106 [(2, x0), (0, x1), (0, x2), (0, x3)] [] (vsv w (vct w x0 10) x3 (w32 (vct w (vct w x0 61) (w32 ((w32 (x2 + 4)) + x3))))) Q :=
  (VW_b 13 (F := fun n => if vkd w x0 = 22 then if vkd w x0 = 22 then if vkd w (vct w x0 61) = 2 ∧ (0 : Int) ≤ (w32 ((w32 (x2 + 4)) + x3)) ∧ (w32 ((w32 (x2 + 4)) + x3)) < vln w (vct w x0 61) then if vkd w (vct w x0 10) = 1 ∧ (0 : Int) ≤ x3 ∧ x3 < vln w (vct w x0 10) then vrun n d 153 106 [(2, x0), (0, x1), (0, x2), (0, x3)] [] (vsv w (vct w x0 10) x3 (w32 (vct w (vct w x0 61) (w32 ((w32 (x2 + 4)) + x3))))) else none else none else none else none) (fun _ => rfl)).trans (EX_if.trans (and_congr Iff.rfl (EX_if.trans (and_congr Iff.rfl (EX_if.trans (and_congr Iff.rfl (EX_if.trans (and_congr Iff.rfl (Iff.rfl)))))))))
set_option maxRecDepth 100000 in
theorem b153_106 {d : Nat} {w : vW} {x0 x1 x2 x3 : Int} {Q : Int → vW → Prop} : VW d 153 106 [(2, x0), (0, x1), (0, x2), (0, x3)] [] w Q ↔ VW d 153 83 [(2, x0), (0, x1), (0, x2), (0, w32 (x3 + 1))] [] w Q :=
  (VW_b 2 (F := fun n => vrun n d 153 83 [(2, x0), (0, x1), (0, x2), (0, w32 (x3 + 1))] [] w) (fun _ => rfl)).trans (Iff.rfl)
set_option maxRecDepth 100000 in
theorem b153_112 {d : Nat} {w : vW} {x0 x1 x2 x3 : Int} {Q : Int → vW → Prop} : VW d 153 112 [(2, x0), (0, x1), (0, x2), (0, x3)] [] w Q ↔ (vkd w x0 = 22) ∧ VW d 153 117 [(2, x0), (0, x1), (0, x2), (0, x3)] [] (vsv w x0 15 0) Q :=
  (VW_b 3 (F := fun n => if vkd w x0 = 22 then vrun n d 153 117 [(2, x0), (0, x1), (0, x2), (0, x3)] [] (vsv w x0 15 0) else none) (fun _ => rfl)).trans (EX_if.trans (and_congr Iff.rfl (Iff.rfl)))
set_option maxRecDepth 100000 in
theorem b153_117 {d : Nat} {w : vW} {x0 x1 x2 x3 : Int} {Q : Int → vW → Prop} : VW d 153 117 [(2, x0), (0, x1), (0, x2), (0, x3)] [] w Q ↔ Q 1 w :=
  (VW_b 2 (F := fun n => some (0, 1, w)) (fun _ => rfl)).trans (EX_ret0)
/-! 154: StrikeWhatCancelsModel.count(I)I -/
set_option maxRecDepth 100000 in
theorem b154_0 {d : Nat} {w : vW} {x0 x1 : Int} {Q : Int → vW → Prop} : VW d 154 0 [(2, x0), (0, x1)] [] w Q ↔ (vkd w x0 = 22) ∧ VW d 154 5 [(2, x0), (0, x1)] [] (vsv w x0 0 0) Q :=
  (VW_b 3 (F := fun n => if vkd w x0 = 22 then vrun n d 154 5 [(2, x0), (0, x1)] [] (vsv w x0 0 0) else none) (fun _ => rfl)).trans (EX_if.trans (and_congr Iff.rfl (Iff.rfl)))
set_option maxRecDepth 100000 in
theorem b154_5 {d : Nat} {w : vW} {x0 x1 : Int} {Q : Int → vW → Prop} : VW d 154 5 [(2, x0), (0, x1)] [] w Q ↔ VW d 154 (vswt 1 x1) [(2, x0), (0, x1)] [] w Q :=
  (VW_b 2 (F := fun n => vrun n d 154 (vswt 1 x1) [(2, x0), (0, x1)] [] w) (fun _ => rfl)).trans (Iff.rfl)
set_option maxRecDepth 100000 in
theorem b154_48 {d : Nat} {w : vW} {x0 x1 : Int} {Q : Int → vW → Prop} : VW d 154 48 [(2, x0), (0, x1)] [] w Q ↔ (vkd w x0 = 22) ∧ Q (vct w x0 4) w :=
  (VW_b 3 (F := fun n => if vkd w x0 = 22 then some (0, vct w x0 4, w) else none) (fun _ => rfl)).trans (EX_if.trans (and_congr Iff.rfl (EX_ret0)))
set_option maxRecDepth 100000 in
theorem b154_53 {d : Nat} {w : vW} {x0 x1 : Int} {Q : Int → vW → Prop} : VW d 154 53 [(2, x0), (0, x1)] [] w Q ↔ (vkd w x0 = 22) ∧ VC d 60 [(2, x0), (1, vct w x0 13)] w (fun r w1 => VW d 154 61 [(2, x0), (0, x1)] [(0, r)] w1 Q) :=
  (VW_b 4 (F := fun n => if vkd w x0 = 22 then vcl (vrun n) d 154 61 60 2 0 [(2, x0), (0, x1)] [(1, vct w x0 13), (2, x0)] w else none) (fun _ => rfl)).trans (EX_if.trans (and_congr Iff.rfl (EX_call rfl)))
set_option maxRecDepth 100000 in
theorem b154_61 {d : Nat} {w : vW} {x0 x1 y0 : Int} {Q : Int → vW → Prop} : VW d 154 61 [(2, x0), (0, x1)] [(0, y0)] w Q ↔ Q y0 w :=
  (VW_b 1 (F := fun n => some (0, y0, w)) (fun _ => rfl)).trans (EX_ret0)
set_option maxRecDepth 100000 in
theorem b154_62 {d : Nat} {w : vW} {x0 x1 : Int} {Q : Int → vW → Prop} : VW d 154 62 [(2, x0), (0, x1)] [] w Q ↔ (vkd w x0 = 22) ∧ VC d 60 [(2, x0), (1, vct w x0 14)] w (fun r w1 => VW d 154 70 [(2, x0), (0, x1)] [(0, r)] w1 Q) :=
  (VW_b 4 (F := fun n => if vkd w x0 = 22 then vcl (vrun n) d 154 70 60 2 0 [(2, x0), (0, x1)] [(1, vct w x0 14), (2, x0)] w else none) (fun _ => rfl)).trans (EX_if.trans (and_congr Iff.rfl (EX_call rfl)))
set_option maxRecDepth 100000 in
theorem b154_70 {d : Nat} {w : vW} {x0 x1 y0 : Int} {Q : Int → vW → Prop} : VW d 154 70 [(2, x0), (0, x1)] [(0, y0)] w Q ↔ Q y0 w :=
  (VW_b 1 (F := fun n => some (0, y0, w)) (fun _ => rfl)).trans (EX_ret0)
set_option maxRecDepth 100000 in
theorem b154_71 {d : Nat} {w : vW} {x0 x1 : Int} {Q : Int → vW → Prop} : VW d 154 71 [(2, x0), (0, x1)] [] w Q ↔ (vkd w x0 = 22) ∧ Q (vct w x0 15) w :=
  (VW_b 3 (F := fun n => if vkd w x0 = 22 then some (0, vct w x0 15, w) else none) (fun _ => rfl)).trans (EX_if.trans (and_congr Iff.rfl (EX_ret0)))
set_option maxRecDepth 100000 in
theorem b154_76 {d : Nat} {w : vW} {x0 x1 : Int} {Q : Int → vW → Prop} : VW d 154 76 [(2, x0), (0, x1)] [] w Q ↔ (vkd w x0 = 22) ∧ Q (vct w x0 12) w :=
  (VW_b 3 (F := fun n => if vkd w x0 = 22 then some (0, vct w x0 12, w) else none) (fun _ => rfl)).trans (EX_if.trans (and_congr Iff.rfl (EX_ret0)))
set_option maxRecDepth 100000 in
theorem b154_81 {d : Nat} {w : vW} {x0 x1 : Int} {Q : Int → vW → Prop} : VW d 154 81 [(2, x0), (0, x1)] [] w Q ↔ (vkd w x0 = 22) ∧ Q (vct w x0 1) w :=
  (VW_b 3 (F := fun n => if vkd w x0 = 22 then some (0, vct w x0 1, w) else none) (fun _ => rfl)).trans (EX_if.trans (and_congr Iff.rfl (EX_ret0)))
set_option maxRecDepth 100000 in
theorem b154_86 {d : Nat} {w : vW} {x0 x1 : Int} {Q : Int → vW → Prop} : VW d 154 86 [(2, x0), (0, x1)] [] w Q ↔ (vkd w x0 = 22) ∧ Q (vct w x0 19) w :=
  (VW_b 3 (F := fun n => if vkd w x0 = 22 then some (0, vct w x0 19, w) else none) (fun _ => rfl)).trans (EX_if.trans (and_congr Iff.rfl (EX_ret0)))
set_option maxRecDepth 100000 in
theorem b154_91 {d : Nat} {w : vW} {x0 x1 : Int} {Q : Int → vW → Prop} : VW d 154 91 [(2, x0), (0, x1)] [] w Q ↔ Q (-1) w :=
  (VW_b 2 (F := fun n => some (0, (-1), w)) (fun _ => rfl)).trans (EX_ret0)
/-! 155: StrikeWhatCancelsModel.minutes()J -/
set_option maxRecDepth 100000 in
theorem b155_0 {d : Nat} {w : vW} {x0 : Int} {Q : Int → vW → Prop} : VW d 155 0 [(2, x0)] [] w Q ↔ (vkd w x0 = 22) ∧ VW d 155 5 [(2, x0)] [] (vsv w x0 0 0) Q :=
  (VW_b 3 (F := fun n => if vkd w x0 = 22 then vrun n d 155 5 [(2, x0)] [] (vsv w x0 0 0) else none) (fun _ => rfl)).trans (EX_if.trans (and_congr Iff.rfl (Iff.rfl)))
set_option maxRecDepth 100000 in
theorem b155_5 {d : Nat} {w : vW} {x0 : Int} {Q : Int → vW → Prop} : VW d 155 5 [(2, x0)] [] w Q ↔ (vkd w x0 = 22) ∧ Q (vct w x0 14) w :=
  (VW_b 3 (F := fun n => if vkd w x0 = 22 then some (0, vct w x0 14, w) else none) (fun _ => rfl)).trans (EX_if.trans (and_congr Iff.rfl (EX_ret0)))
/-! 156: StrikeWhatCancelsModel.row(I)J -/
set_option maxRecDepth 100000 in
theorem b156_0 {d : Nat} {w : vW} {x0 x1 : Int} {Q : Int → vW → Prop} : VW d 156 0 [(2, x0), (0, x1)] [] w Q ↔ (vkd w x0 = 22) ∧ VW d 156 5 [(2, x0), (0, x1)] [] (vsv w x0 0 0) Q :=
  (VW_b 3 (F := fun n => if vkd w x0 = 22 then vrun n d 156 5 [(2, x0), (0, x1)] [] (vsv w x0 0 0) else none) (fun _ => rfl)).trans (EX_if.trans (and_congr Iff.rfl (Iff.rfl)))
set_option maxRecDepth 100000 in
theorem b156_5 {d : Nat} {w : vW} {x0 x1 : Int} {Q : Int → vW → Prop} : VW d 156 5 [(2, x0), (0, x1)] [] w Q ↔ (vkd w x0 = 22) ∧ VC d 56 [(1, x1), (1, 0), (1, (w32 ((vct w x0 1) - 1)))] w (fun r w1 => VW d 156 18 [(2, x0), (0, x1)] [(0, r)] w1 Q) :=
  (VW_b 9 (F := fun n => if vkd w x0 = 22 then vcl (vrun n) d 156 18 56 3 0 [(2, x0), (0, x1)] [(1, (w32 ((vct w x0 1) - 1))), (1, 0), (1, x1)] w else none) (fun _ => rfl)).trans (EX_if.trans (and_congr Iff.rfl (EX_call rfl)))
set_option maxRecDepth 100000 in
theorem b156_18 {d : Nat} {w : vW} {x0 x1 y0 : Int} {Q : Int → vW → Prop} : VW d 156 18 [(2, x0), (0, x1)] [(0, y0)] w Q ↔ ((y0 = 0 → VW d 156 21 [(2, x0), (0, x1)] [] w Q) ∧ (¬ (y0 = 0) → VW d 156 26 [(2, x0), (0, x1)] [] w Q)) :=
  (VW_b 1 (F := fun n => (if y0 = 0 then vrun n d 156 21 [(2, x0), (0, x1)] [] w else vrun n d 156 26 [(2, x0), (0, x1)] [] w)) (fun _ => rfl)).trans (EX_br.trans (and_congr (imp_congr Iff.rfl Iff.rfl) (imp_congr Iff.rfl Iff.rfl)))
set_option maxRecDepth 100000 in
theorem b156_21 {d : Nat} {w : vW} {x0 x1 : Int} {Q : Int → vW → Prop} : VW d 156 21 [(2, x0), (0, x1)] [] w Q ↔ VC d 55 [(2, x0)] w (fun r w1 => VW d 156 25 [(2, x0), (0, x1)] [(1, r)] w1 Q) :=
  (VW_b 2 (F := fun n => vcl (vrun n) d 156 25 55 1 1 [(2, x0), (0, x1)] [(2, x0)] w) (fun _ => rfl)).trans (EX_call rfl)
set_option maxRecDepth 100000 in
theorem b156_25 {d : Nat} {w : vW} {x0 x1 y0 : Int} {Q : Int → vW → Prop} : VW d 156 25 [(2, x0), (0, x1)] [(1, y0)] w Q ↔ Q y0 w :=
  (VW_b 1 (F := fun n => some (0, y0, w)) (fun _ => rfl)).trans (EX_ret0)
set_option maxRecDepth 100000 in
theorem b156_26 {d : Nat} {w : vW} {x0 x1 : Int} {Q : Int → vW → Prop} : VW d 156 26 [(2, x0), (0, x1)] [] w Q ↔ (vkd w x0 = 22) ∧ (vkd w (vct w x0 2) = 2 ∧ (0 : Int) ≤ x1 ∧ x1 < vln w (vct w x0 2)) ∧ Q (vct w (vct w x0 2) x1) w :=
  (VW_b 5 (F := fun n => if vkd w x0 = 22 then if vkd w (vct w x0 2) = 2 ∧ (0 : Int) ≤ x1 ∧ x1 < vln w (vct w x0 2) then some (0, vct w (vct w x0 2) x1, w) else none else none) (fun _ => rfl)).trans (EX_if.trans (and_congr Iff.rfl (EX_if.trans (and_congr Iff.rfl (EX_ret0)))))
/-! 157: StrikeWhatCancels$Aside.<init>()V -/
set_option maxRecDepth 100000 in
theorem b157_0 {d : Nat} {w : vW} {x0 : Int} {Q : Int → vW → Prop} : VW d 157 0 [(2, x0)] [] w Q ↔ VW d 157 8 [(2, x0)] [(2, vnt w), (2, x0)] (vnw w 18 7 (vdfl 18) 7) Q :=
  (VW_b 4 (F := fun n => vrun n d 157 8 [(2, x0)] [(2, vnt w), (2, x0)] (vnw w 18 7 (vdfl 18) 7)) (fun _ => rfl)).trans (Iff.rfl)
set_option maxRecDepth 100000 in
theorem b157_8 {d : Nat} {w : vW} {x0 y0 y1 : Int} {Q : Int → vW → Prop} : VW d 157 8 [(2, x0)] [(2, y1), (2, y0)] w Q ↔ VC d 248 [(2, y1)] w (fun _ w1 => VW d 157 12 [(2, x0)] [(2, y1), (2, y0)] w1 Q) :=
  (VW_b 2 (F := fun n => vcl (vrun n) d 157 12 248 1 9 [(2, x0)] [(2, y1), (2, y1), (2, y0)] w) (fun _ => rfl)).trans (EX_call rfl)
set_option maxRecDepth 100000 in
theorem b157_12 {d : Nat} {w : vW} {x0 y0 y1 : Int} {Q : Int → vW → Prop} : VW d 157 12 [(2, x0)] [(2, y1), (2, y0)] w Q ↔ (vkd w y0 = 10) ∧ VW d 157 15 [(2, x0)] [] (vsv w y0 0 y1) Q :=
  (VW_b 1 (F := fun n => if vkd w y0 = 10 then vrun n d 157 15 [(2, x0)] [] (vsv w y0 0 y1) else none) (fun _ => rfl)).trans (EX_if.trans (and_congr Iff.rfl (Iff.rfl)))
set_option maxRecDepth 100000 in
theorem b157_15 {d : Nat} {w : vW} {x0 : Int} {Q : Int → vW → Prop} : VW d 157 15 [(2, x0)] [] w Q ↔ VW d 157 19 [(2, x0)] [(2, vnt w), (2, x0)] (vnw w 16 8 (vdfl 16) 8) Q :=
  (VW_b 2 (F := fun n => vrun n d 157 19 [(2, x0)] [(2, vnt w), (2, x0)] (vnw w 16 8 (vdfl 16) 8)) (fun _ => rfl)).trans (Iff.rfl)
set_option maxRecDepth 100000 in
theorem b157_19 {d : Nat} {w : vW} {x0 y0 y1 : Int} {Q : Int → vW → Prop} : VW d 157 19 [(2, x0)] [(2, y1), (2, y0)] w Q ↔ VC d 225 [(2, y1)] w (fun _ w1 => VW d 157 23 [(2, x0)] [(2, y1), (2, y0)] w1 Q) :=
  (VW_b 2 (F := fun n => vcl (vrun n) d 157 23 225 1 9 [(2, x0)] [(2, y1), (2, y1), (2, y0)] w) (fun _ => rfl)).trans (EX_call rfl)
set_option maxRecDepth 100000 in
theorem b157_23 {d : Nat} {w : vW} {x0 y0 y1 : Int} {Q : Int → vW → Prop} : VW d 157 23 [(2, x0)] [(2, y1), (2, y0)] w Q ↔ (vkd w y0 = 10) ∧ VW d 157 26 [(2, x0)] [] (vsv w y0 1 y1) Q :=
  (VW_b 1 (F := fun n => if vkd w y0 = 10 then vrun n d 157 26 [(2, x0)] [] (vsv w y0 1 y1) else none) (fun _ => rfl)).trans (EX_if.trans (and_congr Iff.rfl (Iff.rfl)))
set_option maxRecDepth 100000 in
theorem b157_26 {d : Nat} {w : vW} {x0 : Int} {Q : Int → vW → Prop} : VW d 157 26 [(2, x0)] [] w Q ↔ (vkd w x0 = 10) ∧ VW d 157 31 [(2, x0)] [] (vsv w x0 2 (-1)) Q :=
  (VW_b 3 (F := fun n => if vkd w x0 = 10 then vrun n d 157 31 [(2, x0)] [] (vsv w x0 2 (-1)) else none) (fun _ => rfl)).trans (EX_if.trans (and_congr Iff.rfl (Iff.rfl)))
set_option maxRecDepth 100000 in
theorem b157_31 {d : Nat} {w : vW} {x0 : Int} {Q : Int → vW → Prop} : VW d 157 31 [(2, x0)] [] w Q ↔ ((0 : Int) ≤ 0 ∧ 0 ≤ 1) ∧ (vkd w x0 = 10) ∧ VW d 157 36 [(2, x0)] [] (vsv w x0 3 0) Q :=
  (VW_b 3 (F := fun n => if (0 : Int) ≤ 0 ∧ 0 ≤ 1 then if vkd w x0 = 10 then vrun n d 157 36 [(2, x0)] [] (vsv w x0 3 0) else none else none) (fun _ => rfl)).trans (EX_if.trans (and_congr Iff.rfl (EX_if.trans (and_congr Iff.rfl (Iff.rfl)))))
set_option maxRecDepth 100000 in
theorem b157_36 {d : Nat} {w : vW} {x0 : Int} {Q : Int → vW → Prop} : VW d 157 36 [(2, x0)] [] w Q ↔ ((0 : Int) ≤ 0 ∧ 0 ≤ 1) ∧ (vkd w x0 = 10) ∧ VW d 157 41 [(2, x0)] [] (vsv w x0 4 0) Q :=
  (VW_b 3 (F := fun n => if (0 : Int) ≤ 0 ∧ 0 ≤ 1 then if vkd w x0 = 10 then vrun n d 157 41 [(2, x0)] [] (vsv w x0 4 0) else none else none) (fun _ => rfl)).trans (EX_if.trans (and_congr Iff.rfl (EX_if.trans (and_congr Iff.rfl (Iff.rfl)))))
set_option maxRecDepth 100000 in
theorem b157_41 {d : Nat} {w : vW} {x0 : Int} {Q : Int → vW → Prop} : VW d 157 41 [(2, x0)] [] w Q ↔ (vkd w x0 = 10) ∧ VW d 157 46 [(2, x0)] [] (vsv w x0 5 0) Q :=
  (VW_b 3 (F := fun n => if vkd w x0 = 10 then vrun n d 157 46 [(2, x0)] [] (vsv w x0 5 0) else none) (fun _ => rfl)).trans (EX_if.trans (and_congr Iff.rfl (Iff.rfl)))
set_option maxRecDepth 100000 in
theorem b157_46 {d : Nat} {w : vW} {x0 : Int} {Q : Int → vW → Prop} : VW d 157 46 [(2, x0)] [] w Q ↔ Q 0 w :=
  (VW_b 1 (F := fun n => some (0, 0, w)) (fun _ => rfl)).trans (EX_ret0)
