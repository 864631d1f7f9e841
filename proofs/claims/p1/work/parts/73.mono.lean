/-! what a run makes only grows -/
def vG (w : vW) (f : vR) : Prop := ∀ r, f = some r → vec w ≤ vec r.2.2 ∧ ves w ≤ ves r.2.2
theorem vG.no (w : vW) : vG w none := fun _ h => by cases h
theorem vG.cond {w : vW} {b : Bool} {x y : vR} (h1 : vG w x) (h2 : vG w y) : vG w (bif b then x else y) := by cases b <;> assumption
theorem vG.ite {w : vW} {c : Prop} [Decidable c] {x y : vR} (h1 : vG w x) (h2 : vG w y) : vG w (if c then x else y) := by
  by_cases h : c
  · rw [if_pos h]; exact h1
  · rw [if_neg h]; exact h2
theorem vG.v1 {w : vW} {t : Nat} {st : List vV} {f : Int → List vV → vR} (h : ∀ x r, vG w (f x r)) : vG w (v1 t st f) := by
  match st with
  | [] => exact vG.no _
  | y :: r => exact vG.cond (h _ _) (vG.no _)
theorem vG.v2 {w : vW} {t1 t2 : Nat} {st : List vV} {f : Int → Int → List vV → vR} (h : ∀ x y r, vG w (f x y r)) : vG w (v2 t1 t2 st f) := by
  match st with
  | [] => exact vG.no _
  | [_] => exact vG.no _
  | y :: x :: r => exact vG.cond (vG.cond (h _ _ _) (vG.no _)) (vG.no _)
theorem vG.v3 {w : vW} {t1 t2 t3 : Nat} {st : List vV} {f : Int → Int → Int → List vV → vR} (h : ∀ x y z r, vG w (f x y z r)) : vG w (v3 t1 t2 t3 st f) := by
  match st with
  | [] => exact vG.no _
  | [_] => exact vG.no _
  | [_, _] => exact vG.no _
  | z :: y :: x :: r => exact vG.cond (vG.cond (vG.cond (h _ _ _ _) (vG.no _)) (vG.no _)) (vG.no _)
theorem vG.sto {w : vW} {ls : List vV} {p q : Nat} {z x : Int} {f : List vV → vR} (h : ∀ l, vG w (f l)) : vG w (vsto ls p q z x f) := by
  unfold vsto
  exact vG.cond (vG.cond (h _) (h _)) (vG.cond (vG.cond (vG.no _) (vG.cond (h _) (h _))) (vG.cond (h _) (h _)))
theorem vG.br {w : vW} {f : Nat → vR} {p q nx : Nat} {x y : Int} (h : ∀ l, vG w (f l)) : vG w (vbr f p q nx x y) := by
  unfold vbr
  exact vG.cond (vG.ite (h _) (h _)) (vG.cond (vG.ite (h _) (h _)) (vG.cond (vG.ite (h _) (h _)) (vG.cond (vG.ite (h _) (h _)) (vG.cond (vG.ite (h _) (h _)) (vG.ite (h _) (h _))))))
theorem vG.stk {w : vW} {op : Nat} {st : List vV} {f : List vV → vR} (h : ∀ l, vG w (f l)) : vG w (vstk op st f) := by
  unfold vstk
  match st with
  | [] => repeat' (first | exact vG.no _ | exact h _ | apply vG.cond)
  | [_] => repeat' (first | exact vG.no _ | exact h _ | apply vG.cond)
  | [_, _] => repeat' (first | exact vG.no _ | exact h _ | apply vG.cond)
  | _ :: _ :: _ :: _ => repeat' (first | exact vG.no _ | exact h _ | apply vG.cond)
theorem vG.okb {w : vW} {t : Nat} {v : Int} {f : vR} (h : vG w f) : vG w (vokb t v f) := vG.cond (vG.ite h (vG.no _)) h
theorem vG.ib {w : vW} {f : Nat} {x y : Int} {k : Int → vR} (h : ∀ v, vG w (k v)) : vG w (v_ib f x y k) := by
  unfold v_ib
  repeat' (first | exact vG.no _ | exact h _ | apply vG.cond)
theorem vG.lb {w : vW} {f : Nat} {x y : Int} {k : Int → vR} (h : ∀ v, vG w (k v)) : vG w (v_lb f x y k) := by
  unfold v_lb
  repeat' (first | exact vG.no _ | exact h _ | apply vG.cond)
theorem vG.ls {w : vW} {f : Nat} {x y : Int} {k : Int → vR} (h : ∀ v, vG w (k v)) : vG w (v_ls f x y k) := by
  unfold v_ls
  repeat' (first | exact vG.no _ | exact h _ | apply vG.cond)
theorem vG.dv {w : vW} {f : Nat} {x y : Int} {k : Int → vR} (h : ∀ v, vG w (k v)) : vG w (v_dv f x y k) := by
  unfold v_dv
  repeat' (first | exact vG.no _ | exact h _ | apply vG.cond)
theorem vG.un {w : vW} {f : Nat} {st : List vV} {k : vV → List vV → vR} (h : ∀ v r, vG w (k v r)) : vG w (v_un f st k) := by
  unfold v_un
  repeat' (first | exact vG.no _ | exact h _ _ | apply vG.cond | (apply vG.v1; intro _ _))
theorem vG.mm {w : vW} {f : Nat} {st : List vV} {k : vV → List vV → vR} (h : ∀ v r, vG w (k v r)) : vG w (v_mm f st k) := by
  unfold v_mm
  repeat' (first | exact vG.no _ | exact h _ _ | apply vG.cond | (apply vG.v2; intro _ _ _))
theorem vG.lt {w w' : vW} {f : vR} (h : vG w' f) (h1 : vec w ≤ vec w') (h2 : ves w ≤ ves w') : vG w f := fun r hr => ⟨Nat.le_trans h1 (h r hr).1, Nat.le_trans h2 (h r hr).2⟩
theorem vG.go {k : vK} (h : ∀ a b c w, vG w (k a b c w)) (op nx p q : Nat) (z : Int) (ls st : List vV) (w : vW) : vG w (vgo k op nx p q z ls st w) := by
  have hsv : ∀ a b c (x i v : Int), vG w (k a b c (vsv w x i v)) := fun a b c x i v => (h a b c _).lt (Nat.le_refl _) (Nat.le_refl _)
  have hcp : ∀ a b c (x i y j n : Int), vG w (k a b c (vcpw w x i y j n)) := fun a b c x i y j n => (h a b c _).lt (Nat.le_refl _) (Nat.le_refl _)
  have hnw : ∀ a b c (kk : Nat) (n : Int) (f : Int → Int) (s : Nat), vG w (k a b c (vnw w kk n f s)) := fun a b c kk n f s => (h a b c _).lt (Nat.le_add_right _ _) (Nat.le_add_right _ _)
  have hnm : ∀ a b c (k1 k2 : Nat) (n m : Int), vG w (k a b c (vnwm w k1 k2 n m)) := fun a b c k1 k2 n m => (h a b c _).lt (Nat.le_trans (Nat.le_add_right _ 1) (Nat.le_add_right _ _)) (Nat.le_trans (Nat.le_add_right _ _) (Nat.le_add_right _ _))
  unfold vgo
  repeat' (first | exact vG.no _ | exact h _ _ _ _ | exact hsv _ _ _ _ _ _ | exact hcp _ _ _ _ _ _ _ _ | exact hnw _ _ _ _ _ _ _ | exact hnm _ _ _ _ _ _ _ | apply vG.cond | apply vG.ite | (apply vG.v1; intro _ _) | (apply vG.v2; intro _ _ _) | (apply vG.v3; intro _ _ _ _) | (apply vG.sto; intro _) | (apply vG.br; intro _) | (apply vG.stk; intro _) | (apply vG.ib; intro _) | (apply vG.lb; intro _) | (apply vG.ls; intro _) | (apply vG.dv; intro _) | (apply vG.un; intro _ _) | (apply vG.mm; intro _ _) | apply vG.okb | split)
theorem vG.rec {w0 : vW} {p q : Nat} {st : List vV} {w : vW} {f : vR} (h : vG w0 f) : vG w0 (vrec p q st w f) := vG.cond h (vG.cond (vG.ite h (vG.no _)) (vG.no _))
theorem vrun_mono (n : Nat) : ∀ (d M pc : Nat) (ls st : List vV) (w : vW), vG w (vrun n d M pc ls st w) := by
  induction n with
  | zero => intro d M pc ls st w r h; cases h
  | succ n ih =>
    intro d M pc ls st w
    show vG w (vst (vrun n) d M pc ls st w)
    unfold vst
    obtain ⟨op, nx, p, q, z⟩ := pg M pc
    dsimp only
    refine vG.cond ?_ (vG.cond ?_ (vG.cond ?_ (vG.cond ?_ (vG.go (fun _ _ _ _ => ih _ _ _ _ _ _) _ _ _ _ _ _ _ _))))
    · apply vG.rec
      match d with
      | 0 => exact vG.no _
      | d + 1 =>
        unfold vclr
        refine vG.cond ?_ (vG.no _)
        intro r hr
        cases h1 : vrun n d p 0 (vent (vnl p) (st.take q).reverse) [] w with
        | none => rw [h1] at hr; cases hr
        | some u =>
          obtain ⟨f, x, w1⟩ := u
          rw [h1] at hr
          have hw := ih _ _ _ _ _ _ _ h1
          exact ((vG.cond (ih _ _ _ _ _ _) (vG.no _)).lt hw.1 hw.2) r hr
    · unfold vrt
      split
      · exact vG.cond (fun r h => by cases h; exact ⟨Nat.le_refl _, Nat.le_refl _⟩) (vG.no _)
      · exact vG.cond (vG.no _) (vG.cond (vG.okb (fun r h => by cases h; exact ⟨Nat.le_refl _, Nat.le_refl _⟩)) (vG.no _))
      · exact vG.no _
    · apply vG.rec
      match d with
      | 0 => exact vG.no _
      | d + 1 =>
        unfold vclxr
        refine vG.cond ?_ (vG.no _)
        intro r hr
        cases h1 : vrun n d p 0 (vent (vnl p) (st.take q).reverse) [] w with
        | none => rw [h1] at hr; cases hr
        | some u =>
          obtain ⟨f, x, w1⟩ := u
          rw [h1] at hr
          have hw := ih _ _ _ _ _ _ _ h1
          exact ((vG.cond (ih _ _ _ _ _ _) (ih _ _ _ _ _ _)).lt hw.1 hw.2) r hr
    · intro r h
      cases st with
      | nil => cases h; exact ⟨Nat.le_add_right _ _, Nat.le_add_right _ _⟩
      | cons _ _ => cases h
