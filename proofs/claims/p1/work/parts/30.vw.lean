/-! what a run of V comes to -/
def vM (a b : vR) : Prop := ∀ r, a = some r → b = some r
theorem vM.rf (a : vR) : vM a a := fun _ h => h
theorem vM.no (b : vR) : vM none b := fun _ h => by cases h
theorem vM.cond {b : Bool} {x y x' y' : vR} (h1 : vM x x') (h2 : vM y y') : vM (bif b then x else y) (bif b then x' else y') := by cases b <;> assumption
theorem vM.ite {c : Prop} [Decidable c] {x y x' y' : vR} (h1 : vM x x') (h2 : vM y y') : vM (if c then x else y) (if c then x' else y') := by
  by_cases h : c
  · rw [if_pos h, if_pos h]; exact h1
  · rw [if_neg h, if_neg h]; exact h2
theorem vM.v1 {t : Nat} {st : List vV} {f g : Int → List vV → vR} (h : ∀ x r, vM (f x r) (g x r)) : vM (v1 t st f) (v1 t st g) := by
  match st with
  | [] => exact vM.no _
  | y :: r => exact vM.cond (h _ _) (vM.rf _)
theorem vM.v2 {t1 t2 : Nat} {st : List vV} {f g : Int → Int → List vV → vR} (h : ∀ x y r, vM (f x y r) (g x y r)) : vM (v2 t1 t2 st f) (v2 t1 t2 st g) := by
  match st with
  | [] => exact vM.no _
  | [_] => exact vM.no _
  | y :: x :: r => exact vM.cond (vM.cond (h _ _ _) (vM.rf _)) (vM.rf _)
theorem vM.v3 {t1 t2 t3 : Nat} {st : List vV} {f g : Int → Int → Int → List vV → vR} (h : ∀ x y z r, vM (f x y z r) (g x y z r)) : vM (v3 t1 t2 t3 st f) (v3 t1 t2 t3 st g) := by
  match st with
  | [] => exact vM.no _
  | [_] => exact vM.no _
  | [_, _] => exact vM.no _
  | z :: y :: x :: r => exact vM.cond (vM.cond (vM.cond (h _ _ _ _) (vM.rf _)) (vM.rf _)) (vM.rf _)
theorem vM.sto {ls : List vV} {p q : Nat} {z x : Int} {f g : List vV → vR} (h : ∀ l, vM (f l) (g l)) : vM (vsto ls p q z x f) (vsto ls p q z x g) := by
  unfold vsto
  exact vM.cond (vM.cond (h _) (h _)) (vM.cond (vM.cond (vM.rf _) (vM.cond (h _) (h _))) (vM.cond (h _) (h _)))
theorem vM.br {f g : Nat → vR} {p q nx : Nat} {x y : Int} (h : ∀ l, vM (f l) (g l)) : vM (vbr f p q nx x y) (vbr g p q nx x y) := by
  unfold vbr
  exact vM.cond (vM.ite (h _) (h _)) (vM.cond (vM.ite (h _) (h _)) (vM.cond (vM.ite (h _) (h _)) (vM.cond (vM.ite (h _) (h _)) (vM.cond (vM.ite (h _) (h _)) (vM.ite (h _) (h _))))))
theorem vM.stk {op : Nat} {st : List vV} {f g : List vV → vR} (h : ∀ l, vM (f l) (g l)) : vM (vstk op st f) (vstk op st g) := by
  unfold vstk
  match st with
  | [] => repeat' (first | exact vM.no _ | exact h _ | apply vM.cond)
  | [_] => repeat' (first | exact vM.no _ | exact h _ | apply vM.cond)
  | [_, _] => repeat' (first | exact vM.no _ | exact h _ | apply vM.cond)
  | _ :: _ :: _ :: _ => repeat' (first | exact vM.no _ | exact h _ | apply vM.cond)
theorem vM.ib {f : Nat} {x y : Int} {k k' : Int → vR} (h : ∀ v, vM (k v) (k' v)) : vM (v_ib f x y k) (v_ib f x y k') := by
  unfold v_ib
  repeat' (first | exact vM.no _ | exact h _ | apply vM.cond)
theorem vM.lb {f : Nat} {x y : Int} {k k' : Int → vR} (h : ∀ v, vM (k v) (k' v)) : vM (v_lb f x y k) (v_lb f x y k') := by
  unfold v_lb
  repeat' (first | exact vM.no _ | exact h _ | apply vM.cond)
theorem vM.ls {f : Nat} {x y : Int} {k k' : Int → vR} (h : ∀ v, vM (k v) (k' v)) : vM (v_ls f x y k) (v_ls f x y k') := by
  unfold v_ls
  repeat' (first | exact vM.no _ | exact h _ | apply vM.cond)
theorem vM.dv {f : Nat} {x y : Int} {k k' : Int → vR} (h : ∀ v, vM (k v) (k' v)) : vM (v_dv f x y k) (v_dv f x y k') := by
  unfold v_dv
  repeat' (first | exact vM.no _ | exact h _ | apply vM.cond)
theorem vM.un {f : Nat} {st : List vV} {k k' : vV → List vV → vR} (h : ∀ v r, vM (k v r) (k' v r)) : vM (v_un f st k) (v_un f st k') := by
  unfold v_un
  repeat' (first | exact vM.no _ | exact h _ _ | apply vM.cond | (apply vM.v1; intro _ _))
theorem vM.mm {f : Nat} {st : List vV} {k k' : vV → List vV → vR} (h : ∀ v r, vM (k v r) (k' v r)) : vM (v_mm f st k) (v_mm f st k') := by
  unfold v_mm
  repeat' (first | exact vM.no _ | exact h _ _ | apply vM.cond | (apply vM.v2; intro _ _ _))
theorem vM.okb {t : Nat} {v : Int} {f g : vR} (h : vM f g) : vM (vokb t v f) (vokb t v g) := vM.cond (vM.ite h (vM.rf _)) h
theorem vM.go {k k' : vK} (h : ∀ a b c d, vM (k a b c d) (k' a b c d)) (op nx p q : Nat) (z : Int) (ls st : List vV) (w : vW) : vM (vgo k op nx p q z ls st w) (vgo k' op nx p q z ls st w) := by
  unfold vgo
  repeat' (first | exact vM.no _ | exact h _ _ _ _ | apply vM.cond | apply vM.ite | (apply vM.v1; intro _ _) | (apply vM.v2; intro _ _ _) | (apply vM.v3; intro _ _ _ _) | (apply vM.sto; intro _) | (apply vM.br; intro _) | (apply vM.stk; intro _) | (apply vM.ib; intro _) | (apply vM.lb; intro _) | (apply vM.ls; intro _) | (apply vM.dv; intro _) | (apply vM.un; intro _ _) | (apply vM.mm; intro _ _) | apply vM.okb | split)
theorem vM.cn {b : Bool} {x x' : vR} (h : vM x x') : vM (bif b then x else none) (bif b then x' else none) := vM.cond h (vM.no _)
theorem vM.call {ih ih' : Nat → Nat → Nat → List vV → List vV → vW → vR} (h : ∀ a b c d e f, vM (ih a b c d e f) (ih' a b c d e f)) (d M nx p q : Nat) (z : Int) (ls st : List vV) (w : vW) : vM (vclr ih d M nx p q z ls st w) (vclr ih' d M nx p q z ls st w) := by
  match d with
  | 0 => exact vM.no _
  | d + 1 =>
    simp only [vclr]
    apply vM.cn
    intro r hr
    cases h1 : ih d p 0 (vent (vnl p) (st.take q).reverse) [] w with
    | none => rw [h1] at hr; cases hr
    | some u =>
      obtain ⟨f, x, w1⟩ := u
      rw [h1] at hr
      rw [h _ _ _ _ _ _ _ h1]
      exact vM.cond (h _ _ _ _ _ _) (vM.rf _) r hr
theorem vM.callx {ih ih' : Nat → Nat → Nat → List vV → List vV → vW → vR} (h : ∀ a b c d e f, vM (ih a b c d e f) (ih' a b c d e f)) (d M nx p q : Nat) (z : Int) (ls st : List vV) (w : vW) : vM (vclxr ih d M nx p q z ls st w) (vclxr ih' d M nx p q z ls st w) := by
  match d with
  | 0 => exact vM.no _
  | d + 1 =>
    simp only [vclxr]
    apply vM.cn
    intro r hr
    cases h1 : ih d p 0 (vent (vnl p) (st.take q).reverse) [] w with
    | none => rw [h1] at hr; cases hr
    | some u =>
      obtain ⟨f, x, w1⟩ := u
      rw [h1] at hr
      rw [h _ _ _ _ _ _ _ h1]
      exact vM.cond (h _ _ _ _ _ _) (h _ _ _ _ _ _) r hr
theorem vM.rec {p q : Nat} {st : List vV} {w : vW} {f f' : vR} (h : vM f f') : vM (vrec p q st w f) (vrec p q st w f') := vM.cond h (vM.cond (vM.ite h (vM.rf _)) (vM.rf _))
theorem vM.st {ih ih' : Nat → Nat → Nat → List vV → List vV → vW → vR} (h : ∀ a b c d e f, vM (ih a b c d e f) (ih' a b c d e f)) (d M pc : Nat) (ls st : List vV) (w : vW) : vM (vst ih d M pc ls st w) (vst ih' d M pc ls st w) := by
  unfold vst
  obtain ⟨op, nx, p, q, z⟩ := pg M pc
  exact vM.cond (vM.rec (vM.call h _ _ _ _ _ _ _ _ _)) (vM.cond (vM.rf _) (vM.cond (vM.rec (vM.callx h _ _ _ _ _ _ _ _ _)) (vM.cond (vM.rf _) (vM.go (fun _ _ _ _ => h _ _ _ _ _ _) _ _ _ _ _ _ _ _))))
theorem vrun_s (n d M pc : Nat) (ls st : List vV) (w : vW) : vrun (n + 1) d M pc ls st w = vst (vrun n) d M pc ls st w := rfl
theorem vrun_up1 (n : Nat) : ∀ (d M pc : Nat) (ls st : List vV) (w : vW), vM (vrun n d M pc ls st w) (vrun (n + 1) d M pc ls st w) := by
  induction n with
  | zero => intro d M pc ls st w r h; cases h
  | succ n ih => intro d M pc ls st w; exact vM.st ih d M pc ls st w
theorem vrun_up (n k : Nat) (d M pc : Nat) (ls st : List vV) (w : vW) : vM (vrun n d M pc ls st w) (vrun (n + k) d M pc ls st w) := by
  induction k with
  | zero => exact vM.rf _
  | succ k ih => intro r h; exact vrun_up1 _ _ _ _ _ _ _ r (ih r h)
theorem vrun_le {n k : Nat} (h : n ≤ k) (d M pc : Nat) (ls st : List vV) (w : vW) : vM (vrun n d M pc ls st w) (vrun k d M pc ls st w) := by
  obtain ⟨j, rfl⟩ := Nat.le.dest h
  exact vrun_up _ _ _ _ _ _ _ _
/-- k steps -/
noncomputable def vstp (k : Nat) (ih : Nat → Nat → Nat → List vV → List vV → vW → vR) : Nat → Nat → Nat → List vV → List vV → vW → vR := Nat.rec ih (fun _ f d M pc ls st w => vst f d M pc ls st w) k
theorem vstp_run (n k : Nat) : vrun (n + k) = vstp k (vrun n) := by
  induction k with
  | zero => rfl
  | succ k ih => show (fun d M pc ls st w => vst (vrun (n + k)) d M pc ls st w) = fun d M pc ls st w => vst (vstp k (vrun n)) d M pc ls st w; rw [ih]
/-- some fuel is enough -/
def EX (E : Nat → vR) (P : Nat → Int → vW → Prop) : Prop := ∃ (n f : Nat) (z : Int) (w : vW), E n = some (f, z, w) ∧ P f z w
def VW (d M pc : Nat) (ls st : List vV) (w : vW) (Q : Int → vW → Prop) : Prop := EX (fun n => vrun n d M pc ls st w) (fun f z w => f = 0 ∧ Q z w)
def VX (d M pc : Nat) (ls st : List vV) (w : vW) (Q : Int → vW → Prop) (QX : vW → Prop) : Prop := EX (fun n => vrun n d M pc ls st w) (fun f z w => (f = 0 ∧ Q z w) ∨ (¬ f = 0 ∧ QX w))
def VC (d p : Nat) (args : List vV) (w : vW) (Q : Int → vW → Prop) : Prop := match d with
  | 0 => False
  | d + 1 => VW d p 0 (vent (vnl p) args) [] w Q
def VCX (d p : Nat) (args : List vV) (w : vW) (Q : Int → vW → Prop) (QX : vW → Prop) : Prop := match d with
  | 0 => False
  | d + 1 => VX d p 0 (vent (vnl p) args) [] w Q QX
theorem EX_if {c : Prop} [Decidable c] {E : Nat → vR} {P : Nat → Int → vW → Prop} : EX (fun n => if c then E n else none) P ↔ c ∧ EX E P := by
  by_cases h : c
  · rw [show (fun n => if c then E n else none) = E from funext fun _ => if_pos h]; exact ⟨fun x => ⟨h, x⟩, fun x => x.2⟩
  · rw [show (fun n => if c then E n else none) = fun _ => none from funext fun _ => if_neg h]
    exact ⟨fun ⟨_, _, _, _, x, _⟩ => (by cases x), fun x => absurd x.1 h⟩
theorem EX_ifn {c : Prop} [Decidable c] {E : Nat → vR} {P : Nat → Int → vW → Prop} : EX (fun n => if c then none else E n) P ↔ ¬ c ∧ EX E P := by
  by_cases h : c
  · rw [show (fun n => if c then none else E n) = fun _ => none from funext fun _ => if_pos h]
    exact ⟨fun ⟨_, _, _, _, x, _⟩ => (by cases x), fun x => absurd h x.1⟩
  · rw [show (fun n => if c then none else E n) = E from funext fun _ => if_neg h]; exact ⟨fun x => ⟨h, x⟩, fun x => x.2⟩
theorem EX_br {c : Prop} [Decidable c] {E F : Nat → vR} {P : Nat → Int → vW → Prop} : EX (fun n => if c then E n else F n) P ↔ (c → EX E P) ∧ (¬ c → EX F P) := by
  by_cases h : c
  · rw [show (fun n => if c then E n else F n) = E from funext fun _ => if_pos h]; exact ⟨fun x => ⟨fun _ => x, fun z => absurd h z⟩, fun x => x.1 h⟩
  · rw [show (fun n => if c then E n else F n) = F from funext fun _ => if_neg h]; exact ⟨fun x => ⟨fun z => absurd z h, fun _ => x⟩, fun x => x.2 h⟩
theorem EX_ret {f : Nat} {z : Int} {w : vW} {P : Nat → Int → vW → Prop} : EX (fun _ => some (f, z, w)) P ↔ P f z w := by
  constructor
  · rintro ⟨n, f', z', w', h1, h2⟩
    cases h1
    exact h2
  · intro h
    exact ⟨0, f, z, w, rfl, h⟩
theorem EX_ret0 {z : Int} {w : vW} {Q : Int → vW → Prop} : EX (fun _ => some (0, z, w)) (fun f z w => f = 0 ∧ Q z w) ↔ Q z w := EX_ret.trans ⟨fun h => h.2, fun h => ⟨rfl, h⟩⟩
theorem EX_retx {z : Int} {w : vW} {Q : Int → vW → Prop} {QX : vW → Prop} : EX (fun _ => some (0, z, w)) (fun f z w => (f = 0 ∧ Q z w) ∨ (¬ f = 0 ∧ QX w)) ↔ Q z w := EX_ret.trans ⟨fun h => h.elim (fun h => h.2) (fun h => absurd rfl h.1), fun h => Or.inl ⟨rfl, h⟩⟩
theorem EX_thr {z : Int} {w : vW} {Q : Int → vW → Prop} {QX : vW → Prop} : EX (fun _ => some (1, z, w)) (fun f z w => (f = 0 ∧ Q z w) ∨ (¬ f = 0 ∧ QX w)) ↔ QX w := EX_ret.trans ⟨fun h => h.elim (fun h => absurd h.1 (by decide)) (fun h => h.2), fun h => Or.inr ⟨by decide, h⟩⟩
theorem EX_sh {E F : Nat → vR} {k : Nat} {P : Nat → Int → vW → Prop} (h : ∀ n, E (n + k) = F n) (hm : ∀ n, vM (E n) (E (n + k))) : EX E P ↔ EX F P := by
  constructor
  · rintro ⟨n, f, z, w, h1, h2⟩
    exact ⟨n, f, z, w, (h n).symm.trans (hm n _ h1), h2⟩
  · rintro ⟨n, f, z, w, h1, h2⟩
    exact ⟨n + k, f, z, w, (h n).trans h1, h2⟩
theorem VW_b {d M pc : Nat} {ls st : List vV} {w : vW} {Q : Int → vW → Prop} (k : Nat) {F : Nat → vR} (h : ∀ n, vstp k (vrun n) d M pc ls st w = F n) : VW d M pc ls st w Q ↔ EX F (fun f z w => f = 0 ∧ Q z w) := EX_sh (k := k) (fun n => (congrFun (congrFun (congrFun (congrFun (congrFun (congrFun (vstp_run n k) d) M) pc) ls) st) w).trans (h n)) (fun _ => vrun_up _ _ _ _ _ _ _ _)
theorem VX_b {d M pc : Nat} {ls st : List vV} {w : vW} {Q : Int → vW → Prop} {QX : vW → Prop} (k : Nat) {F : Nat → vR} (h : ∀ n, vstp k (vrun n) d M pc ls st w = F n) : VX d M pc ls st w Q QX ↔ EX F (fun f z w => (f = 0 ∧ Q z w) ∨ (¬ f = 0 ∧ QX w)) := EX_sh (k := k) (fun n => (congrFun (congrFun (congrFun (congrFun (congrFun (congrFun (vstp_run n k) d) M) pc) ls) st) w).trans (h n)) (fun _ => vrun_up _ _ _ _ _ _ _ _)
theorem EX_call {d M nx p q : Nat} {z : Int} {ls st : List vV} {w : vW} {P : Nat → Int → vW → Prop} (hb : vfit p q st = true) : EX (fun n => vclr (vrun n) d M nx p q z ls st w) P ↔ VC d p (st.take q).reverse w (fun r w1 => EX (fun n => vrun n d M nx ls (bif Nat.beq z.toNat 9 then st.drop q else (z.toNat, r) :: st.drop q) w1) P) := by
  match d with
  | 0 =>
    constructor
    · rintro ⟨n, f, x, w1, h1, -⟩; cases h1
    · intro h; exact h.elim
  | d + 1 =>
    constructor
    · rintro ⟨n, f, x, w1, h1, h2⟩
      simp only [vclr, hb, cond_true] at h1
      cases h3 : vrun n d p 0 (vent (vnl p) (st.take q).reverse) [] w with
      | none => rw [h3] at h1; cases h1
      | some u =>
        obtain ⟨g, y, w2⟩ := u
        rw [h3] at h1
        dsimp only at h1
        cases hg : Nat.beq g 0 with
        | false => rw [hg] at h1; cases h1
        | true =>
          rw [hg] at h1
          exact ⟨n, g, y, w2, h3, Nat.eq_of_beq_eq_true hg, n, f, x, w1, h1, h2⟩
    · rintro ⟨n1, g, y, w2, h3, rfl, n2, f, x, w1, h1, h2⟩
      refine ⟨n1 + n2, f, x, w1, ?_, h2⟩
      simp only [vclr, hb, cond_true]
      rw [vrun_le (Nat.le_add_right n1 n2) _ _ _ _ _ _ _ h3]
      exact vrun_le (Nat.le_add_left n2 n1) _ _ _ _ _ _ _ h1
theorem EX_callx {d M nx p q : Nat} {z : Int} {ls st : List vV} {w : vW} {P : Nat → Int → vW → Prop} (hb : vfit p q st = true) : EX (fun n => vclxr (vrun n) d M nx p q z ls st w) P ↔ VCX d p (st.take q).reverse w (fun r w1 => EX (fun n => vrun n d M nx ls (bif Nat.beq z.toNat 9 then st.drop q else (z.toNat, r) :: st.drop q) w1) P) (fun w1 => EX (fun n => vrun n d M (vhdl p) ls [(5, 0)] w1) P) := by
  match d with
  | 0 =>
    constructor
    · rintro ⟨n, f, x, w1, h1, -⟩; cases h1
    · intro h; exact h.elim
  | d + 1 =>
    constructor
    · rintro ⟨n, f, x, w1, h1, h2⟩
      simp only [vclxr, hb, cond_true] at h1
      cases h3 : vrun n d p 0 (vent (vnl p) (st.take q).reverse) [] w with
      | none => rw [h3] at h1; cases h1
      | some u =>
        obtain ⟨g, y, w2⟩ := u
        rw [h3] at h1
        dsimp only at h1
        cases hg : Nat.beq g 0 with
        | false => rw [hg] at h1; exact ⟨n, g, y, w2, h3, Or.inr ⟨Nat.ne_of_beq_eq_false hg, n, f, x, w1, h1, h2⟩⟩
        | true => rw [hg] at h1; exact ⟨n, g, y, w2, h3, Or.inl ⟨Nat.eq_of_beq_eq_true hg, n, f, x, w1, h1, h2⟩⟩
    · rintro ⟨n1, g, y, w2, h3, ⟨h4, n2, f, x, w1, h1, h2⟩ | ⟨h4, n2, f, x, w1, h1, h2⟩⟩
      · refine ⟨n1 + n2, f, x, w1, ?_, h2⟩
        simp only [vclxr, hb, cond_true]
        rw [vrun_le (Nat.le_add_right n1 n2) _ _ _ _ _ _ _ h3]
        subst h4
        exact vrun_le (Nat.le_add_left n2 n1) _ _ _ _ _ _ _ h1
      · refine ⟨n1 + n2, f, x, w1, ?_, h2⟩
        simp only [vclxr, hb, cond_true]
        rw [vrun_le (Nat.le_add_right n1 n2) _ _ _ _ _ _ _ h3]
        dsimp only
        rw [show Nat.beq g 0 = false from by cases hg : Nat.beq g 0 with | false => rfl | true => exact absurd (Nat.eq_of_beq_eq_true hg) h4]
        exact vrun_le (Nat.le_add_left n2 n1) _ _ _ _ _ _ _ h1
