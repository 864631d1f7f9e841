/-! V against the machine: values, locals, stack, world -/
def zN (b : Nat) (rw : va_W) (k : Int) (x : Value) : Prop := (k = -1 ∧ x = .null) ∨ (k = -2 ∧ x = .ref b) ∨ ∃ (j : Nat) (q : Nat × va_E), k = (j : Int) ∧ rw[j]? = some q ∧ x = .ref q.1
def zV (b : Nat) (rw : va_W) (v : vV) (x : Value) : Prop := (v.1 = 0 ∧ ∃ i : Int32, x = .int i ∧ v.2 = i.toInt) ∨ (v.1 = 1 ∧ ∃ i : Int64, x = .long i ∧ v.2 = i.toInt) ∨ (v.1 = 2 ∧ zN b rw v.2 x) ∨ (v.1 = 5 ∧ ∃ a : Nat, x = .ref a)
def zS (b : Nat) (rw : va_W) : List vV → List Value → Prop
  | [], [] => True
  | v :: vs, x :: xs => zV b rw v x ∧ zS b rw vs xs
  | _, _ => False
def zL (b : Nat) (nL : Nat) (rw : va_W) (Ls : List vV) (ls : Array Slot) : Prop := ls.size = nL ∧ lv_wf ls ∧ ∀ i : Nat, (vlg Ls i).1 ≠ 9 → ∃ x : Value, ls[i]? = some (.val x) ∧ zV b rw (vlg Ls i) x
def zE (b : Nat) (rw : va_W) (tys : List (ClassId × FieldType)) (c : vC) (e : va_E) : Prop := match e with
  | .inr o => c.1 = 10 + o.1 ∧ ∃ r : vw_C, vwCl[o.1]? = some r ∧ o.2.length = r.2.2 ∧ ∀ j : Nat, j < r.2.2 → zV b rw (vtg (ftg (r.2.1 j).2.2.1), c.2.2 (j : Int)) (vp_V o.2 j)
  | .inl (cA, n, .inl f) => (∃ t : Nat, (c.1 = 1 ∧ tys[t]? = some (cA, .int)) ∨ (c.1 = 3 ∧ tys[t]? = some (cA, .boolean))) ∧ c.2.1 = (n : Int) ∧ n ≤ 1000000 ∧ ∀ j : Nat, j < n → c.2.2 (j : Int) = (f j).toInt
  | .inl (cA, n, .inr (.inl f)) => (∃ t : Nat, c.1 = 2 ∧ tys[t]? = some (cA, .long)) ∧ c.2.1 = (n : Int) ∧ n ≤ 1000000 ∧ ∀ j : Nat, j < n → c.2.2 (j : Int) = (f j).toInt
  | .inl (cA, n, .inr (.inr (.inr (.inr f)))) => (∃ t : Nat, (c.1 = 4 ∨ c.1 = 5 ∨ c.1 = 6 ∨ c.1 = 7) ∧ tys[t]? = some (cA, kty c.1)) ∧ c.2.1 = (n : Int) ∧ n ≤ 1000000 ∧ ∀ j : Nat, j < n → zN b rw (c.2.2 (j : Int)) (va_rf (f j)) ∧ c.2.2 (j : Int) ≠ -2
  | _ => False
def zW (b L : Nat) (xs : Nat → Int32) (w : vW) (rw : va_W) (tys : List (ClassId × FieldType)) : Prop :=
  vnt w = (rw.length : Int) ∧ w.1 (-2) = (99, (L : Int), fun j => (xs j.toNat).toInt) ∧ (∀ a : Int, vkd w a ≠ 0 → a = -2 ∨ ∃ k : Nat, k < rw.length ∧ a = (k : Int)) ∧ (∀ (k : Nat) (q : Nat × va_E), rw[k]? = some q → zE b rw tys (w.1 (k : Int)) q.2) ∧ (∃ cI : ClassId, tys[0]? = some (cI, .int)) ∧ ∃ cJ : ClassId, tys[1]? = some (cJ, .long)
def zpre (rw rw' : va_W) : Prop := ∀ (j : Nat) (q : Nat × va_E), rw[j]? = some q → ∃ q' : Nat × va_E, rw'[j]? = some q' ∧ q'.1 = q.1
theorem zpre.rf (rw : va_W) : zpre rw rw := fun _ q h => ⟨q, h, rfl⟩
theorem zpre.tr {a b c : va_W} (h1 : zpre a b) (h2 : zpre b c) : zpre a c := fun j q h => by
  obtain ⟨q1, e1, f1⟩ := h1 j q h
  obtain ⟨q2, e2, f2⟩ := h2 j q1 e1
  exact ⟨q2, e2, f2.trans f1⟩
theorem zpre.push (rw : va_W) (t : va_W) : zpre rw (rw ++ t) := fun j q h => ⟨q, by rw [List.getElem?_append_left (List.getElem?_eq_some_iff.mp h).1]; exact h, rfl⟩
theorem zpre.set {rw : va_W} {k a : Nat} {e e' : va_E} (h : rw[k]? = some (a, e)) : zpre rw (rw.set k (a, e')) := fun j q hq => by
  by_cases hj : k = j
  · subst hj
    rw [h] at hq
    cases hq
    exact ⟨(a, e'), by rw [List.getElem?_set_self (List.getElem?_eq_some_iff.mp h).1], rfl⟩
  · exact ⟨q, by rw [List.getElem?_set_ne hj]; exact hq, rfl⟩
theorem zN.up {b : Nat} {rw rw' : va_W} {k : Int} {x : Value} (h : zN b rw k x) (hp : zpre rw rw') : zN b rw' k x := by
  rcases h with h | h | ⟨j, q, h1, h2, h3⟩
  · exact Or.inl h
  · exact Or.inr (Or.inl h)
  · obtain ⟨q', e1, e2⟩ := hp j q h2
    exact Or.inr (Or.inr ⟨j, q', h1, e1, by rw [e2]; exact h3⟩)
theorem zV.up {b : Nat} {rw rw' : va_W} {v : vV} {x : Value} (h : zV b rw v x) (hp : zpre rw rw') : zV b rw' v x := by
  rcases h with h | h | ⟨h1, h2⟩ | h
  · exact Or.inl h
  · exact Or.inr (Or.inl h)
  · exact Or.inr (Or.inr (Or.inl ⟨h1, h2.up hp⟩))
  · exact Or.inr (Or.inr (Or.inr h))
theorem zS.up {b : Nat} {rw rw' : va_W} : ∀ {vs : List vV} {xs : List Value}, zS b rw vs xs → zpre rw rw' → zS b rw' vs xs
  | [], [], _, _ => trivial
  | [], _ :: _, h, _ => h.elim
  | _ :: _, [], h, _ => h.elim
  | _ :: _, _ :: _, h, hp => ⟨h.1.up hp, zS.up h.2 hp⟩
theorem zL.up {b nL : Nat} {rw rw' : va_W} {Ls : List vV} {ls : Array Slot} (h : zL b nL rw Ls ls) (hp : zpre rw rw') : zL b nL rw' Ls ls :=
  ⟨h.1, h.2.1, fun i hi => by obtain ⟨x, h1, h2⟩ := h.2.2 i hi; exact ⟨x, h1, h2.up hp⟩⟩
theorem zV.int {b : Nat} {rw : va_W} {z : Int} {x : Value} (h : zV b rw (0, z) x) : ∃ i : Int32, x = .int i ∧ z = i.toInt := by
  rcases h with ⟨-, h⟩ | ⟨h, -⟩ | ⟨h, -⟩ | ⟨h, -⟩
  · exact h
  all_goals exact absurd h (show ¬ ((0 : Nat) = _) by decide)
theorem zV.long {b : Nat} {rw : va_W} {z : Int} {x : Value} (h : zV b rw (1, z) x) : ∃ i : Int64, x = .long i ∧ z = i.toInt := by
  rcases h with ⟨h, -⟩ | ⟨-, h⟩ | ⟨h, -⟩ | ⟨h, -⟩
  · exact absurd h (show ¬ ((1 : Nat) = _) by decide)
  · exact h
  all_goals exact absurd h (show ¬ ((1 : Nat) = _) by decide)
theorem zV.rf {b : Nat} {rw : va_W} {z : Int} {x : Value} (h : zV b rw (2, z) x) : zN b rw z x := by
  rcases h with ⟨h, -⟩ | ⟨h, -⟩ | ⟨-, h⟩ | ⟨h, -⟩
  · exact absurd h (show ¬ ((2 : Nat) = _) by decide)
  · exact absurd h (show ¬ ((2 : Nat) = _) by decide)
  · exact h
  · exact absurd h (show ¬ ((2 : Nat) = _) by decide)
theorem zV.ofi {b : Nat} {rw : va_W} (i : Int32) : zV b rw (0, i.toInt) (.int i) := Or.inl ⟨rfl, i, rfl, rfl⟩
theorem zV.ofl {b : Nat} {rw : va_W} (i : Int64) : zV b rw (1, i.toInt) (.long i) := Or.inr (Or.inl ⟨rfl, i, rfl, rfl⟩)
theorem zV.ofi' {b : Nat} {rw : va_W} {i : Int32} {z : Int} (h : i.toInt = z) : zV b rw (0, z) (.int i) := h ▸ zV.ofi i
theorem zV.ofl' {b : Nat} {rw : va_W} {i : Int64} {z : Int} (h : i.toInt = z) : zV b rw (1, z) (.long i) := h ▸ zV.ofl i
theorem zV.ofr {b : Nat} {rw : va_W} {z : Int} {x : Value} (h : zN b rw z x) : zV b rw (2, z) x := Or.inr (Or.inr (Or.inl ⟨rfl, h⟩))
/-- a value's units of depth -/
theorem zV.cat {b : Nat} {rw : va_W} {v : vV} {x : Value} (h : zV b rw v x) : x.category = bif Nat.beq v.1 1 then 2 else 1 := by
  rcases h with ⟨h, i, rfl, -⟩ | ⟨h, i, rfl, -⟩ | ⟨h, h2⟩ | ⟨h, a, rfl⟩
  · rw [h]; rfl
  · rw [h]; rfl
  · rw [h]
    rcases h2 with ⟨-, rfl⟩ | ⟨-, rfl⟩ | ⟨j, q, -, -, rfl⟩ <;> rfl
  · rw [h]; rfl
theorem zS.cat {b : Nat} {rw : va_W} : ∀ {vs : List vV} {xs : List Value}, zS b rw vs xs → (xs.map fun v => v.category).sum = vcs vs
  | [], [], _ => rfl
  | [], _ :: _, h => h.elim
  | _ :: _, [], h => h.elim
  | v :: vs, x :: xs, h => by
    show (x.category :: xs.map fun v => v.category).sum = _
    rw [List.sum_cons, zS.cat h.2, h.1.cat]
    rfl
theorem zS.cons {b : Nat} {rw : va_W} {v : vV} {vs : List vV} {st : List Value} (h : zS b rw (v :: vs) st) : ∃ (x : Value) (xs : List Value), st = x :: xs ∧ zV b rw v x ∧ zS b rw vs xs := by
  match st, h with
  | x :: xs, h => exact ⟨x, xs, rfl, h.1, h.2⟩
theorem zS.nil {b : Nat} {rw : va_W} {st : List Value} (h : zS b rw [] st) : st = [] := by
  match st, h with
  | [], _ => rfl
theorem zS.len {b : Nat} {rw : va_W} : ∀ {vs : List vV} {xs : List Value}, zS b rw vs xs → vs.length = xs.length
  | [], [], _ => rfl
  | [], _ :: _, h => h.elim
  | _ :: _, [], h => h.elim
  | _ :: _, _ :: _, h => congrArg (· + 1) (zS.len h.2)
theorem zS.take {b : Nat} {rw : va_W} : ∀ (n : Nat) {vs : List vV} {xs : List Value}, zS b rw vs xs → zS b rw (vs.take n) (xs.take n)
  | 0, _, _, _ => trivial
  | n + 1, [], [], _ => trivial
  | n + 1, [], _ :: _, h => h.elim
  | n + 1, _ :: _, [], h => h.elim
  | n + 1, _ :: _, _ :: _, h => ⟨h.1, zS.take n h.2⟩
theorem zS.drop {b : Nat} {rw : va_W} : ∀ (n : Nat) {vs : List vV} {xs : List Value}, zS b rw vs xs → zS b rw (vs.drop n) (xs.drop n)
  | 0, _, _, h => h
  | n + 1, [], [], _ => trivial
  | n + 1, [], _ :: _, h => h.elim
  | n + 1, _ :: _, [], h => h.elim
  | n + 1, _ :: _, _ :: _, h => zS.drop n h.2
theorem zS.app {b : Nat} {rw : va_W} : ∀ {vs us : List vV} {xs ys : List Value}, zS b rw vs xs → zS b rw us ys → zS b rw (vs ++ us) (xs ++ ys)
  | [], _, [], _, _, h => h
  | [], _, _ :: _, _, h, _ => h.elim
  | _ :: _, _, [], _, h, _ => h.elim
  | _ :: _, _, _ :: _, _, h, h2 => ⟨h.1, zS.app h.2 h2⟩
theorem zS.rev {b : Nat} {rw : va_W} : ∀ {vs : List vV} {xs : List Value}, zS b rw vs xs → zS b rw vs.reverse xs.reverse
  | [], [], _ => trivial
  | [], _ :: _, h => h.elim
  | _ :: _, [], h => h.elim
  | v :: vs, x :: xs, h => by
    rw [List.reverse_cons, List.reverse_cons]
    exact zS.app (zS.rev h.2) ⟨h.1, trivial⟩
/-! what a step of V that came to an end tells -/
theorem v1_inv {t : Nat} {St : List vV} {f : Int → List vV → vR} {r} (h : v1 t St f = some r) : ∃ (y : Int) (R : List vV), St = (t, y) :: R ∧ f y R = some r := by
  match St, h with
  | (t', y) :: R, h =>
    unfold v1 at h
    dsimp only at h
    cases ht : Nat.beq t' t with
    | false => rw [ht] at h; cases h
    | true => rw [ht] at h; rw [Nat.eq_of_beq_eq_true ht]; exact ⟨y, R, rfl, h⟩
theorem v2_inv {t1 t2 : Nat} {St : List vV} {f : Int → Int → List vV → vR} {r} (h : v2 t1 t2 St f = some r) : ∃ (x y : Int) (R : List vV), St = (t2, y) :: (t1, x) :: R ∧ f x y R = some r := by
  match St, h with
  | (a, y) :: (a2, x) :: R, h =>
    unfold v2 at h
    dsimp only at h
    cases ht : Nat.beq a t2 with
    | false => rw [ht] at h; cases h
    | true =>
      rw [ht] at h
      cases ht2 : Nat.beq a2 t1 with
      | false => rw [ht2] at h; cases h
      | true => rw [ht2] at h; rw [Nat.eq_of_beq_eq_true ht, Nat.eq_of_beq_eq_true ht2]; exact ⟨x, y, R, rfl, h⟩
theorem v3_inv {t1 t2 t3 : Nat} {St : List vV} {f : Int → Int → Int → List vV → vR} {r} (h : v3 t1 t2 t3 St f = some r) : ∃ (x y z : Int) (R : List vV), St = (t3, z) :: (t2, y) :: (t1, x) :: R ∧ f x y z R = some r := by
  match St, h with
  | (a3, z) :: (a, y) :: (a2, x) :: R, h =>
    unfold v3 at h
    dsimp only at h
    cases ht3 : Nat.beq a3 t3 with
    | false => rw [ht3] at h; cases h
    | true =>
      rw [ht3] at h
      cases ht : Nat.beq a t2 with
      | false => rw [ht] at h; cases h
      | true =>
        rw [ht] at h
        cases ht2 : Nat.beq a2 t1 with
        | false => rw [ht2] at h; cases h
        | true => rw [ht2] at h; rw [Nat.eq_of_beq_eq_true ht, Nat.eq_of_beq_eq_true ht2, Nat.eq_of_beq_eq_true ht3]; exact ⟨x, y, z, R, rfl, h⟩
theorem ite_inv {c : Prop} [Decidable c] {f : vR} {r} (h : (if c then f else none) = some r) : c ∧ f = some r := by
  by_cases hc : c
  · rw [if_pos hc] at h; exact ⟨hc, h⟩
  · rw [if_neg hc] at h; cases h
theorem iten_inv {c : Prop} [Decidable c] {f : vR} {r} (h : (if c then none else f) = some r) : ¬ c ∧ f = some r := by
  by_cases hc : c
  · rw [if_pos hc] at h; cases h
  · rw [if_neg hc] at h; exact ⟨hc, h⟩
/-! locals -/
theorem vlg_nil (i : Nat) : vlg [] i = (9, 0) := rfl
theorem vlg_0 (v : vV) (l : List vV) : vlg (v :: l) 0 = v := rfl
theorem vlg_s (v : vV) (l : List vV) (i : Nat) : vlg (v :: l) (i + 1) = vlg l i := rfl
theorem vlset_nil (v : vV) (i : Nat) : vlset [] v i = [] := rfl
theorem vlset_0 (u v : vV) (l : List vV) : vlset (u :: l) v 0 = v :: l := rfl
theorem vlset_s (u v : vV) (l : List vV) (i : Nat) : vlset (u :: l) v (i + 1) = u :: vlset l v i := rfl
theorem vlg_set_ne (v : vV) : ∀ (l : List vV) (q i : Nat), i ≠ q → vlg (vlset l v q) i = vlg l i
  | [], _, _, _ => rfl
  | _ :: _, 0, 0, h => absurd rfl h
  | _ :: _, 0, _ + 1, _ => rfl
  | _ :: _, _ + 1, 0, _ => rfl
  | _ :: l, q + 1, i + 1, h => vlg_set_ne v l q i (fun e => h (congrArg (· + 1) e))
theorem vlg_set_self (v : vV) : ∀ (l : List vV) (q : Nat), vlg (vlset l v q) q = v ∨ (vlg (vlset l v q) q).1 = 9
  | [], _ => Or.inr rfl
  | _ :: _, 0 => Or.inl rfl
  | _ :: l, q + 1 => vlg_set_self v l q
/-- all that the machine's locals hold -/
def zlo (j : Nat) (o : Option Slot) : Option (Nat × Value) := match o with
  | some (Slot.val x) => some (j, x)
  | _ => none
def zlv (ls : Array Slot) : List (Nat × Value) := (List.range ls.size).filterMap fun j => zlo j ls[j]?
theorem zlv_mem {ls : Array Slot} {j : Nat} {x : Value} : (j, x) ∈ zlv ls ↔ ls[j]? = some (.val x) := by
  unfold zlv
  rw [List.mem_filterMap]
  constructor
  · rintro ⟨i, -, h⟩
    cases hi : ls[i]? with
    | none => rw [hi] at h; cases h
    | some y =>
      rw [hi] at h
      cases y with
      | unset => cases h
      | second => cases h
      | val z => cases h; exact hi
  · intro h
    exact ⟨j, List.mem_range.mpr (Array.getElem?_eq_some_iff.mp h).1, by rw [h]; rfl⟩
theorem zlv_has {ls : Array Slot} {nL : Nat} (h1 : ls.size = nL) (h2 : lv_wf ls) : lv_has ls nL (zlv ls) := ⟨h1, h2, fun q hq => zlv_mem.mp hq⟩
