def va_AOA' (ty : FieldType) (U : State) : Prop := va_AOA ty U
theorem va_AOA.spec {ty : FieldType} {s : State} (h : va_AOA ty s) : ∃ comp c k, s.vm.findClass (FieldType.array ty).toString = some comp ∧ (s.vm.classes.findIdx? fun (x : Class) => match x.kind with | .array component _ => component == comp | _ => false) = some c ∧ s.vm.classes[c]? = some k ∧ k.kind = .array comp (.array ty) ∧ s.vm.findClass ("[" ++ (FieldType.array ty).toString) = some c := by
  unfold va_AOA Cond.before at h
  simp only [Cond.holds, Cond.value, beq_iff_eq] at h
  cases hc : s.vm.findClass (FieldType.array ty).toString with
  | none => simp [hc] at h
  | some comp =>
    simp only [hc, Option.bind_some, Option.bind_eq_some_iff, Option.map_eq_some_iff] at h
    obtain ⟨c, hi, k, hk, hb⟩ := h
    obtain ⟨hlt, hp, -⟩ := Array.findIdx?_eq_some_iff_getElem.mp hi
    have hkk : s.vm.classes[c] = k := (Array.getElem?_eq_some_iff.mp hk).2
    rw [hkk] at hp
    cases hkind : k.kind with
    | array component ty' =>
      rw [hkind] at hb hp
      simp at hb hp
      exact ⟨comp, c, k, rfl, hi, hk, by rw [hkind, hp, hb.1], hb.2⟩
    | _ => rw [hkind] at hb; simp at hb
theorem va_AOA.moved {ty : FieldType} {u U : State} (hvm : u.vm.Alike U.vm) (h : va_AOA ty u) : va_AOA ty U := by
  obtain ⟨comp, c, k, h1, h2, h3, h4, h5⟩ := va_AOA.spec h
  obtain ⟨k', hk', he⟩ := hvm.2.2 _ _ h3
  have hi : (U.vm.classes.findIdx? fun (x : Class) => match x.kind with | .array component _ => component == comp | _ => false) = some c := by
    refine (va_idx_bare U.vm comp).symm.trans ?_
    first | rw [hvm.bare_eq] | rw [← hvm.bare_eq]
    exact (va_idx_bare u.vm comp).trans h2
  have hkind : k'.kind = .array comp (.array ty) := by rw [he]; exact h4
  have f1 : U.vm.findClass (FieldType.array ty).toString = some comp := by rw [hvm.findClass]; exact h1
  have f2 : U.vm.findClass ("[" ++ (FieldType.array ty).toString) = some c := by rw [hvm.findClass]; exact h5
  unfold va_AOA Cond.before Cond.holds
  simp only [Cond.value]
  rw [f1, Option.bind_some]
  refine (congrArg (fun o : Option Nat => (o.bind (fun c => (U.vm.classes[c]?).map fun (k : Class) => match k.kind with | .array _ ty' => decide (ty' = FieldType.array ty) && decide (U.vm.findClass ("[" ++ (FieldType.array ty).toString) = some c) | _ => false)) == some true) hi).trans ?_
  simp [hk', hkind, f2]
/-! entry locals -/
theorem vflat_nil : vflat [] = [] := rfl
theorem vflat_cons (v : vV) (l : List vV) : vflat (v :: l) = bif Nat.beq v.1 1 then v :: (9, 0) :: vflat l else v :: vflat l := rfl
theorem vflat_len : ∀ l : List vV, (vflat l).length = vcs l
  | [] => rfl
  | v :: l => by
    rw [vflat_cons]
    show _ = (bif Nat.beq v.1 1 then 2 else 1) + vcs l
    cases Nat.beq v.1 1 <;> simp [vflat_len l] <;> omega
theorem vcs_app : ∀ a c : List vV, vcs (a ++ c) = vcs a + vcs c
  | [], c => (Nat.zero_add _).symm
  | v :: a, c => by
    show (bif Nat.beq v.1 1 then 2 else 1) + vcs (a ++ c) = (bif Nat.beq v.1 1 then 2 else 1) + vcs a + vcs c
    rw [vcs_app a c, Nat.add_assoc]
theorem vcs_rev : ∀ l : List vV, vcs l.reverse = vcs l
  | [] => rfl
  | v :: l => by
    rw [List.reverse_cons, vcs_app, vcs_rev l, Nat.add_comm]
    show (bif Nat.beq v.1 1 then 2 else 1) + vcs [] + vcs l = _
    rfl
theorem lg_sl_len {b : Nat} {rw : va_W} : ∀ {av : List vV} {as : List Value}, zS b rw av as → (lg_sl as).length = vcs av
  | [], [], _ => rfl
  | [], _ :: _, h => h.elim
  | _ :: _, [], h => h.elim
  | v :: av, x :: as, h => by
    have e1 : lg_sl (x :: as) = (if x.category = 2 then [.val x, .second] else [.val x]) ++ lg_sl as := rfl
    rw [e1, List.length_append, lg_sl_len h.2, h.1.cat]
    show _ = (bif Nat.beq v.1 1 then 2 else 1) + vcs av
    cases Nat.beq v.1 1 <;> rfl
theorem vlg_pad (k i : Nat) : (vlg (List.replicate k (9, 0)) i).1 = 9 := by
  induction k generalizing i with
  | zero => rfl
  | succ k ih =>
    rw [List.replicate_succ]
    cases i with
    | zero => rfl
    | succ i => exact ih i
theorem z_ent {b : Nat} {rw : va_W} (pad : List vV) (hpad : ∀ i, (vlg pad i).1 = 9) : ∀ {av : List vV} {as : List Value}, zS b rw av as → (∀ v ∈ av, v.1 ≠ 9) → ∀ (k i : Nat), (vlg (vflat av ++ pad) i).1 ≠ 9 → ∃ x : Value, (k + i, x) ∈ lv_args k as ∧ zV b rw (vlg (vflat av ++ pad) i) x
  | [], [], _, _, _, i, h => absurd (hpad i) h
  | [], _ :: _, h, _, _, _, _ => h.elim
  | _ :: _, [], h, _, _, _, _ => h.elim
  | v :: av, x :: as, h, h9, k, i, hi => by
    have hc := h.1.cat
    rw [vflat_cons] at hi ⊢
    cases hb : Nat.beq v.1 1 with
    | true =>
      rw [hb] at hi hc
      rw [cond_true] at hc
      match i, hi with
      | 0, _ => exact ⟨x, List.mem_cons_self, h.1⟩
      | 1, hi => exact absurd rfl hi
      | i + 2, hi =>
        obtain ⟨y, h1, h2⟩ := z_ent pad hpad h.2 (fun u hu => h9 u (List.mem_cons_of_mem _ hu)) (k + 2) i hi
        refine ⟨y, ?_, h2⟩
        show _ ∈ (k, x) :: lv_args (if x.category = 2 then k + 2 else k + 1) as
        rw [if_pos hc, show k + (i + 2) = k + 2 + i by omega]
        exact List.mem_cons_of_mem _ h1
    | false =>
      rw [hb] at hi hc
      rw [cond_false] at hc
      match i, hi with
      | 0, _ => exact ⟨x, List.mem_cons_self, h.1⟩
      | i + 1, hi =>
        obtain ⟨y, h1, h2⟩ := z_ent pad hpad h.2 (fun u hu => h9 u (List.mem_cons_of_mem _ hu)) (k + 1) i hi
        refine ⟨y, ?_, h2⟩
        show _ ∈ (k, x) :: lv_args (if x.category = 2 then k + 2 else k + 1) as
        rw [if_neg (by omega), show k + (i + 1) = k + 1 + i by omega]
        exact List.mem_cons_of_mem _ h1
theorem zS.no9 {b : Nat} {rw : va_W} : ∀ {av : List vV} {as : List Value}, zS b rw av as → ∀ v ∈ av, v.1 ≠ 9
  | [], _, _, _, h => by cases h
  | _ :: _, [], h, _, _ => h.elim
  | v :: av, x :: as, h, u, hu => by
    rcases List.mem_cons.mp hu with rfl | hu
    · rcases h.1 with ⟨h, -⟩ | ⟨h, -⟩ | ⟨h, -⟩ | ⟨h, -⟩ <;> rw [h] <;> decide
    · exact zS.no9 h.2 u hu
/-! the words of a method; what a call needs and leaves -/
def wsT : List Cond := lw_tbl.filter goodWord
def wsm (M : Nat) : List Cond := .code (mY M) (mB M) (vnl M) (mR M) :: wsT
theorem wsT_mem {w : Cond} : w ∈ wsT ↔ w ∈ lw_tbl ∧ goodWord w = true := List.mem_filter
def zB (b nX : Nat) (xs : Nat → Int32) (dC : Nat → ClassId) (dI : Nat → Nat → Nat) (rw : va_W) (tys : List (ClassId × FieldType)) (sz : Nat) (U : State) : Prop :=
  U.heap.size = sz ∧ va_P (dC, dI) vwCl rw U.heap ∧ va_K (dC, dI) vwCl tys U ∧ va_D (fun _ => True) rw ∧ zK0 U ∧ va_X b nX xs U U.heap
def zRes (b : Nat) (rw : va_W) (M : Nat) (r : Int) (v : Option Value) : Prop := (rtg (mR M) = 9 ∧ v = none) ∨ (rtg (mR M) ≠ 9 ∧ ∃ x : Value, v = some x ∧ zV b rw (vtg (rtg (mR M)), r) x)
def zPost (b nX : Nat) (xs : Nat → Int32) (dC : Nat → ClassId) (dI : Nat → Nat → Nat) (M : Nat) (r : Int) (w' : vW) (rw : va_W) (sz : Nat) : Array Value → State → Outcome → State → Prop := fun _ st o t =>
  (∃ (v : Option Value) (rw' : va_W) (tys' : List (ClassId × FieldType)), o = .returned v ∧ zRes b rw' M r v ∧ zW b nX xs w' rw' tys' ∧ va_P (dC, dI) vwCl rw' t.heap ∧ va_K (dC, dI) vwCl tys' t ∧ va_D (va_A rw sz) rw' ∧ zpre rw rw') ∧ va_F (va_A rw sz) st t
def zMet (l : Launch) (b nX : Nat) (xs : Nat → Int32) (dC : Nat → ClassId) (dI : Nat → Nat → Nat) (M d : Nat) (av : List vV) (w : vW) (r : Int) (w' : vW) : Prop :=
  ∀ (rw : va_W) (tys : List (ClassId × FieldType)) (as : List Value) (sz : Nat), zS b rw av as → zW b nX xs w rw tys → b < sz → (∀ (k : Nat) (q : Nat × va_E), rw[k]? = some q → q.1 ≠ b) → vcs av ≤ vnl M →
    Met l (mY M) (wsm M) { frames := d + 6, cells := vec w' - vec w, slots := ves w' - ves w, locals := 80 * d + 80 } (va_Pc as (zB b nX xs dC dI rw tys sz)) (zPost b nX xs dC dI M r w' rw sz) (vec w' - vec w) (ves w' - ves w) (va_A rw sz)
theorem zK0.blind {U U' : State} (h : U.vm = U'.vm) (hk : zK0 U) : zK0 U' := by
  have hA : U.vm.Alike U'.vm := by rw [h]; exact Vm.Alike.refl _
  refine ⟨fun w hw => va_Nw.same ?_ h (hk.1 w hw), hk.2.1.moved hA, hk.2.2.1.moved hA, va_AOA.moved hA hk.2.2.2.1, va_AOA.moved hA hk.2.2.2.2⟩
  revert w
  decide +kernel
theorem zK0.warm {s U : State} (hW : s.WarmedH U.vm) (hk : zK0 s) : zK0 U := by
  have hA : s.vm.Alike U.vm := hW.alike
  refine ⟨fun w hw => ?_, hk.2.1.moved hA, hk.2.2.1.moved hA, va_AOA.moved hA hk.2.2.2.1, va_AOA.moved hA hk.2.2.2.2⟩
  have h := hk.1 w hw
  simp only [nestW, List.mem_cons, List.not_mem_nil, or_false] at hw
  rcases hw with rfl | rfl | rfl | rfl | rfl | rfl | rfl | rfl | rfl | rfl | rfl | rfl <;> exact va_Nw.warmM hW h
theorem zB.blind {b nX : Nat} {xs : Nat → Int32} {dC : Nat → ClassId} {dI : Nat → Nat → Nat} {rw : va_W} {tys : List (ClassId × FieldType)} {sz : Nat} {as : List Value} : FrameBlind (va_Pc as (zB b nX xs dC dI rw tys sz)) := by
  intro a U g mk h
  obtain ⟨h1, h2, h3, h4, h5, h6, h7⟩ := h
  exact ⟨h1, h2, h3, va_K.moved (u := U) (U := U.calling g mk a) (Vm.Alike.refl U.vm) h4, h5, zK0.blind (U := U) (U' := U.calling g mk a) rfl h6, va_X.moved (u := U) (U := U.calling g mk a) (Vm.Alike.refl U.vm) h7⟩
