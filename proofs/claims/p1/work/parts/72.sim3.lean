/-! one instruction: V's step and the machine's -/
def zK0 (s : State) : Prop := (∀ w ∈ nestW, va_Nw w s) ∧ va_AO RX2 s ∧ va_AO RX3 s ∧ va_AOA .int s ∧ va_AOA .long s
def zQ (b nX : Nat) (xs : Nat → Int32) (dC : Nat → ClassId) (dI : Nat → Nat → Nat) (A : Nat → Prop) (c0 s0 : Nat) (rw0 : va_W) (s : State) (w : vW) (H : Heap) (locs : List Loc) (cells slots : Nat) (rw : va_W) (tys : List (ClassId × FieldType)) : Prop :=
  zW b nX xs w rw tys ∧ va_P (dC, dI) vwCl rw H ∧ va_K (dC, dI) vwCl tys s ∧ va_D A rw ∧ va_S A s.heap H locs ∧ cells + c0 = vec w ∧ slots + s0 = ves w ∧ zpre rw0 rw
def zF (b nX : Nat) (xs : Nat → Int32) (A : Nat → Prop) (M : Nat) (p : Program) (s : State) (m : MethodId) (args : Array Value) (meth : Method) (c : Code) : Prop :=
  p.tables.exec = Jvm.exec ∧ c.code = mB M ∧ c.maxLocals = vnl M ∧ s.vm.findClass (mY M).cls = some m.cls ∧ (∀ w ∈ lw_tbl, goodWord w = true → w.before args s = true) ∧ zK0 s ∧ meth.locks = false ∧ ((mY M).name = "<init>" → meth.name = (mY M).name) ∧ va_X b nX xs s s.heap ∧ b < s.heap.size ∧ ¬ A b ∧ (∀ q : Nat, s.heap.size ≤ q → A q) ∧ meth.sig.returnType = mR M
def zKn (n d M : Nat) (res : Nat × Int × vW) (b nX : Nat) (xs : Nat → Int32) (dC : Nat → ClassId) (dI : Nat → Nat → Nat) (A : Nat → Prop) (c0 s0 : Nat) (rw0 : va_W) (p : Program) (l : Launch) (e : Env) (R : Room) (s : State) (m : MethodId) (args : Array Value) (below : List Frame) (meth : Method) (c : Code) (Q : State → Prop) : Prop :=
  ∀ (pc : Nat) (Ls St : List vV) (w : vW) (ls : Array Slot) (st : List Value) (H : Heap) (locs : List Loc) (cells slots : Nat) (rw : va_W) (tys : List (ClassId × FieldType)),
    vrun n d M pc Ls St w = some res → zL b (vnl M) rw Ls ls → zS b rw St st → zQ b nX xs dC dI A c0 s0 rw0 s w H locs cells slots rw tys → W p l e R s m args below meth c H locs cells slots Q (F0 m pc ls st)
theorem ckl_inv {op o nx pc ln l : Nat} (h : ckl op o nx pc ln l = true) : op = o ∧ nx = pc + l ∧ ln = l := by
  simp only [ckl, Bool.and_eq_true] at h
  exact ⟨Nat.eq_of_beq_eq_true h.1.1, Nat.eq_of_beq_eq_true h.1.2, Nat.eq_of_beq_eq_true h.2⟩
theorem ckb_inv {op o nx pc ln q : Nat} {off : Int} (h : ckb op o nx pc ln off q = true) : op = o ∧ nx = pc + 3 ∧ ln = 3 ∧ (pc : Int) + off = (q : Int) := by
  simp only [ckb, Bool.and_eq_true, decide_eq_true_eq] at h
  exact ⟨Nat.eq_of_beq_eq_true h.1.1.1, Nat.eq_of_beq_eq_true h.1.1.2, Nat.eq_of_beq_eq_true h.1.2, h.2⟩
theorem wd_inv {i : Nat} {w : Cond} (h : wd i w = true) : w ∈ lw_tbl ∧ goodWord w = true := by
  simp only [wd, Bool.and_eq_true, decide_eq_true_eq] at h
  exact ⟨List.mem_of_getElem? h.1, h.2⟩
section STEP
variable {p : Program} {l : Launch} {e : Env} {R : Room} {s : State} {m : MethodId} {args : Array Value} {below : List Frame} {meth : Method} {c : Code} {H : Heap} {locs : List Loc} {cells slots : Nat} {Q : State → Prop}
variable {n d M : Nat} {res : Nat × Int × vW} {b nX : Nat} {xs : Nat → Int32} {dC : Nat → ClassId} {dI : Nat → Nat → Nat} {A : Nat → Prop} {c0 s0 : Nat} {rw0 rw : va_W} {tys : List (ClassId × FieldType)}
variable {pc nx q : Nat} {Ls St : List vV} {w : vW} {ls : Array Slot} {st : List Value}
theorem z_ii {f : Int → Int → Int} {g : Int32 → Int32 → Int32} (hg : ∀ x y, (g x y).toInt = f x.toInt y.toInt) (Kn : zKn n d M res b nX xs dC dI A c0 s0 rw0 p l e R s m args below meth c Q) (hL : zL b (vnl M) rw Ls ls) (hS : zS b rw St st) (hQ : zQ b nX xs dC dI A c0 s0 rw0 s w H locs cells slots rw tys)
    (h : v2 0 0 St (fun x y r => vrun n d M nx Ls ((0, f x y) :: r) w) = some res)
    (row : ∀ (x y : Int32) (rest : List Value), W p l e R s m args below meth c H locs cells slots Q (F0 m nx ls (.int (g x y) :: rest)) → W p l e R s m args below meth c H locs cells slots Q (F0 m pc ls (.int y :: .int x :: rest))) : W p l e R s m args below meth c H locs cells slots Q (F0 m pc ls st) := by
  obtain ⟨x, y, r, rfl, h⟩ := v2_inv h
  obtain ⟨v, st, rfl, hv, hS1⟩ := hS.cons
  obtain ⟨u, st, rfl, hu, hS2⟩ := hS1.cons
  obtain ⟨j, rfl, rfl⟩ := hv.int
  obtain ⟨i, rfl, rfl⟩ := hu.int
  exact row i j st (Kn _ _ _ _ _ _ _ _ _ _ _ _ h hL ⟨zV.ofi' (hg i j), hS2⟩ hQ)
theorem z_ll {f : Int → Int → Int} {g : Int64 → Int64 → Int64} (hg : ∀ x y, (g x y).toInt = f x.toInt y.toInt) (Kn : zKn n d M res b nX xs dC dI A c0 s0 rw0 p l e R s m args below meth c Q) (hL : zL b (vnl M) rw Ls ls) (hS : zS b rw St st) (hQ : zQ b nX xs dC dI A c0 s0 rw0 s w H locs cells slots rw tys)
    (h : v2 1 1 St (fun x y r => vrun n d M nx Ls ((1, f x y) :: r) w) = some res)
    (row : ∀ (x y : Int64) (rest : List Value), W p l e R s m args below meth c H locs cells slots Q (F0 m nx ls (.long (g x y) :: rest)) → W p l e R s m args below meth c H locs cells slots Q (F0 m pc ls (.long y :: .long x :: rest))) : W p l e R s m args below meth c H locs cells slots Q (F0 m pc ls st) := by
  obtain ⟨x, y, r, rfl, h⟩ := v2_inv h
  obtain ⟨v, st, rfl, hv, hS1⟩ := hS.cons
  obtain ⟨u, st, rfl, hu, hS2⟩ := hS1.cons
  obtain ⟨j, rfl, rfl⟩ := hv.long
  obtain ⟨i, rfl, rfl⟩ := hu.long
  exact row i j st (Kn _ _ _ _ _ _ _ _ _ _ _ _ h hL ⟨zV.ofl' (hg i j), hS2⟩ hQ)
theorem z_li {f : Int → Int → Int} {g : Int64 → Int32 → Int64} (hg : ∀ x y, (g x y).toInt = f x.toInt y.toInt) (Kn : zKn n d M res b nX xs dC dI A c0 s0 rw0 p l e R s m args below meth c Q) (hL : zL b (vnl M) rw Ls ls) (hS : zS b rw St st) (hQ : zQ b nX xs dC dI A c0 s0 rw0 s w H locs cells slots rw tys)
    (h : v2 1 0 St (fun x y r => vrun n d M nx Ls ((1, f x y) :: r) w) = some res)
    (row : ∀ (x : Int64) (y : Int32) (rest : List Value), W p l e R s m args below meth c H locs cells slots Q (F0 m nx ls (.long (g x y) :: rest)) → W p l e R s m args below meth c H locs cells slots Q (F0 m pc ls (.int y :: .long x :: rest))) : W p l e R s m args below meth c H locs cells slots Q (F0 m pc ls st) := by
  obtain ⟨x, y, r, rfl, h⟩ := v2_inv h
  obtain ⟨v, st, rfl, hv, hS1⟩ := hS.cons
  obtain ⟨u, st, rfl, hu, hS2⟩ := hS1.cons
  obtain ⟨j, rfl, rfl⟩ := hv.int
  obtain ⟨i, rfl, rfl⟩ := hu.long
  exact row i j st (Kn _ _ _ _ _ _ _ _ _ _ _ _ h hL ⟨zV.ofl' (hg i j), hS2⟩ hQ)
theorem z_lcmp {f : Int → Int → Int} {g : Int64 → Int64 → Int32} (hg : ∀ x y, (g x y).toInt = f x.toInt y.toInt) (Kn : zKn n d M res b nX xs dC dI A c0 s0 rw0 p l e R s m args below meth c Q) (hL : zL b (vnl M) rw Ls ls) (hS : zS b rw St st) (hQ : zQ b nX xs dC dI A c0 s0 rw0 s w H locs cells slots rw tys)
    (h : v2 1 1 St (fun x y r => vrun n d M nx Ls ((0, f x y) :: r) w) = some res)
    (row : ∀ (x y : Int64) (rest : List Value), W p l e R s m args below meth c H locs cells slots Q (F0 m nx ls (.int (g x y) :: rest)) → W p l e R s m args below meth c H locs cells slots Q (F0 m pc ls (.long y :: .long x :: rest))) : W p l e R s m args below meth c H locs cells slots Q (F0 m pc ls st) := by
  obtain ⟨x, y, r, rfl, h⟩ := v2_inv h
  obtain ⟨v, st, rfl, hv, hS1⟩ := hS.cons
  obtain ⟨u, st, rfl, hu, hS2⟩ := hS1.cons
  obtain ⟨j, rfl, rfl⟩ := hv.long
  obtain ⟨i, rfl, rfl⟩ := hu.long
  exact row i j st (Kn _ _ _ _ _ _ _ _ _ _ _ _ h hL ⟨zV.ofi' (hg i j), hS2⟩ hQ)
theorem z_i {f : Int → Int} {g : Int32 → Int32} (hg : ∀ x, (g x).toInt = f x.toInt) (Kn : zKn n d M res b nX xs dC dI A c0 s0 rw0 p l e R s m args below meth c Q) (hL : zL b (vnl M) rw Ls ls) (hS : zS b rw St st) (hQ : zQ b nX xs dC dI A c0 s0 rw0 s w H locs cells slots rw tys)
    (h : v1 0 St (fun x r => vrun n d M nx Ls ((0, f x) :: r) w) = some res)
    (row : ∀ (x : Int32) (rest : List Value), W p l e R s m args below meth c H locs cells slots Q (F0 m nx ls (.int (g x) :: rest)) → W p l e R s m args below meth c H locs cells slots Q (F0 m pc ls (.int x :: rest))) : W p l e R s m args below meth c H locs cells slots Q (F0 m pc ls st) := by
  obtain ⟨x, r, rfl, h⟩ := v1_inv h
  obtain ⟨v, st, rfl, hv, hS1⟩ := hS.cons
  obtain ⟨j, rfl, rfl⟩ := hv.int
  exact row j st (Kn _ _ _ _ _ _ _ _ _ _ _ _ h hL ⟨zV.ofi' (hg j), hS1⟩ hQ)
theorem z_i2l {f : Int → Int} {g : Int32 → Int64} (hg : ∀ x, (g x).toInt = f x.toInt) (Kn : zKn n d M res b nX xs dC dI A c0 s0 rw0 p l e R s m args below meth c Q) (hL : zL b (vnl M) rw Ls ls) (hS : zS b rw St st) (hQ : zQ b nX xs dC dI A c0 s0 rw0 s w H locs cells slots rw tys)
    (h : v1 0 St (fun x r => vrun n d M nx Ls ((1, f x) :: r) w) = some res)
    (row : ∀ (x : Int32) (rest : List Value), W p l e R s m args below meth c H locs cells slots Q (F0 m nx ls (.long (g x) :: rest)) → W p l e R s m args below meth c H locs cells slots Q (F0 m pc ls (.int x :: rest))) : W p l e R s m args below meth c H locs cells slots Q (F0 m pc ls st) := by
  obtain ⟨x, r, rfl, h⟩ := v1_inv h
  obtain ⟨v, st, rfl, hv, hS1⟩ := hS.cons
  obtain ⟨j, rfl, rfl⟩ := hv.int
  exact row j st (Kn _ _ _ _ _ _ _ _ _ _ _ _ h hL ⟨zV.ofl' (hg j), hS1⟩ hQ)
theorem z_l2i {f : Int → Int} {g : Int64 → Int32} (hg : ∀ x, (g x).toInt = f x.toInt) (Kn : zKn n d M res b nX xs dC dI A c0 s0 rw0 p l e R s m args below meth c Q) (hL : zL b (vnl M) rw Ls ls) (hS : zS b rw St st) (hQ : zQ b nX xs dC dI A c0 s0 rw0 s w H locs cells slots rw tys)
    (h : v1 1 St (fun x r => vrun n d M nx Ls ((0, f x) :: r) w) = some res)
    (row : ∀ (x : Int64) (rest : List Value), W p l e R s m args below meth c H locs cells slots Q (F0 m nx ls (.int (g x) :: rest)) → W p l e R s m args below meth c H locs cells slots Q (F0 m pc ls (.long x :: rest))) : W p l e R s m args below meth c H locs cells slots Q (F0 m pc ls st) := by
  obtain ⟨x, r, rfl, h⟩ := v1_inv h
  obtain ⟨v, st, rfl, hv, hS1⟩ := hS.cons
  obtain ⟨j, rfl, rfl⟩ := hv.long
  exact row j st (Kn _ _ _ _ _ _ _ _ _ _ _ _ h hL ⟨zV.ofi' (hg j), hS1⟩ hQ)
/-- a value is pushed -/
theorem z_push {v : vV} {x : Value} (hv : zV b rw v x) (Kn : zKn n d M res b nX xs dC dI A c0 s0 rw0 p l e R s m args below meth c Q) (hL : zL b (vnl M) rw Ls ls) (hS : zS b rw St st) (hQ : zQ b nX xs dC dI A c0 s0 rw0 s w H locs cells slots rw tys)
    (h : vrun n d M nx Ls (v :: St) w = some res) (row : W p l e R s m args below meth c H locs cells slots Q (F0 m nx ls (x :: st)) → W p l e R s m args below meth c H locs cells slots Q (F0 m pc ls st)) : W p l e R s m args below meth c H locs cells slots Q (F0 m pc ls st) :=
  row (Kn _ _ _ _ _ _ _ _ _ _ _ _ h hL ⟨hv, hS⟩ hQ)
/-- a local is read -/
theorem z_load {t : Nat} (ht : t ≠ 9) (Kn : zKn n d M res b nX xs dC dI A c0 s0 rw0 p l e R s m args below meth c Q) (hL : zL b (vnl M) rw Ls ls) (hS : zS b rw St st) (hQ : zQ b nX xs dC dI A c0 s0 rw0 s w H locs cells slots rw tys)
    (h : (bif Nat.beq (vlg Ls q).1 t then vrun n d M nx Ls ((t, (vlg Ls q).2) :: St) w else none) = some res)
    (row : ∀ x : Value, ls[q]? = some (.val x) → zV b rw (t, (vlg Ls q).2) x → W p l e R s m args below meth c H locs cells slots Q (F0 m nx ls (x :: st)) → W p l e R s m args below meth c H locs cells slots Q (F0 m pc ls st)) : W p l e R s m args below meth c H locs cells slots Q (F0 m pc ls st) := by
  cases hb : Nat.beq (vlg Ls q).1 t with
  | false => rw [hb] at h; cases h
  | true =>
    rw [hb] at h
    have e1 := Nat.eq_of_beq_eq_true hb
    obtain ⟨x, hx, hv⟩ := hL.2.2 q (by rw [e1]; exact ht)
    have hv : zV b rw (t, (vlg Ls q).2) x := by rw [← e1]; exact hv
    exact row x hx hv (Kn _ _ _ _ _ _ _ _ _ _ _ _ h hL ⟨hv, hS⟩ hQ)
theorem z_br1 {f : Nat → vR} {P : Int32 → Prop} {P' : Int → Prop} {tk fl : Nat} (hd1 : ∀ x : Int32, P x ↔ P' x.toInt) (Kn : zKn n d M res b nX xs dC dI A c0 s0 rw0 p l e R s m args below meth c Q) (hL : zL b (vnl M) rw Ls ls) (hS : zS b rw St st) (hQ : zQ b nX xs dC dI A c0 s0 rw0 s w H locs cells slots rw tys) {k : Int → List vV → vR}
    (h : v1 0 St k = some res) (hk : ∀ x r, k x r = some res → (P' x ∧ vrun n d M tk Ls r w = some res) ∨ (¬ P' x ∧ vrun n d M fl Ls r w = some res))
    (row : ∀ (x : Int32) (rest : List Value), (P x → W p l e R s m args below meth c H locs cells slots Q (F0 m tk ls rest)) → (¬ P x → W p l e R s m args below meth c H locs cells slots Q (F0 m fl ls rest)) → W p l e R s m args below meth c H locs cells slots Q (F0 m pc ls (.int x :: rest))) : W p l e R s m args below meth c H locs cells slots Q (F0 m pc ls st) := by
  obtain ⟨x, r, rfl, h⟩ := v1_inv h
  obtain ⟨v, st, rfl, hv, hS1⟩ := hS.cons
  obtain ⟨j, rfl, rfl⟩ := hv.int
  rcases hk _ _ h with ⟨h1, h2⟩ | ⟨h1, h2⟩
  · exact row j st (fun _ => Kn _ _ _ _ _ _ _ _ _ _ _ _ h2 hL hS1 hQ) (fun hn => absurd ((hd1 j).mpr h1) hn)
  · exact row j st (fun hp => absurd ((hd1 j).mp hp) h1) (fun _ => Kn _ _ _ _ _ _ _ _ _ _ _ _ h2 hL hS1 hQ)
theorem z_br2 {P : Int32 → Int32 → Prop} {P' : Int → Int → Prop} {tk fl : Nat} (hd1 : ∀ x y : Int32, P x y ↔ P' x.toInt y.toInt) (Kn : zKn n d M res b nX xs dC dI A c0 s0 rw0 p l e R s m args below meth c Q) (hL : zL b (vnl M) rw Ls ls) (hS : zS b rw St st) (hQ : zQ b nX xs dC dI A c0 s0 rw0 s w H locs cells slots rw tys) {k : Int → Int → List vV → vR}
    (h : v2 0 0 St k = some res) (hk : ∀ x y r, k x y r = some res → (P' x y ∧ vrun n d M tk Ls r w = some res) ∨ (¬ P' x y ∧ vrun n d M fl Ls r w = some res))
    (row : ∀ (x y : Int32) (rest : List Value), (P x y → W p l e R s m args below meth c H locs cells slots Q (F0 m tk ls rest)) → (¬ P x y → W p l e R s m args below meth c H locs cells slots Q (F0 m fl ls rest)) → W p l e R s m args below meth c H locs cells slots Q (F0 m pc ls (.int y :: .int x :: rest))) : W p l e R s m args below meth c H locs cells slots Q (F0 m pc ls st) := by
  obtain ⟨x, y, r, rfl, h⟩ := v2_inv h
  obtain ⟨v, st, rfl, hv, hS1⟩ := hS.cons
  obtain ⟨u, st, rfl, hu, hS2⟩ := hS1.cons
  obtain ⟨j, rfl, rfl⟩ := hv.int
  obtain ⟨i, rfl, rfl⟩ := hu.int
  rcases hk _ _ _ h with ⟨h1, h2⟩ | ⟨h1, h2⟩
  · exact row i j st (fun _ => Kn _ _ _ _ _ _ _ _ _ _ _ _ h2 hL hS2 hQ) (fun hn => absurd ((hd1 i j).mpr h1) hn)
  · exact row i j st (fun hp => absurd ((hd1 i j).mp hp) h1) (fun _ => Kn _ _ _ _ _ _ _ _ _ _ _ _ h2 hL hS2 hQ)
theorem if_or {P' : Prop} [Decidable P'] {x y : vR} {r : Nat × Int × vW} (h : (if P' then x else y) = some r) : (P' ∧ x = some r) ∨ (¬ P' ∧ y = some r) := by
  by_cases hp : P'
  · rw [if_pos hp] at h; exact Or.inl ⟨hp, h⟩
  · rw [if_neg hp] at h; exact Or.inr ⟨hp, h⟩
theorem if_or' {P' : Prop} [Decidable P'] {x y : vR} {r : Nat × Int × vW} (h : (if P' then y else x) = some r) : (¬ P' ∧ x = some r) ∨ (¬ ¬ P' ∧ y = some r) := by
  by_cases hp : P'
  · rw [if_pos hp] at h; exact Or.inr ⟨fun z => z hp, h⟩
  · rw [if_neg hp] at h; exact Or.inl ⟨hp, h⟩
/-- a store into a local: the cells that a store leaves -/
theorem z_sto {t : Nat} {z zz : Int} {x : Value} {rest : List Value} {r : List vV} (ht : t = 0 ∨ t = 2 ∨ t = 5) (hz : decide (0 ≤ z) = true) (hqn : q < vnl M) (hfl : (z = 1 ∧ 0 < q) ∨ (z = 0 ∧ 0 < q) ∨ (z = 2 ∧ q = 0)) (hx : zV b rw (t, zz) x)
    (Kn : zKn n d M res b nX xs dC dI A c0 s0 rw0 p l e R s m args below meth c Q) (hL : zL b (vnl M) rw Ls ls) (hS : zS b rw r rest) (hQ : zQ b nX xs dC dI A c0 s0 rw0 s w H locs cells slots rw tys)
    (h : vsto Ls t q z zz (fun l => vrun n d M nx l r w) = some res)
    (row : (∀ ls' : Array Slot, lv_has ls' (vnl M) ((q, x) :: (zlv ls).filter (fun a => !(a.1 == q) && !(a.1 + 1 == q && a.2.category == 2))) → W p l e R s m args below meth c H locs cells slots Q (F0 m nx ls' rest)) → W p l e R s m args below meth c H locs cells slots Q (F0 m pc ls (x :: rest))) : W p l e R s m args below meth c H locs cells slots Q (F0 m pc ls (x :: rest)) := by
  refine row (fun ls' h' => ?_)
  have e1 : Nat.beq t 1 = false := by rcases ht with rfl | rfl | rfl <;> rfl
  -- what V has then
  have key : ∃ L1 : List vV, (∀ i : Nat, i ≠ q → vlg L1 i = vlg Ls i ∨ (vlg L1 i).1 = 9) ∧ (0 < q → (vlg L1 (q - 1)).1 ≠ 1) ∧ vrun n d M nx (vlset L1 (t, zz) q) r w = some res := by
    unfold vsto at h
    dsimp only at h
    rw [e1] at h
    rcases hfl with ⟨rfl, hq0⟩ | ⟨rfl, hq0⟩ | ⟨rfl, rfl⟩
    · refine ⟨vlset Ls (9, 0) (q - 1), fun i hi => ?_, fun _ => ?_, h⟩
      · by_cases hi2 : i = q - 1
        · subst hi2
          rcases vlg_set_self (9, 0) Ls (q - 1) with h1 | h1
          · exact Or.inr (by rw [h1])
          · exact Or.inr h1
        · exact Or.inl (vlg_set_ne _ _ _ _ hi2)
      · rcases vlg_set_self (9, 0) Ls (q - 1) with h1 | h1 <;> rw [h1] <;> decide
    · have h : (bif Nat.beq (vlg Ls (q - 1)).1 1 then none else vrun n d M nx (vlset Ls (t, zz) q) r w) = some res := h
      cases hb : Nat.beq (vlg Ls (q - 1)).1 1 with
      | true => rw [hb] at h; cases h
      | false => rw [hb] at h; exact ⟨Ls, fun i _ => Or.inl rfl, fun _ => Nat.ne_of_beq_eq_false hb, h⟩
    · exact ⟨Ls, fun i _ => Or.inl rfl, fun hq => absurd hq (Nat.lt_irrefl 0), h⟩
  obtain ⟨L1, k1, k2, k3⟩ := key
  refine Kn _ _ _ _ _ _ _ _ _ _ _ _ k3 ⟨h'.1, h'.2.1, fun i hi => ?_⟩ hS hQ
  by_cases hiq : i = q
  · subst hiq
    rcases vlg_set_self (t, zz) L1 i with h1 | h1
    · rw [h1]
      exact ⟨x, h'.2.2 (i, x) List.mem_cons_self, hx⟩
    · exact absurd h1 hi
  · rw [vlg_set_ne _ _ _ _ hiq] at hi ⊢
    rcases k1 i hiq with h1 | h1
    · rw [h1] at hi ⊢
      obtain ⟨y, hy, hv⟩ := hL.2.2 i hi
      refine ⟨y, h'.2.2 (i, y) (List.mem_cons_of_mem _ (List.mem_filter.mpr ⟨zlv_mem.mpr hy, ?_⟩)), hv⟩
      have g1 : (i == q) = false := by simpa using hiq
      dsimp only
      rw [g1]
      by_cases hi1 : i + 1 = q
      · have h3 : (vlg Ls i).1 ≠ 1 := by
          have := k2 (by omega)
          rw [show q - 1 = i by omega, h1] at this
          exact this
        have h4 : (y.category == 2) = false := by
          rw [hv.cat]
          cases hbb : Nat.beq (vlg Ls i).1 1 with
          | true => exact absurd (Nat.eq_of_beq_eq_true hbb) h3
          | false => rfl
        rw [h4, Bool.and_false]
        rfl
      · have g2 : (i + 1 == q) = false := by simpa using hi1
        rw [g2]; rfl
    · exact absurd h1 hi
/-- a long takes two -/
theorem z_stol {z zz : Int} {x : Int64} {rest : List Value} {r : List vV} (hqn : q + 1 < vnl M) (hfl : (z = 1 ∧ 0 < q) ∨ (z = 0 ∧ 0 < q) ∨ (z = 2 ∧ q = 0)) (hx : zV b rw (1, zz) (.long x))
    (Kn : zKn n d M res b nX xs dC dI A c0 s0 rw0 p l e R s m args below meth c Q) (hL : zL b (vnl M) rw Ls ls) (hS : zS b rw r rest) (hQ : zQ b nX xs dC dI A c0 s0 rw0 s w H locs cells slots rw tys)
    (h : vsto Ls 1 q z zz (fun l => vrun n d M nx l r w) = some res)
    (row : (∀ ls' : Array Slot, lv_has ls' (vnl M) ((q, .long x) :: (zlv ls).filter (fun a => !(a.1 == q) && (!(a.1 == q + 1) && !(a.1 + 1 == q && a.2.category == 2)))) → W p l e R s m args below meth c H locs cells slots Q (F0 m nx ls' rest)) → W p l e R s m args below meth c H locs cells slots Q (F0 m pc ls (.long x :: rest))) : W p l e R s m args below meth c H locs cells slots Q (F0 m pc ls (.long x :: rest)) := by
  refine row (fun ls' h' => ?_)
  have key : ∃ L1 : List vV, (∀ i : Nat, i ≠ q → vlg L1 i = vlg Ls i ∨ (vlg L1 i).1 = 9) ∧ (0 < q → (vlg L1 (q - 1)).1 ≠ 1) ∧ vrun n d M nx (vlset (vlset L1 (1, zz) q) (9, 0) (q + 1)) r w = some res := by
    unfold vsto at h
    dsimp only at h
    rcases hfl with ⟨rfl, hq0⟩ | ⟨rfl, hq0⟩ | ⟨rfl, rfl⟩
    · refine ⟨vlset Ls (9, 0) (q - 1), fun i hi => ?_, fun _ => ?_, h⟩
      · by_cases hi2 : i = q - 1
        · subst hi2
          rcases vlg_set_self (9, 0) Ls (q - 1) with h1 | h1
          · exact Or.inr (by rw [h1])
          · exact Or.inr h1
        · exact Or.inl (vlg_set_ne _ _ _ _ hi2)
      · rcases vlg_set_self (9, 0) Ls (q - 1) with h1 | h1 <;> rw [h1] <;> decide
    · have h : (bif Nat.beq (vlg Ls (q - 1)).1 1 then none else vrun n d M nx (vlset (vlset Ls (1, zz) q) (9, 0) (q + 1)) r w) = some res := h
      cases hb : Nat.beq (vlg Ls (q - 1)).1 1 with
      | true => rw [hb] at h; cases h
      | false => rw [hb] at h; exact ⟨Ls, fun i _ => Or.inl rfl, fun _ => Nat.ne_of_beq_eq_false hb, h⟩
    · exact ⟨Ls, fun i _ => Or.inl rfl, fun hq => absurd hq (Nat.lt_irrefl 0), h⟩
  obtain ⟨L1, k1, k2, k3⟩ := key
  refine Kn _ _ _ _ _ _ _ _ _ _ _ _ k3 ⟨h'.1, h'.2.1, fun i hi => ?_⟩ hS hQ
  by_cases hi9 : i = q + 1
  · subst hi9
    rcases vlg_set_self (9, 0) (vlset L1 (1, zz) q) (q + 1) with h1 | h1
    · exact absurd (by rw [h1]) hi
    · exact absurd h1 hi
  rw [vlg_set_ne _ _ _ _ hi9] at hi ⊢
  by_cases hiq : i = q
  · subst hiq
    rcases vlg_set_self (1, zz) L1 i with h1 | h1
    · rw [h1]
      exact ⟨.long x, h'.2.2 (i, .long x) List.mem_cons_self, hx⟩
    · exact absurd h1 hi
  · rw [vlg_set_ne _ _ _ _ hiq] at hi ⊢
    rcases k1 i hiq with h1 | h1
    · rw [h1] at hi ⊢
      obtain ⟨y, hy, hv⟩ := hL.2.2 i hi
      refine ⟨y, h'.2.2 (i, y) (List.mem_cons_of_mem _ (List.mem_filter.mpr ⟨zlv_mem.mpr hy, ?_⟩)), hv⟩
      have g1 : (i == q) = false := by simpa using hiq
      have g9 : (i == q + 1) = false := by simpa using hi9
      dsimp only
      rw [g1, g9]
      by_cases hi1 : i + 1 = q
      · have h3 : (vlg Ls i).1 ≠ 1 := by
          have := k2 (by omega)
          rw [show q - 1 = i by omega, h1] at this
          exact this
        have h4 : (y.category == 2) = false := by
          rw [hv.cat]
          cases hbb : Nat.beq (vlg Ls i).1 1 with
          | true => exact absurd (Nat.eq_of_beq_eq_true hbb) h3
          | false => rfl
        rw [h4, Bool.and_false]
        rfl
      · have g2 : (i + 1 == q) = false := by simpa using hi1
        rw [g2]; rfl
    · exact absurd h1 hi
end STEP
