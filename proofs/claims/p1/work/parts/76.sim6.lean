theorem wk_int : wd 187 (.arrayClass .int) = true := by decide +kernel
theorem wk_long : wd 186 (.arrayClass .long) = true := by decide +kernel
theorem wk_bool : wd 672 (.arrayClass .boolean) = true := by decide +kernel
theorem wk_maxs : wd 472 (.static Lib.Math.max.name) = true := by decide +kernel
theorem wk_maxc : wd 473 (.code Lib.Math.max.name Lib.Math.max.code 2 (some .int)) = true := by decide +kernel
theorem wk_mins : wd 469 (.static Lib.Math.min.name) = true := by decide +kernel
theorem wk_minc : wd 470 (.code Lib.Math.min.name Lib.Math.min.code 2 (some .int)) = true := by decide +kernel
theorem wk_lmaxs : wd 741 (.static Lib.MathLoose.max_long.x) = true := by decide +kernel
theorem wk_lmaxc : wd 742 (.code Lib.MathLoose.max_long.x Lib.MathLoose.max_long.code 4 (some .long)) = true := by decide +kernel
theorem wk_lmins : wd 1147 (.static Lib.MathLoose.min_long.x) = true := by decide +kernel
theorem wk_lminc : wd 1148 (.code Lib.MathLoose.min_long.x Lib.MathLoose.min_long.code 4 (some .long)) = true := by decide +kernel
theorem wk_mathi : wd 125 (.initialized "java/lang/Math") = true := by decide +kernel
theorem wk_acs : wd 721 (.static arraycopyName) = true := by decide +kernel
theorem wk_acn : wd 722 (.native arraycopyName) = true := by decide +kernel
theorem wk_aci : wd 131 (.initialized "java/lang/System") = true := by decide +kernel
theorem wk_obi : wd 144 (.instanceMethod objectInit) = true := by decide +kernel
theorem wk_obc : wd 145 (.code objectInit ⟨#[0xb1]⟩ 1 none) = true := by decide +kernel
theorem wk_lm0 : Lib.Math.max.name = mathy 0 := by decide +kernel
theorem wk_lm1 : Lib.Math.min.name = mathy 1 := by decide +kernel
theorem wk_lm2 : Lib.MathLoose.max_long.x = mathy 2 := by decide +kernel
theorem wk_lm3 : Lib.MathLoose.min_long.x = mathy 3 := by decide +kernel
theorem ty_app {tys tys2 : List (ClassId × FieldType)} : ∀ (t : Nat) (q : ClassId × FieldType), tys[t]? = some q → (tys ++ tys2)[t]? = some q := fun t q h => by rw [List.getElem?_append_left (List.getElem?_eq_some_iff.mp h).1]; exact h
theorem ty_new {tys : List (ClassId × FieldType)} {x : ClassId × FieldType} : (tys ++ [x])[tys.length]? = some x := by simp
theorem rw_new {rw : va_W} {x : Nat × va_E} : (rw ++ [x])[rw.length]? = some x := by simp
section STEP
variable {p : Program} {l : Launch} {e : Env} {R : Room} {s : State} {m : MethodId} {args : Array Value} {below : List Frame} {meth : Method} {c : Code} {H : Heap} {locs : List Loc} {cells slots : Nat} {Q : State → Prop}
variable {n d M : Nat} {res : Nat × Int × vW} {b nX : Nat} {xs : Nat → Int32} {dC : Nat → ClassId} {dI : Nat → Nat → Nat} {A : Nat → Prop} {c0 s0 : Nat} {rw0 rw : va_W} {tys : List (ClassId × FieldType)}
variable {pc nx q : Nat} {Ls St : List vV} {w : vW} {ls : Array Slot} {st : List Value}
theorem z_new {idx pk qn : Nat} {C : String} {T : u_T} {N : Nat} (h10 : 10 ≤ pk) (hcl : vwCl[pk - 10]? = some (C, T, N)) (hqn : qn = N) (hwl : .classLink (mY M).cls idx C ∈ lw_tbl ∧ goodWord (.classLink (mY M).cls idx C) = true) (hwi : .instantiable C N ∈ lw_tbl ∧ goodWord (.instantiable C N) = true) (hwn : .initialized C ∈ lw_tbl ∧ goodWord (.initialized C) = true)
    (F : zF b nX xs A M p s m args meth c) (Kn : zKn n d M res b nX xs dC dI A c0 s0 rw0 p l e R s m args below meth c Q) (hL : zL b (vnl M) rw Ls ls) (hS : zS b rw St st) (hQ : zQ b nX xs dC dI A c0 s0 rw0 s w H locs cells slots rw tys) (hrc : vec res.2.2 ≤ R.cells + c0) (hrs : ves res.2.2 ≤ R.slots + s0) (hd : decode (mB M) pc = .ok (.new idx, 3))
    (h : vrun n d M (pc + 3) Ls ((2, vnt w) :: St) (vnw w pk (qn : Int) (vdfl pk) qn) = some res) : W p l e R s m args below meth c H locs cells slots Q (F0 m pc ls st) := by
  subst hqn
  obtain ⟨hly, ⟨ty0, hty, htt⟩, hnm, hdf⟩ := zcl_all _ _ hcl
  have hm := vrun_mono _ _ _ _ _ _ _ _ h
  have hm1 : vec w + 1 ≤ vec res.2.2 := hm.1
  have hm2 : ves w + qn ≤ ves res.2.2 := hm.2
  have hc1 := hQ.2.2.2.2.2.1
  have hc2 := hQ.2.2.2.2.2.2.1
  have hfs : ∀ j, j < qn → vp_V ((List.range qn).map fun j => defaultValue (ty0 j)) j = defaultValue (ty0 j) := fun j hj => by
    unfold vp_V
    rw [List.getD_eq_getElem?_getD, List.getElem?_map, List.getElem?_range hj]
    rfl
  refine va_new (D := (dC, dI)) (T := T) (N := qn) (C := C) (fs := (List.range qn).map fun j => defaultValue (ty0 j)) F.1 F.2.1 (z_lay F.2.2.2.2.1 hcl) (fun _ h => h) ty0 hty F.2.2.2.1 (F.2.2.2.2.1 _ hwl.1 hwl.2) (F.2.2.2.2.1 _ hwi.1 hwi.2) (F.2.2.2.2.1 _ hwn.1 hwn.2) hQ.2.2.1 hQ.2.1 hQ.2.2.2.1 hQ.2.2.2.2.1 F.2.2.2.2.2.2.2.2.2.2.2.1 hcl (fun j hj => (hfs j hj).symm) (by omega) (by omega) hd (fun q H1 hP hD hSs => ?_)
  have hp : zpre rw (rw ++ [(q, .inr (pk - 10, (List.range qn).map fun j => defaultValue (ty0 j)))]) := zpre.push _ _
  have hE : zE b (rw ++ [(q, .inr (pk - 10, (List.range qn).map fun j => defaultValue (ty0 j)))]) tys (pk, (qn : Int), vdfl pk) (.inr (pk - 10, (List.range qn).map fun j => defaultValue (ty0 j))) := by
    refine ⟨by show pk = _; dsimp only; omega, (C, T, qn), hcl, by rw [List.length_map, List.length_range], fun j hj => ?_⟩
    have hk : 10 + (pk - 10) = pk := by omega
    rw [hk] at hdf
    rw [hfs j hj]
    show zV b _ (_, vdfl pk (j : Int)) _
    rw [hdf j hj]
    exact zdef (htt j hj) (ftg_le _)
  refine Kn _ _ _ _ _ _ _ _ _ _ _ _ h (hL.up hp) ⟨zV.ofr (Or.inr (Or.inr ⟨rw.length, _, hQ.1.1, rw_new, rfl⟩)), hS.up hp⟩ ⟨hQ.1.push (by omega) (fun _ _ z => z) hE, hP, hQ.2.2.1, hD, hSs, ?_, ?_, hQ.2.2.2.2.2.2.2.tr hp⟩
  · show cells + 1 + c0 = vec w + 1; omega
  · show slots + qn + s0 = ves w + qn; omega
theorem z_newa {pk : Nat} {ty : FieldType} {at_ : ArrayType} {a0 : Nat → vp_A} (hty : newarray.typeOf at_ = ty) (hpk : pk ≠ 0) (ha : ∀ (cA : ClassId) (N : Nat), vp_cell cA (a0 N) = arrV cA N (fun _ => defaultValue ty)) (hcb : componentBytes ty ≤ 8)
    (hE : ∀ (rw : va_W) (t N : Nat) (cA : ClassId) (tys : List (ClassId × FieldType)), tys[t]? = some (cA, ty) → N ≤ 1000000 → zE b rw tys (pk, (N : Int), fun _ => 0) (.inl (cA, a0 N))) (hwa : .arrayClass ty ∈ lw_tbl ∧ goodWord (.arrayClass ty) = true)
    (F : zF b nX xs A M p s m args meth c) (Kn : zKn n d M res b nX xs dC dI A c0 s0 rw0 p l e R s m args below meth c Q) (hL : zL b (vnl M) rw Ls ls) (hS : zS b rw St st) (hQ : zQ b nX xs dC dI A c0 s0 rw0 s w H locs cells slots rw tys) (hrc : vec res.2.2 ≤ R.cells + c0) (hrs : ves res.2.2 ≤ R.slots + s0) (hd : decode (mB M) pc = .ok (.newarray at_, 2))
    (h : v1 0 St (fun k r => if 0 ≤ k ∧ k ≤ 1000000 then vrun n d M (pc + 2) Ls ((2, vnt w) :: r) (vnw w pk k (fun _ => 0) k.toNat) else none) = some res) : W p l e R s m args below meth c H locs cells slots Q (F0 m pc ls st) := by
  obtain ⟨k, r, rfl, h⟩ := v1_inv h
  obtain ⟨⟨h0, h1⟩, h⟩ := ite_inv h
  obtain ⟨x, st, rfl, hx, hS1⟩ := hS.cons
  obtain ⟨i, rfl, rfl⟩ := hx.int
  have hm := vrun_mono _ _ _ _ _ _ _ _ h
  have hm1 : vec w + 1 ≤ vec res.2.2 := hm.1
  have hm2 : ves w + i.toInt.toNat ≤ ves res.2.2 := hm.2
  have hc1 := hQ.2.2.2.2.2.1
  have hc2 := hQ.2.2.2.2.2.2.1
  have hbN : i.toInt.toNat * componentBytes ty ≤ 536870912 := by
    have := Nat.mul_le_mul (show i.toInt.toNat ≤ 1000000 by omega) hcb
    omega
  refine va_newa (D := (dC, dI)) (N' := i.toInt.toNat) (a0 := a0 i.toInt.toNat) F.1 F.2.1 (by rw [hty]; exact F.2.2.2.2.1 _ hwa.1 hwa.2) hty hQ.2.2.1 hQ.2.1 hQ.2.2.2.1 hQ.2.2.2.2.1 F.2.2.2.2.2.2.2.2.2.2.2.1 (fun cA => ha cA _) (fun hlt => by have := i32_lt.mp hlt; have e0 : (0 : Int32).toInt = 0 := rfl; omega) rfl hbN (by omega) (by omega) hd (fun q cA H1 hK hP hD hSs => ?_)
  have hp : zpre rw (rw ++ [(q, .inl (cA, a0 i.toInt.toNat))]) := zpre.push _ _
  have hik : ((i.toInt.toNat : Nat) : Int) = i.toInt := Int.toNat_of_nonneg h0
  have hE1 : zE b (rw ++ [(q, .inl (cA, a0 i.toInt.toNat))]) (tys ++ [(cA, ty)]) (pk, i.toInt, fun _ => 0) (.inl (cA, a0 i.toInt.toNat)) := by
    have := hE (rw ++ [(q, .inl (cA, a0 i.toInt.toNat))]) tys.length i.toInt.toNat cA (tys ++ [(cA, ty)]) ty_new (by omega)
    rw [hik] at this
    exact this
  refine Kn _ _ _ _ _ _ _ _ _ _ _ _ h (hL.up hp) ⟨zV.ofr (Or.inr (Or.inr ⟨rw.length, _, hQ.1.1, rw_new, rfl⟩)), hS1.up hp⟩ ⟨hQ.1.push hpk ty_app hE1, hP, hK, hD, hSs, ?_, ?_, hQ.2.2.2.2.2.2.2.tr hp⟩
  · show cells + 1 + c0 = vec w + 1; omega
  · show slots + _ + s0 = ves w + _; omega
theorem z_anew {pk idx : Nat} {C : String} (hpk : pk = 4 ∨ pk = 5) (hk : kty pk = .object C) (hwl : .classLink (mY M).cls idx C ∈ lw_tbl ∧ goodWord (.classLink (mY M).cls idx C) = true) (hao : va_AO C s)
    (F : zF b nX xs A M p s m args meth c) (Kn : zKn n d M res b nX xs dC dI A c0 s0 rw0 p l e R s m args below meth c Q) (hL : zL b (vnl M) rw Ls ls) (hS : zS b rw St st) (hQ : zQ b nX xs dC dI A c0 s0 rw0 s w H locs cells slots rw tys) (hrc : vec res.2.2 ≤ R.cells + c0) (hrs : ves res.2.2 ≤ R.slots + s0) (hd : decode (mB M) pc = .ok (.anewarray idx, 3))
    (h : v1 0 St (fun k r => if 0 ≤ k ∧ k ≤ 1000000 then vrun n d M (pc + 3) Ls ((2, vnt w) :: r) (vnw w pk k (fun _ => -1) k.toNat) else none) = some res) : W p l e R s m args below meth c H locs cells slots Q (F0 m pc ls st) := by
  obtain ⟨k, r, rfl, h⟩ := v1_inv h
  obtain ⟨⟨h0, h1⟩, h⟩ := ite_inv h
  obtain ⟨x, st, rfl, hx, hS1⟩ := hS.cons
  obtain ⟨i, rfl, rfl⟩ := hx.int
  have hm := vrun_mono _ _ _ _ _ _ _ _ h
  have hm1 : vec w + 1 ≤ vec res.2.2 := hm.1
  have hm2 : ves w + i.toInt.toNat ≤ ves res.2.2 := hm.2
  have hc1 := hQ.2.2.2.2.2.1
  have hc2 := hQ.2.2.2.2.2.2.1
  refine va_newq (D := (dC, dI)) (N' := i.toInt.toNat) F.1 F.2.1 F.2.2.2.1 (F.2.2.2.2.1 _ hwl.1 hwl.2) hao hQ.2.2.1 hQ.2.1 hQ.2.2.2.1 hQ.2.2.2.2.1 F.2.2.2.2.2.2.2.2.2.2.2.1 (fun hlt => by have := i32_lt.mp hlt; have e0 : (0 : Int32).toInt = 0 := rfl; omega) rfl (by omega) (by omega) (by omega) hd (fun q cA H1 hK hP hD hSs => ?_)
  have hp : zpre rw (rw ++ [(q, .inl (cA, i.toInt.toNat, .inr (.inr (.inr (.inr (fun _ => none))))))]) := zpre.push _ _
  have hik : ((i.toInt.toNat : Nat) : Int) = i.toInt := Int.toNat_of_nonneg h0
  refine Kn _ _ _ _ _ _ _ _ _ _ _ _ h (hL.up hp) ⟨zV.ofr (Or.inr (Or.inr ⟨rw.length, _, hQ.1.1, rw_new, rfl⟩)), hS1.up hp⟩ ⟨hQ.1.push (by omega) ty_app ⟨⟨tys.length, by dsimp only; omega, by show _ = some (cA, kty pk); rw [hk]; exact ty_new⟩, hik.symm, by omega, fun j hj => ⟨Or.inl ⟨rfl, rfl⟩, by show (-1 : Int) ≠ -2; decide⟩⟩, hP, hK, hD, hSs, ?_, ?_, hQ.2.2.2.2.2.2.2.tr hp⟩
  · show cells + 1 + c0 = vec w + 1; omega
  · show slots + _ + s0 = ves w + _; omega
theorem z_math {pk idx : Nat} (hpk : pk < 4) (hwl : .methodLink (mY M).cls idx (mathy pk) ∈ lw_tbl ∧ goodWord (.methodLink (mY M).cls idx (mathy pk)) = true)
    (F : zF b nX xs A M p s m args meth c) (Kn : zKn n d M res b nX xs dC dI A c0 s0 rw0 p l e R s m args below meth c Q) (hL : zL b (vnl M) rw Ls ls) (hS : zS b rw St st) (hQ : zQ b nX xs dC dI A c0 s0 rw0 s w H locs cells slots rw tys) (hrc : vec res.2.2 ≤ R.cells + c0) (hrs : ves res.2.2 ≤ R.slots + s0) (hfr : 1 ≤ R.frames) (hlo : 80 ≤ R.locals) (hd : decode (mB M) pc = .ok (.invokestatic idx, 3))
    (h : v_mm pk St (fun v r => bif Nat.ble (vcs r) 8 then vrun n d M (pc + 3) Ls (v :: r) w else none) = some res) : W p l e R s m args below meth c H locs cells slots Q (F0 m pc ls st) := by
  have hml : c.maxLocals = ls.size := F.2.2.1.trans hL.1.symm
  have hc1 := hQ.2.2.2.2.2.1
  have hc2 := hQ.2.2.2.2.2.2.1
  have hts : ∀ {i : Nat} {w : Cond}, wd i w = true → w.before args s = true := fun h => F.2.2.2.2.1 _ (wd_inv h).1 (wd_inv h).2
  have hwl' := F.2.2.2.2.1 _ hwl.1 hwl.2
  have bl : ∀ {r : List vV} {f : vR}, (bif Nat.ble (vcs r) 8 then f else none) = some res → vcs r ≤ 8 ∧ f = some res := by
    intro r f h
    cases hb : Nat.ble (vcs r) 8 with
    | false => rw [hb] at h; cases h
    | true => rw [hb] at h; exact ⟨Nat.le_of_ble_eq_true hb, h⟩
  have rm : ∀ {k : Nat} {Ls' St' : List vV}, vrun n d M k Ls' St' w = some res → cells ≤ R.cells ∧ slots ≤ R.slots := by
    intro k Ls' St' h
    have hm := vrun_mono _ _ _ _ _ _ _ _ h
    omega
  rcases (show pk = 0 ∨ pk = 1 ∨ pk = 2 ∨ pk = 3 by omega) with rfl | rfl | rfl | rfl
  · obtain ⟨x, y, r, rfl, h⟩ := v2_inv (show v2 0 0 St (fun x y r => bif Nat.ble (vcs r) 8 then vrun n d M (pc + 3) Ls ((0, max x y) :: r) w else none) = some res from h)
    obtain ⟨hb, h⟩ := bl h
    obtain ⟨v, st, rfl, hv, hS1⟩ := hS.cons
    obtain ⟨u, st, rfl, hu, hS2⟩ := hS1.cons
    obtain ⟨j, rfl, rfl⟩ := hv.int
    obtain ⟨i, rfl, rfl⟩ := hu.int
    have hcat := hS2.cat
    refine va_mmax F.1 F.2.1 hml F.2.2.2.1 (by rw [wk_lm0]; exact hwl') (hts wk_maxs) (hts wk_mathi) (hts wk_maxc) hfr (by omega) (rm h).1 (rm h).2 hd ?_
    refine Kn _ _ _ _ _ _ _ _ _ _ _ _ h hL ⟨zV.ofi' ?_, hS2⟩ hQ
    split <;> rename_i hij <;> (first | rw [i32_lt] at hij | rw [i32_le] at hij | rw [Int64.lt_iff_toInt_lt] at hij | rw [Int64.le_iff_toInt_le] at hij) <;> omega
  · obtain ⟨x, y, r, rfl, h⟩ := v2_inv (show v2 0 0 St (fun x y r => bif Nat.ble (vcs r) 8 then vrun n d M (pc + 3) Ls ((0, min x y) :: r) w else none) = some res from h)
    obtain ⟨hb, h⟩ := bl h
    obtain ⟨v, st, rfl, hv, hS1⟩ := hS.cons
    obtain ⟨u, st, rfl, hu, hS2⟩ := hS1.cons
    obtain ⟨j, rfl, rfl⟩ := hv.int
    obtain ⟨i, rfl, rfl⟩ := hu.int
    have hcat := hS2.cat
    refine va_mmin F.1 F.2.1 hml F.2.2.2.1 (by rw [wk_lm1]; exact hwl') (hts wk_mins) (hts wk_mathi) (hts wk_minc) hfr (by omega) (rm h).1 (rm h).2 hd ?_
    refine Kn _ _ _ _ _ _ _ _ _ _ _ _ h hL ⟨zV.ofi' ?_, hS2⟩ hQ
    split <;> rename_i hij <;> (first | rw [i32_lt] at hij | rw [i32_le] at hij | rw [Int64.lt_iff_toInt_lt] at hij | rw [Int64.le_iff_toInt_le] at hij) <;> omega
  · obtain ⟨x, y, r, rfl, h⟩ := v2_inv (show v2 1 1 St (fun x y r => bif Nat.ble (vcs r) 8 then vrun n d M (pc + 3) Ls ((1, max x y) :: r) w else none) = some res from h)
    obtain ⟨hb, h⟩ := bl h
    obtain ⟨v, st, rfl, hv, hS1⟩ := hS.cons
    obtain ⟨u, st, rfl, hu, hS2⟩ := hS1.cons
    obtain ⟨j, rfl, rfl⟩ := hv.long
    obtain ⟨i, rfl, rfl⟩ := hu.long
    have hcat := hS2.cat
    refine va_mmax_long F.1 F.2.1 hml F.2.2.2.1 (by rw [wk_lm2]; exact hwl') (hts wk_lmaxs) (hts wk_mathi) (hts wk_lmaxc) hfr (by omega) (rm h).1 (rm h).2 hd ?_
    refine Kn _ _ _ _ _ _ _ _ _ _ _ _ h hL ⟨zV.ofl' ?_, hS2⟩ hQ
    split <;> rename_i hij <;> (first | rw [i32_lt] at hij | rw [i32_le] at hij | rw [Int64.lt_iff_toInt_lt] at hij | rw [Int64.le_iff_toInt_le] at hij) <;> omega
  · obtain ⟨x, y, r, rfl, h⟩ := v2_inv (show v2 1 1 St (fun x y r => bif Nat.ble (vcs r) 8 then vrun n d M (pc + 3) Ls ((1, min x y) :: r) w else none) = some res from h)
    obtain ⟨hb, h⟩ := bl h
    obtain ⟨v, st, rfl, hv, hS1⟩ := hS.cons
    obtain ⟨u, st, rfl, hu, hS2⟩ := hS1.cons
    obtain ⟨j, rfl, rfl⟩ := hv.long
    obtain ⟨i, rfl, rfl⟩ := hu.long
    have hcat := hS2.cat
    refine va_mmin_long F.1 F.2.1 hml F.2.2.2.1 (by rw [wk_lm3]; exact hwl') (hts wk_lmins) (hts wk_mathi) (hts wk_lminc) hfr (by omega) (rm h).1 (rm h).2 hd ?_
    refine Kn _ _ _ _ _ _ _ _ _ _ _ _ h hL ⟨zV.ofl' ?_, hS2⟩ hQ
    split <;> rename_i hij <;> (first | rw [i32_lt] at hij | rw [i32_le] at hij | rw [Int64.lt_iff_toInt_lt] at hij | rw [Int64.le_iff_toInt_le] at hij) <;> omega
theorem z_obj {idx : Nat} (hwl : .methodLink (mY M).cls idx objectInit ∈ lw_tbl ∧ goodWord (.methodLink (mY M).cls idx objectInit) = true)
    (F : zF b nX xs A M p s m args meth c) (Kn : zKn n d M res b nX xs dC dI A c0 s0 rw0 p l e R s m args below meth c Q) (hL : zL b (vnl M) rw Ls ls) (hS : zS b rw St st) (hQ : zQ b nX xs dC dI A c0 s0 rw0 s w H locs cells slots rw tys) (hfr : 1 ≤ R.frames) (hlo : 80 ≤ R.locals) (hd : decode (mB M) pc = .ok (.invokespecial idx, 3))
    (h : v1 2 St (fun a r => if vkd w a ≠ 0 then (bif Nat.ble (vcs r) 8 then vrun n d M (pc + 3) Ls r w else none) else none) = some res) : W p l e R s m args below meth c H locs cells slots Q (F0 m pc ls st) := by
  obtain ⟨a, r, rfl, h⟩ := v1_inv h
  obtain ⟨hk, h⟩ := ite_inv h
  obtain ⟨x, st, rfl, hx, hS1⟩ := hS.cons
  have hts : ∀ {i : Nat} {w : Cond}, wd i w = true → w.before args s = true := fun h => F.2.2.2.2.1 _ (wd_inv h).1 (wd_inv h).2
  cases hb : Nat.ble (vcs r) 8 with
  | false => rw [hb] at h; cases h
  | true =>
    rw [hb] at h
    have hb := Nat.le_of_ble_eq_true hb
    have hcat := hS1.cat
    obtain ⟨ad, rfl⟩ : ∃ ad : Nat, x = .ref ad := by
      rcases hx.rf with ⟨h1, -⟩ | ⟨h1, h2⟩ | ⟨j, q, h1, h2, h3⟩
      · subst h1
        rcases hQ.1.2.2.1 (-1) hk with h4 | ⟨j, hj, h4⟩ <;> omega
      · exact ⟨b, h2⟩
      · exact ⟨_, h3⟩
    refine W.objInit F.1 F.2.1 F.2.2.2.1 (F.2.2.2.2.1 _ hwl.1 hwl.2) (hts wk_obi) (hts wk_obc) rfl (hL.1.trans F.2.2.1.symm) rfl hd hfr (by show 2 * (F0 m pc ls _).monitorRoom + _ + 12 ≤ _; have : (F0 m pc ls (Value.ref ad :: st)).monitorRoom = 0 := rfl; omega) ?_
    exact Kn (pc + 3) _ _ _ _ _ _ _ _ _ _ _ h hL hS1 hQ
end STEP
