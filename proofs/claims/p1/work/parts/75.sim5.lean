theorem ckf_inv {M i idx p q : Nat} {f : String → u_T → Nat → Bool} (h : ckf M i idx p q f = true) : 10 ≤ p ∧ ∃ (C : String) (T : u_T) (N : Nat), vwCl[p - 10]? = some (C, T, N) ∧ q < N ∧ (.fieldLink (mY M).cls idx C (T q).2.1 (T q).2.2.1 ∈ lw_tbl ∧ goodWord (.fieldLink (mY M).cls idx C (T q).2.1 (T q).2.2.1) = true) ∧ (T q).1 = C ∧ f C T N = true := by
  simp only [ckf, Bool.and_eq_true] at h
  obtain ⟨h1, h2⟩ := h
  refine ⟨Nat.le_of_ble_eq_true h1, ?_⟩
  cases hr : vwCl[p - 10]? with
  | none => rw [hr] at h2; cases h2
  | some r =>
    obtain ⟨C, T, N⟩ := r
    rw [hr] at h2
    simp only [Bool.and_eq_true, beq_iff_eq] at h2
    obtain ⟨⟨⟨h3, h4⟩, h5⟩, h6⟩ := h2
    exact ⟨C, T, N, rfl, Nat.le_of_ble_eq_true h3, wd_inv h4, h5, h6⟩
theorem vwCl_lt {k : Nat} {r : vw_C} (h : vwCl[k]? = some r) : k < 13 := (List.getElem?_eq_some_iff.mp h).1
theorem vp_V_get {fs : List Value} {q : Nat} (h : q < fs.length) : fs[q]? = some (vp_V fs q) := by
  unfold vp_V
  rw [List.getD_eq_getElem?_getD, List.getElem?_eq_getElem h]
  rfl
theorem vp_V_set {fs : List Value} {q j : Nat} {x : Value} (hq : q < fs.length) : vp_V (fs.set q x) j = if j = q then x else vp_V fs j := by
  unfold vp_V
  rw [List.getD_eq_getElem?_getD, List.getD_eq_getElem?_getD]
  by_cases h : j = q
  · subst h; rw [List.getElem?_set_self hq, if_pos rfl]; rfl
  · rw [List.getElem?_set_ne (Ne.symm h), if_neg h]
theorem ftg_le (d : String) : ftg d ≤ 3 := by
  unfold ftg
  cases (d == "J") <;> cases (d == "I") <;> cases (d == "Z") <;> decide
theorem vokb_inv {t : Nat} {v : Int} {f : vR} {r : Nat × Int × vW} (h : vokb t v f = some r) : (t = 3 → 0 ≤ v ∧ v ≤ 1) ∧ f = some r := by
  unfold vokb at h
  cases hb : Nat.beq t 3 with
  | true =>
    rw [hb] at h
    obtain ⟨h1, h2⟩ := ite_inv h
    exact ⟨fun _ => h1, h2⟩
  | false =>
    rw [hb] at h
    exact ⟨fun e => absurd e (Nat.ne_of_beq_eq_false hb), h⟩
theorem bool_nar {i : Int32} (h1 : 0 ≤ i.toInt) (h2 : i.toInt ≤ 1) : narrow .boolean (.int i) = .int i ∧ vp_nar .boolean i = i ∧ fits .boolean (.int i) = true := by
  have h : i = 0 ∨ i = 1 := by
    rcases (show i.toInt = 0 ∨ i.toInt = 1 by omega) with h | h
    · exact Or.inl (Int32.toInt_inj.mp h)
    · exact Or.inr (Int32.toInt_inj.mp h)
  rcases h with rfl | rfl <;> exact ⟨by decide +kernel, by decide +kernel, by decide +kernel⟩
theorem zfit {b : Nat} {rw : va_W} {ty : FieldType} {t : Nat} {v : Int} {x : Value} (ht : tyt ty = t) (h3 : t ≤ 3) (hv : zV b rw (vtg t, v) x) (hb : t = 3 → 0 ≤ v ∧ v ≤ 1) : narrow ty x = x ∧ fits ty x = true := by
  subst ht
  cases ty <;> simp only [tyt] at h3 hv hb <;> first
    | (exfalso; omega)
    | (obtain ⟨i, rfl, rfl⟩ := zV.int hv; exact ⟨rfl, rfl⟩)
    | (obtain ⟨i, rfl, rfl⟩ := zV.long hv; exact ⟨rfl, rfl⟩)
    | (rcases zV.rf hv with ⟨-, rfl⟩ | ⟨-, rfl⟩ | ⟨j, q, -, -, rfl⟩ <;> exact ⟨rfl, rfl⟩)
    | (obtain ⟨i, rfl, rfl⟩ := zV.int hv; exact ⟨(bool_nar (hb (by trivial)).1 (hb (by trivial)).2).1, (bool_nar (hb (by trivial)).1 (hb (by trivial)).2).2.2⟩)
theorem zdef {b : Nat} {rw : va_W} {ty : FieldType} {t : Nat} (ht : tyt ty = t) (h3 : t ≤ 3) : zV b rw (vtg t, bif Nat.beq t 2 then -1 else 0) (defaultValue ty) := by
  subst ht
  cases ty <;> simp only [tyt] at h3 ⊢ <;> first
    | (exfalso; omega)
    | exact Or.inl ⟨rfl, 0, rfl, rfl⟩
    | exact Or.inr (Or.inl ⟨rfl, 0, rfl, rfl⟩)
    | exact Or.inr (Or.inr (Or.inl ⟨rfl, Or.inl ⟨rfl, rfl⟩⟩))
section STEP
variable {p : Program} {l : Launch} {e : Env} {R : Room} {s : State} {m : MethodId} {args : Array Value} {below : List Frame} {meth : Method} {c : Code} {H : Heap} {locs : List Loc} {cells slots : Nat} {Q : State → Prop}
variable {n d M : Nat} {res : Nat × Int × vW} {b nX : Nat} {xs : Nat → Int32} {dC : Nat → ClassId} {dI : Nat → Nat → Nat} {A : Nat → Prop} {c0 s0 : Nat} {rw0 rw : va_W} {tys : List (ClassId × FieldType)}
variable {pc nx q : Nat} {Ls St : List vV} {w : vW} {ls : Array Slot} {st : List Value}
theorem z_lay {s : State} {args : Array Value} (hts : ∀ w ∈ lw_tbl, goodWord w = true → w.before args s = true) {k : Nat} {C : String} {T : u_T} {N : Nat} (h : vwCl[k]? = some (C, T, N)) : ∀ w ∈ u_ws C T N, w.before args s = true := fun w hw =>
  hts w ((zcl_all k _ h).1 w hw).1 (good_word_of ((zcl_all k _ h).1 w hw).2)
theorem z_get {i idx pk : Nat} {z : Int} (F : zF b nX xs A M p s m args meth c) (Kn : zKn n d M res b nX xs dC dI A c0 s0 rw0 p l e R s m args below meth c Q) (hL : zL b (vnl M) rw Ls ls) (hS : zS b rw St st) (hQ : zQ b nX xs dC dI A c0 s0 rw0 s w H locs cells slots rw tys)
    (hck : ckf M i idx pk q (fun _ T _ => decide (z = ((bif Nat.beq (ftg (T q).2.2.1) 3 then 0 else ftg (T q).2.2.1 : Nat) : Int))) = true) (hd : decode (mB M) pc = .ok (.getfield idx, 3))
    (h : v1 2 St (fun a r => if vkd w a = pk then vrun n d M (pc + 3) Ls ((z.toNat, vct w a q) :: r) w else none) = some res) : W p l e R s m args below meth c H locs cells slots Q (F0 m pc ls st) := by
  obtain ⟨h10, C, T, N, hcl, hqN, hw, hT1, hz⟩ := ckf_inv hck
  obtain ⟨a, r, rfl, h⟩ := v1_inv h
  obtain ⟨hk, h⟩ := ite_inv h
  obtain ⟨x, st, rfl, hx, hS1⟩ := hS.cons
  have hlt := vwCl_lt hcl
  obtain ⟨j, ⟨ad, e'⟩, rfl, hj, hE⟩ := hQ.1.cell hk (by omega) (by omega)
  obtain ⟨fs, he, r0, hr0, hlen, hfs⟩ := hE.obj hk h10
  dsimp only at he
  subst he
  rw [hcl] at hr0
  cases hr0
  have hx := hx.rf.at hj
  subst hx
  have hzt : z.toNat = vtg (ftg (T q).2.2.1) := by
    rw [of_decide_eq_true hz]; rfl
  refine va_get (D := (dC, dI)) (T := T) (N := N) (C := C) F.1 F.2.1 (z_lay F.2.2.2.2.1 hcl) (fun _ h => h) F.2.2.2.1 hQ.2.2.1 hQ.2.1 j hj hcl q hqN (F.2.2.2.2.1 _ hw.1 hw.2) (fun x hx => by rw [hT1] at hx; exact hx) (vp_V_get (by rw [hlen]; exact hqN)) hd ?_
  refine Kn _ _ _ _ _ _ _ _ _ _ _ _ h hL ⟨?_, hS1⟩ hQ
  rw [hzt]
  exact hfs q hqN
theorem z_put {i idx pk : Nat} {z : Int} (F : zF b nX xs A M p s m args meth c) (Kn : zKn n d M res b nX xs dC dI A c0 s0 rw0 p l e R s m args below meth c Q) (hL : zL b (vnl M) rw Ls ls) (hS : zS b rw St st) (hQ : zQ b nX xs dC dI A c0 s0 rw0 s w H locs cells slots rw tys)
    (hck : ckf M i idx pk q (fun C T _ => decide (z = (ftg (T q).2.2.1 : Int)) && (! (T q).2.2.2 || ((mY M).name == "<init>" && C == (mY M).cls))) = true) (hd : decode (mB M) pc = .ok (.putfield idx, 3))
    (h : v2 2 (vtg z.toNat) St (fun a v r => vokb z.toNat v (if vkd w a = pk then vrun n d M (pc + 3) Ls r (vsv w a (q : Int) v) else none)) = some res) : W p l e R s m args below meth c H locs cells slots Q (F0 m pc ls st) := by
  obtain ⟨h10, C, T, N, hcl, hqN, hw, hT1, hz⟩ := ckf_inv hck
  simp only [Bool.and_eq_true, decide_eq_true_eq] at hz
  obtain ⟨hz, hfin⟩ := hz
  subst hz
  obtain ⟨a, v, r, hSt, h1⟩ := v2_inv h
  obtain ⟨hb01, h2⟩ := vokb_inv h1
  obtain ⟨hk, h3⟩ := ite_inv h2
  clear h h1 h2
  subst hSt
  obtain ⟨y, st, rfl, hy, hS1⟩ := hS.cons
  obtain ⟨x, st, rfl, hx, hS2⟩ := hS1.cons
  have hlt := vwCl_lt hcl
  obtain ⟨j, ⟨ad, e'⟩, rfl, hj, hE⟩ := hQ.1.cell hk (by omega) (by omega)
  obtain ⟨fs, he, r0, hr0, hlen, hfs⟩ := hE.obj hk h10
  dsimp only at he
  subst he
  rw [hcl] at hr0
  cases hr0
  have hx := hx.rf.at hj
  subst hx
  rw [Int.toNat_natCast] at hy hb01
  obtain ⟨hly, ⟨ty0, hty, htt⟩, hnm, -⟩ := zcl_all _ _ hcl
  obtain ⟨hna, hfi⟩ := zfit (htt q hqN) (ftg_le _) hy hb01
  have hql : q < fs.length := by rw [hlen]; exact hqN
  have hE2 : zE b rw tys ((vsv w (j : Int) (q : Int) v).1 (j : Int)) (.inr (pk - 10, fs.set q y)) := by
    refine ⟨by rw [vsv_eq]; show vkd w _ = _; omega, (C, T, N), hcl, by rw [List.length_set]; exact hlen, fun k hkN => ?_⟩
    rw [vsv_eq, vp_V_set hql]
    by_cases hkq : k = q
    · subst hkq; rw [if_pos rfl]; show zV b rw (_, if (k : Int) = (k : Int) then v else _) y; rw [if_pos rfl]; exact hy
    · rw [if_neg hkq]; show zV b rw (_, if (k : Int) = (q : Int) then v else _) _; rw [if_neg (by omega)]; exact hfs k hkN
  have kk : ∀ (H1 : Heap) (locs1 : List Loc), va_P (dC, dI) vwCl (rw.set j (ad, .inr (pk - 10, fs.set q y))) H1 → va_D A (rw.set j (ad, .inr (pk - 10, fs.set q y))) → va_S A s.heap H1 locs1 → W p l e R s m args below meth c H1 locs1 cells slots Q (F0 m (pc + 3) ls st) := fun H1 locs1 hP hD hSs =>
    have hp : zpre rw (rw.set j (ad, .inr (pk - 10, fs.set q y))) := zpre.set hj
    Kn _ _ _ _ _ _ _ _ _ _ _ _ h3 (hL.up hp) (hS2.up hp) ⟨hQ.1.upd hj (vsv_2 _ _ _ _) (fun x hx => vsv_ne _ _ _ hx) (by rw [vsv_eq]; rfl) hE2, hP, hQ.2.2.1, hD, hSs, hQ.2.2.2.2.2.1, hQ.2.2.2.2.2.2.1, hQ.2.2.2.2.2.2.2.tr hp⟩
  cases hf : (T q).2.2.2 with
  | false => exact va_put (D := (dC, dI)) (T := T) (N := N) (C := C) F.1 F.2.1 (z_lay F.2.2.2.2.1 hcl) (fun _ h => h) ty0 hty hnm F.2.2.2.1 hQ.2.2.1 hQ.2.1 hQ.2.2.2.1 hQ.2.2.2.2.1 j hj hcl q hqN (F.2.2.2.2.1 _ hw.1 hw.2) (fun x hx => by rw [hT1] at hx; exact hx) hf (hty q hqN) hna hfi hql hd kk
  | true =>
    rw [hf] at hfin
    simp only [Bool.not_true, Bool.false_or, Bool.and_eq_true, beq_iff_eq] at hfin
    exact va_putF (D := (dC, dI)) (T := T) (N := N) (C := C) F.1 F.2.1 (z_lay F.2.2.2.2.1 hcl) (fun _ h => h) ty0 hty hnm F.2.2.2.1 hQ.2.2.1 hQ.2.1 hQ.2.2.2.1 hQ.2.2.2.2.1 j hj hcl q hqN (F.2.2.2.2.1 _ hw.1 hw.2) (fun x hx => by rw [hT1] at hx; exact hx) hf ((F.2.2.2.2.2.2.2.1 hfin.1).trans hfin.1) (hT1.trans hfin.2) (hty q hqN) hna hfi hql hd kk
/-- a row's place -/
theorem z_in {i : Int32} {n : Nat} {z : Int} (h0 : 0 ≤ i.toInt) (h1 : i.toInt < z) (hz : z = (n : Int)) : vp_in i n ∧ (i.toNatClampNeg : Int) = i.toInt ∧ i.toNatClampNeg < n := by
  subst hz
  refine ⟨vp_in_iff.mpr ⟨h0, h1⟩, ?_, ?_⟩
  · exact Int.toNat_of_nonneg h0
  · show i.toInt.toNat < n; omega
theorem z_iald (F : zF b nX xs A M p s m args meth c) (Kn : zKn n d M res b nX xs dC dI A c0 s0 rw0 p l e R s m args below meth c Q) (hL : zL b (vnl M) rw Ls ls) (hS : zS b rw St st) (hQ : zQ b nX xs dC dI A c0 s0 rw0 s w H locs cells slots rw tys) (hd : decode (mB M) pc = .ok (.iaload, 1))
    (h : v2 2 0 St (fun a i r => if vkd w a = 1 ∧ 0 ≤ i ∧ i < vln w a then vrun n d M (pc + 1) Ls ((0, vct w a i) :: r) w else none) = some res) : W p l e R s m args below meth c H locs cells slots Q (F0 m pc ls st) := by
  obtain ⟨a, i, r, rfl, h⟩ := v2_inv h
  obtain ⟨⟨hk, h0, h1⟩, h⟩ := ite_inv h
  obtain ⟨y, st, rfl, hy, hS1⟩ := hS.cons
  obtain ⟨x, st, rfl, hx, hS2⟩ := hS1.cons
  obtain ⟨i, rfl, rfl⟩ := hy.int
  obtain ⟨j, ⟨ad, e'⟩, rfl, hj, hE⟩ := hQ.1.cell hk (by omega) (by omega)
  obtain ⟨cA, N, f, t, he, ht, hln, hN, hf⟩ := hE.ints hk (Or.inl rfl)
  dsimp only at he
  subst he
  have hx := hx.rf.at hj
  subst hx
  obtain ⟨i1, i2, i3⟩ := z_in h0 h1 hln
  refine va_iald (D := (dC, dI)) F.1 F.2.1 hQ.2.2.1 hQ.2.1 j t hj ht i1 hd (Kn _ _ _ _ _ _ _ _ _ _ _ _ h hL ⟨zV.ofi' ?_, hS2⟩ hQ)
  rw [← hf _ i3, i2]; rfl
theorem z_zald (F : zF b nX xs A M p s m args meth c) (Kn : zKn n d M res b nX xs dC dI A c0 s0 rw0 p l e R s m args below meth c Q) (hL : zL b (vnl M) rw Ls ls) (hS : zS b rw St st) (hQ : zQ b nX xs dC dI A c0 s0 rw0 s w H locs cells slots rw tys) (hd : decode (mB M) pc = .ok (.baload, 1))
    (h : v2 2 0 St (fun a i r => if vkd w a = 3 ∧ 0 ≤ i ∧ i < vln w a then vrun n d M (pc + 1) Ls ((0, vct w a i) :: r) w else none) = some res) : W p l e R s m args below meth c H locs cells slots Q (F0 m pc ls st) := by
  obtain ⟨a, i, r, rfl, h⟩ := v2_inv h
  obtain ⟨⟨hk, h0, h1⟩, h⟩ := ite_inv h
  obtain ⟨y, st, rfl, hy, hS1⟩ := hS.cons
  obtain ⟨x, st, rfl, hx, hS2⟩ := hS1.cons
  obtain ⟨i, rfl, rfl⟩ := hy.int
  obtain ⟨j, ⟨ad, e'⟩, rfl, hj, hE⟩ := hQ.1.cell hk (by omega) (by omega)
  obtain ⟨cA, N, f, t, he, ht, hln, hN, hf⟩ := hE.ints hk (Or.inr rfl)
  dsimp only at he
  subst he
  have hx := hx.rf.at hj
  subst hx
  obtain ⟨i1, i2, i3⟩ := z_in h0 h1 hln
  refine va_zald (D := (dC, dI)) F.1 F.2.1 hQ.2.2.1 hQ.2.1 j t hj ht i1 hd (Kn _ _ _ _ _ _ _ _ _ _ _ _ h hL ⟨zV.ofi' ?_, hS2⟩ hQ)
  rw [← hf _ i3, i2]; rfl
theorem z_lald (F : zF b nX xs A M p s m args meth c) (Kn : zKn n d M res b nX xs dC dI A c0 s0 rw0 p l e R s m args below meth c Q) (hL : zL b (vnl M) rw Ls ls) (hS : zS b rw St st) (hQ : zQ b nX xs dC dI A c0 s0 rw0 s w H locs cells slots rw tys) (hd : decode (mB M) pc = .ok (.laload, 1))
    (h : v2 2 0 St (fun a i r => if vkd w a = 2 ∧ 0 ≤ i ∧ i < vln w a then vrun n d M (pc + 1) Ls ((1, vct w a i) :: r) w else none) = some res) : W p l e R s m args below meth c H locs cells slots Q (F0 m pc ls st) := by
  obtain ⟨a, i, r, rfl, h⟩ := v2_inv h
  obtain ⟨⟨hk, h0, h1⟩, h⟩ := ite_inv h
  obtain ⟨y, st, rfl, hy, hS1⟩ := hS.cons
  obtain ⟨x, st, rfl, hx, hS2⟩ := hS1.cons
  obtain ⟨i, rfl, rfl⟩ := hy.int
  obtain ⟨j, ⟨ad, e'⟩, rfl, hj, hE⟩ := hQ.1.cell hk (by omega) (by omega)
  obtain ⟨cA, N, f, t, he, ht, hln, hN, hf⟩ := hE.longs hk
  dsimp only at he
  subst he
  have hx := hx.rf.at hj
  subst hx
  obtain ⟨i1, i2, i3⟩ := z_in h0 h1 hln
  refine va_lald (D := (dC, dI)) F.1 F.2.1 hQ.2.2.1 hQ.2.1 j t hj ht i1 hd (Kn _ _ _ _ _ _ _ _ _ _ _ _ h hL ⟨zV.ofl' ?_, hS2⟩ hQ)
  rw [← hf _ i3, i2]; rfl
theorem kty_ref {k : Nat} (h : k = 4 ∨ k = 5 ∨ k = 6 ∨ k = 7) : (kty k).isReference = true := by rcases h with rfl | rfl | rfl | rfl <;> rfl
theorem z_aald {pk : Nat} (hpk : pk = 4 ∨ pk = 5 ∨ pk = 6 ∨ pk = 7) (F : zF b nX xs A M p s m args meth c) (Kn : zKn n d M res b nX xs dC dI A c0 s0 rw0 p l e R s m args below meth c Q) (hL : zL b (vnl M) rw Ls ls) (hS : zS b rw St st) (hQ : zQ b nX xs dC dI A c0 s0 rw0 s w H locs cells slots rw tys) (hd : decode (mB M) pc = .ok (.aaload, 1))
    (h : v2 2 0 St (fun a i r => if vkd w a = pk ∧ 0 ≤ i ∧ i < vln w a then vrun n d M (pc + 1) Ls ((2, vct w a i) :: r) w else none) = some res) : W p l e R s m args below meth c H locs cells slots Q (F0 m pc ls st) := by
  obtain ⟨a, i, r, rfl, h⟩ := v2_inv h
  obtain ⟨⟨hk, h0, h1⟩, h⟩ := ite_inv h
  obtain ⟨y, st, rfl, hy, hS1⟩ := hS.cons
  obtain ⟨x, st, rfl, hx, hS2⟩ := hS1.cons
  obtain ⟨i, rfl, rfl⟩ := hy.int
  obtain ⟨j, ⟨ad, e'⟩, rfl, hj, hE⟩ := hQ.1.cell hk (by omega) (by omega)
  obtain ⟨cA, N, f, t, he, ht, hln, hN, hf⟩ := hE.refs hk hpk
  dsimp only at he
  subst he
  have hx := hx.rf.at hj
  subst hx
  obtain ⟨i1, i2, i3⟩ := z_in h0 h1 hln
  refine W.aald (v := va_rf (f i.toNatClampNeg)) (ty := kty pk) F.1 F.2.1 (hQ.2.1 j _ hj) ((hQ.2.2.1.2 t _ ht).1 N (fun j => va_rf (f j))) (kty_ref hpk) (fun q => by cases q) (by show ¬ (i < 0 ∨ (arrV _ _ _).slots.size ≤ _); rw [arrV_size]; exact i1) (by show (arrV _ _ _).slots[_]? = _; rw [arrV_read _ _ i3]) rfl rfl hd ?_
  refine Kn (pc + 1) _ _ _ _ _ _ _ _ _ _ _ h hL ⟨zV.ofr ?_, hS2⟩ hQ
  have := (hf _ i3).1
  rw [i2] at this
  exact this
theorem z_sald (F : zF b nX xs A M p s m args meth c) (Kn : zKn n d M res b nX xs dC dI A c0 s0 rw0 p l e R s m args below meth c Q) (hL : zL b (vnl M) rw Ls ls) (hS : zS b rw St st) (hQ : zQ b nX xs dC dI A c0 s0 rw0 s w H locs cells slots rw tys) (hd : decode (mB M) pc = .ok (.iaload, 1))
    (h : v2 2 0 St (fun a i r => if vkd w a = 99 ∧ 0 ≤ i ∧ i < vln w a then vrun n d M (pc + 1) Ls ((0, vct w a i) :: r) w else none) = some res) : W p l e R s m args below meth c H locs cells slots Q (F0 m pc ls st) := by
  obtain ⟨a, i, r, rfl, h⟩ := v2_inv h
  obtain ⟨⟨hk, h0, h1⟩, h⟩ := ite_inv h
  obtain ⟨y, st, rfl, hy, hS1⟩ := hS.cons
  obtain ⟨x, st, rfl, hx, hS2⟩ := hS1.cons
  obtain ⟨i, rfl, rfl⟩ := hy.int
  have ha : a = -2 := by
    rcases hQ.1.2.2.1 a (by rw [hk]; decide) with ha | ⟨j, hj, rfl⟩
    · exact ha
    · obtain ⟨q, hq⟩ : ∃ q, rw[j]? = some q := ⟨rw[j], List.getElem?_eq_getElem hj⟩
      obtain ⟨fs, he, r0, hr0, -⟩ := (hQ.1.2.2.2.1 j q hq).obj hk (by decide)
      have := vwCl_lt hr0
      omega
  subst ha
  have hxb : x = .ref b := by
    rcases hx.rf with ⟨h, -⟩ | ⟨-, h⟩ | ⟨i, q', h, -, -⟩
    · omega
    · exact h
    · omega
  subst hxb
  have hl : vln w (-2) = (nX : Int) := by unfold vln; rw [hQ.1.2.1]
  obtain ⟨i1, i2, i3⟩ := z_in h0 h1 hl
  refine va_sld F.1 F.2.1 F.2.2.2.2.2.2.2.2.1 F.2.2.2.2.2.2.2.2.2.1 F.2.2.2.2.2.2.2.2.2.2.1 hQ.2.2.2.2.1 i1 hd (Kn _ _ _ _ _ _ _ _ _ _ _ _ h hL ⟨zV.ofi' ?_, hS2⟩ hQ)
  unfold vct; rw [hQ.1.2.1]; rfl
theorem vsv_arr {w : vW} {a i v : Int} {n : Nat} {g g' : Nat → Int} (hg : ∀ j : Nat, j < n → vct w a (j : Int) = g j) (hg' : ∀ j : Nat, j < n → g' j = if (j : Int) = i then v else g j) : ∀ j : Nat, j < n → ((vsv w a i v).1 a).2.2 (j : Int) = g' j := by
  intro j hj
  rw [vsv_eq, hg' j hj]
  show (if (j : Int) = i then v else vct w a (j : Int)) = _
  rw [hg j hj]
theorem z_iast (F : zF b nX xs A M p s m args meth c) (Kn : zKn n d M res b nX xs dC dI A c0 s0 rw0 p l e R s m args below meth c Q) (hL : zL b (vnl M) rw Ls ls) (hS : zS b rw St st) (hQ : zQ b nX xs dC dI A c0 s0 rw0 s w H locs cells slots rw tys) (hd : decode (mB M) pc = .ok (.iastore, 1))
    (h : v3 2 0 0 St (fun a i v r => vokb 0 v (if vkd w a = 1 ∧ 0 ≤ i ∧ i < vln w a then vrun n d M (pc + 1) Ls r (vsv w a i v) else none)) = some res) : W p l e R s m args below meth c H locs cells slots Q (F0 m pc ls st) := by
  obtain ⟨a, i, v, r, hSt, h1⟩ := v3_inv h
  clear h
  subst hSt
  have h := (vokb_inv h1).2
  clear h1
  obtain ⟨⟨hk, h0, h1⟩, h⟩ := ite_inv h
  obtain ⟨vv, st, rfl, hvv, hS0⟩ := hS.cons
  obtain ⟨y, st, rfl, hy, hS1⟩ := hS0.cons
  obtain ⟨x, st, rfl, hx, hS2⟩ := hS1.cons
  obtain ⟨v, rfl, rfl⟩ := hvv.int
  obtain ⟨i, rfl, rfl⟩ := hy.int
  obtain ⟨j, ⟨ad, e'⟩, rfl, hj, hE⟩ := hQ.1.cell hk (by omega) (by omega)
  obtain ⟨cA, N, f, t, he, ht, hln, hN, hf⟩ := hE.ints hk (Or.inl rfl)
  dsimp only at he
  subst he
  have hx := hx.rf.at hj
  subst hx
  obtain ⟨i1, i2, i3⟩ := z_in h0 h1 hln
  refine va_iast (D := (dC, dI)) F.1 F.2.1 hQ.2.2.1 hQ.2.1 hQ.2.2.2.1 hQ.2.2.2.2.1 j t hj ht i1 hd (fun H1 locs1 hP hD hSs => ?_)
  have hp : zpre rw (rw.set j (ad, .inl (cA, N, .inl (upd f i.toNatClampNeg v)))) := zpre.set hj
  refine Kn _ _ _ _ _ _ _ _ _ _ _ _ h (hL.up hp) (hS2.up hp) ⟨hQ.1.upd hj (vsv_2 _ _ _ _) (fun x hx => vsv_ne _ _ _ hx) (by rw [vsv_eq]; rfl) ⟨⟨t, Or.inl ⟨by rw [vsv_eq]; exact hk, ht⟩⟩, by rw [vsv_eq]; exact hln, hN, vsv_arr (g := fun j => (f j).toInt) hf (fun k hk => ?_)⟩, hP, hQ.2.2.1, hD, hSs, hQ.2.2.2.2.2.1, hQ.2.2.2.2.2.2.1, hQ.2.2.2.2.2.2.2.tr hp⟩
  unfold upd
  by_cases hki : k = i.toNatClampNeg
  · rw [if_pos hki, if_pos (by omega)]
  · rw [if_neg hki, if_neg (by omega)]
theorem z_zast (F : zF b nX xs A M p s m args meth c) (Kn : zKn n d M res b nX xs dC dI A c0 s0 rw0 p l e R s m args below meth c Q) (hL : zL b (vnl M) rw Ls ls) (hS : zS b rw St st) (hQ : zQ b nX xs dC dI A c0 s0 rw0 s w H locs cells slots rw tys) (hd : decode (mB M) pc = .ok (.bastore, 1))
    (h : v3 2 0 0 St (fun a i v r => vokb 3 v (if vkd w a = 3 ∧ 0 ≤ i ∧ i < vln w a then vrun n d M (pc + 1) Ls r (vsv w a i v) else none)) = some res) : W p l e R s m args below meth c H locs cells slots Q (F0 m pc ls st) := by
  obtain ⟨a, i, v, r, hSt, h1⟩ := v3_inv h
  clear h
  subst hSt
  have hb01 := (vokb_inv h1).1
  have h := (vokb_inv h1).2
  clear h1
  obtain ⟨⟨hk, h0, h1⟩, h⟩ := ite_inv h
  obtain ⟨vv, st, rfl, hvv, hS0⟩ := hS.cons
  obtain ⟨y, st, rfl, hy, hS1⟩ := hS0.cons
  obtain ⟨x, st, rfl, hx, hS2⟩ := hS1.cons
  obtain ⟨v, rfl, rfl⟩ := hvv.int
  obtain ⟨i, rfl, rfl⟩ := hy.int
  obtain ⟨j, ⟨ad, e'⟩, rfl, hj, hE⟩ := hQ.1.cell hk (by omega) (by omega)
  obtain ⟨cA, N, f, t, he, ht, hln, hN, hf⟩ := hE.ints hk (Or.inr rfl)
  dsimp only at he
  subst he
  have hx := hx.rf.at hj
  subst hx
  obtain ⟨i1, i2, i3⟩ := z_in h0 h1 hln
  refine va_zast (D := (dC, dI)) F.1 F.2.1 hQ.2.2.1 hQ.2.1 hQ.2.2.2.1 hQ.2.2.2.2.1 j t hj ht i1 hd (fun H1 locs1 hP hD hSs => ?_)
  rw [(bool_nar (hb01 rfl).1 (hb01 rfl).2).2.1] at hP hD
  have hp : zpre rw (rw.set j (ad, .inl (cA, N, .inl (upd f i.toNatClampNeg v)))) := zpre.set hj
  refine Kn _ _ _ _ _ _ _ _ _ _ _ _ h (hL.up hp) (hS2.up hp) ⟨hQ.1.upd hj (vsv_2 _ _ _ _) (fun x hx => vsv_ne _ _ _ hx) (by rw [vsv_eq]; rfl) ⟨⟨t, Or.inr ⟨by rw [vsv_eq]; exact hk, ht⟩⟩, by rw [vsv_eq]; exact hln, hN, vsv_arr (g := fun j => (f j).toInt) hf (fun k hk => ?_)⟩, hP, hQ.2.2.1, hD, hSs, hQ.2.2.2.2.2.1, hQ.2.2.2.2.2.2.1, hQ.2.2.2.2.2.2.2.tr hp⟩
  unfold upd
  by_cases hki : k = i.toNatClampNeg
  · rw [if_pos hki, if_pos (by omega)]
  · rw [if_neg hki, if_neg (by omega)]
theorem z_last (F : zF b nX xs A M p s m args meth c) (Kn : zKn n d M res b nX xs dC dI A c0 s0 rw0 p l e R s m args below meth c Q) (hL : zL b (vnl M) rw Ls ls) (hS : zS b rw St st) (hQ : zQ b nX xs dC dI A c0 s0 rw0 s w H locs cells slots rw tys) (hd : decode (mB M) pc = .ok (.lastore, 1))
    (h : v3 2 0 1 St (fun a i v r => vokb 1 v (if vkd w a = 2 ∧ 0 ≤ i ∧ i < vln w a then vrun n d M (pc + 1) Ls r (vsv w a i v) else none)) = some res) : W p l e R s m args below meth c H locs cells slots Q (F0 m pc ls st) := by
  obtain ⟨a, i, v, r, hSt, h1⟩ := v3_inv h
  clear h
  subst hSt
  have h := (vokb_inv h1).2
  clear h1
  obtain ⟨⟨hk, h0, h1⟩, h⟩ := ite_inv h
  obtain ⟨vv, st, rfl, hvv, hS0⟩ := hS.cons
  obtain ⟨y, st, rfl, hy, hS1⟩ := hS0.cons
  obtain ⟨x, st, rfl, hx, hS2⟩ := hS1.cons
  obtain ⟨v, rfl, rfl⟩ := hvv.long
  obtain ⟨i, rfl, rfl⟩ := hy.int
  obtain ⟨j, ⟨ad, e'⟩, rfl, hj, hE⟩ := hQ.1.cell hk (by omega) (by omega)
  obtain ⟨cA, N, f, t, he, ht, hln, hN, hf⟩ := hE.longs hk
  dsimp only at he
  subst he
  have hx := hx.rf.at hj
  subst hx
  obtain ⟨i1, i2, i3⟩ := z_in h0 h1 hln
  refine va_last (D := (dC, dI)) F.1 F.2.1 hQ.2.2.1 hQ.2.1 hQ.2.2.2.1 hQ.2.2.2.2.1 j t hj ht i1 hd (fun H1 locs1 hP hD hSs => ?_)
  have hp : zpre rw (rw.set j (ad, .inl (cA, N, .inr (.inl (vp_updL f i.toNatClampNeg v))))) := zpre.set hj
  refine Kn _ _ _ _ _ _ _ _ _ _ _ _ h (hL.up hp) (hS2.up hp) ⟨hQ.1.upd hj (vsv_2 _ _ _ _) (fun x hx => vsv_ne _ _ _ hx) (by rw [vsv_eq]; rfl) ⟨⟨t, by rw [vsv_eq]; exact hk, ht⟩, by rw [vsv_eq]; exact hln, hN, vsv_arr (g := fun j => (f j).toInt) hf (fun k hk => ?_)⟩, hP, hQ.2.2.1, hD, hSs, hQ.2.2.2.2.2.1, hQ.2.2.2.2.2.2.1, hQ.2.2.2.2.2.2.2.tr hp⟩
  unfold vp_updL
  by_cases hki : k = i.toNatClampNeg
  · rw [if_pos hki, if_pos (by omega)]
  · rw [if_neg hki, if_neg (by omega)]
theorem z_aast {pk qk : Nat} (hpk : (pk = 4 ∧ qk = 12) ∨ (pk = 5 ∧ qk = 13)) (F : zF b nX xs A M p s m args meth c) (Kn : zKn n d M res b nX xs dC dI A c0 s0 rw0 p l e R s m args below meth c Q) (hL : zL b (vnl M) rw Ls ls) (hS : zS b rw St st) (hQ : zQ b nX xs dC dI A c0 s0 rw0 s w H locs cells slots rw tys) (hd : decode (mB M) pc = .ok (.aastore, 1))
    (h : v3 2 0 2 St (fun a i v r => if vkd w a = pk ∧ 0 ≤ i ∧ i < vln w a ∧ vkd w v = qk then vrun n d M (pc + 1) Ls r (vsv w a i v) else none) = some res) : W p l e R s m args below meth c H locs cells slots Q (F0 m pc ls st) := by
  obtain ⟨a, i, v, r, rfl, h⟩ := v3_inv h
  obtain ⟨⟨hk, h0, h1, hkv⟩, h⟩ := ite_inv h
  obtain ⟨vv, st, rfl, hvv, hS0⟩ := hS.cons
  obtain ⟨y, st, rfl, hy, hS1⟩ := hS0.cons
  obtain ⟨x, st, rfl, hx, hS2⟩ := hS1.cons
  obtain ⟨i, rfl, rfl⟩ := hy.int
  obtain ⟨j, ⟨ad, e'⟩, rfl, hj, hE⟩ := hQ.1.cell hk (by omega) (by omega)
  obtain ⟨cA, N, f, t, he, ht, hln, hN, hf⟩ := hE.refs hk (by omega)
  dsimp only at he
  subst he
  have hx := hx.rf.at hj
  subst hx
  obtain ⟨jv, ⟨av, ev⟩, rfl, hjv, hEv⟩ := hQ.1.cell hkv (by omega) (by omega)
  obtain ⟨fs, he, r0, hr0, hlen, hfs⟩ := hEv.obj hkv (by omega)
  dsimp only at he
  subst he
  have hvx := hvv.rf.at hjv
  subst hvx
  obtain ⟨i1, i2, i3⟩ := z_in h0 h1 hln
  have ht' : tys[t]? = some (cA, .object r0.1) := by
    rcases hpk with ⟨rfl, rfl⟩ | ⟨rfl, rfl⟩ <;> (cases hr0; exact ht)
  refine va_astq (D := (dC, dI)) F.1 F.2.1 hQ.2.2.1 hQ.2.1 hQ.2.2.2.1 hQ.2.2.2.2.1 j t jv (qk - 10) hj ht' hjv hr0 i1 hd (fun H1 locs1 hP hD hSs => ?_)
  have hp : zpre rw (rw.set j (ad, .inl (cA, N, .inr (.inr (.inr (.inr (va_up f i.toNatClampNeg (some av)))))))) := zpre.set hj
  refine Kn _ _ _ _ _ _ _ _ _ _ _ _ h (hL.up hp) (hS2.up hp) ⟨hQ.1.upd hj (vsv_2 _ _ _ _) (fun x hx => vsv_ne _ _ _ hx) (by rw [vsv_eq]; rfl) ⟨⟨t, by rw [vsv_eq]; show vkd w _ = 4 ∨ _; omega, by rw [vsv_eq]; show tys[t]? = some (cA, kty (vkd w _)); rw [hk]; exact ht⟩, by rw [vsv_eq]; exact hln, hN, fun k hkN => ?_⟩, hP, hQ.2.2.1, hD, hSs, hQ.2.2.2.2.2.1, hQ.2.2.2.2.2.2.1, hQ.2.2.2.2.2.2.2.tr hp⟩
  rw [vsv_eq]
  show zN b rw (if (k : Int) = i.toInt then (jv : Int) else vct w _ (k : Int)) _ ∧ (if (k : Int) = i.toInt then (jv : Int) else vct w _ (k : Int)) ≠ -2
  unfold va_up
  by_cases hki : k = i.toNatClampNeg
  · rw [if_pos hki, if_pos (by omega)]
    exact ⟨Or.inr (Or.inr ⟨jv, _, rfl, hjv, rfl⟩), by omega⟩
  · rw [if_neg hki, if_neg (by omega)]
    exact hf k hkN
theorem z_len {pk : Nat} (hpk : pk = 1 ∨ pk = 2 ∨ pk = 3 ∨ pk = 4 ∨ pk = 5 ∨ pk = 6 ∨ pk = 7) (F : zF b nX xs A M p s m args meth c) (Kn : zKn n d M res b nX xs dC dI A c0 s0 rw0 p l e R s m args below meth c Q) (hL : zL b (vnl M) rw Ls ls) (hS : zS b rw St st) (hQ : zQ b nX xs dC dI A c0 s0 rw0 s w H locs cells slots rw tys) (hd : decode (mB M) pc = .ok (.arraylength, 1))
    (h : v1 2 St (fun a r => if vkd w a = pk then vrun n d M (pc + 1) Ls ((0, vln w a) :: r) w else none) = some res) : W p l e R s m args below meth c H locs cells slots Q (F0 m pc ls st) := by
  obtain ⟨a, r, rfl, h⟩ := v1_inv h
  obtain ⟨hk, h⟩ := ite_inv h
  obtain ⟨x, st, rfl, hx, hS1⟩ := hS.cons
  obtain ⟨j, ⟨ad, e'⟩, rfl, hj, hE⟩ := hQ.1.cell hk (by omega) (by omega)
  have hx := hx.rf.at hj
  subst hx
  have key : ∃ (cA : ClassId) (x : vp_A) (t : Nat) (ty : FieldType), e' = .inl (cA, x) ∧ tys[t]? = some (cA, ty) ∧ vln w (j : Int) = (x.1 : Int) ∧ x.1 ≤ 1000000 := by
    rcases (show (pk = 1 ∨ pk = 3) ∨ pk = 2 ∨ (pk = 4 ∨ pk = 5 ∨ pk = 6 ∨ pk = 7) by omega) with h | h | h
    · obtain ⟨cA, N, f, t, he, ht, hln, hN, hf⟩ := hE.ints hk h
      exact ⟨cA, _, t, _, he, ht, hln, hN⟩
    · obtain ⟨cA, N, f, t, he, ht, hln, hN, hf⟩ := hE.longs (hk.trans h)
      exact ⟨cA, _, t, _, he, ht, hln, hN⟩
    · obtain ⟨cA, N, f, t, he, ht, hln, hN, hf⟩ := hE.refs hk h
      exact ⟨cA, _, t, _, he, ht, hln, hN⟩
  obtain ⟨cA, x, t, ty, rfl, ht, hln, hN⟩ := key
  refine va_alen (D := (dC, dI)) F.1 F.2.1 hQ.2.2.1 hQ.2.1 j t hj ht rfl hd (Kn _ _ _ _ _ _ _ _ _ _ _ _ h hL ⟨zV.ofi' ?_, hS1⟩ hQ)
  rw [hln]
  exact nI_toInt (by omega)
theorem z_slen (hnX : nX < 2 ^ 31) (F : zF b nX xs A M p s m args meth c) (Kn : zKn n d M res b nX xs dC dI A c0 s0 rw0 p l e R s m args below meth c Q) (hL : zL b (vnl M) rw Ls ls) (hS : zS b rw St st) (hQ : zQ b nX xs dC dI A c0 s0 rw0 s w H locs cells slots rw tys) (hd : decode (mB M) pc = .ok (.arraylength, 1))
    (h : v1 2 St (fun a r => if vkd w a = 99 then vrun n d M (pc + 1) Ls ((0, vln w a) :: r) w else none) = some res) : W p l e R s m args below meth c H locs cells slots Q (F0 m pc ls st) := by
  obtain ⟨a, r, rfl, h⟩ := v1_inv h
  obtain ⟨hk, h⟩ := ite_inv h
  obtain ⟨x, st, rfl, hx, hS1⟩ := hS.cons
  have ha : a = -2 := by
    rcases hQ.1.2.2.1 a (by rw [hk]; decide) with ha | ⟨j, hj, rfl⟩
    · exact ha
    · obtain ⟨q, hq⟩ : ∃ q, rw[j]? = some q := ⟨rw[j], List.getElem?_eq_getElem hj⟩
      obtain ⟨fs, he, r0, hr0, -⟩ := (hQ.1.2.2.2.1 j q hq).obj hk (by decide)
      have := vwCl_lt hr0
      omega
  subst ha
  have hxb : x = .ref b := by
    rcases hx.rf with ⟨h, -⟩ | ⟨-, h⟩ | ⟨i, q', h, -, -⟩
    · omega
    · exact h
    · omega
  subst hxb
  refine va_slen F.1 F.2.1 F.2.2.2.2.2.2.2.2.1 F.2.2.2.2.2.2.2.2.2.1 F.2.2.2.2.2.2.2.2.2.2.1 hQ.2.2.2.2.1 hd (Kn _ _ _ _ _ _ _ _ _ _ _ _ h hL ⟨zV.ofi' ?_, hS1⟩ hQ)
  have hl : vln w (-2) = (nX : Int) := by unfold vln; rw [hQ.1.2.1]
  rw [hl]
  exact nI_toInt hnX
end STEP
