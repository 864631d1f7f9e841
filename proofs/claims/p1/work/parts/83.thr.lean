/-! methods that throw: 7 and 48; the law's own two that catch: 297 and 298 -/
def NS : String := "java/util/NoSuchElementException"
def thN : List String := ["java/lang/RuntimeException", "java/lang/Exception"]
def thX : List Cond := [.declares (Bundle.init0 "java/lang/RuntimeException"), .declares (Bundle.init0 "java/lang/Exception"), .declares (Bundle.init0 Bundle.tN), .castable NS NS]
theorem thX_tabs : ∀ w ∈ thX, w.onTables = true := by
  intro w hw
  simp only [thX, List.mem_cons, List.not_mem_nil, or_false] at hw
  rcases hw with rfl | rfl | rfl | rfl <;> rfl
theorem thX_mv {u U : State} (hvm : u.vm.Alike U.vm) (h : ∀ w ∈ thX, w.before #[] u = true) : ∀ w ∈ thX, w.before #[] U = true := by
  intro w hw
  have h1 := h w hw
  have h2 : w.before #[] (u.setVm U.vm) = true := by
    simp only [thX, List.mem_cons, List.not_mem_nil, or_false] at hw
    rcases hw with rfl | rfl | rfl | rfl
    · rw [Cond.declares_setVm hvm]; exact h1
    · rw [Cond.declares_setVm hvm]; exact h1
    · rw [Cond.declares_setVm hvm]; exact h1
    · rw [Cond.castable_setVm hvm]; exact h1
  exact va_tabs (u := u.setVm U.vm) (thX_tabs w hw) rfl h2
/-- what a throw needs of the state -/
def zK1 (A : Nat → Prop) (U : State) (H : Heap) : Prop := vx_Zq Bundle.tN "UNASSIGNED_STACK" Bundle.steD A U H ∧ vx_Zq Bundle.tN "SUPPRESSED_SENTINEL" Bundle.listD A U H ∧ ∀ w ∈ thX, w.before #[] U = true
theorem zK1.moved {A : Nat → Prop} {u U : State} {H : Heap} (hvm : u.vm.Alike U.vm) (h : zK1 A u H) : zK1 A U H := ⟨h.1.moved hvm, h.2.1.moved hvm, thX_mv hvm h.2.2⟩
theorem zK1.kept {A : Nat → Prop} {U : State} {H H1 : Heap} (h : zK1 A U H) (hq : ∀ a : Nat, a < H.size → ¬ A a → H1[a]? = H[a]?) : zK1 A U H1 := ⟨h.1.kept hq, h.2.1.kept hq, h.2.2⟩
theorem zK1.narrow {A B : Nat → Prop} {U : State} {H : Heap} (h : zK1 A U H) (hAB : ∀ q, B q → A q) : zK1 B U H := ⟨h.1.narrow hAB, h.2.1.narrow hAB, h.2.2⟩
theorem th_good : ∀ w ∈ (vx_at0 RX12 131 NS thN).filter goodWord, w ∈ lw_tbl := by
  have h : ((vx_at0 RX12 131 NS thN).filter goodWord).all (fun w => decide (w ∈ lw_tbl)) = true := by decide +kernel
  intro w hw
  exact of_decide_eq_true (List.all_eq_true.mp h w hw)
theorem th_bad : ∀ w ∈ (vx_at0 RX12 131 NS thN).filter (fun w => !goodWord w), w ∈ thX := by
  have h : ((vx_at0 RX12 131 NS thN).filter (fun w => !goodWord w)).all (fun w => decide (w ∈ thX)) = true := by decide +kernel
  intro w hw
  exact of_decide_eq_true (List.all_eq_true.mp h w hw)
theorem th_ot : ∀ w ∈ Cond.classLink RX12 129 NS :: Cond.initialized NS :: vx_at0 RX12 131 NS thN, vx_ot w = true := by
  have h : (Cond.classLink RX12 129 NS :: Cond.initialized NS :: vx_at0 RX12 131 NS thN).all vx_ot = true := by decide +kernel
  exact List.all_eq_true.mp h
theorem th_k : Cond.classLink RX12 129 NS ∈ lw_tbl ∧ goodWord (Cond.classLink RX12 129 NS) = true := ⟨by decide +kernel, by decide +kernel⟩
theorem th_i : Cond.initialized NS ∈ lw_tbl ∧ goodWord (Cond.initialized NS) = true := ⟨by decide +kernel, by decide +kernel⟩
theorem th_7 (pc : Nat) (h : (pg 7 pc).1 = 50) : pc = 24 := by
  rcases Nat.lt_or_ge pc 128 with hb | hb
  · have hd : ∀ pc < 128, (pg 7 pc).1 = 50 → pc = 24 := by decide +kernel
    exact hd pc hb h
  · exfalso
    have b1 : ∀ k, k ≤ 128 → Nat.blt pc k = false := fun k hk => by
      cases hc : Nat.blt pc k with
      | false => rfl
      | true => have := Nat.le_of_ble_eq_true hc; omega
    have b2 : ∀ k, k < 128 → Nat.beq pc k = false := fun k hk => by
      cases hc : Nat.beq pc k with
      | false => rfl
      | true => have := Nat.eq_of_beq_eq_true hc; omega
    have h : (pg_7 pc).1 = 50 := h
    unfold pg_7 at h
    simp [b1, b2] at h
theorem th_48 (pc : Nat) (h : (pg 48 pc).1 = 50) : pc = 15 := by
  rcases Nat.lt_or_ge pc 128 with hb | hb
  · have hd : ∀ pc < 128, (pg 48 pc).1 = 50 → pc = 15 := by decide +kernel
    exact hd pc hb h
  · exfalso
    have b1 : ∀ k, k ≤ 128 → Nat.blt pc k = false := fun k hk => by
      cases hc : Nat.blt pc k with
      | false => rfl
      | true => have := Nat.le_of_ble_eq_true hc; omega
    have b2 : ∀ k, k < 128 → Nat.beq pc k = false := fun k hk => by
      cases hc : Nat.beq pc k with
      | false => rfl
      | true => have := Nat.eq_of_beq_eq_true hc; omega
    have h : (pg_48 pc).1 = 50 := h
    unfold pg_48 at h
    simp [b1, b2] at h
def pcT (M : Nat) : Nat := if M = 7 then 24 else 15
theorem th_pc {M pc : Nat} (hM : M = 7 ∨ M = 48) (h : (pg M pc).1 = 50) : decode (mB M) pc = .ok (.new 129, 3) ∧ decode (mB M) (pc + 3) = .ok (.dup, 1) ∧ decode (mB M) (pc + 4) = .ok (.invokespecial 131, 3) ∧ decode (mB M) (pc + 7) = .ok (.athrow, 1) ∧ (mY M).cls = RX12 := by
  rcases hM with rfl | rfl
  · rw [th_7 pc h]; exact ⟨by decide +kernel, by decide +kernel, by decide +kernel, by decide +kernel, by decide +kernel⟩
  · rw [th_48 pc h]; exact ⟨by decide +kernel, by decide +kernel, by decide +kernel, by decide +kernel, by decide +kernel⟩
/-- what a throwing call leaves -/
def zXC (b nX : Nat) (xs : Nat → Int32) (dC : Nat → ClassId) (dI : Nat → Nat → Nat) (w1 : vW) (rw : va_W) (sz : Nat) : String → State → State → Prop := fun E st t =>
  E = NS ∧ (∃ (rw' : va_W) (tys' : List (ClassId × FieldType)), zW b nX xs w1 rw' tys' ∧ va_P (dC, dI) vwCl rw' t.heap ∧ va_K (dC, dI) vwCl tys' t ∧ va_D (va_A rw sz) rw' ∧ zpre rw rw') ∧ va_F (va_A rw sz) st t
def zBx (b nX : Nat) (xs : Nat → Int32) (dC : Nat → ClassId) (dI : Nat → Nat → Nat) (rw : va_W) (tys : List (ClassId × FieldType)) (sz : Nat) (U : State) : Prop := zB b nX xs dC dI rw tys sz U ∧ zK1 (va_A rw sz) U U.heap
def zMx (l : Launch) (b nX : Nat) (xs : Nat → Int32) (dC : Nat → ClassId) (dI : Nat → Nat → Nat) (M d : Nat) (av : List vV) (w w1 : vW) : Prop :=
  ∀ (rw : va_W) (tys : List (ClassId × FieldType)) (as : List Value) (sz : Nat), zS b rw av as → zW b nX xs w rw tys → b < sz → (∀ (k : Nat) (q : Nat × va_E), rw[k]? = some q → q.1 ≠ b) → vcs av ≤ vnl M →
    vx_Met l (mY M) (wsm M) { frames := d + 6, cells := vec w1 - vec w, slots := ves w1 - ves w, locals := 80 * d + 80 } (va_Pc as (zBx b nX xs dC dI rw tys sz)) (fun _ _ _ _ => False) (zXC b nX xs dC dI w1 rw sz) (vec w1 - vec w) (ves w1 - ves w) (va_A rw sz)
theorem zBx.blind {b nX : Nat} {xs : Nat → Int32} {dC : Nat → ClassId} {dI : Nat → Nat → Nat} {rw : va_W} {tys : List (ClassId × FieldType)} {sz : Nat} {as : List Value} : FrameBlind (va_Pc as (zBx b nX xs dC dI rw tys sz)) := by
  intro a U g mk h
  obtain ⟨h1, h2, h3⟩ := h
  exact ⟨h1, (zB.blind a U g mk ⟨h1, h2⟩).2, zK1.moved (u := U) (U := U.calling g mk a) (Vm.Alike.refl U.vm) h3⟩
theorem zTh_of {l : Launch} {b nX : Nat} {xs : Nat → Int32} {dC : Nat → ClassId} {dI : Nat → Nat → Nat} (hl : l.stackTraces = false) {M : Nat} (hM : M = 7 ∨ M = 48) {p : Program} {e : Env} {R : Room} {s : State} {m : MethodId} {args : Array Value} {below : List Frame} {meth : Method} {c : Code} {rw : va_W} {w w1 : vW} {f : Nat} {r : Int} {Qc : Array Value → State → Outcome → State → Prop}
    (F : zF b nX xs (va_A rw s.heap.size) M p s m args meth c) (K1 : zK1 (va_A rw s.heap.size) s s.heap) (hfr : 6 ≤ R.frames) (hlo : 81 ≤ R.locals) (hrc : vec w1 ≤ R.cells + vec w) (hrs : ves w1 ≤ R.slots + ves w) (hno : ∀ x ∈ c.exceptionTable.toList, False) :
    zTh b nX xs dC dI (va_A rw s.heap.size) (vec w) (ves w) rw p l e R s m args below meth c (vx_MQ below Qc (zXC b nX xs dC dI w1 rw s.heap.size) args s (vec w1 - vec w) (ves w1 - ves w) (va_A rw s.heap.size)) M (f, r, w1) := by
  intro pc idx ls st w2 H locs cells slots rw' tys' ln h50 hd hres hst hQ hsz
  subst hst
  obtain ⟨d0, d3, d4, d7, hcls⟩ := th_pc hM h50
  have hw1 : w1 = vxw w2 := congrArg (fun z => z.2.2) hres
  subst hw1
  have hc1 := hQ.2.2.2.2.2.1
  have hc2 := hQ.2.2.2.2.2.2.1
  have e1 : vec (vxw w2) = vec w2 + 1 := rfl
  have e2 : ves (vxw w2) = ves w2 + 6 := rfl
  have hown := F.2.2.2.1
  rw [hcls] at hown
  refine vx_throw0 (own := RX12) (cls := NS) (names := thN) (ik := 129) (ic := 131) (A := va_A rw s.heap.size) F.1 F.2.1 hl hown (by decide +kernel) (by decide +kernel) (F.2.2.2.2.1 _ th_k.1 th_k.2) (F.2.2.2.2.1 _ th_i.1 th_i.2)
    (vx_hat (B := thX) (fun w hw => F.2.2.2.2.1 w (th_good w hw) (List.mem_filter.mp hw).2) th_bad (fun w hw => va_tabs (thX_tabs w hw) rfl (K1.2.2 w hw))) th_ot K1.1 K1.2.1 hQ.2.2.2.2.1 (hsz.trans F.2.2.1.symm) d0 d3 d4 d7 (fun x hx => (hno x hx).elim)
    (by show 2 + 3 < _; omega) (by show 0 + (13 * (2 + 1) + 42) ≤ _; omega) (by omega) (by omega) F.2.2.2.2.2.2.1 ?_ hQ.2.2.2.2.1.2.2 (by omega) (by omega)
  intro t hal hsz2 hq
  refine ⟨rfl, ⟨rw', tys', hQ.1, hQ.2.1.kept (fun k q hk => hq _ (vx_lt hQ.2.1 hk)), va_K.moved hal hQ.2.2.1, hQ.2.2.2.1, hQ.2.2.2.2.2.2.2⟩, Nat.le_trans hQ.2.2.2.2.1.1 hsz2, fun q h1 h2 => ?_⟩
  rw [hq q (Nat.lt_of_lt_of_le h1 hQ.2.2.2.2.1.1)]
  exact hQ.2.2.2.2.1.2.1 q h1 h2
theorem zMx_of {l : Launch} {b nX : Nat} {xs : Nat → Int32} {dC : Nat → ClassId} {dI : Nat → Nat → Nat} (hl : l.stackTraces = false) {n : Nat} (S : SIMP l b nX xs dC dI n) (pp : Nat) (hM : pp = 7 ∨ pp = 48) (d1 : Nat) (hd1 : 1 ≤ d1) (av : List vV) (w : vW) (f : Nat) (r : Int) (w1 : vW) (hf0 : f ≠ 0) (h : vrun n d1 pp 0 (vent (vnl pp) av) [] w = some (f, r, w1)) : zMx l b nX xs dC dI pp d1 av w w1 := by
  intro rw tys as sz hS hW hbs hne hfit
  have hp : pp < 297 := by omega
  have hH := ch_all pp hp
  obtain ⟨k1, k2, -, -, -, k6, k7, -, k9, -⟩ := ckH_inv hH
  have hmo := vrun_mono _ _ _ _ _ _ _ _ h
  have hmo' : vec w ≤ vec w1 ∧ ves w ≤ ves w1 := hmo
  refine vx_ofW (cc := mB pp) (maxL := vnl pp) (ret := mR pp) k6 rfl ?_
  intro p e s m args below meth c s₁ B hml hno hv
  obtain ⟨rfl, ⟨hsz, hP, hK, hD0, hK0, hX⟩, hK1⟩ := hv
  subst hsz
  have hts := atoms_spec (ws := wsm pp) B.pre
  have hts2 : ∀ w ∈ lw_tbl, goodWord w = true → w.before as.toArray s = true := fun w h1 h2 => hts w (List.mem_cons_of_mem _ (wsT_mem.mpr ⟨h1, h2⟩))
  have F : zF b nX xs (va_A rw s.heap.size) pp p s m as.toArray meth c := by
    refine ⟨B.exec, B.bytes, hml, findClass_of_methodNamed B.named, hts2, hK0, B.notSynchronized, fun _ => name_M B.named B.method, hX, hbs, ?_, fun q hq => Or.inr hq, B.returns⟩
    rintro (⟨k, e, hk⟩ | hq)
    · exact hne k _ hk rfl
    · exact absurd hq (by omega)
  have hlen : (lg_sl as).length ≤ vnl pp := by rw [lg_sl_len hS]; exact hfit
  have hl9 := lv_entry as (n := vnl pp) hlen
  rw [lg_entry_eq]
  generalize (lg_sl as ++ List.replicate (vnl pp - (lg_sl as).length) Slot.unset).toArray = ls at hl9 ⊢
  have hL : zL b (vnl pp) rw (vent (vnl pp) av) ls := by
    refine ⟨hl9.1, hl9.2.1, fun i hi => ?_⟩
    obtain ⟨x, h1, h2⟩ := z_ent (List.replicate (vnl pp - (vflat av).length) (9, 0)) (fun i => vlg_pad _ i) hS hS.no9 0 i hi
    exact ⟨x, hl9.2.2 (i, x) (by rw [Nat.zero_add] at h1; exact h1), h2⟩
  refine S pp (by omega) p e _ s m as.toArray below meth c _ (va_A rw s.heap.size) (vec w) (ves w) rw d1 (f, r, w1) F (zTh_of hl hM F hK1 (by show 6 ≤ d1 + 6; omega) (by show 81 ≤ 80 * d1 + 80; omega) (by show vec w1 ≤ (vec w1 - vec w) + vec w; omega) (by show ves w1 ≤ (ves w1 - ves w) + ves w; omega) hno) (by show vec w1 ≤ (vec w1 - vec w) + vec w; omega) (by show ves w1 ≤ (ves w1 - ves w) + ves w; omega) (Nat.le_refl _) (Nat.le_refl _) (fun h => absurd h hf0) (fun n pc nx p2 q z hpg => absurd (no46 pp hp pc) (by rw [hpg]; exact fun h => h rfl)) (fun h => absurd h (by omega)) 0 _ [] w ls [] s.heap [] 0 0 rw tys h hL trivial ?_
  exact ⟨hW, hP, hK, hD0.self, va_S.rf, Nat.zero_add _, Nat.zero_add _, zpre.rf _⟩

/-! a call that may throw -/
theorem vclxr_inv {ih : Nat → Nat → Nat → List vV → List vV → vW → vR} {d M nx p q : Nat} {z : Int} {ls st : List vV} {w : vW} {res : Nat × Int × vW} (h : vclxr ih d M nx p q z ls st w = some res) : vclr ih d M nx p q z ls st w = some res ∨ (vcs (st.drop q) ≤ 8 ∧ vcs (st.take q) ≤ vnl p ∧ (st.take q).length = q ∧ ∃ (d1 f : Nat) (r : Int) (w1 : vW), d = d1 + 1 ∧ f ≠ 0 ∧ ih d1 p 0 (vent (vnl p) (st.take q).reverse) [] w = some (f, r, w1) ∧ ih d M (vhdl p) ls [(5, 0)] w1 = some res) := by
  match d, h with
  | d1 + 1, h =>
    unfold vclxr at h
    unfold vclr
    dsimp only at h ⊢
    cases hf : vfit p q st with
    | false => rw [hf] at h; cases h
    | true =>
      rw [hf, cond_true] at h
      simp only [cond_true]
      simp only [vfit, Bool.and_eq_true] at hf
      obtain ⟨⟨f1, f2⟩, f3⟩ := hf
      have f2 := Nat.le_of_ble_eq_true f2
      rw [vflat_len] at f2
      cases h3 : ih d1 p 0 (vent (vnl p) (st.take q).reverse) [] w with
      | none => rw [h3] at h; cases h
      | some u =>
        obtain ⟨f, r, w1⟩ := u
        rw [h3] at h
        dsimp only at h ⊢
        cases hb : Nat.beq f 0 with
        | true => rw [hb] at h; exact Or.inl h
        | false => rw [hb] at h; exact Or.inr ⟨Nat.le_of_ble_eq_true f1, f2, Nat.eq_of_beq_eq_true f3, d1, f, r, w1, rfl, (fun h0 => by rw [h0] at hb; cases hb), h3, h⟩
theorem vclx_inv {ih : Nat → Nat → Nat → List vV → List vV → vW → vR} {d M nx p q : Nat} {z : Int} {ls st : List vV} {w : vW} {res : Nat × Int × vW} (h : vclx ih d M nx p q z ls st w = some res) : vcl ih d M nx p q z ls st w = some res ∨ ((vrk p = 0 ∨ ((vlg st (q - 1)).1 = 2 ∧ vkd w (vlg st (q - 1)).2 = vrk p)) ∧ vcs (st.drop q) ≤ 8 ∧ vcs (st.take q) ≤ vnl p ∧ (st.take q).length = q ∧ ∃ (d1 f : Nat) (r : Int) (w1 : vW), d = d1 + 1 ∧ f ≠ 0 ∧ ih d1 p 0 (vent (vnl p) (st.take q).reverse) [] w = some (f, r, w1) ∧ ih d M (vhdl p) ls [(5, 0)] w1 = some res) := by
  unfold vclx vrec at h
  unfold vcl vrec
  cases hb : Nat.beq (vrk p) 0 with
  | true =>
    rw [hb, cond_true] at h
    simp only [cond_true]
    exact (vclxr_inv h).imp id (fun k => ⟨Or.inl (Nat.eq_of_beq_eq_true hb), k⟩)
  | false =>
    rw [hb, cond_false] at h
    simp only [cond_false]
    cases hb2 : Nat.beq (vlg st (q - 1)).1 2 with
    | false => rw [hb2] at h; cases h
    | true =>
      rw [hb2, cond_true] at h
      simp only [cond_true]
      obtain ⟨h1, h2⟩ := ite_inv h
      rw [if_pos h1]
      exact (vclxr_inv h2).imp id (fun k => ⟨Or.inr ⟨Nat.eq_of_beq_eq_true hb2, h1⟩, k⟩)
def hhT (M : Nat) : List (Nat × Nat × Nat × Nat) := if M = 297 then [(0, 9, 12, 13)] else [(0, 8, 11, 13)]
def wsh (M : Nat) : List Cond := .codeWith (mY M) (mB M) (vnl M) (mR M) (hhT M) :: wsT
theorem th_297 (pc : Nat) (h : (pg 297 pc).1 = 46) : pc = 5 := by
  rcases Nat.lt_or_ge pc 128 with hb | hb
  · have hd : ∀ pc < 128, (pg 297 pc).1 = 46 → pc = 5 := by decide +kernel
    exact hd pc hb h
  · exfalso
    have b1 : ∀ k, k ≤ 128 → Nat.blt pc k = false := fun k hk => by
      cases hc : Nat.blt pc k with
      | false => rfl
      | true => have := Nat.le_of_ble_eq_true hc; omega
    have b2 : ∀ k, k < 128 → Nat.beq pc k = false := fun k hk => by
      cases hc : Nat.beq pc k with
      | false => rfl
      | true => have := Nat.eq_of_beq_eq_true hc; omega
    have h : (pg_297 pc).1 = 46 := h
    unfold pg_297 at h
    simp [b1, b2] at h
theorem th_298 (pc : Nat) (h : (pg 298 pc).1 = 46) : pc = 4 := by
  rcases Nat.lt_or_ge pc 128 with hb | hb
  · have hd : ∀ pc < 128, (pg 298 pc).1 = 46 → pc = 4 := by decide +kernel
    exact hd pc hb h
  · exfalso
    have b1 : ∀ k, k ≤ 128 → Nat.blt pc k = false := fun k hk => by
      cases hc : Nat.blt pc k with
      | false => rfl
      | true => have := Nat.le_of_ble_eq_true hc; omega
    have b2 : ∀ k, k < 128 → Nat.beq pc k = false := fun k hk => by
      cases hc : Nat.beq pc k with
      | false => rfl
      | true => have := Nat.eq_of_beq_eq_true hc; omega
    have h : (pg_298 pc).1 = 46 := h
    unfold pg_298 at h
    simp [b1, b2] at h
theorem h46 {M pc nx pp q : Nat} {z : Int} (hM : M = 297 ∨ M = 298) (hpg : pg M pc = (46, nx, pp, q, z)) : ∃ (idx : Nat) (x : ExceptionTableEntry), nx = pc + 3 ∧ (pp = 7 ∨ pp = 48) ∧ q = mP pp + 1 ∧ mS pp = false ∧ ¬ ((mY pp).name == "<init>") = true ∧ z = ((bif Nat.beq (rtg (mR pp)) 3 then 0 else rtg (mR pp) : Nat) : Int) ∧ decode (mB M) pc = .ok (.invokevirtual idx, 3) ∧ (.methodLink (mY M).cls idx (mY pp) ∈ lw_tbl ∧ goodWord (.methodLink (mY M).cls idx (mY pp)) = true) ∧
    tableOf (hhT M) = [x] ∧ covers x pc = true ∧ x.catchType ≠ 0 ∧ (Cond.classLink (mY M).cls x.catchType NS ∈ lw_tbl ∧ goodWord (Cond.classLink (mY M).cls x.catchType NS) = true) ∧ x.handlerPc = vhdl pp := by
  rcases hM with rfl | rfl
  · obtain rfl := th_297 pc (by rw [hpg])
    have h9 : pg 297 5 = (46, 8, 7, 3, 1) := rfl
    rw [h9] at hpg
    cases hpg
    exact ⟨7, ⟨0, 9, 12, 13⟩, rfl, Or.inl rfl, by decide +kernel, by decide +kernel, by decide +kernel, by decide +kernel, by decide +kernel, ⟨by decide +kernel, by decide +kernel⟩, rfl, by decide +kernel, by decide, ⟨by decide +kernel, by decide +kernel⟩, by decide +kernel⟩
  · obtain rfl := th_298 pc (by rw [hpg])
    have h9 : pg 298 4 = (46, 7, 48, 2, 1) := rfl
    rw [h9] at hpg
    cases hpg
    exact ⟨15, ⟨0, 8, 11, 13⟩, rfl, Or.inr rfl, by decide +kernel, by decide +kernel, by decide +kernel, by decide +kernel, by decide +kernel, ⟨by decide +kernel, by decide +kernel⟩, rfl, by decide +kernel, by decide, ⟨by decide +kernel, by decide +kernel⟩, by decide +kernel⟩
section CATCH
variable {p : Program} {l : Launch} {e : Env} {R : Room} {s : State} {m : MethodId} {args : Array Value} {below : List Frame} {meth : Method} {c : Code} {H : Heap} {locs : List Loc} {cells slots : Nat} {Q : State → Prop}
variable {n d M : Nat} {res : Nat × Int × vW} {b nX : Nat} {xs : Nat → Int32} {dC : Nat → ClassId} {dI : Nat → Nat → Nat} {A : Nat → Prop} {c0 s0 : Nat} {rw0 rw : va_W} {tys : List (ClassId × FieldType)} {w : vW}
theorem z_inA (F : zF b nX xs A M p s m args meth c) (hQ : zQ b nX xs dC dI A c0 s0 rw0 s w H locs cells slots rw tys) : ∀ q : Nat, va_A rw H.size q → A q := fun q hq => hq.elim (fun ⟨k, e, hk⟩ => hQ.2.2.2.1.2 k _ hk) (fun hq => F.2.2.2.2.2.2.2.2.2.2.2.1 q (Nat.le_trans hQ.2.2.2.2.1.1 hq))
theorem z_preX {rw : va_W} {as : List Value} (F : zF b nX xs A M p s m args meth c) (K1 : zK1 A s s.heap) (hQ : zQ b nX xs dC dI A c0 s0 rw0 s w H locs cells slots rw tys) : ∀ U : State, U.heap = H → s.WarmedH U.vm → va_Pc as (zBx b nX xs dC dI rw tys H.size) as.toArray U := by
  intro U hU hW
  refine ⟨rfl, (z_pre (as := as) F hQ U hU hW).2, ?_⟩
  rw [hU]
  exact zK1.moved hW.alike ((K1.kept (fun a h1 h2 => hQ.2.2.2.2.1.2.1 a h1 h2)).narrow (z_inA F hQ))
theorem z46_of (hl : l.stackTraces = false) (S : SIMP l b nX xs dC dI n) (hM : M = 297 ∨ M = 298) (F : zF b nX xs A M p s m args meth c) (K1 : zK1 A s s.heap) (hT : c.exceptionTable.toList = tableOf (hhT M)) (hrc : vec res.2.2 ≤ R.cells + c0) (hrs : ves res.2.2 ≤ R.slots + s0) (hfr : d + 6 ≤ R.frames) (hlo : 80 * d + 80 ≤ R.locals) (hd2 : 2 ≤ d) {pc nx pp q : Nat} {z : Int} (hpg : pg M pc = (46, nx, pp, q, z)) : z46 n d M res b nX xs dC dI A c0 s0 rw0 p l e R s m args below meth c Q pc nx pp q z := by
  intro Ls St w ls st H locs cells slots rw tys h hL hS hQ Kn
  obtain ⟨idx, x, rfl, hpp, rfl, hs, hni, hz, hd, hwl, htb, hcov, hx0, hlk, hhp⟩ := h46 hM hpg
  have hp : pp < 297 := by omega
  have hH := ch_all pp hp
  rcases vclx_inv h with h | ⟨hrk, hcs, hfl, hlq, d1, f, r, w1, rfl, hf0, hrun, h⟩
  · exact z_callV (fun d1 av w r w1 hr => zMet_of S pp hp d1 av w r w1 hr) hH hs hni hwl rfl (ch7 pp hp) hz F Kn hL hS hQ hrc hrs hfr hlo hd h
  · obtain ⟨hbs, hne⟩ := z_side F hQ
    have hg := vrun_mono _ _ _ _ _ _ _ _ hrun
    have hg2 := vrun_mono _ _ _ _ _ _ _ _ h
    have hSt := (hS.take (mP pp + 1)).rev
    have hMx := zMx_of hl S pp hpp d1 (by omega) _ w f r w1 hf0 hrun rw tys _ H.size hSt hQ.1 hbs hne (by rw [vcs_rev]; exact hfl)
    have hc1 := hQ.2.2.2.2.2.1
    have hc2 := hQ.2.2.2.2.2.2.1
    have hg' : vec w ≤ vec w1 ∧ ves w ≤ ves w1 := hg
    have hg2' : vec w1 ≤ vec res.2.2 ∧ ves w1 ≤ ves res.2.2 := hg2
    have hcat := (hS.drop (mP pp + 1)).cat
    obtain ⟨ad, As, hAs, hAl, hrv, hst⟩ := z_recv hH hs hS hQ hlq hrk
    obtain ⟨k1, -, -, k4, k5, -, -, -, -, -⟩ := ckH_inv hH
    have hp1 := z_preX (as := (st.take (mP pp + 1)).reverse) F K1 hQ
    rw [hAs] at hMx hp1
    have hr := vx_runV (cells := cells) (slots := slots) (locs := locs) (below := below) (meth := meth) (e := e) (R := R) (C := (mY pp).cls) (b := ad) (As := As) (rest := st.drop (mP pp + 1)) (g := F0 m pc ls st) (n := mP pp) (nL := vnl M) ⟨F.1, F.2.1, F.2.2.1, F.2.2.2.1, z_wsT F⟩ hMx ⟨z_callB hH F (F.2.2.2.2.1 _ hwl.1 hwl.2) hfr hlo, F.2.2.2.2.1 _ (k4 hs).1 (k4 hs).2, F.2.2.2.2.1 _ (k5 hs hni).1 (k5 hs hni).2⟩ ⟨zBx.blind, hrv, hp1⟩ rfl hAl hL.1 (by rw [← hst, List.take_append_drop]) (lv_room (by omega)) hd ⟨by omega, by omega⟩
    intro T hT' X
    rcases hr T hT' X with ⟨v, st₀, t, T', L, h0, X', hLL, e1, e2, hF, stp⟩ | ⟨q9, st₀, t, T', L, E, ce, h0, X', hLL, e1, e2, ⟨rfl, ⟨rw', tys', hzw, hP, hK, hD, hpz⟩, hsz, hk⟩, hce, hcv, hcl, stp⟩
    · exact hF.elim
    · rw [h0] at hsz hk
      have hAA := z_inA F hQ
      have hal : t.vm.Alike s.vm := by rw [← e2]; exact X'.warmed.alike.symm
      have hQ1 : zQ b nX xs dC dI A c0 s0 rw0 s w1 T'.heap (locs ++ L) (cells + (vec w1 - vec w)) (slots + (ves w1 - ves w)) rw' tys' := by
        refine ⟨hzw, by rw [e1]; exact hP, va_K.moved hal hK, hD.weaken (fun k q _ hq => hAA q.1 hq), ⟨Nat.le_trans hQ.2.2.2.2.1.1 (by rw [e1]; exact hsz), fun q h1 h2 => ?_, fun q hq => ?_⟩, ?_, ?_, hQ.2.2.2.2.2.2.2.tr hpz⟩
        · rw [e1, hk q (Nat.lt_of_lt_of_le h1 hQ.2.2.2.2.1.1) (fun z => h2 (hAA q z))]
          exact hQ.2.2.2.2.1.2.1 q h1 h2
        · rcases List.mem_append.mp hq with h | h
          · exact hQ.2.2.2.2.1.2.2 q h
          · exact hAA _ (hLL q h)
        · omega
        · omega
      have key : W p l e R s m args below meth c T'.heap (locs ++ L) (cells + (vec w1 - vec w)) (slots + (ves w1 - ves w)) Q (F0 m x.handlerPc ls [.ref q9]) := by
        rw [hhp]
        exact Kn _ _ _ _ _ _ _ _ _ _ _ _ h (hL.up hpz) ⟨Or.inr (Or.inr (Or.inr ⟨rfl, q9, rfl⟩)), trivial⟩ hQ1
      obtain ⟨t2, a1, b1⟩ := vx_catch (pc := pc) (rest := st.drop (mP pp + 1)) (own := (mY M).cls) (name := NS) (E := NS) F.2.2.2.1 [] x [] (hT.trans htb) (fun z hz => nomatch hz) hcov hx0 (F.2.2.2.2.1 _ hlk.1 hlk.2) (va_tabs (u := s) (thX_tabs (.castable NS NS) (by simp [thX])) rfl (K1.2.2 _ (by simp [thX]))) (by rw [e1]; exact hce) hcv hcl key T' rfl X'
      exact ⟨t2, stp.trans a1, b1⟩
end CATCH
def zMh (l : Launch) (b nX : Nat) (xs : Nat → Int32) (dC : Nat → ClassId) (dI : Nat → Nat → Nat) (M d : Nat) (av : List vV) (w : vW) (r : Int) (w1 : vW) : Prop :=
  ∀ (rw : va_W) (tys : List (ClassId × FieldType)) (as : List Value) (sz : Nat), zS b rw av as → zW b nX xs w rw tys → b < sz → (∀ (k : Nat) (q : Nat × va_E), rw[k]? = some q → q.1 ≠ b) → vcs av ≤ vnl M →
    vx_Met l (mY M) (wsh M) { frames := d + 6, cells := vec w1 - vec w, slots := ves w1 - ves w, locals := 80 * d + 80 } (va_Pc as (zBx b nX xs dC dI rw tys sz)) (zPost b nX xs dC dI M r w1 rw sz) (fun _ _ _ => False) (vec w1 - vec w) (ves w1 - ves w) (va_A rw sz)
theorem h_w {M : Nat} (hM : M = 297 ∨ M = 298) : (.codeWith (mY M) (mB M) (vnl M) (mR M) (hhT M) ∈ lw_tbl ∧ goodWord (.codeWith (mY M) (mB M) (vnl M) (mR M) (hhT M)) = true) ∧ (.initialized (mY M).cls ∈ lw_tbl ∧ goodWord (.initialized (mY M).cls) = true) ∧ (.static (mY M) ∈ lw_tbl ∧ goodWord (.static (mY M)) = true) ∧ plainName (mY M).cls = true ∧ ((mY M).cls ≠ "java/lang/invoke/MethodHandle" ∧ (mY M).cls ≠ "java/lang/invoke/VarHandle") ∧ (parseMethodDescriptor (mY M).desc).map (fun d => d.parameters.length) = some (if M = 297 then 4 else 3) ∧ vnl M ≤ 40 ∧ (rtg (mR M) ≤ 3 ∨ rtg (mR M) = 9) := by
  rcases hM with rfl | rfl
  · exact ⟨⟨by decide +kernel, by decide +kernel⟩, ⟨by decide +kernel, by decide +kernel⟩, ⟨by decide +kernel, by decide +kernel⟩, by decide +kernel, by decide +kernel, by decide +kernel, by decide +kernel, by decide +kernel⟩
  · exact ⟨⟨by decide +kernel, by decide +kernel⟩, ⟨by decide +kernel, by decide +kernel⟩, ⟨by decide +kernel, by decide +kernel⟩, by decide +kernel, by decide +kernel, by decide +kernel, by decide +kernel, by decide +kernel⟩
theorem zMh_of {l : Launch} {b nX : Nat} {xs : Nat → Int32} {dC : Nat → ClassId} {dI : Nat → Nat → Nat} (hl : l.stackTraces = false) (S : ∀ n, SIMP l b nX xs dC dI n) {n : Nat} (pp : Nat) (hM : pp = 297 ∨ pp = 298) (d1 : Nat) (hd1 : 2 ≤ d1) (av : List vV) (w : vW) (r : Int) (w1 : vW) (h : vrun n d1 pp 0 (vent (vnl pp) av) [] w = some (0, r, w1)) : zMh l b nX xs dC dI pp d1 av w r w1 := by
  intro rw tys as sz hS hW hbs hne hfit
  obtain ⟨k1, k2, -, k6, k7, -, k9, -⟩ := h_w hM
  have hmo := vrun_mono _ _ _ _ _ _ _ _ h
  have hmo' : vec w ≤ vec w1 ∧ ves w ≤ ves w1 := hmo
  refine vx_ofWH (cc := mB pp) (maxL := vnl pp) (ret := mR pp) (hh := hhT pp) k6 rfl ?_
  intro p e s m args below meth c s₁ B hml hv
  obtain ⟨rfl, ⟨hsz, hP, hK, hD0, hK0, hX⟩, hK1⟩ := hv
  subst hsz
  have hts := atoms_spec (ws := wsh pp) B.pre
  have hts2 : ∀ w ∈ lw_tbl, goodWord w = true → w.before as.toArray s = true := fun w h1 h2 => hts w (List.mem_cons_of_mem _ (wsT_mem.mpr ⟨h1, h2⟩))
  have hT := vx_table (x := mY pp) B (hts _ List.mem_cons_self)
  have F : zF b nX xs (va_A rw s.heap.size) pp p s m as.toArray meth c := by
    refine ⟨B.exec, B.bytes, hml, findClass_of_methodNamed B.named, hts2, hK0, B.notSynchronized, fun _ => name_M B.named B.method, hX, hbs, ?_, fun q hq => Or.inr hq, B.returns⟩
    rintro (⟨k, e, hk⟩ | hq)
    · exact hne k _ hk rfl
    · exact absurd hq (by omega)
  have hlen : (lg_sl as).length ≤ vnl pp := by rw [lg_sl_len hS]; exact hfit
  have hl9 := lv_entry as (n := vnl pp) hlen
  rw [lg_entry_eq]
  generalize (lg_sl as ++ List.replicate (vnl pp - (lg_sl as).length) Slot.unset).toArray = ls at hl9 ⊢
  have hL : zL b (vnl pp) rw (vent (vnl pp) av) ls := by
    refine ⟨hl9.1, hl9.2.1, fun i hi => ?_⟩
    obtain ⟨x, h1, h2⟩ := z_ent (List.replicate (vnl pp - (vflat av).length) (9, 0)) (fun i => vlg_pad _ i) hS hS.no9 0 i hi
    exact ⟨x, hl9.2.2 (i, x) (by rw [Nat.zero_add] at h1; exact h1), h2⟩
  refine S n pp (by omega) p e _ s m as.toArray below meth c _ (va_A rw s.heap.size) (vec w) (ves w) rw d1 (0, r, w1) F (fun _ _ _ _ _ _ _ _ _ _ _ _ _ _ h => absurd (congrArg Prod.fst h) (show ¬ (0 = 1) by decide)) (by show vec w1 ≤ (vec w1 - vec w) + vec w; omega) (by show ves w1 ≤ (ves w1 - ves w) + ves w; omega) (Nat.le_refl _) (Nat.le_refl _) (fun _ => fun pc ls st H locs cells slots rw' tys' i hd hQ hc => vx_ret (zEn_MQ F pc ls st H locs cells slots rw' tys' i hd hQ hc)) (fun n2 pc nx p2 q z hpg => z46_of hl (S n2) hM F hK1 hT (by show vec w1 ≤ (vec w1 - vec w) + vec w; omega) (by show ves w1 ≤ (ves w1 - ves w) + ves w; omega) (Nat.le_refl _) (Nat.le_refl _) hd1 hpg) (fun h => absurd h (by omega)) 0 _ [] w ls [] s.heap [] 0 0 rw tys h hL trivial ?_
  exact ⟨hW, hP, hK, hD0.self, va_S.rf, Nat.zero_add _, Nat.zero_add _, zpre.rf _⟩
theorem sp40 {pc k : Nat} {A B : vI} (h : Nat.blt pc k = false) (hB : B.1 ≠ 40) : (bif Nat.blt pc k then A else B).1 ≠ 40 := by rw [h]; exact hB
theorem sq40 {pc k : Nat} {A B : vI} (h : Nat.beq pc k = false) (hB : B.1 ≠ 40) : (bif Nat.beq pc k then A else B).1 ≠ 40 := by rw [h]; exact hB
theorem th_299 {pc nx pp q : Nat} {z : Int} (h : pg 299 pc = (40, nx, pp, q, z)) (hp : 297 ≤ pp) : (pp = 297 ∧ q = 4 ∧ z = 0) ∨ (pp = 298 ∧ q = 3 ∧ z = 0) := by
  rcases Nat.lt_or_ge pc 2048 with hb | hb
  · have hd : ∀ pc < 2048, (pg 299 pc).1 = 40 → 297 ≤ (pg 299 pc).2.2.1 → ((pg 299 pc).2.2.1 = 297 ∧ (pg 299 pc).2.2.2.1 = 4 ∧ (pg 299 pc).2.2.2.2 = 0) ∨ ((pg 299 pc).2.2.1 = 298 ∧ (pg 299 pc).2.2.2.1 = 3 ∧ (pg 299 pc).2.2.2.2 = 0) := by decide +kernel
    have h9 := hd pc hb (by rw [h]) (by rw [h]; exact hp)
    rw [h] at h9
    exact h9
  · exfalso
    have b1 : ∀ k, k ≤ 2048 → Nat.blt pc k = false := fun k hk => by
      cases hc : Nat.blt pc k with
      | false => rfl
      | true => have := Nat.le_of_ble_eq_true hc; omega
    have b2 : ∀ k, k < 2048 → Nat.beq pc k = false := fun k hk => by
      cases hc : Nat.beq pc k with
      | false => rfl
      | true => have := Nat.eq_of_beq_eq_true hc; omega
    have h1 : (pg_299 pc).1 = 40 := congrArg Prod.fst h
    revert h1
    unfold pg_299
    repeat (first | refine sp40 (b1 _ (by decide)) ?_ | refine sq40 (b2 _ (by decide)) ?_)
    decide
section LAWS
variable {p : Program} {l : Launch} {e : Env} {R : Room} {s : State} {m : MethodId} {args : Array Value} {below : List Frame} {meth : Method} {c : Code} {H : Heap} {locs : List Loc} {cells slots : Nat} {Q : State → Prop}
variable {n d M : Nat} {res : Nat × Int × vW} {b nX : Nat} {xs : Nat → Int32} {dC : Nat → ClassId} {dI : Nat → Nat → Nat} {A : Nat → Prop} {c0 s0 : Nat} {rw0 rw : va_W} {tys : List (ClassId × FieldType)} {w : vW}
theorem z_lawS (hl : l.stackTraces = false) (S : ∀ n, SIMP l b nX xs dC dI n) (F : zF b nX xs A 299 p s m args meth c) (K1 : zK1 A s s.heap) (hrc : vec res.2.2 ≤ R.cells + c0) (hrs : ves res.2.2 ≤ R.slots + s0) (hfr : d + 6 ≤ R.frames) (hlo : 80 * d + 80 ≤ R.locals) (hd3 : 3 ≤ d) (hlk : ∀ (pc idx pp q : Nat) (z : Int), 297 ≤ pp → pg 299 pc = (40, pc + 3, pp, q, z) → decode (mB 299) pc = .ok (.invokestatic idx, 3) → (Cond.methodLink (mY 299).cls idx (mY pp)).before args s = true) :
    ∀ (pc idx pp q : Nat) (z : Int) (Ls St : List vV) (w : vW) (ls : Array Slot) (st : List Value) (H : Heap) (locs : List Loc) (cells slots : Nat) (rw : va_W) (tys : List (ClassId × FieldType)) (n : Nat), 297 ≤ pp → pg 299 pc = (40, pc + 3, pp, q, z) → decode (mB 299) pc = .ok (.invokestatic idx, 3) → vcl (vrun n) d 299 (pc + 3) pp q z Ls St w = some res → zL b (vnl 299) rw Ls ls → zS b rw St st → zQ b nX xs dC dI A c0 s0 rw0 s w H locs cells slots rw tys → zKn n d 299 res b nX xs dC dI A c0 s0 rw0 p l e R s m args below meth c Q → W p l e R s m args below meth c H locs cells slots Q (F0 m pc ls st) := by
  intro pc idx pp q z Ls St w ls st H locs cells slots rw tys n hpp hpg hd h hL hS hQ Kn
  have hML := hlk pc idx pp q z hpp hpg hd
  have h9 := th_299 hpg hpp
  have hM : pp = 297 ∨ pp = 298 := h9.imp (fun h => h.1) (fun h => h.1)
  have hq : q = if pp = 297 then 4 else 3 := by rcases h9 with ⟨rfl, rfl, -⟩ | ⟨rfl, rfl, -⟩ <;> rfl
  have hz : z = ((bif Nat.beq (rtg (mR pp)) 3 then 0 else rtg (mR pp) : Nat) : Int) := by rcases h9 with ⟨rfl, -, rfl⟩ | ⟨rfl, -, rfl⟩ <;> decide +kernel
  obtain ⟨k1, k2, k3, k4, k5, k6, k7, k8⟩ := h_w hM
  obtain ⟨-, hcs, hfl, hlq, d1, r, w1, rfl, hrun, h⟩ := vcl_inv h
  obtain ⟨hbs, hne⟩ := z_side F hQ
  have hg := vrun_mono _ _ _ _ _ _ _ _ hrun
  have hg2 := vrun_mono _ _ _ _ _ _ _ _ h
  have hSt := (hS.take q).rev
  have hMh := zMh_of hl S pp hM d1 (by omega) _ w r w1 hrun rw tys _ H.size hSt hQ.1 hbs hne (by rw [vcs_rev]; exact hfl)
  have hc1 := hQ.2.2.2.2.2.1
  have hc2 := hQ.2.2.2.2.2.2.1
  have hg' : vec w ≤ vec w1 ∧ ves w ≤ ves w1 := hg
  have hg2' : vec w1 ≤ vec res.2.2 ∧ ves w1 ≤ ves res.2.2 := hg2
  have hcat := (hS.drop q).cat
  have hts := F.2.2.2.2.1
  have cw : vx_CSW R s args (mY 299).cls idx (mY pp) (mB pp) (vnl pp) (mR pp) (hhT pp) (wsh pp) { frames := d1 + 6, cells := vec w1 - vec w, slots := ves w1 - ves w, locals := 80 * d1 + 80 } (vec w1 - vec w) (ves w1 - ves w) (if pp = 297 then 4 else 3) := by
    refine ⟨⟨rfl, rfl, by show d1 + 6 + 1 ≤ _; omega, by show 8 + (vnl pp + 11) + (80 * d1 + 80) ≤ _; omega, ?_, List.mem_cons_self⟩, hts _ k1.1 k1.2, hts _ k2.1 k2.2, k5, fun sig hsig => ?_, hML, hts _ k3.1 k3.2⟩
    · intro w hw
      have hg : w ∈ lw_tbl ∧ goodWord w = true := by
        rcases List.mem_cons.mp hw with rfl | hw
        · exact k1
        · exact wsT_mem.mp hw
      intro a' U hW
      exact word_at hW (good_of_word hg.2) (hts _ hg.1 hg.2)
    · rw [hsig] at k6
      exact (Option.some.inj k6).symm
  have hr := vx_runSX (cells := cells) (slots := slots) (locs := locs) (below := below) (meth := meth) (e := e) (R := R) (As := (st.take q).reverse) (rest := st.drop q) (g := F0 m pc ls st) (nL := vnl 299) ⟨F.1, F.2.1, F.2.2.1, F.2.2.2.1, z_wsT F⟩ hMh cw ⟨zBx.blind, z_preX F K1 hQ⟩ rfl (by rw [List.length_reverse, ← (hS.take q).len, hlq, hq]) hL.1 (by rw [List.reverse_reverse, List.take_append_drop]) (lv_room (by omega)) hd ⟨by omega, by omega⟩
  have hr2 : va_Run p l e R s m args below meth c H locs cells slots (vec w1 - vec w) (ves w1 - ves w) (F0 m pc ls st) (st.drop q) (zPost b nX xs dC dI pp r w1 rw H.size (st.take q).reverse.toArray) (va_A rw H.size) := by
    intro T hT X
    rcases hr T hT X with h | ⟨q9, st₀, t, T', L, E, ce, h0, X', hLL, e1, e2, hF, -⟩
    · exact h
    · exact hF.elim
  exact z_cont F Kn hL hS hQ hg'.1 hg'.2 hz k8 hr2 (hS.drop q) h
end LAWS
