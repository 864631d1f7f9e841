/-! the law's start out of a run of V -/
theorem arr0 {args : Array Value} {s : State} {ty : FieldType} (hty : ty = .int ∨ ty = .long) (h : (Cond.arrayClass ty).before args s = true) : ∃ cA : ClassId, ArrOfT s cA ty ∧ va_RA s cA ty := by
  obtain ⟨cA, kA, comp, h1, h2, h3⟩ := Cond.arrayClass_spec h
  refine ⟨cA, fun n z => ⟨fun k h => (by cases h), kA, h2, comp, h3⟩, ?_⟩
  rcases hty with rfl | rfl <;> exact h1
theorem inst0 : ∀ r ∈ vwCl, Cond.instantiable r.1 r.2.2 ∈ lw_tbl := by
  intro r hr
  simp only [vwCl, List.mem_cons, List.not_mem_nil, or_false] at hr
  rcases hr with rfl | rfl | rfl | rfl | rfl | rfl | rfl | rfl | rfl | rfl | rfl | rfl | rfl <;> decide +kernel
theorem cls0 {args : Array Value} {s : State} (hts : ∀ w ∈ lw_tbl, w.before args s = true) : ∃ (dC : Nat → ClassId) (dI : Nat → Nat → Nat), ∀ (c : Nat) (q : vw_C), vwCl[c]? = some q → u_Kn s q.1 q.2.1 q.2.2 (dC c) (dI c) := by
  have h : ∀ c : Nat, ∃ x : ClassId × (Nat → Nat), ∀ q : vw_C, vwCl[c]? = some q → u_Kn s q.1 q.2.1 q.2.2 x.1 x.2 := by
    intro c
    cases hc : vwCl[c]? with
    | none => exact ⟨(0, fun _ => 0), fun q hq => by cases hq⟩
    | some q =>
      obtain ⟨cC, iS, hk⟩ := u_known (ws := lw_tbl) (C := q.1) (T := q.2.1) (N := q.2.2) hts (fun w hw => ((zcl_all c q hc).1 w hw).1) (hts _ (inst0 q (List.mem_of_getElem? hc)))
      exact ⟨(cC, iS), fun q' hq' => by cases hq'; exact hk⟩
  refine ⟨fun c => (Classical.choose (h c)).1, fun c => (Classical.choose (h c)).2, fun c q hq => Classical.choose_spec (h c) q hq⟩
def vw0 (L : Nat) (xs : Nat → Int32) : vW := (fun a => if a = -2 then (99, (L : Int), fun j => (xs j.toNat).toInt) else (0, 0, fun _ => 0), 0, 0, 0)
theorem nest_tabs : ∀ w ∈ nestW, w.onTables = true ∧ w ∈ lw_tbl := by
  intro w hw
  have h : nestW.all (fun w => w.onTables && decide (w ∈ lw_tbl)) = true := by decide +kernel
  have h2 := List.all_eq_true.mp h w hw
  simp only [Bool.and_eq_true, decide_eq_true_eq] at h2
  exact h2
theorem thX_in : ∀ w ∈ thX, w ∈ lw_tbl := by
  intro w hw
  have h : thX.all (fun w => decide (w ∈ lw_tbl)) = true := by decide +kernel
  exact of_decide_eq_true (List.all_eq_true.mp h w hw)
theorem pc_299 {pc nx pp q : Nat} {z : Int} (h : pg 299 pc = (40, nx, pp, q, z)) (hp : 297 ≤ pp) : (pc = 371 ∧ pp = 297) ∨ (pc = 1716 ∧ pp = 298) := by
  rcases Nat.lt_or_ge pc 2048 with hb | hb
  · have hd : ∀ pc < 2048, (pg 299 pc).1 = 40 → 297 ≤ (pg 299 pc).2.2.1 → (pc = 371 ∧ (pg 299 pc).2.2.1 = 297) ∨ (pc = 1716 ∧ (pg 299 pc).2.2.1 = 298) := by decide +kernel
    have h9 := hd pc hb (by rw [h]) (by rw [h]; exact hp)
    rw [h] at h9
    exact h9
  · exfalso
    have b1 : ∀ k, k ≤ 2048 → Nat.blt pc k = false := fun k hk => by
      cases hc : Nat.blt pc k with
      | false => rfl
      | true => have := Nat.le_of_ble_eq_true hc; omega
    have b2 : ∀ k, k < 2048 → Nat.beq pc k = false := fun k hk => by
      cases hc : Nat.beq pc k with
      | false => rfl
      | true => have := Nat.eq_of_beq_eq_true hc; omega
    have h1 : (pg_299 pc).1 = 40 := congrArg Prod.fst h
    revert h1
    unfold pg_299
    repeat (first | refine sp40 (b1 _ (by decide)) ?_ | refine sq40 (b2 _ (by decide)) ?_)
    decide
theorem dec_371 : decode (mB 299) 371 = .ok (.invokestatic 49, 3) := by decide +kernel
theorem dec_1716 : decode (mB 299) 1716 = .ok (.invokestatic 208, 3) := by decide +kernel
theorem lnk_371 : Cond.methodLink (mY 299).cls 49 (mY 297) ∈ lw_tbl := by decide +kernel
theorem lnk_1716 : Cond.methodLink (mY 299).cls 208 (mY 298) ∈ lw_tbl := by decide +kernel
theorem link0 {pc idx pp q : Nat} {z : Int} (hpp : 297 ≤ pp) (hpg : pg 299 pc = (40, pc + 3, pp, q, z)) (hd : decode (mB 299) pc = .ok (.invokestatic idx, 3)) : Cond.methodLink (mY 299).cls idx (mY pp) ∈ lw_tbl := by
  rcases pc_299 hpg hpp with ⟨rfl, rfl⟩ | ⟨rfl, rfl⟩
  · rw [dec_371] at hd
    cases hd
    exact lnk_371
  · rw [dec_1716] at hd
    cases hd
    exact lnk_1716
theorem no46_299 (pc : Nat) : (pg 299 pc).1 ≠ 46 := by
  intro h46
  have C := ck_299 pc
  unfold ckI at C
  generalize pg 299 pc = pgt at h46 C
  obtain ⟨op, nx, pp, q, z⟩ := pgt
  dsimp only at h46 C
  subst h46
  rw [Bool.or_eq_true] at C
  rcases C with C | C
  · exact absurd (Nat.eq_of_beq_eq_true C) (by decide)
  · cases hd : decode (mB 299) pc with
    | error er => rw [hd] at C; cases C
    | ok il =>
      obtain ⟨i, ln⟩ := il
      rw [hd] at C
      cases i <;> simp [ckO, ckl, ckb] at C
theorem whole_startV {p : Program} {e : Env} {s : State} {m : MethodId} {below : List Frame} {meth : Method} {c : Code} (l : Launch) (hflags : l.flags = flags0) {b L : Nat} {xs : Nat → Int32} (hL : L ≤ 6) (C0 : lw_At p s m meth c b L xs) (n d : Nat) (hd3 : 3 ≤ d) (hd1 : d ≤ 1000) (w1 : vW) (h : vrun n d 299 0 (vent (vnl 299) [(2, -2)]) [] (vw0 L xs) = some (0, 1, w1)) (hc : vec w1 ≤ 600002) (hs : ves w1 ≤ 7302232) : W p l e room_1 s m #[Value.ref b] below meth c s.heap [] 0 0 (lw_Z below #[Value.ref b] s) (entryFrame m ([Value.ref b] : List Value).toArray 8) := by
  obtain ⟨hx, hcode, hret, hml, hown, hts, hX, hbl, hlocks, hgv⟩ := C0
  obtain ⟨dC, dI, hcls⟩ := cls0 hts
  obtain ⟨cI, hI1, hI2⟩ := arr0 (Or.inl rfl) (hts (.arrayClass .int) (by decide +kernel))
  obtain ⟨cJ, hJ1, hJ2⟩ := arr0 (Or.inr rfl) (hts (.arrayClass .long) (by decide +kernel))
  have hg := flat_of_before _ hgv
  have hl : l.stackTraces = false := by
    unfold Launch.stackTraces
    rw [hflags]
    decide
  have hK0 : zK0 s := ⟨fun w hw => va_tabs (u := s) (nest_tabs w hw).1 rfl (hts w (nest_tabs w hw).2), (show (Cond.arrayOver (.object RX2)).before #[] s = true from hts (.arrayOver (.object RX2)) (by decide +kernel)), (show (Cond.arrayOver (.object RX3)).before #[] s = true from hts (.arrayOver (.object RX3)) (by decide +kernel)), (show (Cond.arrayOver (.array .int)).before #[] s = true from hts (.arrayOver (.array .int)) (by decide +kernel)), (show (Cond.arrayOver (.array .long)).before #[] s = true from hts (.arrayOver (.array .long)) (by decide +kernel))⟩
  have hnA : ∀ a : Nat, a < s.heap.size → ¬ va_A [] s.heap.size a := by
    rintro a ha (⟨k, e, hk⟩ | hq)
    · cases hk
    · omega
  have F : zF b L xs (va_A [] s.heap.size) 299 p s m #[Value.ref b] meth c :=
    ⟨hx, hcode.trans (show code = mB 299 from rfl), hml, hown, fun w hw _ => hts w hw, hK0, hlocks, fun h => absurd h (by decide +kernel), hX, hbl, hnA b hbl, fun q hq => Or.inr hq, hret.trans (by decide +kernel)⟩
  have K1 : zK1 (va_A [] s.heap.size) s s.heap := by
    refine ⟨vx_Zqof (hts _ (by decide +kernel)) (hts _ (by decide +kernel)) (hg _ (by decide +kernel)) hnA, vx_Zqof (hts _ (by decide +kernel)) (hts _ (by decide +kernel)) (hg _ (by decide +kernel)) hnA, fun w hw => va_tabs (u := s) (thX_tabs w hw) rfl (hts w (thX_in w hw))⟩
  have hfr : d + 6 ≤ room_1.frames := by show d + 6 ≤ 2048; omega
  have hlo : 80 * d + 80 ≤ room_1.locals := by show 80 * d + 80 ≤ 84000; omega
  have hrc : vec (0, (1 : Int), w1).2.2 ≤ room_1.cells + 0 := hc
  have hrs : ves (0, (1 : Int), w1).2.2 ≤ room_1.slots + 0 := hs
  have S : ∀ n, SIMP l b L xs dC dI n := fun n => z_sim (by omega) n
  have hlen : (lg_sl [Value.ref b]).length ≤ 8 := by show 1 ≤ 8; omega
  have hl9 := lv_entry [Value.ref b] (n := 8) hlen
  rw [lg_entry_eq]
  generalize (lg_sl [Value.ref b] ++ List.replicate (8 - (lg_sl [Value.ref b]).length) Slot.unset).toArray = ls at hl9 ⊢
  have hS : zS b [] [(2, -2)] [Value.ref b] := ⟨Or.inr (Or.inr (Or.inl ⟨rfl, Or.inr (Or.inl ⟨rfl, rfl⟩)⟩)), trivial⟩
  have hLz : zL b (vnl 299) [] (vent (vnl 299) [(2, -2)]) ls := by
    refine ⟨hl9.1, hl9.2.1, fun i hi => ?_⟩
    obtain ⟨x, h1, h2⟩ := z_ent (List.replicate (vnl 299 - (vflat [(2, -2)]).length) (9, 0)) (fun i => vlg_pad _ i) hS hS.no9 0 i hi
    exact ⟨x, hl9.2.2 (i, x) (by rw [Nat.zero_add] at h1; exact h1), h2⟩
  refine S n 299 (by omega) p e room_1 s m #[Value.ref b] below meth c _ (va_A [] s.heap.size) 0 0 [] d (0, 1, w1) F (fun _ _ _ _ _ _ _ _ _ _ _ _ _ _ h => absurd (congrArg Prod.fst h) (show ¬ (0 = 1) by decide)) hrc hrs hfr hlo (fun _ => ?_) (fun n pc nx p2 q z hpg => ?_) (fun _ => z_lawS hl S F K1 hrc hrs hfr hlo hd3 (fun pc idx pp q z h1 h2 h3 => hts _ (link0 h1 h2 h3))) 0 _ [] (vw0 L xs) ls [] s.heap [] 0 0 [] [(cI, .int), (cJ, .long)] h hLz trivial ?_
  · intro pc ls st H locs cells slots rw tys i hd hQ hcase
    have h3 : rtg (mR 299) = 3 := by decide +kernel
    rcases hcase with ⟨-, h9, -⟩ | ⟨x, rfl, hx2, hcase⟩
    · rw [h3] at h9; cases h9
    · rw [h3] at hx2 hcase
      obtain ⟨i1, rfl, hi1⟩ := zV.int hx2
      have e1 : i1 = 1 := Int32.toInt_inj.mp (hi1.symm.trans (show (1 : Int) = Int32.toInt 1 by decide))
      subst e1
      rcases hcase with ⟨rfl, -⟩ | ⟨-, h1⟩ | ⟨-, h1⟩
      · refine W.widen (k := 600002) (n := 7302232) (by have h1 := hQ.2.2.2.2.2.1; have h2 : vec (0, (1 : Int), w1).2.2 ≤ 600002 := hc; omega) (by have h1 := hQ.2.2.2.2.2.2.1; have h2 : ves (0, (1 : Int), w1).2.2 ≤ 7302232 := hs; omega) (va_forget (fun q hq => ?_) (lw_ret hx hcode hret hlocks hd))
        rcases hQ.2.2.2.2.1.2.2 q hq with ⟨k, e, hk⟩ | hq
        · cases hk
        · exact hq
      · cases h1
      · cases h1
  · exact absurd (congrArg Prod.fst hpg) (no46_299 pc)
  · refine ⟨⟨rfl, rfl, fun a ha => ?_, fun k q hk => (by cases hk), ⟨cI, rfl⟩, cJ, rfl⟩, fun k q hk => (by cases hk), ⟨hcls, fun k q hk => ?_⟩, ⟨fun i j p q hp => (by cases hp), fun k q hk => (by cases hk)⟩, va_S.rf, rfl, rfl, zpre.rf _⟩
    · by_cases h2 : a = -2
      · exact Or.inl h2
      · exact absurd (show vkd (vw0 L xs) a = 0 by show (if a = -2 then _ else _ : vC).1 = 0; rw [if_neg h2]) ha
    · match k, hk with
      | 0, hk => cases hk; exact ⟨hI1, hI2⟩
      | 1, hk => cases hk; exact ⟨hJ1, hJ2⟩
