/-! any run of V, method by method -/
/-- a call that may throw, done: the method goes on -/
def z46 (n d M : Nat) (res : Nat × Int × vW) (b nX : Nat) (xs : Nat → Int32) (dC : Nat → ClassId) (dI : Nat → Nat → Nat) (A : Nat → Prop) (c0 s0 : Nat) (rw0 : va_W) (p : Program) (l : Launch) (e : Env) (R : Room) (s : State) (m : MethodId) (args : Array Value) (below : List Frame) (meth : Method) (c : Code) (Q : State → Prop) (pc nx pp q : Nat) (z : Int) : Prop :=
  ∀ (Ls St : List vV) (w : vW) (ls : Array Slot) (st : List Value) (H : Heap) (locs : List Loc) (cells slots : Nat) (rw : va_W) (tys : List (ClassId × FieldType)), vclx (vrun n) d M nx pp q z Ls St w = some res → zL b (vnl M) rw Ls ls → zS b rw St st → zQ b nX xs dC dI A c0 s0 rw0 s w H locs cells slots rw tys → zKn n d M res b nX xs dC dI A c0 s0 rw0 p l e R s m args below meth c Q → W p l e R s m args below meth c H locs cells slots Q (F0 m pc ls st)
def SIMP (l : Launch) (b nX : Nat) (xs : Nat → Int32) (dC : Nat → ClassId) (dI : Nat → Nat → Nat) (n : Nat) : Prop :=
  ∀ (M : Nat), (M < 300) → ∀ (p : Program) (e : Env) (R : Room) (s : State) (m : MethodId) (args : Array Value) (below : List Frame) (meth : Method) (c : Code) (Q : State → Prop) (A : Nat → Prop) (c0 s0 : Nat) (rw0 : va_W) (d : Nat) (res : Nat × Int × vW),
    zF b nX xs A M p s m args meth c → zTh b nX xs dC dI A c0 s0 rw0 p l e R s m args below meth c Q M res → vec res.2.2 ≤ R.cells + c0 → ves res.2.2 ≤ R.slots + s0 → d + 6 ≤ R.frames → 80 * d + 80 ≤ R.locals → (res.1 = 0 → zEn b nX xs dC dI A c0 s0 rw0 p l e R s m args below meth c Q M res.2.1 res.2.2) → (∀ (n : Nat) (pc nx pp q : Nat) (z : Int), pg M pc = (46, nx, pp, q, z) → z46 n d M res b nX xs dC dI A c0 s0 rw0 p l e R s m args below meth c Q pc nx pp q z) →
    (M = 299 → ∀ (pc idx pp q : Nat) (z : Int) (Ls St : List vV) (w : vW) (ls : Array Slot) (st : List Value) (H : Heap) (locs : List Loc) (cells slots : Nat) (rw : va_W) (tys : List (ClassId × FieldType)) (n : Nat), 297 ≤ pp → pg M pc = (40, pc + 3, pp, q, z) → decode (mB M) pc = .ok (.invokestatic idx, 3) → vcl (vrun n) d M (pc + 3) pp q z Ls St w = some res → zL b (vnl M) rw Ls ls → zS b rw St st → zQ b nX xs dC dI A c0 s0 rw0 s w H locs cells slots rw tys → zKn n d M res b nX xs dC dI A c0 s0 rw0 p l e R s m args below meth c Q → W p l e R s m args below meth c H locs cells slots Q (F0 m pc ls st)) →
    zKn n d M res b nX xs dC dI A c0 s0 rw0 p l e R s m args below meth c Q
/-- only the law's own two methods catch -/
theorem no46 (M : Nat) (h : M < 297) (pc : Nat) : (pg M pc).1 ≠ 46 := by
  intro h46
  have C := ck_all M h pc
  unfold ckI at C
  generalize pg M pc = pgt at h46 C
  obtain ⟨op, nx, pp, q, z⟩ := pgt
  dsimp only at h46 C
  subst h46
  rw [Bool.or_eq_true] at C
  rcases C with C | C
  · exact absurd (Nat.eq_of_beq_eq_true C) (by decide)
  · cases hd : decode (mB M) pc with
    | error er => rw [hd] at C; cases C
    | ok il =>
      obtain ⟨i, ln⟩ := il
      rw [hd] at C
      cases i <;> simp [ckO, ckl, ckb] at C
theorem name_M {s : State} {M : Nat} {m : MethodId} {meth : Method} (h1 : s.methodNamed? (mY M) = some m) (h2 : s.vm.method? m = some meth) : meth.name = (mY M).name := (name_of_methodNamed h1 h2).1
theorem zEn_MQ {l : Launch} {b nX : Nat} {xs : Nat → Int32} {dC : Nat → ClassId} {dI : Nat → Nat → Nat} {M : Nat} {p : Program} {e : Env} {R : Room} {s : State} {m : MethodId} {args : Array Value} {below : List Frame} {meth : Method} {c : Code} {rw : va_W} {w w1 : vW} {r : Int}
    (F : zF b nX xs (va_A rw s.heap.size) M p s m args meth c) : zEn b nX xs dC dI (va_A rw s.heap.size) (vec w) (ves w) rw p l e R s m args below meth c (MQ below (zPost b nX xs dC dI M r w1 rw s.heap.size) args s (vec w1 - vec w) (ves w1 - ves w) (va_A rw s.heap.size)) M r w1 := by
  intro pc ls st H locs cells slots rw' tys' i hd hQ hcase
  have hcells : cells = vec w1 - vec w := by have := hQ.2.2.2.2.2.1; omega
  have hslots : slots = ves w1 - ves w := by have := hQ.2.2.2.2.2.2.1; omega
  subst hcells
  subst hslots
  have hlocks : meth.locks = false := F.2.2.2.2.2.2.1
  have hret := F.2.2.2.2.2.2.2.2.2.2.2.2
  have post : ∀ (v : Option Value), zRes b rw' M r v → ∀ t : State, t.heap = H → s.WarmedH t.vm → zPost b nX xs dC dI M r w1 rw s.heap.size args s (.returned v) t := fun v hv t ht hW =>
    ⟨⟨v, rw', tys', rfl, hv, hQ.1, by rw [ht]; exact hQ.2.1, va_K.moved hW.alike hQ.2.2.1, hQ.2.2.2.1, hQ.2.2.2.2.2.2.2⟩, hQ.2.2.2.2.1.F ht⟩
  rcases hcase with ⟨rfl, h9, rfl⟩ | ⟨x, rfl, hx, hcase⟩
  · have hr : meth.sig.returnType = none := by
      rw [hret]
      cases hm : mR M with
      | none => rfl
      | some t => rw [hm] at h9; cases t <;> exact absurd h9 (show ¬ (_ = 9) by unfold rtg; dsimp only; decide)
    exact W.vret F.1 F.2.1 hr (post none (Or.inl ⟨h9, rfl⟩)) hQ.2.2.2.2.1.2.2 hd
  · have hne : rtg (mR M) ≠ 9 := by rcases hcase with ⟨-, h | ⟨h, -⟩⟩ | ⟨-, h⟩ | ⟨-, h⟩ <;> rw [h] <;> decide
    have hpx := post (some x) (Or.inr ⟨hne, x, rfl, hx⟩)
    rcases hcase with ⟨rfl, hcase⟩ | ⟨rfl, h1⟩ | ⟨rfl, h2⟩
    · rcases hcase with h0 | ⟨h3, hb0, hb1⟩
      · have hr : meth.sig.returnType = some .int := by
          rw [hret]
          cases hm : mR M with
          | none => rw [hm] at h0; exact absurd h0 (show ¬ ((9 : Nat) = 0) by decide)
          | some t => rw [hm] at h0; cases t <;> first | rfl | exact absurd h0 (show ¬ (_ = 0) by unfold rtg; dsimp only; decide)
        rw [h0] at hx
        obtain ⟨i, rfl, rfl⟩ := zV.int hx
        exact W.iret F.1 F.2.1 hr hpx hQ.2.2.2.2.1.2.2 hd
      · have hr : meth.sig.returnType = some .boolean := by
          rw [hret]
          cases hm : mR M with
          | none => rw [hm] at h3; exact absurd h3 (show ¬ ((9 : Nat) = 3) by decide)
          | some t => rw [hm] at h3; cases t <;> first | rfl | exact absurd h3 (show ¬ (_ = 3) by unfold rtg; dsimp only; decide)
        rw [h3] at hx
        obtain ⟨i, rfl, rfl⟩ := zV.int hx
        exact W.zret F.1 F.2.1 hr (bool_nar hb0 hb1).1 hpx hQ.2.2.2.2.1.2.2 hd
    · have hr : meth.sig.returnType = some .long := by
        rw [hret]
        cases hm : mR M with
        | none => rw [hm] at h1; exact absurd h1 (show ¬ ((9 : Nat) = 1) by decide)
        | some t => rw [hm] at h1; cases t <;> first | rfl | exact absurd h1 (show ¬ (_ = 1) by unfold rtg; dsimp only; decide)
      rw [h1] at hx
      obtain ⟨i, rfl, rfl⟩ := zV.long hx
      exact W.lret F.1 F.2.1 hr hpx hQ.2.2.2.2.1.2.2 hd
    · obtain ⟨rt, hrt, hr⟩ : ∃ rt : FieldType, ((∃ n, rt = .object n) ∨ ∃ t, rt = .array t) ∧ meth.sig.returnType = some rt := by
        rw [hret]
        cases hm : mR M with
        | none => rw [hm] at h2; exact absurd h2 (show ¬ ((9 : Nat) = 2) by decide)
        | some t => rw [hm] at h2; cases t <;> first | exact ⟨_, Or.inl ⟨_, rfl⟩, rfl⟩ | exact ⟨_, Or.inr ⟨_, rfl⟩, rfl⟩ | exact absurd h2 (show ¬ (_ = 2) by unfold rtg; dsimp only; decide)
      rw [h2] at hx
      refine W.aret F.1 F.2.1 hr hrt ?_ hpx hQ.2.2.2.2.1.2.2 hd
      rcases zV.rf hx with ⟨-, rfl⟩ | ⟨-, rfl⟩ | ⟨j, q, -, -, rfl⟩
      · exact Or.inl rfl
      · exact Or.inr ⟨_, rfl⟩
      · exact Or.inr ⟨_, rfl⟩
theorem zMet_of {l : Launch} {b nX : Nat} {xs : Nat → Int32} {dC : Nat → ClassId} {dI : Nat → Nat → Nat} {n : Nat} (S : SIMP l b nX xs dC dI n) (pp : Nat) (hp : pp < 297) (d1 : Nat) (av : List vV) (w : vW) (r : Int) (w1 : vW) (h : vrun n d1 pp 0 (vent (vnl pp) av) [] w = some (0, r, w1)) : zMet l b nX xs dC dI pp d1 av w r w1 := by
  intro rw tys as sz hS hW hbs hne hfit
  have hH := ch_all pp hp
  obtain ⟨k1, k2, -, -, -, k6, k7, -, k9, -⟩ := ckH_inv hH
  have hmo := vrun_mono _ _ _ _ _ _ _ _ h
  have hmo' : vec w ≤ vec w1 ∧ ves w ≤ ves w1 := hmo
  refine Met.ofW (cc := mB pp) (maxL := vnl pp) (ret := mR pp) k6 rfl ?_
  intro p e s m args below meth c s₁ B hml hv
  obtain ⟨rfl, hsz, hP, hK, hD0, hK0, hX⟩ := hv
  subst hsz
  have hts := atoms_spec (ws := wsm pp) B.pre
  have hts2 : ∀ w ∈ lw_tbl, goodWord w = true → w.before as.toArray s = true := fun w h1 h2 => hts w (List.mem_cons_of_mem _ (wsT_mem.mpr ⟨h1, h2⟩))
  have F : zF b nX xs (va_A rw s.heap.size) pp p s m as.toArray meth c := by
    refine ⟨B.exec, B.bytes, hml, findClass_of_methodNamed B.named, hts2, hK0, B.notSynchronized, fun _ => name_M B.named B.method, hX, hbs, ?_, fun q hq => Or.inr hq, B.returns⟩
    rintro (⟨k, e, hk⟩ | hq)
    · exact hne k _ hk rfl
    · exact absurd hq (by omega)
  have hlen : (lg_sl as).length ≤ vnl pp := by rw [lg_sl_len hS]; exact hfit
  have hl := lv_entry as (n := vnl pp) hlen
  rw [lg_entry_eq]
  generalize (lg_sl as ++ List.replicate (vnl pp - (lg_sl as).length) Slot.unset).toArray = ls at hl ⊢
  have hL : zL b (vnl pp) rw (vent (vnl pp) av) ls := by
    refine ⟨hl.1, hl.2.1, fun i hi => ?_⟩
    obtain ⟨x, h1, h2⟩ := z_ent (List.replicate (vnl pp - (vflat av).length) (9, 0)) (fun i => vlg_pad _ i) hS hS.no9 0 i hi
    exact ⟨x, hl.2.2 (i, x) (by rw [Nat.zero_add] at h1; exact h1), h2⟩
  refine S pp (by omega) p e _ s m as.toArray below meth c _ (va_A rw s.heap.size) (vec w) (ves w) rw d1 (0, r, w1) F (fun _ _ _ _ _ _ _ _ _ _ _ _ _ _ h => absurd (congrArg Prod.fst h) (show ¬ (0 = 1) by decide)) (by show vec w1 ≤ (vec w1 - vec w) + vec w; omega) (by show ves w1 ≤ (ves w1 - ves w) + ves w; omega) (Nat.le_refl _) (Nat.le_refl _) (fun _ => zEn_MQ F) (fun n pc nx p2 q z hpg => absurd (no46 pp hp pc) (by rw [hpg]; exact fun h => h rfl)) (fun h => absurd h (by omega)) 0 _ [] w ls [] s.heap [] 0 0 rw tys h hL trivial ?_
  exact ⟨hW, hP, hK, hD0.self, va_S.rf, Nat.zero_add _, Nat.zero_add _, zpre.rf _⟩
theorem z_sim {l : Launch} {b nX : Nat} {xs : Nat → Int32} {dC : Nat → ClassId} {dI : Nat → Nat → Nat} (hnX : nX < 2 ^ 31) (n : Nat) : SIMP l b nX xs dC dI n := by
  induction n with
  | zero =>
    intro M hM p e R s m args below meth c Q A c0 s0 rw0 d res F hTh hrc hrs hfr hlo En h46 hLw pc Ls St w ls st H locs cells slots rw tys h
    cases h
  | succ n ih =>
    intro M hM p e R s m args below meth c Q A c0 s0 rw0 d res F hTh hrc hrs hfr hlo En h46 hLw pc Ls St w ls st H locs cells slots rw tys h hL hS hQ
    have ihK := ih M hM p e R s m args below meth c Q A c0 s0 rw0 d res F hTh hrc hrs hfr hlo En h46 hLw
    have h : vst (vrun n) d M pc Ls St w = some res := h
    unfold vst at h
    by_cases h6 : (pg M pc).1 = 46
    · generalize hpg : pg M pc = pgt at h h6
      obtain ⟨op, nx, pp, q, z⟩ := pgt
      dsimp only at h6
      subst h6
      exact h46 n pc nx pp q z hpg Ls St w ls st H locs cells slots rw tys h hL hS hQ ihK
    · have C : ckI M pc = true := by
        rcases (show M < 297 ∨ M = 297 ∨ M = 298 ∨ M = 299 by omega) with hM | rfl | rfl | rfl
        · exact ck_all M hM pc
        · exact (ckx_297 pc).resolve_right h6
        · exact (ckx_298 pc).resolve_right h6
        · exact ck_299 pc
      unfold ckI at C
      generalize hpg : pg M pc = pgt at h C
      obtain ⟨op, nx, pp, q, z⟩ := pgt
      dsimp only at h C
      rw [Bool.or_eq_true] at C
      rcases C with C | C
      · obtain rfl := Nat.eq_of_beq_eq_true C
        have h : (none : vR) = some res := h
        cases h
      · cases hd : decode (mB M) pc with
        | error er => rw [hd] at C; cases C
        | ok il =>
          obtain ⟨i, ln⟩ := il
          rw [hd] at C
          exact z_step C hd hnX (fun pp hp d1 av w r w1 hrun => zMet_of ih pp hp d1 av w r w1 hrun) hLw hpg hTh En F ihK hL hS hQ hrc hrs hfr hlo h
