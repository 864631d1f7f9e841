theorem vcl_inv {ih : Nat → Nat → Nat → List vV → List vV → vW → vR} {d M nx p q : Nat} {z : Int} {ls st : List vV} {w : vW} {res : Nat × Int × vW} (h : vcl ih d M nx p q z ls st w = some res) :
    (vrk p = 0 ∨ ((vlg st (q - 1)).1 = 2 ∧ vkd w (vlg st (q - 1)).2 = vrk p)) ∧ vcs (st.drop q) ≤ 8 ∧ vcs (st.take q) ≤ vnl p ∧ (st.take q).length = q ∧ ∃ (d1 : Nat) (r : Int) (w1 : vW), d = d1 + 1 ∧ ih d1 p 0 (vent (vnl p) (st.take q).reverse) [] w = some (0, r, w1) ∧ ih d M nx ls (bif Nat.beq z.toNat 9 then st.drop q else (z.toNat, r) :: st.drop q) w1 = some res := by
  have h1 : (vrk p = 0 ∨ ((vlg st (q - 1)).1 = 2 ∧ vkd w (vlg st (q - 1)).2 = vrk p)) ∧ vclr ih d M nx p q z ls st w = some res := by
    unfold vcl vrec at h
    cases hb : Nat.beq (vrk p) 0 with
    | true => rw [hb] at h; exact ⟨Or.inl (Nat.eq_of_beq_eq_true hb), h⟩
    | false =>
      rw [hb] at h
      cases hb2 : Nat.beq (vlg st (q - 1)).1 2 with
      | false => rw [hb2] at h; cases h
      | true =>
        rw [hb2] at h
        obtain ⟨h1, h2⟩ := ite_inv h
        exact ⟨Or.inr ⟨Nat.eq_of_beq_eq_true hb2, h1⟩, h2⟩
  refine ⟨h1.1, ?_⟩
  have h := h1.2
  match d, h with
  | d1 + 1, h =>
    unfold vclr at h
    dsimp only at h
    cases hf : vfit p q st with
    | false => rw [hf] at h; cases h
    | true =>
      rw [hf, cond_true] at h
      simp only [vfit, Bool.and_eq_true] at hf
      obtain ⟨⟨f1, f2⟩, f3⟩ := hf
      have f2 := Nat.le_of_ble_eq_true f2
      rw [vflat_len] at f2
      refine ⟨Nat.le_of_ble_eq_true f1, f2, Nat.eq_of_beq_eq_true f3, d1, ?_⟩
      cases h3 : ih d1 p 0 (vent (vnl p) (st.take q).reverse) [] w with
      | none => rw [h3] at h; cases h
      | some u =>
        obtain ⟨f, r, w1⟩ := u
        rw [h3] at h
        dsimp only at h
        cases hb : Nat.beq f 0 with
        | false => rw [hb] at h; cases h
        | true =>
          rw [hb] at h
          exact ⟨r, w1, rfl, by rw [Nat.eq_of_beq_eq_true hb], h⟩
section STEP
variable {p : Program} {l : Launch} {e : Env} {R : Room} {s : State} {m : MethodId} {args : Array Value} {below : List Frame} {meth : Method} {c : Code} {H : Heap} {locs : List Loc} {cells slots : Nat} {Q : State → Prop}
variable {n d M : Nat} {res : Nat × Int × vW} {b nX : Nat} {xs : Nat → Int32} {dC : Nat → ClassId} {dI : Nat → Nat → Nat} {A : Nat → Prop} {c0 s0 : Nat} {rw0 rw : va_W} {tys : List (ClassId × FieldType)}
variable {pc nx q : Nat} {Ls St : List vV} {w : vW} {ls : Array Slot} {st : List Value}
/-- behind a call -/
theorem z_cont {pp : Nat} {r : Int} {w1 : vW} {z : Int} {rest : List Value} {Rs : List vV} {aa : Array Value} (F : zF b nX xs A M p s m args meth c) (Kn : zKn n d M res b nX xs dC dI A c0 s0 rw0 p l e R s m args below meth c Q) (hL : zL b (vnl M) rw Ls ls) (hS : zS b rw St st) (hQ : zQ b nX xs dC dI A c0 s0 rw0 s w H locs cells slots rw tys)
    (hg1 : vec w ≤ vec w1) (hg2 : ves w ≤ ves w1) (hz : z = ((bif Nat.beq (rtg (mR pp)) 3 then 0 else rtg (mR pp) : Nat) : Int)) (h7 : rtg (mR pp) ≤ 3 ∨ rtg (mR pp) = 9)
    (hr : va_Run p l e R s m args below meth c H locs cells slots (vec w1 - vec w) (ves w1 - ves w) (F0 m pc ls st) rest (zPost b nX xs dC dI pp r w1 rw H.size aa) (va_A rw H.size)) (hSr : zS b rw Rs rest)
    (h : vrun n d M (pc + 3) Ls (bif Nat.beq z.toNat 9 then Rs else (z.toNat, r) :: Rs) w1 = some res) : W p l e R s m args below meth c H locs cells slots Q (F0 m pc ls st) := by
  intro T hT X
  obtain ⟨v, st₀, t, T', L, h0, X', hLL, e1, e2, ⟨⟨v', rw', tys', hv, hres, hzw, hP, hK, hD, hp⟩, hsz, hk⟩, stp⟩ := hr T hT X
  cases hv
  rw [h0] at hsz hk
  have hAA : ∀ q : Nat, va_A rw H.size q → A q := fun q hq => hq.elim (fun ⟨k, e, hk⟩ => hQ.2.2.2.1.2 k _ hk) (fun hq => F.2.2.2.2.2.2.2.2.2.2.2.1 q (Nat.le_trans hQ.2.2.2.2.1.1 hq))
  have hal : t.vm.Alike s.vm := by rw [← e2]; exact X'.warmed.alike.symm
  have hQ1 : zQ b nX xs dC dI A c0 s0 rw0 s w1 T'.heap (locs ++ L) (cells + (vec w1 - vec w)) (slots + (ves w1 - ves w)) rw' tys' := by
    refine ⟨hzw, by rw [e1]; exact hP, va_K.moved hal hK, hD.weaken (fun k q _ hq => hAA q.1 hq), ⟨Nat.le_trans hQ.2.2.2.2.1.1 (by rw [e1]; exact hsz), fun q h1 h2 => ?_, fun q hq => ?_⟩, ?_, ?_, hQ.2.2.2.2.2.2.2.tr hp⟩
    · rw [e1, hk q (Nat.lt_of_lt_of_le h1 hQ.2.2.2.2.1.1) (fun z => h2 (hAA q z))]
      exact hQ.2.2.2.2.1.2.1 q h1 h2
    · rcases List.mem_append.mp hq with h | h
      · exact hQ.2.2.2.2.1.2.2 q h
      · exact hAA _ (hLL q h)
    · have := hQ.2.2.2.2.2.1; omega
    · have := hQ.2.2.2.2.2.2.1; omega
  have key : W p l e R s m args below meth c T'.heap (locs ++ L) (cells + (vec w1 - vec w)) (slots + (ves w1 - ves w)) Q (F0 m (pc + 3) ls (v.toList ++ rest)) := by
    rcases hres with ⟨h9, rfl⟩ | ⟨h9, x, rfl, hx⟩
    · have hz9 : z.toNat = 9 := by rw [hz, h9]; rfl
      rw [hz9] at h
      exact Kn _ _ _ _ _ _ _ _ _ _ _ _ h (hL.up hp) (hSr.up hp) hQ1
    · have hzt : z.toNat = vtg (rtg (mR pp)) := by rw [hz]; rfl
      have hne : Nat.beq (vtg (rtg (mR pp))) 9 = false := by
        rcases (show rtg (mR pp) = 0 ∨ rtg (mR pp) = 1 ∨ rtg (mR pp) = 2 ∨ rtg (mR pp) = 3 by omega) with h | h | h | h <;> rw [h] <;> rfl
      rw [hzt, hne] at h
      exact Kn _ _ _ _ _ _ _ _ _ _ _ _ h (hL.up hp) ⟨hx, hSr.up hp⟩ hQ1
  obtain ⟨t2, a1, b1⟩ := key T' rfl X'
  exact ⟨t2, stp t2 a1, b1⟩
theorem ckH_inv {M : Nat} (h : ckH M = true) : (.code (mY M) (mB M) (vnl M) (mR M) ∈ lw_tbl ∧ goodWord (.code (mY M) (mB M) (vnl M) (mR M)) = true) ∧ (.initialized (mY M).cls ∈ lw_tbl ∧ goodWord (.initialized (mY M).cls) = true) ∧
    (mS M = true → .static (mY M) ∈ lw_tbl ∧ goodWord (.static (mY M)) = true) ∧ (mS M = false → .instanceMethod (mY M) ∈ lw_tbl ∧ goodWord (.instanceMethod (mY M)) = true) ∧
    (mS M = false → ¬ ((mY M).name == "<init>") = true → .selects (mY M).cls (mY M) (mY M) ∈ lw_tbl ∧ goodWord (.selects (mY M).cls (mY M) (mY M)) = true) ∧ plainName (mY M).cls = true ∧ ((mY M).cls ≠ "java/lang/invoke/MethodHandle" ∧ (mY M).cls ≠ "java/lang/invoke/VarHandle") ∧
    (parseMethodDescriptor (mY M).desc).map (fun d => d.parameters.length) = some (mP M) ∧ vnl M ≤ 40 ∧ (mS M = false → 10 ≤ vrk M ∧ (vwCl[vrk M - 10]?).map (fun r => r.1) = some (mY M).cls) := by
  simp only [ckH, Bool.and_eq_true, decide_eq_true_eq] at h
  obtain ⟨⟨⟨⟨⟨⟨⟨⟨⟨h1, h2⟩, h3⟩, h4⟩, h5⟩, h6⟩, h7⟩, h8⟩, h9⟩, h10⟩ := h
  refine ⟨wd_inv h1, wd_inv h2, fun hs => ?_, fun hs => ?_, fun hs hn => ?_, h5, ⟨h6, h7⟩, h8, Nat.le_of_ble_eq_true h9, fun hs => ?_⟩
  · rw [hs] at h3; exact wd_inv h3
  · rw [hs] at h3; exact wd_inv h3
  · rw [hs] at h4
    simp only [Bool.false_or, Bool.or_eq_true] at h4
    rcases h4 with h4 | h4
    · exact absurd h4 hn
    · exact wd_inv h4
  · rw [hs] at h10
    simp only [Bool.false_or, Bool.and_eq_true, decide_eq_true_eq] at h10
    exact ⟨Nat.le_of_ble_eq_true h10.1, h10.2⟩
/-- what every call needs -/
theorem z_callB {idx pp d1 : Nat} {w1 : vW} (hH : ckH pp = true) (F : zF b nX xs A M p s m args meth c) (hwl : (Cond.methodLink (mY M).cls idx (mY pp)).before args s = true) (hfr : d1 + 1 + 6 ≤ R.frames) (hlo : 80 * (d1 + 1) + 80 ≤ R.locals) :
    CallB R s args (mY M).cls idx (mY pp) (mB pp) (vnl pp) (mR pp) (wsm pp) { frames := d1 + 6, cells := vec w1 - vec w, slots := ves w1 - ves w, locals := 80 * d1 + 80 } (vec w1 - vec w) (ves w1 - ves w) (mP pp) := by
  obtain ⟨h1, h2, -, -, -, -, h6, h7, h8, -⟩ := ckH_inv hH
  have hts := F.2.2.2.2.1
  refine ⟨rfl, rfl, by show d1 + 6 + 1 ≤ _; omega, by show 8 + (vnl pp + 11) + (80 * d1 + 80) ≤ _; omega, ?_, List.mem_cons_self, hts _ h1.1 h1.2, hts _ h2.1 h2.2, h6, fun sig hsig => ?_, hwl⟩
  · intro w hw
    have hg : w ∈ lw_tbl ∧ goodWord w = true := by
      rcases List.mem_cons.mp hw with rfl | hw
      · exact h1
      · exact wsT_mem.mp hw
    intro a' U hW
    exact word_at hW (good_of_word hg.2) (hts _ hg.1 hg.2)
  · rw [hsig] at h7
    exact (Option.some.inj h7).symm
theorem z_pre {rw : va_W} {as : List Value} (F : zF b nX xs A M p s m args meth c) (hQ : zQ b nX xs dC dI A c0 s0 rw0 s w H locs cells slots rw tys) : ∀ U : State, U.heap = H → s.WarmedH U.vm → va_Pc as (zB b nX xs dC dI rw tys H.size) as.toArray U := by
  intro U hU hW
  have hX : va_X b nX xs s H := F.2.2.2.2.2.2.2.2.1.kept (hQ.2.2.2.2.1.2.1 b F.2.2.2.2.2.2.2.2.2.1 F.2.2.2.2.2.2.2.2.2.2.1)
  exact ⟨rfl, by rw [hU], by rw [hU]; exact hQ.2.1, va_K.moved hW.alike hQ.2.2.1, hQ.2.2.2.1.weaken (fun _ _ _ _ => trivial), F.2.2.2.2.2.1.warm hW, by rw [hU]; exact va_X.moved hW.alike hX⟩
theorem z_wsT (F : zF b nX xs A M p s m args meth c) : ∀ w ∈ wsT, w.before args s = true := fun w hw => F.2.2.2.2.1 w (wsT_mem.mp hw).1 (wsT_mem.mp hw).2
theorem rev_take : ∀ (St : List vV) (q : Nat), (St.take (q + 1)).length = q + 1 → (St.take (q + 1)).reverse = vlg St q :: (St.take q).reverse
  | [], q, h => by simp at h
  | v :: l, 0, _ => rfl
  | v :: l, q + 1, h => by
    have h1 : (l.take (q + 1)).length = q + 1 := by simpa using h
    have := rev_take l q h1
    rw [show (v :: l).take (q + 1 + 1) = v :: l.take (q + 1) from rfl, List.reverse_cons, this]
    show vlg l q :: ((l.take q).reverse ++ [v]) = vlg l q :: ((v :: l).take (q + 1)).reverse
    rw [show (v :: l).take (q + 1) = v :: l.take q from rfl, List.reverse_cons]
theorem z_side (F : zF b nX xs A M p s m args meth c) (hQ : zQ b nX xs dC dI A c0 s0 rw0 s w H locs cells slots rw tys) : b < H.size ∧ ∀ (k : Nat) (q : Nat × va_E), rw[k]? = some q → q.1 ≠ b :=
  ⟨Nat.lt_of_lt_of_le F.2.2.2.2.2.2.2.2.2.1 hQ.2.2.2.2.1.1, fun k q hk he => F.2.2.2.2.2.2.2.2.2.2.1 (he ▸ hQ.2.2.2.1.2 k q hk)⟩
theorem rtg_le (r : Option FieldType) (h : rtg r ≠ 7) : rtg r ≤ 3 ∨ rtg r = 9 := by
  cases r with
  | none => exact Or.inr rfl
  | some t => cases t <;> first | exact Or.inl (Nat.le_of_ble_eq_true rfl) | exact absurd rfl h
theorem z_callS {idx pp : Nat} {z : Int} (IHm : ∀ (d1 : Nat) (av : List vV) (w : vW) (r : Int) (w1 : vW), vrun n d1 pp 0 (vent (vnl pp) av) [] w = some (0, r, w1) → zMet l b nX xs dC dI pp d1 av w r w1) (hH : ckH pp = true) (hs : mS pp = true) (hwl : .methodLink (mY M).cls idx (mY pp) ∈ lw_tbl ∧ goodWord (.methodLink (mY M).cls idx (mY pp)) = true) (hq : q = mP pp) (h7 : rtg (mR pp) ≠ 7) (hz : z = ((bif Nat.beq (rtg (mR pp)) 3 then 0 else rtg (mR pp) : Nat) : Int))
    (F : zF b nX xs A M p s m args meth c) (Kn : zKn n d M res b nX xs dC dI A c0 s0 rw0 p l e R s m args below meth c Q) (hL : zL b (vnl M) rw Ls ls) (hS : zS b rw St st) (hQ : zQ b nX xs dC dI A c0 s0 rw0 s w H locs cells slots rw tys) (hrc : vec res.2.2 ≤ R.cells + c0) (hrs : ves res.2.2 ≤ R.slots + s0) (hfr : d + 6 ≤ R.frames) (hlo : 80 * d + 80 ≤ R.locals) (hd : decode (mB M) pc = .ok (.invokestatic idx, 3))
    (h : vcl (vrun n) d M (pc + 3) pp q z Ls St w = some res) : W p l e R s m args below meth c H locs cells slots Q (F0 m pc ls st) := by
  obtain ⟨-, hcs, hfl, hlq, d1, r, w1, rfl, hrun, h⟩ := vcl_inv h
  obtain ⟨hbs, hne⟩ := z_side F hQ
  have hg := vrun_mono _ _ _ _ _ _ _ _ hrun
  have hg2 := vrun_mono _ _ _ _ _ _ _ _ h
  have hSt := (hS.take q).rev
  have hM := IHm d1 _ w r w1 hrun rw tys _ H.size hSt hQ.1 hbs hne (by rw [vcs_rev]; exact hfl)
  have hc1 := hQ.2.2.2.2.2.1
  have hc2 := hQ.2.2.2.2.2.2.1
  have hg' : vec w ≤ vec w1 ∧ ves w ≤ ves w1 := hg
  have hg2' : vec w1 ≤ vec res.2.2 ∧ ves w1 ≤ ves res.2.2 := hg2
  have hcat := (hS.drop q).cat
  obtain ⟨k1, -, k3, -, -, -, -, -, -, -⟩ := ckH_inv hH
  have hr := va_runS (cells := cells) (slots := slots) (locs := locs) (below := below) (meth := meth) (e := e) (R := R) (As := (st.take q).reverse) (rest := st.drop q) (g := F0 m pc ls st) (n := mP pp) (nL := vnl M) ⟨F.1, F.2.1, F.2.2.1, F.2.2.2.1, z_wsT F⟩ hM ⟨z_callB hH F (F.2.2.2.2.1 _ hwl.1 hwl.2) hfr hlo, F.2.2.2.2.1 _ (k3 hs).1 (k3 hs).2⟩ ⟨zB.blind, z_pre F hQ⟩ rfl (by rw [List.length_reverse, ← (hS.take q).len, hlq, hq]) hL.1 (by rw [List.reverse_reverse, List.take_append_drop]) (lv_room (by omega)) hd ⟨by omega, by omega⟩
  exact z_cont F Kn hL hS hQ hg'.1 hg'.2 hz (rtg_le _ h7) hr (hS.drop q) h
/-- an instance's own: the receiver -/
theorem z_recv {pp q0 : Nat} (hH : ckH pp = true) (hs : mS pp = false) (hS : zS b rw St st) (hQ : zQ b nX xs dC dI A c0 s0 rw0 s w H locs cells slots rw tys) (hlq : (St.take (q0 + 1)).length = q0 + 1) (hrk : vrk pp = 0 ∨ ((vlg St q0).1 = 2 ∧ vkd w (vlg St q0).2 = vrk pp)) :
    ∃ (ad : Nat) (As : List Value), (st.take (q0 + 1)).reverse = .ref ad :: As ∧ As.length = q0 ∧ (∃ cellB : Cell, H[ad]? = some cellB ∧ cellB.vm.isStatics = false ∧ s.vm.findClass (mY pp).cls = some cellB.cls) ∧ st.take (q0 + 1) ++ st.drop (q0 + 1) = As.reverse ++ .ref ad :: st.drop (q0 + 1) := by
  obtain ⟨-, -, -, -, -, -, -, -, -, k10⟩ := ckH_inv hH
  obtain ⟨k11, k12⟩ := k10 hs
  have hSt := (hS.take (q0 + 1)).rev
  have hl := hSt.len
  rw [rev_take _ _ hlq] at hSt
  obtain ⟨x, As, hAs, hx, hAz⟩ := hSt.cons
  have hrk := hrk.resolve_left (by omega)
  have hx2 : zN b rw (vlg St q0).2 x := by
    have : zV b rw (2, (vlg St q0).2) x := by rw [← hrk.1]; exact hx
    exact this.rf
  obtain ⟨r0, hr0⟩ : ∃ r0, vwCl[vrk pp - 10]? = some r0 := by
    cases hh : vwCl[vrk pp - 10]? with
    | none => rw [hh] at k12; cases k12
    | some r0 => exact ⟨r0, rfl⟩
  have hlt := vwCl_lt hr0
  obtain ⟨j, ⟨ad, e'⟩, hj1, hj, hE⟩ := hQ.1.cell hrk.2 (by omega) (by omega)
  obtain ⟨fs, he, r1, hr1, -⟩ := hE.obj hrk.2 k11
  dsimp only at he
  subst he
  rw [hj1] at hx2
  have hx3 := hx2.at hj
  subst hx3
  refine ⟨ad, As, hAs, ?_, ?_, ?_⟩
  · rw [hAs, List.length_reverse, hlq] at hl
    simpa using hl.symm
  · have := va_recv hQ.2.2.1 hQ.2.1 hr0 hj
    rw [hr0] at k12
    rw [← Option.some.inj k12]
    exact this
  · have h2 : st.take (q0 + 1) = (Value.ref ad :: As).reverse := by rw [← hAs, List.reverse_reverse]
    rw [h2, List.reverse_cons, List.append_assoc]
    rfl
theorem z_callV {idx pp : Nat} {z : Int} (IHm : ∀ (d1 : Nat) (av : List vV) (w : vW) (r : Int) (w1 : vW), vrun n d1 pp 0 (vent (vnl pp) av) [] w = some (0, r, w1) → zMet l b nX xs dC dI pp d1 av w r w1) (hH : ckH pp = true) (hs : mS pp = false) (hni : ¬ ((mY pp).name == "<init>") = true) (hwl : .methodLink (mY M).cls idx (mY pp) ∈ lw_tbl ∧ goodWord (.methodLink (mY M).cls idx (mY pp)) = true) (hq : q = mP pp + 1) (h7 : rtg (mR pp) ≠ 7) (hz : z = ((bif Nat.beq (rtg (mR pp)) 3 then 0 else rtg (mR pp) : Nat) : Int))
    (F : zF b nX xs A M p s m args meth c) (Kn : zKn n d M res b nX xs dC dI A c0 s0 rw0 p l e R s m args below meth c Q) (hL : zL b (vnl M) rw Ls ls) (hS : zS b rw St st) (hQ : zQ b nX xs dC dI A c0 s0 rw0 s w H locs cells slots rw tys) (hrc : vec res.2.2 ≤ R.cells + c0) (hrs : ves res.2.2 ≤ R.slots + s0) (hfr : d + 6 ≤ R.frames) (hlo : 80 * d + 80 ≤ R.locals) (hd : decode (mB M) pc = .ok (.invokevirtual idx, 3))
    (h : vcl (vrun n) d M (pc + 3) pp q z Ls St w = some res) : W p l e R s m args below meth c H locs cells slots Q (F0 m pc ls st) := by
  subst hq
  obtain ⟨hrk, hcs, hfl, hlq, d1, r, w1, rfl, hrun, h⟩ := vcl_inv h
  obtain ⟨hbs, hne⟩ := z_side F hQ
  have hg := vrun_mono _ _ _ _ _ _ _ _ hrun
  have hg2 := vrun_mono _ _ _ _ _ _ _ _ h
  have hSt := (hS.take (mP pp + 1)).rev
  have hM := IHm d1 _ w r w1 hrun rw tys _ H.size hSt hQ.1 hbs hne (by rw [vcs_rev]; exact hfl)
  have hc1 := hQ.2.2.2.2.2.1
  have hc2 := hQ.2.2.2.2.2.2.1
  have hg' : vec w ≤ vec w1 ∧ ves w ≤ ves w1 := hg
  have hg2' : vec w1 ≤ vec res.2.2 ∧ ves w1 ≤ ves res.2.2 := hg2
  have hcat := (hS.drop (mP pp + 1)).cat
  obtain ⟨ad, As, hAs, hAl, hrv, hst⟩ := z_recv hH hs hS hQ hlq hrk
  obtain ⟨k1, -, -, k4, k5, -, -, -, -, -⟩ := ckH_inv hH
  have hp := z_pre (as := (st.take (mP pp + 1)).reverse) F hQ
  rw [hAs] at hM hp
  have hr := va_runV (cells := cells) (slots := slots) (locs := locs) (below := below) (meth := meth) (e := e) (R := R) (C := (mY pp).cls) (b := ad) (As := As) (rest := st.drop (mP pp + 1)) (g := F0 m pc ls st) (n := mP pp) (nL := vnl M) ⟨F.1, F.2.1, F.2.2.1, F.2.2.2.1, z_wsT F⟩ hM ⟨z_callB hH F (F.2.2.2.2.1 _ hwl.1 hwl.2) hfr hlo, F.2.2.2.2.1 _ (k4 hs).1 (k4 hs).2, F.2.2.2.2.1 _ (k5 hs hni).1 (k5 hs hni).2⟩ ⟨zB.blind, hrv, hp⟩ rfl hAl hL.1 (by rw [← hst, List.take_append_drop]) (lv_room (by omega)) hd ⟨by omega, by omega⟩
  exact z_cont F Kn hL hS hQ hg'.1 hg'.2 hz (rtg_le _ h7) hr (hS.drop (mP pp + 1)) h
theorem z_callI {idx pp : Nat} {z : Int} (IHm : ∀ (d1 : Nat) (av : List vV) (w : vW) (r : Int) (w1 : vW), vrun n d1 pp 0 (vent (vnl pp) av) [] w = some (0, r, w1) → zMet l b nX xs dC dI pp d1 av w r w1) (hH : ckH pp = true) (hs : mS pp = false) (hni : (mY pp).name = "<init>") (hR : mR pp = none) (hwl : (.methodLink (mY M).cls idx (mY pp) ∈ lw_tbl ∧ goodWord (.methodLink (mY M).cls idx (mY pp)) = true) ∨ .methodLinkNest (mY M).cls idx (mY pp) "StrikeWhatCancels" ∈ nestW) (hq : q = mP pp + 1) (hz : z = 9)
    (F : zF b nX xs A M p s m args meth c) (Kn : zKn n d M res b nX xs dC dI A c0 s0 rw0 p l e R s m args below meth c Q) (hL : zL b (vnl M) rw Ls ls) (hS : zS b rw St st) (hQ : zQ b nX xs dC dI A c0 s0 rw0 s w H locs cells slots rw tys) (hrc : vec res.2.2 ≤ R.cells + c0) (hrs : ves res.2.2 ≤ R.slots + s0) (hfr : d + 6 ≤ R.frames) (hlo : 80 * d + 80 ≤ R.locals) (hd : decode (mB M) pc = .ok (.invokespecial idx, 3))
    (h : vcl (vrun n) d M (pc + 3) pp q z Ls St w = some res) : W p l e R s m args below meth c H locs cells slots Q (F0 m pc ls st) := by
  subst hq
  obtain ⟨hrk, hcs, hfl, hlq, d1, r, w1, rfl, hrun, h⟩ := vcl_inv h
  obtain ⟨hbs, hne⟩ := z_side F hQ
  have hg := vrun_mono _ _ _ _ _ _ _ _ hrun
  have hg2 := vrun_mono _ _ _ _ _ _ _ _ h
  have hSt := (hS.take (mP pp + 1)).rev
  have hM := IHm d1 _ w r w1 hrun rw tys _ H.size hSt hQ.1 hbs hne (by rw [vcs_rev]; exact hfl)
  have hc1 := hQ.2.2.2.2.2.1
  have hc2 := hQ.2.2.2.2.2.2.1
  have hg' : vec w ≤ vec w1 ∧ ves w ≤ ves w1 := hg
  have hg2' : vec w1 ≤ vec res.2.2 ∧ ves w1 ≤ ves res.2.2 := hg2
  have hcat := (hS.drop (mP pp + 1)).cat
  obtain ⟨ad, As, hAs, hAl, hrv, hst⟩ := z_recv hH hs hS hQ hlq hrk
  obtain ⟨k1, k2, -, k4, -, -, k7, k8, k9, -⟩ := ckH_inv hH
  have hp := z_pre (as := (st.take (mP pp + 1)).reverse) F hQ
  rw [hAs] at hM hp
  have hr : va_Run p l e R s m args below meth c H locs cells slots (vec w1 - vec w) (ves w1 - ves w) (F0 m pc ls st) (st.drop (mP pp + 1)) (zPost b nX xs dC dI pp r w1 rw H.size (Value.ref ad :: As).toArray) (va_A rw H.size) := by
    rcases hwl with hwl | hwl
    · have hB := z_callB (R := R) (w := w) (w1 := w1) hH F (F.2.2.2.2.1 _ hwl.1 hwl.2) hfr hlo
      rw [hR] at hB
      exact va_runI (cells := cells) (slots := slots) (locs := locs) (below := below) (meth := meth) (e := e) (R := R) (b := ad) (As := As) (rest := st.drop (mP pp + 1)) (g := F0 m pc ls st) (n := mP pp) (nL := vnl M) ⟨F.1, F.2.1, F.2.2.1, F.2.2.2.1, z_wsT F⟩ hM ⟨hB, hni, F.2.2.2.2.1 _ (k4 hs).1 (k4 hs).2⟩ ⟨zB.blind, hp⟩ rfl hAl hL.1 (by rw [← hst, List.take_append_drop]) (lv_room (by omega)) hd ⟨by omega, by omega⟩
    · have hts := F.2.2.2.2.1
      rw [hR] at k1
      refine va_runIN (cells := cells) (slots := slots) (locs := locs) (below := below) (meth := meth) (e := e) (R := R) (b := ad) (As := As) (rest := st.drop (mP pp + 1)) (g := F0 m pc ls st) (n := mP pp) (nL := vnl M) (bytes := mB pp) (maxL := vnl pp) (host := "StrikeWhatCancels") ⟨F.1, F.2.1, F.2.2.1, F.2.2.2.1, z_wsT F⟩ hM ⟨⟨⟨rfl, rfl, by show d1 + 6 + 1 ≤ _; omega, by show 8 + (vnl pp + 11) + (80 * d1 + 80) ≤ _; omega, ?_, by unfold wsm; rw [hR]; exact List.mem_cons_self⟩, hts _ k1.1 k1.2, hts _ k2.1 k2.2, k7, fun sig hsig => ?_, va_Nw.use rfl (F.2.2.2.2.2.1.1 _ hwl)⟩, hni, hts _ (k4 hs).1 (k4 hs).2⟩ ⟨zB.blind, hp⟩ rfl hAl hL.1 (by rw [← hst, List.take_append_drop]) (lv_room (by omega)) hd ⟨by omega, by omega⟩
      · intro w hw
        have hg : w ∈ lw_tbl ∧ goodWord w = true := by
          rcases List.mem_cons.mp hw with rfl | hw
          · rw [hR]; exact k1
          · exact wsT_mem.mp hw
        intro a' U hW
        exact word_at hW (good_of_word hg.2) (hts _ hg.1 hg.2)
      · rw [hsig] at k8
        exact (Option.some.inj k8).symm
  exact z_cont F Kn hL hS hQ hg'.1 hg'.2 (by rw [hz, hR]; rfl) (Or.inr (by rw [hR]; rfl)) hr (hS.drop (mP pp + 1)) h
end STEP
