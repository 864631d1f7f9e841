/-! the end of a method; all instructions -/
def zEn (b nX : Nat) (xs : Nat → Int32) (dC : Nat → ClassId) (dI : Nat → Nat → Nat) (A : Nat → Prop) (c0 s0 : Nat) (rw0 : va_W) (p : Program) (l : Launch) (e : Env) (R : Room) (s : State) (m : MethodId) (args : Array Value) (below : List Frame) (meth : Method) (c : Code) (Q : State → Prop) (M : Nat) (r : Int) (w : vW) : Prop :=
  ∀ (pc : Nat) (ls : Array Slot) (st : List Value) (H : Heap) (locs : List Loc) (cells slots : Nat) (rw : va_W) (tys : List (ClassId × FieldType)) (i : Instr), decode (mB M) pc = .ok (i, 1) → zQ b nX xs dC dI A c0 s0 rw0 s w H locs cells slots rw tys →
    ((i = .return_ ∧ rtg (mR M) = 9 ∧ st = []) ∨ ∃ x : Value, st = [x] ∧ zV b rw (vtg (rtg (mR M)), r) x ∧ ((i = .ireturn ∧ (rtg (mR M) = 0 ∨ (rtg (mR M) = 3 ∧ 0 ≤ r ∧ r ≤ 1))) ∨ (i = .lreturn ∧ rtg (mR M) = 1) ∨ (i = .areturn ∧ rtg (mR M) = 2))) → W p l e R s m args below meth c H locs cells slots Q (F0 m pc ls st)
def zTh (b nX : Nat) (xs : Nat → Int32) (dC : Nat → ClassId) (dI : Nat → Nat → Nat) (A : Nat → Prop) (c0 s0 : Nat) (rw0 : va_W) (p : Program) (l : Launch) (e : Env) (R : Room) (s : State) (m : MethodId) (args : Array Value) (below : List Frame) (meth : Method) (c : Code) (Q : State → Prop) (M : Nat) (res : Nat × Int × vW) : Prop :=
  ∀ (pc idx : Nat) (ls : Array Slot) (st : List Value) (w : vW) (H : Heap) (locs : List Loc) (cells slots : Nat) (rw : va_W) (tys : List (ClassId × FieldType)) (ln : Nat), (pg M pc).1 = 50 → decode (mB M) pc = .ok (.new idx, ln) → res = (1, 0, vxw w) → st = [] → zQ b nX xs dC dI A c0 s0 rw0 s w H locs cells slots rw tys → ls.size = vnl M → W p l e R s m args below meth c H locs cells slots Q (F0 m pc ls st)
theorem vrt_inv {pk : Nat} {St : List vV} {w : vW} {r : Nat × Int × vW} (h : vrt pk St w = some r) : (pk = 9 ∧ St = [] ∧ r = (0, 0, w)) ∨ (pk ≠ 9 ∧ ∃ x : Int, St = [(vtg pk, x)] ∧ (pk = 3 → 0 ≤ x ∧ x ≤ 1) ∧ r = (0, x, w)) := by
  match St, h with
  | [], h =>
    unfold vrt at h
    dsimp only at h
    cases hb : Nat.beq pk 9 with
    | false => rw [hb] at h; cases h
    | true => rw [hb] at h; cases h; exact Or.inl ⟨Nat.eq_of_beq_eq_true hb, rfl, rfl⟩
  | [(t, x)], h =>
    unfold vrt at h
    dsimp only at h
    cases hb : Nat.beq pk 9 with
    | true => rw [hb] at h; cases h
    | false =>
      rw [hb] at h
      cases hb2 : Nat.beq t (vtg pk) with
      | false => rw [hb2] at h; cases h
      | true =>
        rw [hb2] at h
        obtain ⟨h1, h2⟩ := vokb_inv h
        cases h2
        exact Or.inr ⟨Nat.ne_of_beq_eq_false hb, x, by rw [Nat.eq_of_beq_eq_true hb2], h1, rfl⟩
theorem ckst_inv {M p q : Nat} {z : Int} (h : ckst M p q z = true) : decide (0 ≤ z) = true ∧ q < vnl M ∧ (p = 1 → q + 1 < vnl M) ∧ ((z = 1 ∧ 0 < q) ∨ (z = 0 ∧ 0 < q) ∨ (z = 2 ∧ q = 0)) := by
  simp only [ckst, Bool.and_eq_true, Bool.or_eq_true, decide_eq_true_eq] at h
  obtain ⟨⟨⟨h1, h2⟩, h3⟩, h4⟩ := h
  refine ⟨decide_eq_true h1, Nat.le_of_ble_eq_true h2, fun hp => ?_, ?_⟩
  · subst hp; exact Nat.le_of_ble_eq_true h3
  · rcases h4 with (⟨h4, h5⟩ | ⟨h4, h5⟩) | ⟨h4, h5⟩
    · exact Or.inl ⟨h4, Nat.le_of_ble_eq_true h5⟩
    · exact Or.inr (Or.inl ⟨h4, Nat.le_of_ble_eq_true h5⟩)
    · exact Or.inr (Or.inr ⟨h4, Nat.eq_of_beq_eq_true h5⟩)
theorem swd_0 (x : Int) : (x < 0 ∨ 6 < x → ((1 : Nat) : Int) + 102 = (vsw_0 x : Int)) ∧ (0 ≤ x → x ≤ 6 → ∃ off : Int, (swd 0).2.2.2.1[(x - 0).toNat]? = some off ∧ ((1 : Nat) : Int) + off = (vsw_0 x : Int)) := by
  constructor
  · intro h
    unfold vsw_0
    rcases h with h | h
    · repeat' (first | rw [if_neg (by omega)] | rw [if_pos (by omega)])
      rfl
    · repeat' (first | rw [if_neg (by omega)] | rw [if_pos (by omega)])
      rfl
  · intro h1 h2
    rcases (show x = 0 ∨ x = 1 ∨ x = 2 ∨ x = 3 ∨ x = 4 ∨ x = 5 ∨ x = 6 by omega) with rfl | rfl | rfl | rfl | rfl | rfl | rfl <;> exact ⟨_, rfl, rfl⟩
theorem swd_1 (x : Int) : (x < 0 ∨ 6 < x → ((6 : Nat) : Int) + 85 = (vsw_1 x : Int)) ∧ (0 ≤ x → x ≤ 6 → ∃ off : Int, (swd 1).2.2.2.1[(x - 0).toNat]? = some off ∧ ((6 : Nat) : Int) + off = (vsw_1 x : Int)) := by
  constructor
  · intro h
    unfold vsw_1
    rcases h with h | h
    · repeat' (first | rw [if_neg (by omega)] | rw [if_pos (by omega)])
      rfl
    · repeat' (first | rw [if_neg (by omega)] | rw [if_pos (by omega)])
      rfl
  · intro h1 h2
    rcases (show x = 0 ∨ x = 1 ∨ x = 2 ∨ x = 3 ∨ x = 4 ∨ x = 5 ∨ x = 6 by omega) with rfl | rfl | rfl | rfl | rfl | rfl | rfl <;> exact ⟨_, rfl, rfl⟩
theorem swd_2 (x : Int) : (x < 0 ∨ 3 < x → ((9 : Nat) : Int) + 95 = (vsw_2 x : Int)) ∧ (0 ≤ x → x ≤ 3 → ∃ off : Int, (swd 2).2.2.2.1[(x - 0).toNat]? = some off ∧ ((9 : Nat) : Int) + off = (vsw_2 x : Int)) := by
  constructor
  · intro h
    unfold vsw_2
    rcases h with h | h
    · repeat' (first | rw [if_neg (by omega)] | rw [if_pos (by omega)])
      rfl
    · repeat' (first | rw [if_neg (by omega)] | rw [if_pos (by omega)])
      rfl
  · intro h1 h2
    rcases (show x = 0 ∨ x = 1 ∨ x = 2 ∨ x = 3 by omega) with rfl | rfl | rfl | rfl <;> exact ⟨_, rfl, rfl⟩
theorem swd_3 (x : Int) : (x < 0 ∨ 41 < x → ((40 : Nat) : Int) + 1723 = (vsw_3 x : Int)) ∧ (0 ≤ x → x ≤ 41 → ∃ off : Int, (swd 3).2.2.2.1[(x - 0).toNat]? = some off ∧ ((40 : Nat) : Int) + off = (vsw_3 x : Int)) := by
  constructor
  · intro h
    unfold vsw_3
    rcases h with h | h
    · repeat' (first | rw [if_neg (by omega)] | rw [if_pos (by omega)])
      rfl
    · repeat' (first | rw [if_neg (by omega)] | rw [if_pos (by omega)])
      rfl
  · intro h1 h2
    rcases (show x = 0 ∨ x = 1 ∨ x = 2 ∨ x = 3 ∨ x = 4 ∨ x = 5 ∨ x = 6 ∨ x = 7 ∨ x = 8 ∨ x = 9 ∨ x = 10 ∨ x = 11 ∨ x = 12 ∨ x = 13 ∨ x = 14 ∨ x = 15 ∨ x = 16 ∨ x = 17 ∨ x = 18 ∨ x = 19 ∨ x = 20 ∨ x = 21 ∨ x = 22 ∨ x = 23 ∨ x = 24 ∨ x = 25 ∨ x = 26 ∨ x = 27 ∨ x = 28 ∨ x = 29 ∨ x = 30 ∨ x = 31 ∨ x = 32 ∨ x = 33 ∨ x = 34 ∨ x = 35 ∨ x = 36 ∨ x = 37 ∨ x = 38 ∨ x = 39 ∨ x = 40 ∨ x = 41 by omega) with rfl | rfl | rfl | rfl | rfl | rfl | rfl | rfl | rfl | rfl | rfl | rfl | rfl | rfl | rfl | rfl | rfl | rfl | rfl | rfl | rfl | rfl | rfl | rfl | rfl | rfl | rfl | rfl | rfl | rfl | rfl | rfl | rfl | rfl | rfl | rfl | rfl | rfl | rfl | rfl | rfl | rfl <;> exact ⟨_, rfl, rfl⟩
theorem swd_ok (k : Nat) (hk : k < 4) (x : Int) : (x < (swd k).2.1 ∨ (swd k).2.2.1 < x → ((swd k).2.2.2.2.1 : Int) + (swd k).1 = (vswt k x : Int)) ∧ ((swd k).2.1 ≤ x → x ≤ (swd k).2.2.1 → ∃ off : Int, (swd k).2.2.2.1[(x - (swd k).2.1).toNat]? = some off ∧ ((swd k).2.2.2.2.1 : Int) + off = (vswt k x : Int)) := by
  match k, hk with
  | 0, _ => exact swd_0 x
  | 1, _ => exact swd_1 x
  | 2, _ => exact swd_2 x
  | 3, _ => exact swd_3 x
theorem z_inn0 (c : ClassId) (K : Nat) : Jvm.Free.Multi.innerC c K (defaultValue .int) = vp_cell c (K, .inl fun _ => 0) := by
  unfold Jvm.Free.Multi.innerC vp_cell arrV
  simp [defaultValue]
  apply Array.ext
  · simp
  · intro i h1 h2; simp
theorem z_inn1 (c : ClassId) (K : Nat) : Jvm.Free.Multi.innerC c K (defaultValue .long) = vp_cell c (K, .inr (.inl fun _ => 0)) := by
  unfold Jvm.Free.Multi.innerC vp_cell arrV
  simp [defaultValue]
  apply Array.ext
  · simp
  · intro i h1 h2; simp
section STEP
variable {p : Program} {l : Launch} {e : Env} {R : Room} {s : State} {m : MethodId} {args : Array Value} {below : List Frame} {meth : Method} {c : Code} {H : Heap} {locs : List Loc} {cells slots : Nat} {Q : State → Prop}
variable {n d M : Nat} {res : Nat × Int × vW} {b nX : Nat} {xs : Nat → Int32} {dC : Nat → ClassId} {dI : Nat → Nat → Nat} {A : Nat → Prop} {c0 s0 : Nat} {rw0 rw : va_W} {tys : List (ClassId × FieldType)}
variable {pc nx q : Nat} {Ls St : List vV} {w : vW} {ls : Array Slot} {st : List Value}
theorem z_iinc {k : Nat} {v z : Int} (hz : (Int32.ofInt v).toInt = z) (hk : k < vnl M) (F : zF b nX xs A M p s m args meth c) (Kn : zKn n d M res b nX xs dC dI A c0 s0 rw0 p l e R s m args below meth c Q) (hL : zL b (vnl M) rw Ls ls) (hS : zS b rw St st) (hQ : zQ b nX xs dC dI A c0 s0 rw0 s w H locs cells slots rw tys) (hd : decode (mB M) pc = .ok (.iinc k v, 3))
    (h : (bif Nat.beq (vlg Ls k).1 0 then vrun n d M (pc + 3) (vlset Ls (0, w32 ((vlg Ls k).2 + z)) k) St w else none) = some res) : W p l e R s m args below meth c H locs cells slots Q (F0 m pc ls st) := by
  cases hb : Nat.beq (vlg Ls k).1 0 with
  | false => rw [hb] at h; cases h
  | true =>
    rw [hb] at h
    have e1 := Nat.eq_of_beq_eq_true hb
    obtain ⟨x, hx, hv⟩ := hL.2.2 k (by rw [e1]; decide)
    have hv : zV b rw (0, (vlg Ls k).2) x := by rw [← e1]; exact hv
    obtain ⟨i, rfl, hi⟩ := hv.int
    obtain ⟨j, hj⟩ : ∃ j : Nat, (zlv ls)[j]? = some (k, .int i) := List.getElem?_of_mem (zlv_mem.mpr hx)
    refine lv_iinc F.1 F.2.1 hd (zlv_has hL.1 hL.2.1) hj rfl hk rfl (fun ls' h' => ?_)
    refine Kn _ _ _ _ _ _ _ _ _ _ _ _ h ⟨h'.1, h'.2.1, fun a ha => ?_⟩ hS hQ
    by_cases hak : a = k
    · subst hak
      rcases vlg_set_self (0, w32 ((vlg Ls a).2 + z)) Ls a with h1 | h1
      · rw [h1]
        exact ⟨_, h'.2.2 (a, _) List.mem_cons_self, zV.ofi' (by rw [a_add, hi, hz])⟩
      · exact absurd h1 ha
    · rw [vlg_set_ne _ _ _ _ hak] at ha ⊢
      obtain ⟨y, hy, hyv⟩ := hL.2.2 a ha
      refine ⟨y, h'.2.2 (a, y) (List.mem_cons_of_mem _ (List.mem_filter.mpr ⟨zlv_mem.mpr hy, ?_⟩)), hyv⟩
      have g1 : (a == k) = false := by simpa using hak
      dsimp only
      rw [g1]
      by_cases hi1 : a + 1 = k
      · have hc : ¬ y.category = 2 := fun hc => by
          have := hL.2.1.1 a y hy hc
          rw [hi1, hx] at this
          cases this
        have h4 : (y.category == 2) = false := by simpa using hc
        rw [h4, Bool.and_false]
        rfl
      · have g2 : (a + 1 == k) = false := by simpa using hi1
        rw [g2]; rfl
theorem cat_1 {v : vV} {x : Value} (h : zV b rw v x) (hc : vcat2 v = false) : x.category = 1 := by
  have := h.cat
  unfold vcat2 at hc
  rw [hc] at this
  exact this
theorem cat_2 {v : vV} {x : Value} (h : zV b rw v x) (hc : vcat2 v = true) : x.category = 2 := by
  have := h.cat
  unfold vcat2 at hc
  rw [hc] at this
  exact this
theorem bif_n {b : Bool} {f : vR} {r : Nat × Int × vW} (h : (bif b then none else f) = some r) : b = false ∧ f = some r := by
  cases b with
  | true => cases h
  | false => exact ⟨rfl, h⟩
theorem z_dup (F : zF b nX xs A M p s m args meth c) (Kn : zKn n d M res b nX xs dC dI A c0 s0 rw0 p l e R s m args below meth c Q) (hL : zL b (vnl M) rw Ls ls) (hS : zS b rw St st) (hQ : zQ b nX xs dC dI A c0 s0 rw0 s w H locs cells slots rw tys) (hd : decode (mB M) pc = .ok (.dup, 1)) (h : vstk 10 St (fun r => vrun n d M (pc + 1) Ls r w) = some res) : W p l e R s m args below meth c H locs cells slots Q (F0 m pc ls st) := by
  match St, h, hS with
  | a :: r, h, hS =>
    obtain ⟨hc, h⟩ := bif_n (show (bif vcat2 a then none else vrun n d M (pc + 1) Ls (a :: a :: r) w) = some res from h)
    obtain ⟨x, st, rfl, hx, hS1⟩ := hS.cons
    exact lv_dup F.1 F.2.1 hd (cat_1 hx hc) (Kn _ _ _ _ _ _ _ _ _ _ _ _ h hL ⟨hx, hx, hS1⟩ hQ)
theorem z_pop (F : zF b nX xs A M p s m args meth c) (Kn : zKn n d M res b nX xs dC dI A c0 s0 rw0 p l e R s m args below meth c Q) (hL : zL b (vnl M) rw Ls ls) (hS : zS b rw St st) (hQ : zQ b nX xs dC dI A c0 s0 rw0 s w H locs cells slots rw tys) (hd : decode (mB M) pc = .ok (.pop, 1)) (h : vstk 11 St (fun r => vrun n d M (pc + 1) Ls r w) = some res) : W p l e R s m args below meth c H locs cells slots Q (F0 m pc ls st) := by
  match St, h, hS with
  | a :: r, h, hS =>
    obtain ⟨hc, h⟩ := bif_n (show (bif vcat2 a then none else vrun n d M (pc + 1) Ls r w) = some res from h)
    obtain ⟨x, st, rfl, hx, hS1⟩ := hS.cons
    exact lv_pop F.1 F.2.1 hd (cat_1 hx hc) (Kn _ _ _ _ _ _ _ _ _ _ _ _ h hL hS1 hQ)
theorem vstk14_inv {St : List vV} {f : List vV → vR} {r : Nat × Int × vW} (h : vstk 14 St f = some r) : (∃ (a : vV) (R : List vV), St = a :: R ∧ vcat2 a = true ∧ f (a :: a :: R) = some r) ∨ ∃ (a b : vV) (R : List vV), St = a :: b :: R ∧ vcat2 a = false ∧ vcat2 b = false ∧ f (a :: b :: a :: b :: R) = some r := by
  match St, h with
  | [a], h =>
    have h : (bif vcat2 a then f [a, a] else none) = some r := h
    cases hc : vcat2 a with
    | true => rw [hc] at h; exact Or.inl ⟨a, [], rfl, hc, h⟩
    | false => rw [hc] at h; cases h
  | a :: b :: R, h =>
    have h : (bif vcat2 a then f (a :: a :: b :: R) else bif vcat2 b then none else f (a :: b :: a :: b :: R)) = some r := h
    cases hc : vcat2 a with
    | true => rw [hc] at h; exact Or.inl ⟨a, b :: R, rfl, hc, h⟩
    | false => rw [hc] at h; exact Or.inr ⟨a, b, R, rfl, hc, bif_n h⟩
theorem vstk17_inv {St : List vV} {f : List vV → vR} {r : Nat × Int × vW} (h : vstk 17 St f = some r) : (∃ (a : vV) (R : List vV), St = a :: R ∧ vcat2 a = true ∧ f R = some r) ∨ ∃ (a b : vV) (R : List vV), St = a :: b :: R ∧ vcat2 a = false ∧ vcat2 b = false ∧ f R = some r := by
  match St, h with
  | [a], h =>
    have h : (bif vcat2 a then f [] else none) = some r := h
    cases hc : vcat2 a with
    | true => rw [hc] at h; exact Or.inl ⟨a, [], rfl, hc, h⟩
    | false => rw [hc] at h; cases h
  | a :: b :: R, h =>
    have h : (bif vcat2 a then f (b :: R) else bif vcat2 b then none else f R) = some r := h
    cases hc : vcat2 a with
    | true => rw [hc] at h; exact Or.inl ⟨a, b :: R, rfl, hc, h⟩
    | false => rw [hc] at h; exact Or.inr ⟨a, b, R, rfl, hc, bif_n h⟩
theorem z_dup2 (F : zF b nX xs A M p s m args meth c) (Kn : zKn n d M res b nX xs dC dI A c0 s0 rw0 p l e R s m args below meth c Q) (hL : zL b (vnl M) rw Ls ls) (hS : zS b rw St st) (hQ : zQ b nX xs dC dI A c0 s0 rw0 s w H locs cells slots rw tys) (hd : decode (mB M) pc = .ok (.dup2, 1)) (h : vstk 14 St (fun r => vrun n d M (pc + 1) Ls r w) = some res) : W p l e R s m args below meth c H locs cells slots Q (F0 m pc ls st) := by
  rcases vstk14_inv h with ⟨a, r, rfl, hc, h⟩ | ⟨a, a2, r, rfl, hc, hc2, h⟩
  · obtain ⟨x, st, rfl, hx, hS1⟩ := hS.cons
    exact lv_dup2_2 F.1 F.2.1 hd (cat_2 hx hc) (Kn _ _ _ _ _ _ _ _ _ _ _ _ h hL ⟨hx, hx, hS1⟩ hQ)
  · obtain ⟨x, st, rfl, hx, hS1⟩ := hS.cons
    obtain ⟨y, st, rfl, hy, hS2⟩ := hS1.cons
    exact lv_dup2_11 F.1 F.2.1 hd (cat_1 hx hc) (cat_1 hy hc2) (Kn _ _ _ _ _ _ _ _ _ _ _ _ h hL ⟨hx, hy, hx, hy, hS2⟩ hQ)
theorem z_pop2 (F : zF b nX xs A M p s m args meth c) (Kn : zKn n d M res b nX xs dC dI A c0 s0 rw0 p l e R s m args below meth c Q) (hL : zL b (vnl M) rw Ls ls) (hS : zS b rw St st) (hQ : zQ b nX xs dC dI A c0 s0 rw0 s w H locs cells slots rw tys) (hd : decode (mB M) pc = .ok (.pop2, 1)) (h : vstk 17 St (fun r => vrun n d M (pc + 1) Ls r w) = some res) : W p l e R s m args below meth c H locs cells slots Q (F0 m pc ls st) := by
  rcases vstk17_inv h with ⟨a, r, rfl, hc, h⟩ | ⟨a, a2, r, rfl, hc, hc2, h⟩
  · obtain ⟨x, st, rfl, hx, hS1⟩ := hS.cons
    exact lv_pop2_2 F.1 F.2.1 hd (cat_2 hx hc) (Kn _ _ _ _ _ _ _ _ _ _ _ _ h hL hS1 hQ)
  · obtain ⟨x, st, rfl, hx, hS1⟩ := hS.cons
    obtain ⟨y, st, rfl, hy, hS2⟩ := hS1.cons
    exact lv_pop2_11 F.1 F.2.1 hd (cat_1 hx hc) (cat_1 hy hc2) (Kn _ _ _ _ _ _ _ _ _ _ _ _ h hL hS2 hQ)
theorem z_ifnull {off : Int} {tgt : Nat} (ht : (pc : Int) + off = (tgt : Int)) (F : zF b nX xs A M p s m args meth c) (Kn : zKn n d M res b nX xs dC dI A c0 s0 rw0 p l e R s m args below meth c Q) (hL : zL b (vnl M) rw Ls ls) (hS : zS b rw St st) (hQ : zQ b nX xs dC dI A c0 s0 rw0 s w H locs cells slots rw tys) (hd : decode (mB M) pc = .ok (.ifnull off, 3))
    (h : v1 2 St (fun x r => if x = -1 then vrun n d M tgt Ls r w else vrun n d M (pc + 3) Ls r w) = some res) : W p l e R s m args below meth c H locs cells slots Q (F0 m pc ls st) := by
  obtain ⟨x, r, hSt, h2⟩ := v1_inv h
  clear h
  subst hSt
  obtain ⟨v, st, rfl, hv, hS1⟩ := hS.cons
  rcases hv.rf with ⟨rfl, rfl⟩ | ⟨rfl, rfl⟩ | ⟨j, q', rfl, -, rfl⟩
  · rw [if_pos rfl] at h2; exact lv_ifnullN F.1 F.2.1 hd ht (Kn _ _ _ _ _ _ _ _ _ _ _ _ h2 hL hS1 hQ)
  · rw [if_neg (by decide)] at h2; exact lv_ifnull F.1 F.2.1 hd (Kn _ _ _ _ _ _ _ _ _ _ _ _ h2 hL hS1 hQ)
  · rw [if_neg (by omega)] at h2; exact lv_ifnull F.1 F.2.1 hd (Kn _ _ _ _ _ _ _ _ _ _ _ _ h2 hL hS1 hQ)
theorem z_ifnonnull {off : Int} {tgt : Nat} (ht : (pc : Int) + off = (tgt : Int)) (F : zF b nX xs A M p s m args meth c) (Kn : zKn n d M res b nX xs dC dI A c0 s0 rw0 p l e R s m args below meth c Q) (hL : zL b (vnl M) rw Ls ls) (hS : zS b rw St st) (hQ : zQ b nX xs dC dI A c0 s0 rw0 s w H locs cells slots rw tys) (hd : decode (mB M) pc = .ok (.ifnonnull off, 3))
    (h : v1 2 St (fun x r => if x = -1 then vrun n d M (pc + 3) Ls r w else vrun n d M tgt Ls r w) = some res) : W p l e R s m args below meth c H locs cells slots Q (F0 m pc ls st) := by
  obtain ⟨x, r, hSt, h2⟩ := v1_inv h
  clear h
  subst hSt
  obtain ⟨v, st, rfl, hv, hS1⟩ := hS.cons
  rcases hv.rf with ⟨rfl, rfl⟩ | ⟨rfl, rfl⟩ | ⟨j, q', rfl, -, rfl⟩
  · rw [if_pos rfl] at h2; exact lv_ifnonnullN F.1 F.2.1 hd (Kn _ _ _ _ _ _ _ _ _ _ _ _ h2 hL hS1 hQ)
  · rw [if_neg (by decide)] at h2; exact lv_ifnonnull F.1 F.2.1 hd ht (Kn _ _ _ _ _ _ _ _ _ _ _ _ h2 hL hS1 hQ)
  · rw [if_neg (by omega)] at h2; exact lv_ifnonnull F.1 F.2.1 hd ht (Kn _ _ _ _ _ _ _ _ _ _ _ _ h2 hL hS1 hQ)
theorem z_switch {k : Nat} {df lo hi : Int} {offs : Array Int} {ln : Nat} (hk : k < 4) (hsw : (df, lo, hi, offs, pc, ln) = swd k) (F : zF b nX xs A M p s m args meth c) (Kn : zKn n d M res b nX xs dC dI A c0 s0 rw0 p l e R s m args below meth c Q) (hL : zL b (vnl M) rw Ls ls) (hS : zS b rw St st) (hQ : zQ b nX xs dC dI A c0 s0 rw0 s w H locs cells slots rw tys) (hd : decode (mB M) pc = .ok (.tableswitch df lo hi offs, ln))
    (h : v1 0 St (fun x r => vrun n d M (vswt k x) Ls r w) = some res) : W p l e R s m args below meth c H locs cells slots Q (F0 m pc ls st) := by
  obtain ⟨x, r, rfl, h⟩ := v1_inv h
  obtain ⟨v, st, rfl, hv, hS1⟩ := hS.cons
  obtain ⟨i, rfl, rfl⟩ := hv.int
  have hs := swd_ok k hk i.toInt
  rw [← hsw] at hs
  dsimp only at hs
  by_cases h1 : i.toInt < lo ∨ hi < i.toInt
  · exact lv_tableOut F.1 F.2.1 hd h1 (hs.1 h1) (Kn _ _ _ _ _ _ _ _ _ _ _ _ h hL hS1 hQ)
  · obtain ⟨off, ho, ht⟩ := hs.2 (by omega) (by omega)
    exact lv_tableIn F.1 F.2.1 hd (by omega) (by omega) ho ht (Kn _ _ _ _ _ _ _ _ _ _ _ _ h hL hS1 hQ)
end STEP
