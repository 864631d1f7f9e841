/-! the world: what a check of V tells of the machine's cells -/
theorem vtg_ok (t : Nat) : vtg t = bif Nat.beq t 3 then 0 else t := rfl
theorem zE.up {b : Nat} {rw rw' : va_W} {tys tys' : List (ClassId × FieldType)} {c : vC} {e : va_E} (h : zE b rw tys c e) (hp : zpre rw rw') (ht : ∀ (t : Nat) (q : ClassId × FieldType), tys[t]? = some q → tys'[t]? = some q) : zE b rw' tys' c e := by
  match e, h with
  | .inr o, h =>
    obtain ⟨h1, r, h2, h3, h4⟩ := h
    exact ⟨h1, r, h2, h3, fun j hj => (h4 j hj).up hp⟩
  | .inl (cA, n, .inl f), h =>
    obtain ⟨⟨t, h1⟩, h2⟩ := h
    exact ⟨⟨t, h1.elim (fun z => Or.inl ⟨z.1, ht _ _ z.2⟩) (fun z => Or.inr ⟨z.1, ht _ _ z.2⟩)⟩, h2⟩
  | .inl (cA, n, .inr (.inl f)), h =>
    obtain ⟨⟨t, h1, h3⟩, h2⟩ := h
    exact ⟨⟨t, h1, ht _ _ h3⟩, h2⟩
  | .inl (cA, n, .inr (.inr (.inr (.inr f)))), h =>
    obtain ⟨⟨t, h1, h3⟩, h2, h4, h5⟩ := h
    exact ⟨⟨t, h1, ht _ _ h3⟩, h2, h4, fun j hj => ⟨(h5 j hj).1.up hp, (h5 j hj).2⟩⟩
theorem zE.obj {b : Nat} {rw : va_W} {tys : List (ClassId × FieldType)} {c : vC} {e : va_E} (h : zE b rw tys c e) {k : Nat} (hk : c.1 = k) (h10 : 10 ≤ k) : ∃ fs : List Value, e = .inr (k - 10, fs) ∧ ∃ r : vw_C, vwCl[k - 10]? = some r ∧ fs.length = r.2.2 ∧ ∀ j : Nat, j < r.2.2 → zV b rw (vtg (ftg (r.2.1 j).2.2.1), c.2.2 (j : Int)) (vp_V fs j) := by
  match e, h with
  | .inr (ci, fs), h =>
    obtain ⟨h1, r, h2, h3, h4⟩ := h
    have e1 : k - 10 = ci := by dsimp only at h1; omega
    rw [e1]
    exact ⟨fs, rfl, r, h2, h3, h4⟩
  | .inl (cA, n, .inl f), h =>
    obtain ⟨⟨t, h1⟩, h2⟩ := h
    rcases h1 with h1 | h1 <;> (have := h1.1; omega)
  | .inl (cA, n, .inr (.inl f)), h =>
    obtain ⟨⟨t, h1, h3⟩, h2⟩ := h
    omega
  | .inl (cA, n, .inr (.inr (.inr (.inr f)))), h =>
    obtain ⟨⟨t, h1, h3⟩, h2, h4, h5⟩ := h
    omega
theorem zE.ints {b : Nat} {rw : va_W} {tys : List (ClassId × FieldType)} {c : vC} {e : va_E} (h : zE b rw tys c e) {k : Nat} (hk : c.1 = k) (h1 : k = 1 ∨ k = 3) : ∃ (cA : ClassId) (n : Nat) (f : Nat → Int32) (t : Nat), e = .inl (cA, n, .inl f) ∧ tys[t]? = some (cA, kty k) ∧ c.2.1 = (n : Int) ∧ n ≤ 1000000 ∧ ∀ j : Nat, j < n → c.2.2 (j : Int) = (f j).toInt := by
  match e, h with
  | .inr (ci, fs), h => have := h.1; dsimp only at this; omega
  | .inl (cA, n, .inl f), h =>
    obtain ⟨⟨t, h2⟩, h3⟩ := h
    refine ⟨cA, n, f, t, rfl, ?_, h3⟩
    rcases h2 with ⟨h2, h4⟩ | ⟨h2, h4⟩
    · rw [show k = 1 by omega]; exact h4
    · rw [show k = 3 by omega]; exact h4
  | .inl (cA, n, .inr (.inl f)), h =>
    obtain ⟨⟨t, h1, h3⟩, h2⟩ := h
    omega
  | .inl (cA, n, .inr (.inr (.inr (.inr f)))), h =>
    obtain ⟨⟨t, h1, h3⟩, h2, h4, h5⟩ := h
    omega
theorem zE.longs {b : Nat} {rw : va_W} {tys : List (ClassId × FieldType)} {c : vC} {e : va_E} (h : zE b rw tys c e) (hk : c.1 = 2) : ∃ (cA : ClassId) (n : Nat) (f : Nat → Int64) (t : Nat), e = .inl (cA, n, .inr (.inl f)) ∧ tys[t]? = some (cA, .long) ∧ c.2.1 = (n : Int) ∧ n ≤ 1000000 ∧ ∀ j : Nat, j < n → c.2.2 (j : Int) = (f j).toInt := by
  match e, h with
  | .inr (ci, fs), h => have := h.1; dsimp only at this; omega
  | .inl (cA, n, .inl f), h =>
    obtain ⟨⟨t, h2⟩, h3⟩ := h
    omega
  | .inl (cA, n, .inr (.inl f)), h =>
    obtain ⟨⟨t, h1, h3⟩, h2⟩ := h
    exact ⟨cA, n, f, t, rfl, h3, h2⟩
  | .inl (cA, n, .inr (.inr (.inr (.inr f)))), h =>
    obtain ⟨⟨t, h1, h3⟩, h2, h4, h5⟩ := h
    omega
theorem zE.refs {b : Nat} {rw : va_W} {tys : List (ClassId × FieldType)} {c : vC} {e : va_E} (h : zE b rw tys c e) {k : Nat} (hk : c.1 = k) (h1 : k = 4 ∨ k = 5 ∨ k = 6 ∨ k = 7) : ∃ (cA : ClassId) (n : Nat) (f : Nat → Option Nat) (t : Nat), e = .inl (cA, n, .inr (.inr (.inr (.inr f)))) ∧ tys[t]? = some (cA, kty k) ∧ c.2.1 = (n : Int) ∧ n ≤ 1000000 ∧ ∀ j : Nat, j < n → zN b rw (c.2.2 (j : Int)) (va_rf (f j)) ∧ c.2.2 (j : Int) ≠ -2 := by
  match e, h with
  | .inr (ci, fs), h => have := h.1; dsimp only at this; omega
  | .inl (cA, n, .inl f), h =>
    obtain ⟨⟨t, h2⟩, h3⟩ := h
    omega
  | .inl (cA, n, .inr (.inl f)), h =>
    obtain ⟨⟨t, h1, h3⟩, h2⟩ := h
    omega
  | .inl (cA, n, .inr (.inr (.inr (.inr f)))), h =>
    obtain ⟨⟨t, h1, h3⟩, h2, h4, h5⟩ := h
    rw [hk] at h3
    exact ⟨cA, n, f, t, rfl, h3, h2, h4, h5⟩
section WORLD
variable {b nX : Nat} {xs : Nat → Int32} {w : vW} {rw : va_W} {tys tys' : List (ClassId × FieldType)}
/-- a cell of some kind is a cell of the machine's -/
theorem zW.cell (h : zW b nX xs w rw tys) {a : Int} {k : Nat} (hk : vkd w a = k) (h0 : k ≠ 0) (h99 : k ≠ 99) : ∃ (j : Nat) (q : Nat × va_E), a = (j : Int) ∧ rw[j]? = some q ∧ zE b rw tys (w.1 a) q.2 := by
  rcases h.2.2.1 a (by rw [hk]; exact h0) with rfl | ⟨j, hj, rfl⟩
  · exact absurd (by rw [← hk]; show (w.1 (-2)).1 = 99; rw [h.2.1]) h99
  · obtain ⟨q, hq⟩ : ∃ q, rw[j]? = some q := ⟨rw[j], List.getElem?_eq_getElem hj⟩
    exact ⟨j, q, rfl, hq, h.2.2.2.1 j q hq⟩
theorem zN.at {j : Nat} {x : Value} {q : Nat × va_E} (h : zN b rw (j : Int) x) (hq : rw[j]? = some q) : x = .ref q.1 := by
  rcases h with ⟨h, -⟩ | ⟨h, -⟩ | ⟨i, q', h1, h2, h3⟩
  · omega
  · omega
  · have : j = i := by omega
    subst this
    rw [hq] at h2
    cases h2
    exact h3
theorem zW.upd (h : zW b nX xs w rw tys) {j a : Nat} {e e' : va_E} (hj : rw[j]? = some (a, e)) {w' : vW} (h1 : w'.2 = w.2) (h2 : ∀ x : Int, x ≠ (j : Int) → w'.1 x = w.1 x) (h3 : (w'.1 (j : Int)).1 = (w.1 (j : Int)).1) (he : zE b rw tys (w'.1 (j : Int)) e') : zW b nX xs w' (rw.set j (a, e')) tys := by
  have hp : zpre rw (rw.set j (a, e')) := zpre.set hj
  refine ⟨?_, ?_, fun x hx => ?_, fun k q hq => ?_, h.2.2.2.2⟩
  · unfold vnt; rw [h1, List.length_set]; exact h.1
  · rw [h2 _ (by omega)]; exact h.2.1
  · have hx' : vkd w x ≠ 0 := by
      by_cases hxj : x = (j : Int)
      · rw [hxj]; unfold vkd; rw [← h3, ← hxj]; exact hx
      · unfold vkd; rw [← h2 x hxj]; exact hx
    rw [List.length_set]
    exact h.2.2.1 x hx'
  · by_cases hk : j = k
    · subst hk
      rw [List.getElem?_set_self (List.getElem?_eq_some_iff.mp hj).1] at hq
      cases hq
      exact he.up hp (fun _ _ z => z)
    · rw [List.getElem?_set_ne hk] at hq
      rw [h2 _ (by omega)]
      exact (h.2.2.2.1 k q hq).up hp (fun _ _ z => z)
theorem zW.push (h : zW b nX xs w rw tys) {k s : Nat} {len : Int} {ct : Int → Int} {q : Nat × va_E} (hk0 : k ≠ 0) (ht : ∀ (t : Nat) (q : ClassId × FieldType), tys[t]? = some q → tys'[t]? = some q) (he : zE b (rw ++ [q]) tys' (k, len, ct) q.2) : zW b nX xs (vnw w k len ct s) (rw ++ [q]) tys' := by
  have hn := h.1
  unfold vnt at hn
  refine ⟨?_, ?_, fun x hx => ?_, fun i q' hq => ?_, h.2.2.2.2.1.elim (fun c z => ⟨c, ht _ _ z⟩), h.2.2.2.2.2.elim (fun c z => ⟨c, ht _ _ z⟩)⟩
  · show w.2.1 + 1 = _; rw [hn, List.length_append]; simp
  · show (if (-2 : Int) = w.2.1 then _ else w.1 (-2)) = _
    rw [if_neg (by omega)]; exact h.2.1
  · have hx : (if x = w.2.1 then (k, len, ct) else w.1 x).1 ≠ 0 := hx
    rw [List.length_append]
    by_cases hxn : x = w.2.1
    · exact Or.inr ⟨rw.length, by simp, by omega⟩
    · rw [if_neg hxn] at hx
      rcases h.2.2.1 x hx with h1 | ⟨j, h1, h2⟩
      · exact Or.inl h1
      · exact Or.inr ⟨j, by simp; omega, h2⟩
  · show zE b (rw ++ [q]) tys' (if (i : Int) = w.2.1 then (k, len, ct) else w.1 (i : Int)) q'.2
    by_cases hi : i < rw.length
    · rw [if_neg (by omega)]
      rw [List.getElem?_append_left hi] at hq
      exact (h.2.2.2.1 i q' hq).up (zpre.push _ _) ht
    · have hi2 : i = rw.length := by
        have := (List.getElem?_eq_some_iff.mp hq).1
        rw [List.length_append] at this
        simp at this
        omega
      subst hi2
      rw [if_pos (by omega)]
      rw [List.getElem?_append_right (Nat.le_refl _), Nat.sub_self] at hq
      cases hq
      exact he
end WORLD
theorem vsv_2 (w : vW) (a i v : Int) : (vsv w a i v).2 = w.2 := rfl
theorem vsv_ne (w : vW) {a b : Int} (i v : Int) (h : b ≠ a) : (vsv w a i v).1 b = w.1 b := if_neg h
theorem vsv_eq (w : vW) (a i v : Int) : (vsv w a i v).1 a = (vkd w a, vln w a, fun j => if j = i then v else vct w a j) := if_pos rfl
/-! classes: layout, types, names -/
def tyt (t : FieldType) : Nat := match t with
  | .int => 0
  | .long => 1
  | .boolean => 3
  | .object _ => 2
  | .array _ => 2
  | _ => 7
def zcl (k : Nat) (r : vw_C) : Prop := GoodIn lw_tbl (u_ws r.1 r.2.1 r.2.2) ∧ (∃ ty0 : Nat → FieldType, (∀ j, j < r.2.2 → parseFieldDescriptor (r.2.1 j).2.2.1 = some (ty0 j)) ∧ ∀ j, j < r.2.2 → tyt (ty0 j) = ftg (r.2.1 j).2.2.1) ∧ (∀ a, a < r.2.2 → ∀ b, b < r.2.2 → a ≠ b → (r.2.1 a).2.1 ≠ (r.2.1 b).2.1) ∧ ∀ j, j < r.2.2 → vdfl (10 + k) (j : Int) = bif Nat.beq (ftg (r.2.1 j).2.2.1) 2 then -1 else 0
theorem zcl_0 : zcl 0 (RX0, TX0, 6) := ⟨goodIn_of _ (by decide +kernel), ⟨tyX0, tyX0_ok, by decide +kernel⟩, nmX0, by decide +kernel⟩
theorem zcl_1 : zcl 1 (RX1, TX1, 6) := ⟨goodIn_of _ (by decide +kernel), ⟨tyX1, tyX1_ok, by decide +kernel⟩, nmX1, by decide +kernel⟩
theorem zcl_2 : zcl 2 (RX2, TX2, 6) := ⟨goodIn_of _ (by decide +kernel), ⟨tyX2, tyX2_ok, by decide +kernel⟩, nmX2, by decide +kernel⟩
theorem zcl_3 : zcl 3 (RX3, TX3, 10) := ⟨goodIn_of _ (by decide +kernel), ⟨tyX3, tyX3_ok, by decide +kernel⟩, nmX3, by decide +kernel⟩
theorem zcl_4 : zcl 4 (RX4, TX4, 9) := ⟨goodIn_of _ (by decide +kernel), ⟨tyX4, tyX4_ok, by decide +kernel⟩, nmX4, by decide +kernel⟩
theorem zcl_5 : zcl 5 (RX5, TX5, 18) := ⟨goodIn_of _ (by decide +kernel), ⟨tyX5, tyX5_ok, by decide +kernel⟩, nmX5, by decide +kernel⟩
theorem zcl_6 : zcl 6 (RX6, TX6, 8) := ⟨goodIn_of _ (by decide +kernel), ⟨tyX6, tyX6_ok, by decide +kernel⟩, nmX6, by decide +kernel⟩
theorem zcl_7 : zcl 7 (RX7, TX7, 9) := ⟨goodIn_of _ (by decide +kernel), ⟨tyX7, tyX7_ok, by decide +kernel⟩, nmX7, by decide +kernel⟩
theorem zcl_8 : zcl 8 (RX8, TX8, 7) := ⟨goodIn_of _ (by decide +kernel), ⟨tyX8, tyX8_ok, by decide +kernel⟩, nmX8, by decide +kernel⟩
theorem zcl_9 : zcl 9 (RX10, TX10, 4) := ⟨goodIn_of _ (by decide +kernel), ⟨tyX10, tyX10_ok, by decide +kernel⟩, nmX10, by decide +kernel⟩
theorem zcl_10 : zcl 10 (RX11, TX11, 2) := ⟨goodIn_of _ (by decide +kernel), ⟨tyX11, tyX11_ok, by decide +kernel⟩, nmX11, by decide +kernel⟩
theorem zcl_11 : zcl 11 (RX12, TX12, 15) := ⟨goodIn_of _ (by decide +kernel), ⟨tyX12, tyX12_ok, by decide +kernel⟩, nmX12, by decide +kernel⟩
theorem zcl_12 : zcl 12 (RX13, TX13, 62) := ⟨goodIn_of _ (by decide +kernel), ⟨tyX13, tyX13_ok, by decide +kernel⟩, nmX13, by decide +kernel⟩
theorem zcl_all (k : Nat) (r : vw_C) (h : vwCl[k]? = some r) : zcl k r := by
  match k, h with
  | 0, h => cases h; exact zcl_0
  | 1, h => cases h; exact zcl_1
  | 2, h => cases h; exact zcl_2
  | 3, h => cases h; exact zcl_3
  | 4, h => cases h; exact zcl_4
  | 5, h => cases h; exact zcl_5
  | 6, h => cases h; exact zcl_6
  | 7, h => cases h; exact zcl_7
  | 8, h => cases h; exact zcl_8
  | 9, h => cases h; exact zcl_9
  | 10, h => cases h; exact zcl_10
  | 11, h => cases h; exact zcl_11
  | 12, h => cases h; exact zcl_12
  | k + 13, h => simp [vwCl] at h
theorem good_word_of {w : Cond} (h : (w.onTables && w.keeps) = true ∨ ∃ ty, w = .arrayClass ty) : goodWord w = true := by
  rcases h with h | ⟨ty, rfl⟩
  · cases w <;> first | exact h | rfl
  · rfl
