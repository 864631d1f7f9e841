/-! what a cell is: an object with its fields, a row -/
def OB (w : vW) (a : Int) (k : Nat) (l : List Int) : Prop := vkd w a = k ∧ ∀ j : Nat, j < l.length → vct w a (j : Int) = l.getD j 0
section CELLS
variable {w w0 w' : vW} {a b i v N : Int} {k n s : Nat} {l : List Int} {F : vW → Prop}
theorem lt_blt {i n : Nat} (h : Nat.blt i n = true) : i < n := Nat.le_of_ble_eq_true h
theorem OB.f (h : OB w a k l) (j : Nat) (hj : Nat.blt j l.length = true) : vct w a (j : Int) = l.getD j 0 := h.2 j (lt_blt hj)
theorem OB.c (h : OB w a k l) (e : w'.1 a = w.1 a) : OB w' a k l := ⟨(vkd_cl e).trans h.1, fun j hj => (congrFun (vct_cl e) _).trans (h.2 j hj)⟩
theorem OB.st (h : OB w a k l) (j : Nat) : OB (vsv w a (j : Int) v) a k (l.set j v) := by
  refine ⟨vkd_sv.trans h.1, fun q hq => ?_⟩
  rw [List.length_set] at hq
  rw [vct_sv]
  by_cases e : q = j
  · subst e
    rw [if_pos ⟨rfl, rfl⟩, List.getD_eq_getElem?_getD, List.getElem?_set_self hq]
    rfl
  · rw [if_neg (fun x => e (Int.ofNat.inj x.2)), h.2 q hq, List.getD_eq_getElem?_getD, List.getD_eq_getElem?_getD, List.getElem?_set_ne (fun x => e x.symm)]
theorem OB.any (h : vkd w a = k) (n : Nat) : OB w a k ((List.range n).map fun (j : Nat) => vct w a (j : Int)) := by
  refine ⟨h, fun j hj => ?_⟩
  rw [List.length_map, List.length_range] at hj
  rw [List.getD_eq_getElem?_getD, List.getElem?_map, List.getElem?_range hj]
  rfl
/-- a maker at work on the object a: its fields so far, n new cells of s slots from N on, F of them -/
def CS (N : Int) (w0 w : vW) (a : Int) (k : Nat) (l : List Int) (n s : Nat) (F : vW → Prop) : Prop :=
  OB w a k l ∧ a < N ∧ vnt w = N + n ∧ vec w = vec w0 + n ∧ ves w = ves w0 + s ∧ (∀ b, b < N → b ≠ a → w.1 b = w0.1 b) ∧ ∀ w' : vW, (∀ b, N ≤ b → b < N + n → w'.1 b = w.1 b) → F w'
theorem CS.start (h : OB w a k l) (hN : vnt w = N) (hl : a < N) : CS N w w a k l 0 0 (fun _ => True) :=
  ⟨h, hl, by omega, rfl, rfl, fun _ _ _ => rfl, fun _ _ => trivial⟩
theorem CS.al {q m : Nat} {z : Int} {c : Int → Int} (h : CS N w0 w a k l n s F) : CS N w0 (vnw w q z c m) a k l (n + 1) (s + m) (fun w' => F w' ∧ w'.1 (N + n) = (q, z, c)) := by
  obtain ⟨h1, h2, h3, h4, h5, h6, h7⟩ := h
  have hv : vnt (vnw w q z c m) = vnt w + 1 := rfl
  refine ⟨h1.c (vcl_nw (by omega)), h2, by rw [hv]; omega, by rw [vec_nw]; omega, by rw [ves_nw]; omega, fun b hb hba => (vcl_nw (by omega)).trans (h6 b hb hba), fun w' hw' => ⟨h7 w' fun b hb hb2 => (hw' b hb (by omega)).trans (vcl_nw (by omega)), ?_⟩⟩
  rw [← h3, hw' (vnt w) (by omega) (by omega)]
  exact if_pos rfl
theorem CS.st (h : CS N w0 w a k l n s F) (j : Nat) : CS N w0 (vsv w a (j : Int) v) a k (l.set j v) n s F := by
  obtain ⟨h1, h2, h3, h4, h5, h6, h7⟩ := h
  exact ⟨h1.st j, h2, h3, h4, h5, fun b hb hba => (vcl_sv hba).trans (h6 b hb hba), fun w' hw' => h7 w' fun b hb hb2 => (hw' b hb hb2).trans (vcl_sv (by omega))⟩
theorem CS.fin (h : CS N w0 w a k l n s F) : F w := h.2.2.2.2.2.2 w fun _ _ _ => rfl
theorem CS.vn (h : CS N w0 w a k l n s F) : vnt w = N + n := h.2.2.1
theorem CS.kd (h : CS N w0 w a k l n s F) : vkd w a = k := h.1.1
/-- a part b of it, at the last of the new cells, was made by its own maker -/
theorem CS.sub {w1 : vW} {q z m m2 s2 : Nat} {c : Int → Int} {l2 : List Int} {G : vW → Prop} (h : CS N w0 w a k l n s F) (g : CS (N + (n + 1 : Nat)) (vnw w q z c m) w1 (N + n) q l2 m2 s2 G) : CS N w0 w1 a k l (n + 1 + m2) (s + m + s2) (fun w' => F w' ∧ OB w' (N + n) q l2 ∧ G w') := by
  obtain ⟨h1, h2, h3, h4, h5, h6, h7⟩ := h
  obtain ⟨g1, g2, g3, g4, g5, g6, g7⟩ := g
  have e1 : ∀ b, b < N + n → w1.1 b = w.1 b := fun b hb => (g6 b (by omega) (by omega)).trans (vcl_nw (by omega))
  refine ⟨h1.c (e1 a (by omega)), h2, by omega, by rw [g4, vec_nw]; omega, by rw [g5, ves_nw]; omega, fun b hb hba => (e1 b (by omega)).trans (h6 b hb hba), fun w' hw' => ⟨h7 w' fun b hb hb2 => (hw' b hb (by omega)).trans (e1 b hb2), g1.c (hw' _ (by omega) (by omega)), g7 w' fun b hb hb2 => hw' b (by omega) (by omega)⟩⟩
theorem OB.nw {q m f : Nat} {z : Int} {c : Int → Int} : OB (vnw w q z c m) (vnt w) q ((List.range f).map fun (j : Nat) => c (j : Int)) := by
  have h1 : vkd (vnw w q z c m) (vnt w) = q := vkd_nw.trans (if_pos rfl)
  refine ⟨h1, fun j hj => ?_⟩
  rw [List.length_map, List.length_range] at hj
  rw [vct_nw, if_pos rfl, List.getD_eq_getElem?_getD, List.getElem?_map, List.getElem?_range hj]
  rfl
theorem CS.nob {q m f : Nat} {z : Int} {c : Int → Int} (h : CS N w0 w a k l n s F) : OB (vnw w q z c m) (N + n) q ((List.range f).map fun (j : Nat) => c (j : Int)) := by
  rw [← h.vn]
  exact OB.nw
theorem CS.nvn {q m : Nat} {z : Int} {c : Int → Int} (h : CS N w0 w a k l n s F) : vnt (vnw w q z c m) = N + (n + 1 : Nat) := by
  rw [vnt_nw, h.vn]; omega
/-- a row of its own is written -/
theorem CS.up {c : Int → Int} {F' : vW → Prop} (h : CS N w0 w a k l n s F) (hb : N ≤ b ∧ b < N + n) (hF : ∀ w' : vW, (∀ x, N ≤ x → x < N + n → x ≠ b → w'.1 x = w.1 x) → w'.1 b = (vkd w b, vln w b, c) → F' w') : CS N w0 (vup w b c) a k l n s F' := by
  obtain ⟨h1, h2, h3, h4, h5, h6, h7⟩ := h
  refine ⟨h1.c (vcl_up (by omega)), h2, h3, h4, h5, fun x hx hxa => (vcl_up (by omega)).trans (h6 x hx hxa), fun w' hw' => hF w' (fun x hx hx2 hxb => (hw' x hx hx2).trans (vcl_up hxb)) ((hw' b hb.1 hb.2).trans (if_pos rfl))⟩
/-- the same, and a row b of its own stands apart -/
def CB (N : Int) (w0 w : vW) (a : Int) (k : Nat) (l : List Int) (n s : Nat) (F : vW → Prop) (b : Int) (kb : Nat) (zb : Int) (lb : List Int) : Prop :=
  OB w a k l ∧ a < N ∧ vnt w = N + n ∧ vec w = vec w0 + n ∧ ves w = ves w0 + s ∧ (∀ b, b < N → b ≠ a → w.1 b = w0.1 b) ∧ (N ≤ b ∧ b < N + n ∧ OB w b kb lb ∧ vln w b = zb) ∧ ∀ w' : vW, (∀ x, N ≤ x → x < N + n → x ≠ b → w'.1 x = w.1 x) → F w'
theorem CB.start {q m f : Nat} {z : Int} {c : Int → Int} (h : CS N w0 w a k l n s F) : CB N w0 (vnw w q z c m) a k l (n + 1) (s + m) F (N + n) q z ((List.range f).map fun (j : Nat) => c (j : Int)) := by
  obtain ⟨h1, h2, h3, h4, h5, h6, h7⟩ := id h
  have hv : vnt (vnw w q z c m) = vnt w + 1 := rfl
  refine ⟨h1.c (vcl_nw (by omega)), h2, by rw [hv]; omega, by rw [vec_nw]; omega, by rw [ves_nw]; omega, fun b hb hba => (vcl_nw (by omega)).trans (h6 b hb hba), ⟨by omega, by omega, h.nob, ?_⟩, fun w' hw' => h7 w' fun x hx hx2 => (hw' x hx (by omega) (by omega)).trans (vcl_nw (by omega))⟩
  rw [vln_nw, if_pos h3.symm]
theorem CB.sub {w1 : vW} {q z m m2 s2 : Nat} {c : Int → Int} {l2 lb : List Int} {kb : Nat} {zb : Int} {G : vW → Prop} (h : CB N w0 w a k l n s F b kb zb lb) (g : CS (N + (n + 1 : Nat)) (vnw w q z c m) w1 (N + n) q l2 m2 s2 G) : CB N w0 w1 a k l (n + 1 + m2) (s + m + s2) (fun w' => F w' ∧ OB w' (N + n) q l2 ∧ G w') b kb zb lb := by
  obtain ⟨h1, h2, h3, h4, h5, h6, ⟨hb1, hb2, hb3, hb4⟩, h7⟩ := h
  obtain ⟨g1, g2, g3, g4, g5, g6, g7⟩ := g
  have e1 : ∀ b, b < N + n → w1.1 b = w.1 b := fun b hb => (g6 b (by omega) (by omega)).trans (vcl_nw (by omega))
  refine ⟨h1.c (e1 a (by omega)), h2, by omega, by rw [g4, vec_nw]; omega, by rw [g5, ves_nw]; omega, fun b hb hba => (e1 b (by omega)).trans (h6 b hb hba), ⟨hb1, by omega, hb3.c (e1 b hb2), (vln_cl (e1 b hb2)).trans hb4⟩, fun w' hw' => ⟨h7 w' fun b hb hb2 hb3 => (hw' b hb (by omega) hb3).trans (e1 b hb2), g1.c (hw' _ (by omega) (by omega) (by omega)), g7 w' fun b hb hb2 => hw' b (by omega) (by omega) (by omega)⟩⟩
theorem CB.st {kb : Nat} {zb : Int} {lb : List Int} (h : CB N w0 w a k l n s F b kb zb lb) (j : Nat) : CB N w0 (vsv w b (j : Int) v) a k l n s F b kb zb (lb.set j v) := by
  obtain ⟨h1, h2, h3, h4, h5, h6, ⟨hb1, hb2, hb3, hb4⟩, h7⟩ := h
  refine ⟨h1.c (vcl_sv (by omega)), h2, h3, h4, h5, fun x hx hxa => (vcl_sv (by omega)).trans (h6 x hx hxa), ⟨hb1, hb2, hb3.st j, vln_sv.trans hb4⟩, fun w' hw' => h7 w' fun x hx hx2 hxb => (hw' x hx hx2 hxb).trans (vcl_sv hxb)⟩
theorem CB.cs {kb : Nat} {zb : Int} {lb : List Int} (h : CB N w0 w a k l n s F b kb zb lb) : CS N w0 w a k l n s (fun w' => F w' ∧ OB w' b kb lb ∧ vln w' b = zb) := by
  obtain ⟨h1, h2, h3, h4, h5, h6, ⟨hb1, hb2, hb3, hb4⟩, h7⟩ := h
  exact ⟨h1, h2, h3, h4, h5, h6, fun w' hw' => ⟨h7 w' fun x hx hx2 _ => hw' x hx hx2, hb3.c (hw' b hb1 hb2), (vln_cl (hw' b hb1 hb2)).trans hb4⟩⟩
theorem CB.vn {kb : Nat} {zb : Int} {lb : List Int} (h : CB N w0 w a k l n s F b kb zb lb) : vnt w = N + n := h.2.2.1
theorem CB.kd {kb : Nat} {zb : Int} {lb : List Int} (h : CB N w0 w a k l n s F b kb zb lb) : vkd w a = k := h.1.1
theorem CB.nob {q m f : Nat} {z : Int} {c : Int → Int} {kb : Nat} {zb : Int} {lb : List Int} (h : CB N w0 w a k l n s F b kb zb lb) : OB (vnw w q z c m) (N + n) q ((List.range f).map fun (j : Nat) => c (j : Int)) := by
  rw [← h.vn]
  exact OB.nw
theorem CB.nvn {q m : Nat} {z : Int} {c : Int → Int} {kb : Nat} {zb : Int} {lb : List Int} (h : CB N w0 w a k l n s F b kb zb lb) : vnt (vnw w q z c m) = N + (n + 1 : Nat) := by
  rw [vnt_nw, h.vn]; omega
theorem CB.cnd {kb : Nat} {zb v : Int} {lb : List Int} {j : Int} {q : Nat} (h : CB N w0 w a k l n s F b kb zb lb) (hv : vkd w v = q) (h0 : 0 ≤ j) (h1 : j < zb) : vkd w b = kb ∧ (0 : Int) ≤ j ∧ j < vln w b ∧ vkd w v = q := ⟨h.2.2.2.2.2.2.1.2.2.1.1, h0, by rw [h.2.2.2.2.2.2.1.2.2.2]; exact h1, hv⟩
section STEPS
variable {d M pc q m : Nat} {ls st : List vV} {z : Int} {c : Int → Int} {Q : Int → vW → Prop}
theorem s_al (h : CS N w0 w a k l n s F) (hk : ∀ w', CS N w0 w' a k l (n + 1) (s + m) (fun w' => F w' ∧ w'.1 (N + n) = (q, z, c)) → VW d M pc ls ((2, N + n) :: st) w' Q) : VW d M pc ls ((2, vnt w) :: st) (vnw w q z c m) Q := by
  rw [h.vn]
  exact hk _ h.al
theorem s_st (h : CS N w0 w a k l n s F) (j : Nat) {l2 : List Int} (h2 : l.set j v = l2) (hk : ∀ w', CS N w0 w' a k l2 n s F → VW d M pc ls st w' Q) : VW d M pc ls st (vsv w a (j : Int) v) Q := hk _ (h2 ▸ h.st j)
theorem s_alb {f : Nat} (h : CS N w0 w a k l n s F) (hk : ∀ w', CB N w0 w' a k l (n + 1) (s + m) F (N + n) q z ((List.range f).map fun (j : Nat) => c (j : Int)) → VW d M pc ls ((2, N + n) :: st) w' Q) : VW d M pc ls ((2, vnt w) :: st) (vnw w q z c m) Q := by
  rw [h.vn]
  exact hk _ (CB.start h)
theorem s_rw {kb : Nat} {zb : Int} {lb : List Int} (h : CB N w0 w a k l n s F b kb zb lb) (j : Nat) (hk : ∀ w', CB N w0 w' a k l n s F b kb zb (lb.set j v) → VW d M pc ls st w' Q) : VW d M pc ls st (vsv w b (j : Int) v) Q := hk _ (h.st j)
end STEPS
end CELLS
section MAKERS
variable {d : Nat} {w : vW} {a : Int} {Q : Int → vW → Prop}
theorem k248 {N : Int} (ha : OB w a 18 [-1, -1, -1, 0, 0, 0, -1]) (hN : vnt w = N) (hl : a < N) (h : ∀ w1, CS N w w1 a 18 [N + 0, N + 1, N + 2, 0, 0, 0, (-1)] 3 57 (fun w' => (((True) ∧ w'.1 (N + 0) = (2, 24, fun _ => 0)) ∧ w'.1 (N + 1) = (2, 24, fun _ => 0)) ∧ w'.1 (N + 2) = (1, 9, fun _ => 0)) → Q 0 w1) : VC (d + 1) 248 [(2, a)] w Q := by
  have c0 := CS.start ha hN hl
  refine e248.mpr ?_
  refine b248_0.mpr ⟨by rw [ha.1]; decide, s_al c0 fun u1 c1 => ?_⟩
  refine b248_9.mpr ⟨c1.kd, s_st c1 0 (l2 := [N + 0, -1, -1, 0, 0, 0, -1]) rfl fun u2 c2 => ?_⟩
  refine b248_12.mpr (s_al c2 fun u3 c3 => ?_)
  refine b248_17.mpr ⟨c3.kd, s_st c3 1 (l2 := [N + 0, N + 1, -1, 0, 0, 0, -1]) rfl fun u4 c4 => ?_⟩
  refine b248_20.mpr (s_al c4 fun u5 c5 => ?_)
  refine b248_25.mpr ⟨c5.kd, s_st c5 2 (l2 := [N + 0, N + 1, N + 2, 0, 0, 0, -1]) rfl fun u6 c6 => ?_⟩
  refine b248_28.mpr ⟨c6.kd, s_st c6 3 (l2 := [N + 0, N + 1, N + 2, 0, 0, 0, -1]) rfl fun u7 c7 => ?_⟩
  refine b248_33.mpr ⟨c7.kd, s_st c7 4 (l2 := [N + 0, N + 1, N + 2, 0, 0, 0, -1]) rfl fun u8 c8 => ?_⟩
  refine b248_38.mpr ⟨c8.kd, s_st c8 5 (l2 := [N + 0, N + 1, N + 2, 0, 0, 0, -1]) rfl fun u9 c9 => ?_⟩
  refine b248_43.mpr ⟨c9.kd, s_st c9 6 (l2 := [N + 0, N + 1, N + 2, 0, 0, 0, (-1)]) rfl fun u10 c10 => ?_⟩
  exact b248_48.mpr (h _ c10)

theorem k290 {N : Int} (ha : OB w a 20 [-1, 0]) (hN : vnt w = N) (hl : a < N) (h : ∀ w1, CS N w w1 a 20 [N + 0, 0] 1 32 (fun w' => (True) ∧ w'.1 (N + 0) = (2, 32, fun _ => 0)) → Q 0 w1) : VC (d + 1) 290 [(2, a)] w Q := by
  have c0 := CS.start ha hN hl
  refine e290.mpr ?_
  refine b290_0.mpr ⟨by rw [ha.1]; decide, s_al c0 fun u1 c1 => ?_⟩
  refine b290_9.mpr ⟨c1.kd, s_st c1 0 (l2 := [N + 0, 0]) rfl fun u2 c2 => ?_⟩
  refine b290_12.mpr ⟨c2.kd, s_st c2 1 (l2 := [N + 0, 0]) rfl fun u3 c3 => ?_⟩
  exact b290_17.mpr (h _ c3)

theorem k172 {N : Int} (ha : OB w a 12 [-1, 0, 0, 0, 0, 0]) (hN : vnt w = N) (hl : a < N) (h : ∀ w1, CS N w w1 a 12 [N + 0, 0, 0, 1, 3, 0] 1 8 (fun w' => w'.1 (N + 0) = (1, 8, fun j => if 0 ≤ j ∧ j < 8 then 1 else 0)) → Q 0 w1) : VC (d + 1) 172 [(2, a)] w Q := by
  have c0 := CS.start ha hN hl
  refine e172.mpr ?_
  refine b172_0.mpr ⟨by rw [ha.1]; decide, s_al c0 fun u1 c1 => ?_⟩
  refine b172_9.mpr ⟨c1.kd, s_st c1 0 (l2 := [N + 0, 0, 0, 0, 0, 0]) rfl fun u2 c2 => ?_⟩
  refine b172_12.mpr ⟨c2.kd, s_st c2 1 (l2 := [N + 0, 0, 0, 0, 0, 0]) rfl fun u3 c3 => ?_⟩
  refine b172_17.mpr ⟨c3.kd, s_st c3 2 (l2 := [N + 0, 0, 0, 0, 0, 0]) rfl fun u4 c4 => ?_⟩
  refine b172_22.mpr ⟨c4.kd, s_st c4 3 (l2 := [N + 0, 0, 0, 1, 0, 0]) rfl fun u5 c5 => ?_⟩
  refine b172_27.mpr ⟨c5.kd, s_st c5 4 (l2 := [N + 0, 0, 0, 1, 3, 0]) rfl fun u6 c6 => ?_⟩
  refine b172_32.mpr ⟨by omega, c6.kd, s_st c6 5 (l2 := [N + 0, 0, 0, 1, 3, 0]) rfl fun u7 c7 => ?_⟩
  have f0 : u7.1 (N + 0) = (1, 8, fun _ => 0) := c7.fin.2
  have p0 : vct u7 a 0 = N + 0 := c7.1.f 0 rfl
  have hne : a ≠ N + 0 := by omega
  have q0 : ∀ e : Int → Int, vct (vup u7 (N + 0) e) a 0 = N + 0 := fun e => (vct_upo hne).trans p0
  have k0 : vkd u7 (N + 0) = 1 := congrArg (fun x : vC => x.1) f0
  have l0 : vln u7 (N + 0) = 8 := congrArg (fun x : vC => x.2.1) f0
  have L : ∀ (m i : Nat), m + i = 8 → ∀ e : Int → Int, (∀ j, e j = if 0 ≤ j ∧ j < (i : Int) then 1 else 0) → VW d 172 39 [(2, a), (0, (i : Int))] [] (vup u7 (N + 0) e) Q := by
    intro m
    induction m with
    | zero =>
      intro i hi e he
      refine b172_39.mpr ?_
      rw [q0 e, vkd_up, vkd_up, vln_up, k0, l0]
      refine ⟨c7.kd, rfl, fun h => absurd h (by omega), fun _ => b172_61.mpr (h _ (c7.up ⟨by omega, by omega⟩ fun w' _ h2 => ?_))⟩
      rw [h2, k0, l0, show e = fun j => if 0 ≤ j ∧ j < 8 then 1 else 0 from funext fun j => by rw [he j, show (i : Int) = 8 by omega]]
    | succ m ih =>
      intro i hi e he
      refine b172_39.mpr ?_
      rw [q0 e, vkd_up, vkd_up, vln_up, k0, l0]
      refine ⟨c7.kd, rfl, fun _ => b172_48.mpr ?_, fun h => absurd (show (i : Int) < 8 by omega) h⟩
      rw [q0 e, vkd_up, vkd_up, vln_up, k0, l0, vup_sv]
      refine ⟨c7.kd, ⟨rfl, by omega, by omega⟩, b172_55.mpr ?_⟩
      rw [w32_id (z := (i : Int) + 1) (by omega) (by omega)]
      have h9 := ih (i + 1) (by omega) (fun j => if j = (i : Int) then 1 else e j) (fun j => by
        show (if j = (i : Int) then 1 else e j) = _
        rw [he j]
        by_cases h1 : j = (i : Int)
        · rw [if_pos h1, if_pos (by omega)]
        · rw [if_neg h1]
          by_cases h2 : 0 ≤ j ∧ j < (i : Int)
          · rw [if_pos h2, if_pos (by omega)]
          · rw [if_neg h2, if_neg (by omega)])
      exact_mod_cast h9
  refine b172_37.mpr ?_
  have h9 := L 8 0 rfl (fun _ => 0) (fun j => (if_neg (by omega)).symm)
  have e0 : vup u7 (N + 0) (fun _ => 0) = u7 := by
    have := vup_self (w := u7) (a := N + 0)
    rw [show vct u7 (N + 0) = fun _ => 0 from congrArg (fun x : vC => x.2.2) f0] at this
    exact this
  rw [e0] at h9
  exact h9

theorem k232 {N : Int} (ha : OB w a 17 [-1, 0, -1, -1, 0, 0, 0, 0, 0]) (hN : vnt w = N) (hl : a < N) (h : ∀ w1, CS N w w1 a 17 [N + 0, 0, N + 1, N + 5, 0, 0, 0, 0, 0] 6 152 (fun w' => (((True) ∧ w'.1 (N + 0) = (1, 80, fun _ => 0)) ∧ OB w' (N + 1) 18 [N + 2 + 0, N + 2 + 1, N + 2 + 2, 0, 0, 0, (-1)] ∧ ((((True) ∧ w'.1 (N + 2 + 0) = (2, 24, fun _ => 0)) ∧ w'.1 (N + 2 + 1) = (2, 24, fun _ => 0)) ∧ w'.1 (N + 2 + 2) = (1, 9, fun _ => 0))) ∧ w'.1 (N + 5) = (1, 8, fun _ => 0)) → Q 0 w1) : VC (d + 2) 232 [(2, a)] w Q := by
  have c0 := CS.start ha hN hl
  refine e232.mpr ?_
  refine b232_0.mpr ⟨by rw [ha.1]; decide, s_al c0 fun u1 c1 => ?_⟩
  refine b232_9.mpr ⟨c1.kd, s_st c1 0 (l2 := [N + 0, 0, -1, -1, 0, 0, 0, 0, 0]) rfl fun u2 c2 => ?_⟩
  refine b232_12.mpr ⟨c2.kd, s_st c2 1 (l2 := [N + 0, 0, -1, -1, 0, 0, 0, 0, 0]) rfl fun u3 c3 => ?_⟩
  refine b232_17.mpr (?_)
  rw [c3.vn]
  refine b232_21.mpr ⟨(c3.nob (f := 1)).1, k248 (N := N + (2 : Nat)) (c3.nob (f := 7)) c3.nvn (by omega) fun u4 g4 => ?_⟩
  have c4 := c3.sub g4
  refine b232_25.mpr ⟨c4.kd, s_st c4 2 (l2 := [N + 0, 0, N + 1, -1, 0, 0, 0, 0, 0]) rfl fun u5 c5 => ?_⟩
  refine b232_28.mpr (s_al c5 fun u6 c6 => ?_)
  refine b232_33.mpr ⟨c6.kd, s_st c6 3 (l2 := [N + 0, 0, N + 1, N + 5, 0, 0, 0, 0, 0]) rfl fun u7 c7 => ?_⟩
  refine b232_36.mpr ⟨c7.kd, s_st c7 4 (l2 := [N + 0, 0, N + 1, N + 5, 0, 0, 0, 0, 0]) rfl fun u8 c8 => ?_⟩
  refine b232_41.mpr ⟨c8.kd, s_st c8 5 (l2 := [N + 0, 0, N + 1, N + 5, 0, 0, 0, 0, 0]) rfl fun u9 c9 => ?_⟩
  refine b232_46.mpr ⟨c9.kd, s_st c9 6 (l2 := [N + 0, 0, N + 1, N + 5, 0, 0, 0, 0, 0]) rfl fun u10 c10 => ?_⟩
  refine b232_51.mpr ⟨c10.kd, s_st c10 7 (l2 := [N + 0, 0, N + 1, N + 5, 0, 0, 0, 0, 0]) rfl fun u11 c11 => ?_⟩
  refine b232_56.mpr ⟨c11.kd, s_st c11 8 (l2 := [N + 0, 0, N + 1, N + 5, 0, 0, 0, 0, 0]) rfl fun u12 c12 => ?_⟩
  exact b232_61.mpr (h _ c12)

theorem k0 {N : Int} (ha : OB w a 21 [-1, -1, -1, -1, -1, -1, 0, 0, -1, -1, -1, -1, -1, -1, -1]) (hN : vnt w = N) (hl : a < N) (h : ∀ w1, CS N w w1 a 21 [N + 0, N + 4, N + 11, N + 13, N + 15, N + 22, 0, 0, (-1), (-1), (-1), (-1), (-1), (-1), N + 23] 24 385 (fun w' => ((((((((((True) ∧ OB w' (N + 0) 18 [N + 1 + 0, N + 1 + 1, N + 1 + 2, 0, 0, 0, (-1)] ∧ ((((True) ∧ w'.1 (N + 1 + 0) = (2, 24, fun _ => 0)) ∧ w'.1 (N + 1 + 1) = (2, 24, fun _ => 0)) ∧ w'.1 (N + 1 + 2) = (1, 9, fun _ => 0))) ∧ OB w' (N + 4) 17 [N + 5 + 0, 0, N + 5 + 1, N + 5 + 5, 0, 0, 0, 0, 0] ∧ ((((True) ∧ w'.1 (N + 5 + 0) = (1, 80, fun _ => 0)) ∧ OB w' (N + 5 + 1) 18 [N + 5 + 2 + 0, N + 5 + 2 + 1, N + 5 + 2 + 2, 0, 0, 0, (-1)] ∧ ((((True) ∧ w'.1 (N + 5 + 2 + 0) = (2, 24, fun _ => 0)) ∧ w'.1 (N + 5 + 2 + 1) = (2, 24, fun _ => 0)) ∧ w'.1 (N + 5 + 2 + 2) = (1, 9, fun _ => 0))) ∧ w'.1 (N + 5 + 5) = (1, 8, fun _ => 0))) ∧ OB w' (N + 11) 20 [N + 12 + 0, 0] ∧ ((True) ∧ w'.1 (N + 12 + 0) = (2, 32, fun _ => 0))) ∧ OB w' (N + 13) 12 [N + 14 + 0, 0, 0, 1, 3, 0] ∧ (w'.1 (N + 14 + 0) = (1, 8, fun j => if 0 ≤ j ∧ j < 8 then 1 else 0))) ∧ OB w' (N + 16) 12 [N + 17 + 0, 0, 0, 1, 3, 0] ∧ (w'.1 (N + 17 + 0) = (1, 8, fun j => if 0 ≤ j ∧ j < 8 then 1 else 0))) ∧ OB w' (N + 18) 12 [N + 19 + 0, 0, 0, 1, 3, 0] ∧ (w'.1 (N + 19 + 0) = (1, 8, fun j => if 0 ≤ j ∧ j < 8 then 1 else 0))) ∧ OB w' (N + 20) 12 [N + 21 + 0, 0, 0, 1, 3, 0] ∧ (w'.1 (N + 21 + 0) = (1, 8, fun j => if 0 ≤ j ∧ j < 8 then 1 else 0))) ∧ OB w' (N + 15) 4 [N + 16, N + 18, N + 20] ∧ vln w' (N + 15) = 3) ∧ w'.1 (N + 22) = (2, 64, fun _ => 0)) ∧ w'.1 (N + 23) = (5, 3, fun _ => -1)) → Q 0 w1) : VC (d + 3) 0 [(2, a)] w Q := by
  have c0 := CS.start ha hN hl
  refine e0.mpr ?_
  refine b0_0.mpr ⟨by rw [ha.1]; decide, ?_⟩
  rw [c0.vn]
  refine b0_8.mpr ⟨(c0.nob (f := 1)).1, k248 (N := N + (1 : Nat)) (c0.nob (f := 7)) c0.nvn (by omega) fun u1 g1 => ?_⟩
  have c1 := c0.sub g1
  refine b0_12.mpr ⟨c1.kd, s_st c1 0 (l2 := [N + 0, -1, -1, -1, -1, -1, 0, 0, -1, -1, -1, -1, -1, -1, -1]) rfl fun u2 c2 => ?_⟩
  refine b0_15.mpr (?_)
  rw [c2.vn]
  refine b0_19.mpr ⟨(c2.nob (f := 1)).1, k232 (N := N + (5 : Nat)) (c2.nob (f := 9)) c2.nvn (by omega) fun u3 g3 => ?_⟩
  have c3 := c2.sub g3
  refine b0_23.mpr ⟨c3.kd, s_st c3 1 (l2 := [N + 0, N + 4, -1, -1, -1, -1, 0, 0, -1, -1, -1, -1, -1, -1, -1]) rfl fun u4 c4 => ?_⟩
  refine b0_26.mpr (?_)
  rw [c4.vn]
  refine b0_30.mpr ⟨(c4.nob (f := 1)).1, k290 (N := N + (12 : Nat)) (c4.nob (f := 2)) c4.nvn (by omega) fun u5 g5 => ?_⟩
  have c5 := c4.sub g5
  refine b0_34.mpr ⟨c5.kd, s_st c5 2 (l2 := [N + 0, N + 4, N + 11, -1, -1, -1, 0, 0, -1, -1, -1, -1, -1, -1, -1]) rfl fun u6 c6 => ?_⟩
  refine b0_37.mpr (?_)
  rw [c6.vn]
  refine b0_41.mpr ⟨(c6.nob (f := 1)).1, k172 (N := N + (14 : Nat)) (c6.nob (f := 6)) c6.nvn (by omega) fun u7 g7 => ?_⟩
  have c7 := c6.sub g7
  refine b0_45.mpr ⟨c7.kd, s_st c7 3 (l2 := [N + 0, N + 4, N + 11, N + 13, -1, -1, 0, 0, -1, -1, -1, -1, -1, -1, -1]) rfl fun u8 c8 => ?_⟩
  refine b0_48.mpr (s_alb (f := 3) c8 fun u9 c9 => ?_)
  refine b0_53.mpr (?_)
  rw [c9.vn]
  refine b0_58.mpr ⟨(c9.nob (f := 1)).1, k172 (N := N + (17 : Nat)) (c9.nob (f := 6)) c9.nvn (by omega) fun u10 g10 => ?_⟩
  have c10 := c9.sub g10
  refine b0_62.mpr ⟨c10.cnd g10.kd (by decide) (by decide), s_rw c10 0 fun u11 c11 => ?_⟩
  refine b0_63.mpr (?_)
  rw [c11.vn]
  refine b0_68.mpr ⟨(c11.nob (f := 1)).1, k172 (N := N + (19 : Nat)) (c11.nob (f := 6)) c11.nvn (by omega) fun u12 g12 => ?_⟩
  have c12 := c11.sub g12
  refine b0_72.mpr ⟨c12.cnd g12.kd (by decide) (by decide), s_rw c12 1 fun u13 c13 => ?_⟩
  refine b0_73.mpr (?_)
  rw [c13.vn]
  refine b0_78.mpr ⟨(c13.nob (f := 1)).1, k172 (N := N + (21 : Nat)) (c13.nob (f := 6)) c13.nvn (by omega) fun u14 g14 => ?_⟩
  have c14 := c13.sub g14
  refine b0_82.mpr ⟨c14.cnd g14.kd (by decide) (by decide), s_rw c14 2 fun u15 c15 => ?_⟩
  have c16 := c15.cs
  refine b0_83.mpr ⟨c16.kd, s_st c16 4 (l2 := [N + 0, N + 4, N + 11, N + 13, N + 15, -1, 0, 0, -1, -1, -1, -1, -1, -1, -1]) rfl fun u17 c17 => ?_⟩
  refine b0_86.mpr (s_al c17 fun u18 c18 => ?_)
  refine b0_91.mpr ⟨c18.kd, s_st c18 5 (l2 := [N + 0, N + 4, N + 11, N + 13, N + 15, N + 22, 0, 0, -1, -1, -1, -1, -1, -1, -1]) rfl fun u19 c19 => ?_⟩
  refine b0_94.mpr ⟨c19.kd, s_st c19 6 (l2 := [N + 0, N + 4, N + 11, N + 13, N + 15, N + 22, 0, 0, -1, -1, -1, -1, -1, -1, -1]) rfl fun u20 c20 => ?_⟩
  refine b0_99.mpr ⟨c20.kd, s_st c20 7 (l2 := [N + 0, N + 4, N + 11, N + 13, N + 15, N + 22, 0, 0, -1, -1, -1, -1, -1, -1, -1]) rfl fun u21 c21 => ?_⟩
  refine b0_104.mpr ⟨c21.kd, s_st c21 8 (l2 := [N + 0, N + 4, N + 11, N + 13, N + 15, N + 22, 0, 0, (-1), -1, -1, -1, -1, -1, -1]) rfl fun u22 c22 => ?_⟩
  refine b0_109.mpr ⟨c22.kd, s_st c22 9 (l2 := [N + 0, N + 4, N + 11, N + 13, N + 15, N + 22, 0, 0, (-1), (-1), -1, -1, -1, -1, -1]) rfl fun u23 c23 => ?_⟩
  refine b0_114.mpr ⟨c23.kd, s_st c23 10 (l2 := [N + 0, N + 4, N + 11, N + 13, N + 15, N + 22, 0, 0, (-1), (-1), (-1), -1, -1, -1, -1]) rfl fun u24 c24 => ?_⟩
  refine b0_119.mpr ⟨c24.kd, s_st c24 11 (l2 := [N + 0, N + 4, N + 11, N + 13, N + 15, N + 22, 0, 0, (-1), (-1), (-1), (-1), -1, -1, -1]) rfl fun u25 c25 => ?_⟩
  refine b0_124.mpr ⟨c25.kd, s_st c25 12 (l2 := [N + 0, N + 4, N + 11, N + 13, N + 15, N + 22, 0, 0, (-1), (-1), (-1), (-1), (-1), -1, -1]) rfl fun u26 c26 => ?_⟩
  refine b0_129.mpr ⟨c26.kd, s_st c26 13 (l2 := [N + 0, N + 4, N + 11, N + 13, N + 15, N + 22, 0, 0, (-1), (-1), (-1), (-1), (-1), (-1), -1]) rfl fun u27 c27 => ?_⟩
  refine b0_134.mpr (s_al c27 fun u28 c28 => ?_)
  refine b0_139.mpr ⟨c28.kd, s_st c28 14 (l2 := [N + 0, N + 4, N + 11, N + 13, N + 15, N + 22, 0, 0, (-1), (-1), (-1), (-1), (-1), (-1), N + 23]) rfl fun u29 c29 => ?_⟩
  exact b0_142.mpr (h _ c29)

theorem k59 {N : Int} (ha : OB w a 22 [0, 0, -1, -1, 0, 0, -1, -1, -1, -1, -1, -1, 0, 0, 0, 0, -1, 0, -1, 0, 0, 0, 0, 0, 0, -1, -1, -1, 0, 0, -1, -1, -1, -1, -1, 0, -1, -1, -1, 0, 0, 0, 0, 0, 0, 0, -1, -1, 0, -1, 0, 0, 0, -1, 0, 0, -1, -1, -1, -1, -1, -1]) (hN : vnt w = N) (hl : a < N) (h : ∀ w1, CS N w w1 a 22 [0, 0, N + 0, N + 1, 0, 0, N + 2, N + 3, N + 4, N + 5, N + 6, N + 7, 3, 0, 0, 0, N + 8, 1, N + 9, 0, 0, 0, 0, 0, 0, N + 10, N + 11, N + 12, 0, (-1), N + 13, N + 14, N + 15, N + 16, N + 17, 0, N + 18, N + 19, N + 20, 0, 0, 0, 0, 0, 0, 0, N + 21, N + 22, 0, N + 23, 0, 0, 0, N + 24, 0, 0, N + 25, N + 26, N + 27, N + 28, N + 29, N + 30] 31 57026 (fun w' => w'.1 (N + 0) = (2, 32, fun _ => 0) ∧ (vkd w' (N + 1) = 2 ∧ vln w' (N + 1) = 20 ∧ ∀ j : Nat, j < 20 → vct w' (N + 1) (j : Int) = 9 ^ j) ∧ w'.1 (N + 2) = (2, 36, fun _ => 0) ∧ w'.1 (N + 3) = (2, 36, fun _ => 0) ∧ w'.1 (N + 4) = (1, 36, fun _ => 0) ∧ w'.1 (N + 5) = (1, 36, fun _ => 0) ∧ (vkd w' (N + 6) = 1 ∧ vln w' (N + 6) = 8 ∧ ∀ j : Nat, j < 8 → vct w' (N + 6) (j : Int) = 1) ∧ w'.1 (N + 7) = (1, 8, fun _ => 0) ∧ w'.1 (N + 8) = (2, 64, fun _ => 0) ∧ w'.1 (N + 9) = (1, 80, fun _ => 0) ∧ w'.1 (N + 10) = (1, 12, fun _ => 0) ∧ w'.1 (N + 11) = (1, 8192, fun _ => 0) ∧ w'.1 (N + 12) = (2, 3001, fun _ => 0) ∧ w'.1 (N + 13) = (1, 3000, fun _ => 0) ∧ w'.1 (N + 14) = (1, 3000, fun _ => 0) ∧ w'.1 (N + 15) = (1, 3000, fun _ => 0) ∧ w'.1 (N + 16) = (1, 3000, fun _ => 0) ∧ w'.1 (N + 17) = (2, 3000, fun _ => 0) ∧ w'.1 (N + 18) = (2, 3, fun _ => 0) ∧ w'.1 (N + 19) = (1, 3, fun _ => 0) ∧ w'.1 (N + 20) = (2, 3000, fun _ => 0) ∧ w'.1 (N + 21) = (1, 8, fun _ => 0) ∧ w'.1 (N + 22) = (1, 96, fun _ => 0) ∧ w'.1 (N + 23) = (1, 3001, fun _ => 0) ∧ w'.1 (N + 24) = (1, 3001, fun _ => 0) ∧ w'.1 (N + 25) = (2, 6561, fun _ => 0) ∧ w'.1 (N + 26) = (2, 6561, fun _ => 0) ∧ w'.1 (N + 27) = (2, 4096, fun _ => 0) ∧ w'.1 (N + 28) = (2, 4096, fun _ => 0) ∧ w'.1 (N + 29) = (3, 3, fun _ => 0) ∧ w'.1 (N + 30) = (2, 36, fun _ => 0)) → Q 0 w1) : VC (d + 1) 59 [(2, a)] w Q := by
  have c0 := CS.start ha hN hl
  refine e59.mpr ?_
  refine b59_0.mpr ⟨by rw [ha.1]; decide, s_al c0 fun u1 c1 => ?_⟩
  refine b59_9.mpr ⟨c1.kd, s_st c1 2 (l2 := [0, 0, N + 0, -1, 0, 0, -1, -1, -1, -1, -1, -1, 0, 0, 0, 0, -1, 0, -1, 0, 0, 0, 0, 0, 0, -1, -1, -1, 0, 0, -1, -1, -1, -1, -1, 0, -1, -1, -1, 0, 0, 0, 0, 0, 0, 0, -1, -1, 0, -1, 0, 0, 0, -1, 0, 0, -1, -1, -1, -1, -1, -1]) rfl fun u2 c2 => ?_⟩
  refine b59_12.mpr (s_al c2 fun u3 c3 => ?_)
  refine b59_17.mpr ⟨c3.kd, s_st c3 3 (l2 := [0, 0, N + 0, N + 1, 0, 0, -1, -1, -1, -1, -1, -1, 0, 0, 0, 0, -1, 0, -1, 0, 0, 0, 0, 0, 0, -1, -1, -1, 0, 0, -1, -1, -1, -1, -1, 0, -1, -1, -1, 0, 0, 0, 0, 0, 0, 0, -1, -1, 0, -1, 0, 0, 0, -1, 0, 0, -1, -1, -1, -1, -1, -1]) rfl fun u4 c4 => ?_⟩
  refine b59_20.mpr (s_al c4 fun u5 c5 => ?_)
  refine b59_25.mpr ⟨c5.kd, s_st c5 6 (l2 := [0, 0, N + 0, N + 1, 0, 0, N + 2, -1, -1, -1, -1, -1, 0, 0, 0, 0, -1, 0, -1, 0, 0, 0, 0, 0, 0, -1, -1, -1, 0, 0, -1, -1, -1, -1, -1, 0, -1, -1, -1, 0, 0, 0, 0, 0, 0, 0, -1, -1, 0, -1, 0, 0, 0, -1, 0, 0, -1, -1, -1, -1, -1, -1]) rfl fun u6 c6 => ?_⟩
  refine b59_28.mpr (s_al c6 fun u7 c7 => ?_)
  refine b59_33.mpr ⟨c7.kd, s_st c7 7 (l2 := [0, 0, N + 0, N + 1, 0, 0, N + 2, N + 3, -1, -1, -1, -1, 0, 0, 0, 0, -1, 0, -1, 0, 0, 0, 0, 0, 0, -1, -1, -1, 0, 0, -1, -1, -1, -1, -1, 0, -1, -1, -1, 0, 0, 0, 0, 0, 0, 0, -1, -1, 0, -1, 0, 0, 0, -1, 0, 0, -1, -1, -1, -1, -1, -1]) rfl fun u8 c8 => ?_⟩
  refine b59_36.mpr (s_al c8 fun u9 c9 => ?_)
  refine b59_41.mpr ⟨c9.kd, s_st c9 8 (l2 := [0, 0, N + 0, N + 1, 0, 0, N + 2, N + 3, N + 4, -1, -1, -1, 0, 0, 0, 0, -1, 0, -1, 0, 0, 0, 0, 0, 0, -1, -1, -1, 0, 0, -1, -1, -1, -1, -1, 0, -1, -1, -1, 0, 0, 0, 0, 0, 0, 0, -1, -1, 0, -1, 0, 0, 0, -1, 0, 0, -1, -1, -1, -1, -1, -1]) rfl fun u10 c10 => ?_⟩
  refine b59_44.mpr (s_al c10 fun u11 c11 => ?_)
  refine b59_49.mpr ⟨c11.kd, s_st c11 9 (l2 := [0, 0, N + 0, N + 1, 0, 0, N + 2, N + 3, N + 4, N + 5, -1, -1, 0, 0, 0, 0, -1, 0, -1, 0, 0, 0, 0, 0, 0, -1, -1, -1, 0, 0, -1, -1, -1, -1, -1, 0, -1, -1, -1, 0, 0, 0, 0, 0, 0, 0, -1, -1, 0, -1, 0, 0, 0, -1, 0, 0, -1, -1, -1, -1, -1, -1]) rfl fun u12 c12 => ?_⟩
  refine b59_52.mpr (s_al c12 fun u13 c13 => ?_)
  refine b59_57.mpr ⟨c13.kd, s_st c13 10 (l2 := [0, 0, N + 0, N + 1, 0, 0, N + 2, N + 3, N + 4, N + 5, N + 6, -1, 0, 0, 0, 0, -1, 0, -1, 0, 0, 0, 0, 0, 0, -1, -1, -1, 0, 0, -1, -1, -1, -1, -1, 0, -1, -1, -1, 0, 0, 0, 0, 0, 0, 0, -1, -1, 0, -1, 0, 0, 0, -1, 0, 0, -1, -1, -1, -1, -1, -1]) rfl fun u14 c14 => ?_⟩
  refine b59_60.mpr (s_al c14 fun u15 c15 => ?_)
  refine b59_65.mpr ⟨c15.kd, s_st c15 11 (l2 := [0, 0, N + 0, N + 1, 0, 0, N + 2, N + 3, N + 4, N + 5, N + 6, N + 7, 0, 0, 0, 0, -1, 0, -1, 0, 0, 0, 0, 0, 0, -1, -1, -1, 0, 0, -1, -1, -1, -1, -1, 0, -1, -1, -1, 0, 0, 0, 0, 0, 0, 0, -1, -1, 0, -1, 0, 0, 0, -1, 0, 0, -1, -1, -1, -1, -1, -1]) rfl fun u16 c16 => ?_⟩
  refine b59_68.mpr ⟨c16.kd, s_st c16 12 (l2 := [0, 0, N + 0, N + 1, 0, 0, N + 2, N + 3, N + 4, N + 5, N + 6, N + 7, 3, 0, 0, 0, -1, 0, -1, 0, 0, 0, 0, 0, 0, -1, -1, -1, 0, 0, -1, -1, -1, -1, -1, 0, -1, -1, -1, 0, 0, 0, 0, 0, 0, 0, -1, -1, 0, -1, 0, 0, 0, -1, 0, 0, -1, -1, -1, -1, -1, -1]) rfl fun u17 c17 => ?_⟩
  refine b59_73.mpr (s_al c17 fun u18 c18 => ?_)
  refine b59_78.mpr ⟨c18.kd, s_st c18 16 (l2 := [0, 0, N + 0, N + 1, 0, 0, N + 2, N + 3, N + 4, N + 5, N + 6, N + 7, 3, 0, 0, 0, N + 8, 0, -1, 0, 0, 0, 0, 0, 0, -1, -1, -1, 0, 0, -1, -1, -1, -1, -1, 0, -1, -1, -1, 0, 0, 0, 0, 0, 0, 0, -1, -1, 0, -1, 0, 0, 0, -1, 0, 0, -1, -1, -1, -1, -1, -1]) rfl fun u19 c19 => ?_⟩
  refine b59_81.mpr ⟨c19.kd, s_st c19 17 (l2 := [0, 0, N + 0, N + 1, 0, 0, N + 2, N + 3, N + 4, N + 5, N + 6, N + 7, 3, 0, 0, 0, N + 8, 1, -1, 0, 0, 0, 0, 0, 0, -1, -1, -1, 0, 0, -1, -1, -1, -1, -1, 0, -1, -1, -1, 0, 0, 0, 0, 0, 0, 0, -1, -1, 0, -1, 0, 0, 0, -1, 0, 0, -1, -1, -1, -1, -1, -1]) rfl fun u20 c20 => ?_⟩
  refine b59_86.mpr (s_al c20 fun u21 c21 => ?_)
  refine b59_91.mpr ⟨c21.kd, s_st c21 18 (l2 := [0, 0, N + 0, N + 1, 0, 0, N + 2, N + 3, N + 4, N + 5, N + 6, N + 7, 3, 0, 0, 0, N + 8, 1, N + 9, 0, 0, 0, 0, 0, 0, -1, -1, -1, 0, 0, -1, -1, -1, -1, -1, 0, -1, -1, -1, 0, 0, 0, 0, 0, 0, 0, -1, -1, 0, -1, 0, 0, 0, -1, 0, 0, -1, -1, -1, -1, -1, -1]) rfl fun u22 c22 => ?_⟩
  refine b59_94.mpr (s_al c22 fun u23 c23 => ?_)
  refine b59_99.mpr ⟨c23.kd, s_st c23 25 (l2 := [0, 0, N + 0, N + 1, 0, 0, N + 2, N + 3, N + 4, N + 5, N + 6, N + 7, 3, 0, 0, 0, N + 8, 1, N + 9, 0, 0, 0, 0, 0, 0, N + 10, -1, -1, 0, 0, -1, -1, -1, -1, -1, 0, -1, -1, -1, 0, 0, 0, 0, 0, 0, 0, -1, -1, 0, -1, 0, 0, 0, -1, 0, 0, -1, -1, -1, -1, -1, -1]) rfl fun u24 c24 => ?_⟩
  refine b59_102.mpr (s_al c24 fun u25 c25 => ?_)
  refine b59_108.mpr ⟨c25.kd, s_st c25 26 (l2 := [0, 0, N + 0, N + 1, 0, 0, N + 2, N + 3, N + 4, N + 5, N + 6, N + 7, 3, 0, 0, 0, N + 8, 1, N + 9, 0, 0, 0, 0, 0, 0, N + 10, N + 11, -1, 0, 0, -1, -1, -1, -1, -1, 0, -1, -1, -1, 0, 0, 0, 0, 0, 0, 0, -1, -1, 0, -1, 0, 0, 0, -1, 0, 0, -1, -1, -1, -1, -1, -1]) rfl fun u26 c26 => ?_⟩
  refine b59_111.mpr (s_al c26 fun u27 c27 => ?_)
  refine b59_117.mpr ⟨c27.kd, s_st c27 27 (l2 := [0, 0, N + 0, N + 1, 0, 0, N + 2, N + 3, N + 4, N + 5, N + 6, N + 7, 3, 0, 0, 0, N + 8, 1, N + 9, 0, 0, 0, 0, 0, 0, N + 10, N + 11, N + 12, 0, 0, -1, -1, -1, -1, -1, 0, -1, -1, -1, 0, 0, 0, 0, 0, 0, 0, -1, -1, 0, -1, 0, 0, 0, -1, 0, 0, -1, -1, -1, -1, -1, -1]) rfl fun u28 c28 => ?_⟩
  refine b59_120.mpr ⟨c28.kd, s_st c28 29 (l2 := [0, 0, N + 0, N + 1, 0, 0, N + 2, N + 3, N + 4, N + 5, N + 6, N + 7, 3, 0, 0, 0, N + 8, 1, N + 9, 0, 0, 0, 0, 0, 0, N + 10, N + 11, N + 12, 0, (-1), -1, -1, -1, -1, -1, 0, -1, -1, -1, 0, 0, 0, 0, 0, 0, 0, -1, -1, 0, -1, 0, 0, 0, -1, 0, 0, -1, -1, -1, -1, -1, -1]) rfl fun u29 c29 => ?_⟩
  refine b59_125.mpr (s_al c29 fun u30 c30 => ?_)
  refine b59_131.mpr ⟨c30.kd, s_st c30 30 (l2 := [0, 0, N + 0, N + 1, 0, 0, N + 2, N + 3, N + 4, N + 5, N + 6, N + 7, 3, 0, 0, 0, N + 8, 1, N + 9, 0, 0, 0, 0, 0, 0, N + 10, N + 11, N + 12, 0, (-1), N + 13, -1, -1, -1, -1, 0, -1, -1, -1, 0, 0, 0, 0, 0, 0, 0, -1, -1, 0, -1, 0, 0, 0, -1, 0, 0, -1, -1, -1, -1, -1, -1]) rfl fun u31 c31 => ?_⟩
  refine b59_134.mpr (s_al c31 fun u32 c32 => ?_)
  refine b59_140.mpr ⟨c32.kd, s_st c32 31 (l2 := [0, 0, N + 0, N + 1, 0, 0, N + 2, N + 3, N + 4, N + 5, N + 6, N + 7, 3, 0, 0, 0, N + 8, 1, N + 9, 0, 0, 0, 0, 0, 0, N + 10, N + 11, N + 12, 0, (-1), N + 13, N + 14, -1, -1, -1, 0, -1, -1, -1, 0, 0, 0, 0, 0, 0, 0, -1, -1, 0, -1, 0, 0, 0, -1, 0, 0, -1, -1, -1, -1, -1, -1]) rfl fun u33 c33 => ?_⟩
  refine b59_143.mpr (s_al c33 fun u34 c34 => ?_)
  refine b59_149.mpr ⟨c34.kd, s_st c34 32 (l2 := [0, 0, N + 0, N + 1, 0, 0, N + 2, N + 3, N + 4, N + 5, N + 6, N + 7, 3, 0, 0, 0, N + 8, 1, N + 9, 0, 0, 0, 0, 0, 0, N + 10, N + 11, N + 12, 0, (-1), N + 13, N + 14, N + 15, -1, -1, 0, -1, -1, -1, 0, 0, 0, 0, 0, 0, 0, -1, -1, 0, -1, 0, 0, 0, -1, 0, 0, -1, -1, -1, -1, -1, -1]) rfl fun u35 c35 => ?_⟩
  refine b59_152.mpr (s_al c35 fun u36 c36 => ?_)
  refine b59_158.mpr ⟨c36.kd, s_st c36 33 (l2 := [0, 0, N + 0, N + 1, 0, 0, N + 2, N + 3, N + 4, N + 5, N + 6, N + 7, 3, 0, 0, 0, N + 8, 1, N + 9, 0, 0, 0, 0, 0, 0, N + 10, N + 11, N + 12, 0, (-1), N + 13, N + 14, N + 15, N + 16, -1, 0, -1, -1, -1, 0, 0, 0, 0, 0, 0, 0, -1, -1, 0, -1, 0, 0, 0, -1, 0, 0, -1, -1, -1, -1, -1, -1]) rfl fun u37 c37 => ?_⟩
  refine b59_161.mpr (s_al c37 fun u38 c38 => ?_)
  refine b59_167.mpr ⟨c38.kd, s_st c38 34 (l2 := [0, 0, N + 0, N + 1, 0, 0, N + 2, N + 3, N + 4, N + 5, N + 6, N + 7, 3, 0, 0, 0, N + 8, 1, N + 9, 0, 0, 0, 0, 0, 0, N + 10, N + 11, N + 12, 0, (-1), N + 13, N + 14, N + 15, N + 16, N + 17, 0, -1, -1, -1, 0, 0, 0, 0, 0, 0, 0, -1, -1, 0, -1, 0, 0, 0, -1, 0, 0, -1, -1, -1, -1, -1, -1]) rfl fun u39 c39 => ?_⟩
  refine b59_170.mpr (s_al c39 fun u40 c40 => ?_)
  refine b59_174.mpr ⟨c40.kd, s_st c40 36 (l2 := [0, 0, N + 0, N + 1, 0, 0, N + 2, N + 3, N + 4, N + 5, N + 6, N + 7, 3, 0, 0, 0, N + 8, 1, N + 9, 0, 0, 0, 0, 0, 0, N + 10, N + 11, N + 12, 0, (-1), N + 13, N + 14, N + 15, N + 16, N + 17, 0, N + 18, -1, -1, 0, 0, 0, 0, 0, 0, 0, -1, -1, 0, -1, 0, 0, 0, -1, 0, 0, -1, -1, -1, -1, -1, -1]) rfl fun u41 c41 => ?_⟩
  refine b59_177.mpr (s_al c41 fun u42 c42 => ?_)
  refine b59_181.mpr ⟨c42.kd, s_st c42 37 (l2 := [0, 0, N + 0, N + 1, 0, 0, N + 2, N + 3, N + 4, N + 5, N + 6, N + 7, 3, 0, 0, 0, N + 8, 1, N + 9, 0, 0, 0, 0, 0, 0, N + 10, N + 11, N + 12, 0, (-1), N + 13, N + 14, N + 15, N + 16, N + 17, 0, N + 18, N + 19, -1, 0, 0, 0, 0, 0, 0, 0, -1, -1, 0, -1, 0, 0, 0, -1, 0, 0, -1, -1, -1, -1, -1, -1]) rfl fun u43 c43 => ?_⟩
  refine b59_184.mpr (s_al c43 fun u44 c44 => ?_)
  refine b59_190.mpr ⟨c44.kd, s_st c44 38 (l2 := [0, 0, N + 0, N + 1, 0, 0, N + 2, N + 3, N + 4, N + 5, N + 6, N + 7, 3, 0, 0, 0, N + 8, 1, N + 9, 0, 0, 0, 0, 0, 0, N + 10, N + 11, N + 12, 0, (-1), N + 13, N + 14, N + 15, N + 16, N + 17, 0, N + 18, N + 19, N + 20, 0, 0, 0, 0, 0, 0, 0, -1, -1, 0, -1, 0, 0, 0, -1, 0, 0, -1, -1, -1, -1, -1, -1]) rfl fun u45 c45 => ?_⟩
  refine b59_193.mpr (s_al c45 fun u46 c46 => ?_)
  refine b59_198.mpr ⟨c46.kd, s_st c46 46 (l2 := [0, 0, N + 0, N + 1, 0, 0, N + 2, N + 3, N + 4, N + 5, N + 6, N + 7, 3, 0, 0, 0, N + 8, 1, N + 9, 0, 0, 0, 0, 0, 0, N + 10, N + 11, N + 12, 0, (-1), N + 13, N + 14, N + 15, N + 16, N + 17, 0, N + 18, N + 19, N + 20, 0, 0, 0, 0, 0, 0, 0, N + 21, -1, 0, -1, 0, 0, 0, -1, 0, 0, -1, -1, -1, -1, -1, -1]) rfl fun u47 c47 => ?_⟩
  refine b59_201.mpr (s_al c47 fun u48 c48 => ?_)
  refine b59_206.mpr ⟨c48.kd, s_st c48 47 (l2 := [0, 0, N + 0, N + 1, 0, 0, N + 2, N + 3, N + 4, N + 5, N + 6, N + 7, 3, 0, 0, 0, N + 8, 1, N + 9, 0, 0, 0, 0, 0, 0, N + 10, N + 11, N + 12, 0, (-1), N + 13, N + 14, N + 15, N + 16, N + 17, 0, N + 18, N + 19, N + 20, 0, 0, 0, 0, 0, 0, 0, N + 21, N + 22, 0, -1, 0, 0, 0, -1, 0, 0, -1, -1, -1, -1, -1, -1]) rfl fun u49 c49 => ?_⟩
  refine b59_209.mpr (s_al c49 fun u50 c50 => ?_)
  refine b59_215.mpr ⟨c50.kd, s_st c50 49 (l2 := [0, 0, N + 0, N + 1, 0, 0, N + 2, N + 3, N + 4, N + 5, N + 6, N + 7, 3, 0, 0, 0, N + 8, 1, N + 9, 0, 0, 0, 0, 0, 0, N + 10, N + 11, N + 12, 0, (-1), N + 13, N + 14, N + 15, N + 16, N + 17, 0, N + 18, N + 19, N + 20, 0, 0, 0, 0, 0, 0, 0, N + 21, N + 22, 0, N + 23, 0, 0, 0, -1, 0, 0, -1, -1, -1, -1, -1, -1]) rfl fun u51 c51 => ?_⟩
  refine b59_218.mpr (s_al c51 fun u52 c52 => ?_)
  refine b59_224.mpr ⟨c52.kd, s_st c52 53 (l2 := [0, 0, N + 0, N + 1, 0, 0, N + 2, N + 3, N + 4, N + 5, N + 6, N + 7, 3, 0, 0, 0, N + 8, 1, N + 9, 0, 0, 0, 0, 0, 0, N + 10, N + 11, N + 12, 0, (-1), N + 13, N + 14, N + 15, N + 16, N + 17, 0, N + 18, N + 19, N + 20, 0, 0, 0, 0, 0, 0, 0, N + 21, N + 22, 0, N + 23, 0, 0, 0, N + 24, 0, 0, -1, -1, -1, -1, -1, -1]) rfl fun u53 c53 => ?_⟩
  refine b59_227.mpr (s_al c53 fun u54 c54 => ?_)
  refine b59_233.mpr ⟨c54.kd, s_st c54 56 (l2 := [0, 0, N + 0, N + 1, 0, 0, N + 2, N + 3, N + 4, N + 5, N + 6, N + 7, 3, 0, 0, 0, N + 8, 1, N + 9, 0, 0, 0, 0, 0, 0, N + 10, N + 11, N + 12, 0, (-1), N + 13, N + 14, N + 15, N + 16, N + 17, 0, N + 18, N + 19, N + 20, 0, 0, 0, 0, 0, 0, 0, N + 21, N + 22, 0, N + 23, 0, 0, 0, N + 24, 0, 0, N + 25, -1, -1, -1, -1, -1]) rfl fun u55 c55 => ?_⟩
  refine b59_236.mpr (s_al c55 fun u56 c56 => ?_)
  refine b59_242.mpr ⟨c56.kd, s_st c56 57 (l2 := [0, 0, N + 0, N + 1, 0, 0, N + 2, N + 3, N + 4, N + 5, N + 6, N + 7, 3, 0, 0, 0, N + 8, 1, N + 9, 0, 0, 0, 0, 0, 0, N + 10, N + 11, N + 12, 0, (-1), N + 13, N + 14, N + 15, N + 16, N + 17, 0, N + 18, N + 19, N + 20, 0, 0, 0, 0, 0, 0, 0, N + 21, N + 22, 0, N + 23, 0, 0, 0, N + 24, 0, 0, N + 25, N + 26, -1, -1, -1, -1]) rfl fun u57 c57 => ?_⟩
  refine b59_245.mpr (s_al c57 fun u58 c58 => ?_)
  refine b59_251.mpr ⟨c58.kd, s_st c58 58 (l2 := [0, 0, N + 0, N + 1, 0, 0, N + 2, N + 3, N + 4, N + 5, N + 6, N + 7, 3, 0, 0, 0, N + 8, 1, N + 9, 0, 0, 0, 0, 0, 0, N + 10, N + 11, N + 12, 0, (-1), N + 13, N + 14, N + 15, N + 16, N + 17, 0, N + 18, N + 19, N + 20, 0, 0, 0, 0, 0, 0, 0, N + 21, N + 22, 0, N + 23, 0, 0, 0, N + 24, 0, 0, N + 25, N + 26, N + 27, -1, -1, -1]) rfl fun u59 c59 => ?_⟩
  refine b59_254.mpr (s_al c59 fun u60 c60 => ?_)
  refine b59_260.mpr ⟨c60.kd, s_st c60 59 (l2 := [0, 0, N + 0, N + 1, 0, 0, N + 2, N + 3, N + 4, N + 5, N + 6, N + 7, 3, 0, 0, 0, N + 8, 1, N + 9, 0, 0, 0, 0, 0, 0, N + 10, N + 11, N + 12, 0, (-1), N + 13, N + 14, N + 15, N + 16, N + 17, 0, N + 18, N + 19, N + 20, 0, 0, 0, 0, 0, 0, 0, N + 21, N + 22, 0, N + 23, 0, 0, 0, N + 24, 0, 0, N + 25, N + 26, N + 27, N + 28, -1, -1]) rfl fun u61 c61 => ?_⟩
  refine b59_263.mpr (s_al c61 fun u62 c62 => ?_)
  refine b59_267.mpr ⟨c62.kd, s_st c62 60 (l2 := [0, 0, N + 0, N + 1, 0, 0, N + 2, N + 3, N + 4, N + 5, N + 6, N + 7, 3, 0, 0, 0, N + 8, 1, N + 9, 0, 0, 0, 0, 0, 0, N + 10, N + 11, N + 12, 0, (-1), N + 13, N + 14, N + 15, N + 16, N + 17, 0, N + 18, N + 19, N + 20, 0, 0, 0, 0, 0, 0, 0, N + 21, N + 22, 0, N + 23, 0, 0, 0, N + 24, 0, 0, N + 25, N + 26, N + 27, N + 28, N + 29, -1]) rfl fun u63 c63 => ?_⟩
  refine b59_270.mpr (s_al c63 fun u64 c64 => ?_)
  refine b59_275.mpr ⟨c64.kd, s_st c64 61 (l2 := [0, 0, N + 0, N + 1, 0, 0, N + 2, N + 3, N + 4, N + 5, N + 6, N + 7, 3, 0, 0, 0, N + 8, 1, N + 9, 0, 0, 0, 0, 0, 0, N + 10, N + 11, N + 12, 0, (-1), N + 13, N + 14, N + 15, N + 16, N + 17, 0, N + 18, N + 19, N + 20, 0, 0, 0, 0, 0, 0, 0, N + 21, N + 22, 0, N + 23, 0, 0, 0, N + 24, 0, 0, N + 25, N + 26, N + 27, N + 28, N + 29, N + 30]) rfl fun u65 c65 => ?_⟩
  have f0 : u65.1 (N + 0) = (2, 32, fun _ => 0) := c65.fin.1.1.1.1.1.1.1.1.1.1.1.1.1.1.1.1.1.1.1.1.1.1.1.1.1.1.1.1.1.1.2
  have f1 : u65.1 (N + 1) = (2, 20, fun _ => 0) := c65.fin.1.1.1.1.1.1.1.1.1.1.1.1.1.1.1.1.1.1.1.1.1.1.1.1.1.1.1.1.1.2
  have f2 : u65.1 (N + 2) = (2, 36, fun _ => 0) := c65.fin.1.1.1.1.1.1.1.1.1.1.1.1.1.1.1.1.1.1.1.1.1.1.1.1.1.1.1.1.2
  have f3 : u65.1 (N + 3) = (2, 36, fun _ => 0) := c65.fin.1.1.1.1.1.1.1.1.1.1.1.1.1.1.1.1.1.1.1.1.1.1.1.1.1.1.1.2
  have f4 : u65.1 (N + 4) = (1, 36, fun _ => 0) := c65.fin.1.1.1.1.1.1.1.1.1.1.1.1.1.1.1.1.1.1.1.1.1.1.1.1.1.1.2
  have f5 : u65.1 (N + 5) = (1, 36, fun _ => 0) := c65.fin.1.1.1.1.1.1.1.1.1.1.1.1.1.1.1.1.1.1.1.1.1.1.1.1.1.2
  have f6 : u65.1 (N + 6) = (1, 8, fun _ => 0) := c65.fin.1.1.1.1.1.1.1.1.1.1.1.1.1.1.1.1.1.1.1.1.1.1.1.1.2
  have f7 : u65.1 (N + 7) = (1, 8, fun _ => 0) := c65.fin.1.1.1.1.1.1.1.1.1.1.1.1.1.1.1.1.1.1.1.1.1.1.1.2
  have f8 : u65.1 (N + 8) = (2, 64, fun _ => 0) := c65.fin.1.1.1.1.1.1.1.1.1.1.1.1.1.1.1.1.1.1.1.1.1.1.2
  have f9 : u65.1 (N + 9) = (1, 80, fun _ => 0) := c65.fin.1.1.1.1.1.1.1.1.1.1.1.1.1.1.1.1.1.1.1.1.1.2
  have f10 : u65.1 (N + 10) = (1, 12, fun _ => 0) := c65.fin.1.1.1.1.1.1.1.1.1.1.1.1.1.1.1.1.1.1.1.1.2
  have f11 : u65.1 (N + 11) = (1, 8192, fun _ => 0) := c65.fin.1.1.1.1.1.1.1.1.1.1.1.1.1.1.1.1.1.1.1.2
  have f12 : u65.1 (N + 12) = (2, 3001, fun _ => 0) := c65.fin.1.1.1.1.1.1.1.1.1.1.1.1.1.1.1.1.1.1.2
  have f13 : u65.1 (N + 13) = (1, 3000, fun _ => 0) := c65.fin.1.1.1.1.1.1.1.1.1.1.1.1.1.1.1.1.1.2
  have f14 : u65.1 (N + 14) = (1, 3000, fun _ => 0) := c65.fin.1.1.1.1.1.1.1.1.1.1.1.1.1.1.1.1.2
  have f15 : u65.1 (N + 15) = (1, 3000, fun _ => 0) := c65.fin.1.1.1.1.1.1.1.1.1.1.1.1.1.1.1.2
  have f16 : u65.1 (N + 16) = (1, 3000, fun _ => 0) := c65.fin.1.1.1.1.1.1.1.1.1.1.1.1.1.1.2
  have f17 : u65.1 (N + 17) = (2, 3000, fun _ => 0) := c65.fin.1.1.1.1.1.1.1.1.1.1.1.1.1.2
  have f18 : u65.1 (N + 18) = (2, 3, fun _ => 0) := c65.fin.1.1.1.1.1.1.1.1.1.1.1.1.2
  have f19 : u65.1 (N + 19) = (1, 3, fun _ => 0) := c65.fin.1.1.1.1.1.1.1.1.1.1.1.2
  have f20 : u65.1 (N + 20) = (2, 3000, fun _ => 0) := c65.fin.1.1.1.1.1.1.1.1.1.1.2
  have f21 : u65.1 (N + 21) = (1, 8, fun _ => 0) := c65.fin.1.1.1.1.1.1.1.1.1.2
  have f22 : u65.1 (N + 22) = (1, 96, fun _ => 0) := c65.fin.1.1.1.1.1.1.1.1.2
  have f23 : u65.1 (N + 23) = (1, 3001, fun _ => 0) := c65.fin.1.1.1.1.1.1.1.2
  have f24 : u65.1 (N + 24) = (1, 3001, fun _ => 0) := c65.fin.1.1.1.1.1.1.2
  have f25 : u65.1 (N + 25) = (2, 6561, fun _ => 0) := c65.fin.1.1.1.1.1.2
  have f26 : u65.1 (N + 26) = (2, 6561, fun _ => 0) := c65.fin.1.1.1.1.2
  have f27 : u65.1 (N + 27) = (2, 4096, fun _ => 0) := c65.fin.1.1.1.2
  have f28 : u65.1 (N + 28) = (2, 4096, fun _ => 0) := c65.fin.1.1.2
  have f29 : u65.1 (N + 29) = (3, 3, fun _ => 0) := c65.fin.1.2
  have f30 : u65.1 (N + 30) = (2, 36, fun _ => 0) := c65.fin.2
  have p3 : vct u65 a 3 = N + 1 := c65.1.f 3 rfl
  have p10 : vct u65 a 10 = N + 6 := c65.1.f 10 rfl
  have hne : a ≠ N + 1 := by have := c65.2.1; omega
  have hne6 : a ≠ N + 6 := by have := c65.2.1; omega
  have k1 : vkd u65 (N + 1) = 2 := congrArg (fun x : vC => x.1) f1
  have l1 : vln u65 (N + 1) = 20 := congrArg (fun x : vC => x.2.1) f1
  have k6 : vkd u65 (N + 6) = 1 := congrArg (fun x : vC => x.1) f6
  have l6 : vln u65 (N + 6) = 8 := congrArg (fun x : vC => x.2.1) f6
  have q3 : ∀ e : Int → Int, vct (vup u65 (N + 1) e) a 3 = N + 1 := fun e => (vct_upo hne).trans p3
  have q10 : ∀ e e2 : Int → Int, vct (vup (vup u65 (N + 1) e) (N + 6) e2) a 10 = N + 6 := fun e e2 => (vct_upo hne6).trans ((vct_upo hne).trans p10)
  have L2 : ∀ e : Int → Int, (∀ j : Nat, j < 20 → e (j : Int) = 9 ^ j) → ∀ (m i : Nat), m + i = 8 → ∀ e2 : Int → Int, (∀ j : Nat, j < i → e2 (j : Int) = 1) → VW d 59 322 [(2, a), (0, (i : Int))] [] (vup (vup u65 (N + 1) e) (N + 6) e2) Q := by
    intro e he m
    induction m with
    | zero =>
      intro i hi e2 he2
      refine b59_322.mpr ⟨fun h => absurd h (by omega), fun _ => b59_341.mpr (h _ (CS.up (CS.up (F' := fun w' => w'.1 (N + 0) = (2, 32, fun _ => 0) ∧ (vkd w' (N + 1) = 2 ∧ vln w' (N + 1) = 20 ∧ ∀ j : Nat, j < 20 → vct w' (N + 1) (j : Int) = 9 ^ j) ∧ w'.1 (N + 2) = (2, 36, fun _ => 0) ∧ w'.1 (N + 3) = (2, 36, fun _ => 0) ∧ w'.1 (N + 4) = (1, 36, fun _ => 0) ∧ w'.1 (N + 5) = (1, 36, fun _ => 0) ∧ True ∧ w'.1 (N + 7) = (1, 8, fun _ => 0) ∧ w'.1 (N + 8) = (2, 64, fun _ => 0) ∧ w'.1 (N + 9) = (1, 80, fun _ => 0) ∧ w'.1 (N + 10) = (1, 12, fun _ => 0) ∧ w'.1 (N + 11) = (1, 8192, fun _ => 0) ∧ w'.1 (N + 12) = (2, 3001, fun _ => 0) ∧ w'.1 (N + 13) = (1, 3000, fun _ => 0) ∧ w'.1 (N + 14) = (1, 3000, fun _ => 0) ∧ w'.1 (N + 15) = (1, 3000, fun _ => 0) ∧ w'.1 (N + 16) = (1, 3000, fun _ => 0) ∧ w'.1 (N + 17) = (2, 3000, fun _ => 0) ∧ w'.1 (N + 18) = (2, 3, fun _ => 0) ∧ w'.1 (N + 19) = (1, 3, fun _ => 0) ∧ w'.1 (N + 20) = (2, 3000, fun _ => 0) ∧ w'.1 (N + 21) = (1, 8, fun _ => 0) ∧ w'.1 (N + 22) = (1, 96, fun _ => 0) ∧ w'.1 (N + 23) = (1, 3001, fun _ => 0) ∧ w'.1 (N + 24) = (1, 3001, fun _ => 0) ∧ w'.1 (N + 25) = (2, 6561, fun _ => 0) ∧ w'.1 (N + 26) = (2, 6561, fun _ => 0) ∧ w'.1 (N + 27) = (2, 4096, fun _ => 0) ∧ w'.1 (N + 28) = (2, 4096, fun _ => 0) ∧ w'.1 (N + 29) = (3, 3, fun _ => 0) ∧ w'.1 (N + 30) = (2, 36, fun _ => 0)) c65 ⟨by omega, by omega⟩ fun w' hx h2 => ?_) ⟨by omega, by omega⟩ fun w' hx h2 => ?_))⟩
      · refine ⟨(hx (N + 0) (by omega) (by omega) (by omega)).trans f0, ⟨(congrArg (fun x : vC => x.1) h2).trans k1, (congrArg (fun x : vC => x.2.1) h2).trans l1, fun j hj => (congrFun (congrArg (fun x : vC => x.2.2) h2) _).trans (he j hj)⟩, (hx (N + 2) (by omega) (by omega) (by omega)).trans f2, (hx (N + 3) (by omega) (by omega) (by omega)).trans f3, (hx (N + 4) (by omega) (by omega) (by omega)).trans f4, (hx (N + 5) (by omega) (by omega) (by omega)).trans f5, trivial, (hx (N + 7) (by omega) (by omega) (by omega)).trans f7, (hx (N + 8) (by omega) (by omega) (by omega)).trans f8, (hx (N + 9) (by omega) (by omega) (by omega)).trans f9, (hx (N + 10) (by omega) (by omega) (by omega)).trans f10, (hx (N + 11) (by omega) (by omega) (by omega)).trans f11, (hx (N + 12) (by omega) (by omega) (by omega)).trans f12, (hx (N + 13) (by omega) (by omega) (by omega)).trans f13, (hx (N + 14) (by omega) (by omega) (by omega)).trans f14, (hx (N + 15) (by omega) (by omega) (by omega)).trans f15, (hx (N + 16) (by omega) (by omega) (by omega)).trans f16, (hx (N + 17) (by omega) (by omega) (by omega)).trans f17, (hx (N + 18) (by omega) (by omega) (by omega)).trans f18, (hx (N + 19) (by omega) (by omega) (by omega)).trans f19, (hx (N + 20) (by omega) (by omega) (by omega)).trans f20, (hx (N + 21) (by omega) (by omega) (by omega)).trans f21, (hx (N + 22) (by omega) (by omega) (by omega)).trans f22, (hx (N + 23) (by omega) (by omega) (by omega)).trans f23, (hx (N + 24) (by omega) (by omega) (by omega)).trans f24, (hx (N + 25) (by omega) (by omega) (by omega)).trans f25, (hx (N + 26) (by omega) (by omega) (by omega)).trans f26, (hx (N + 27) (by omega) (by omega) (by omega)).trans f27, (hx (N + 28) (by omega) (by omega) (by omega)).trans f28, (hx (N + 29) (by omega) (by omega) (by omega)).trans f29, (hx (N + 30) (by omega) (by omega) (by omega)).trans f30⟩
      · have hy : ∀ x, N ≤ x → x < N + 31 → x ≠ N + 1 → x ≠ N + 6 → w'.1 x = u65.1 x := fun x h1 h3 h4 h5 => (hx x h1 (by omega) h5).trans (vcl_up h4)
        have hz : w'.1 (N + 1) = (vkd u65 (N + 1), vln u65 (N + 1), e) := (hx (N + 1) (by omega) (by omega) (by omega)).trans (if_pos rfl)
        rw [vkd_up, vln_up, k6, l6] at h2
        refine ⟨(hy (N + 0) (by omega) (by omega) (by omega) (by omega)).trans f0, ⟨(congrArg (fun x : vC => x.1) hz).trans k1, (congrArg (fun x : vC => x.2.1) hz).trans l1, fun j hj => (congrFun (congrArg (fun x : vC => x.2.2) hz) _).trans (he j hj)⟩, (hy (N + 2) (by omega) (by omega) (by omega) (by omega)).trans f2, (hy (N + 3) (by omega) (by omega) (by omega) (by omega)).trans f3, (hy (N + 4) (by omega) (by omega) (by omega) (by omega)).trans f4, (hy (N + 5) (by omega) (by omega) (by omega) (by omega)).trans f5, ⟨congrArg (fun x : vC => x.1) h2, congrArg (fun x : vC => x.2.1) h2, fun j hj => (congrFun (congrArg (fun x : vC => x.2.2) h2) _).trans (he2 j (by omega))⟩, (hy (N + 7) (by omega) (by omega) (by omega) (by omega)).trans f7, (hy (N + 8) (by omega) (by omega) (by omega) (by omega)).trans f8, (hy (N + 9) (by omega) (by omega) (by omega) (by omega)).trans f9, (hy (N + 10) (by omega) (by omega) (by omega) (by omega)).trans f10, (hy (N + 11) (by omega) (by omega) (by omega) (by omega)).trans f11, (hy (N + 12) (by omega) (by omega) (by omega) (by omega)).trans f12, (hy (N + 13) (by omega) (by omega) (by omega) (by omega)).trans f13, (hy (N + 14) (by omega) (by omega) (by omega) (by omega)).trans f14, (hy (N + 15) (by omega) (by omega) (by omega) (by omega)).trans f15, (hy (N + 16) (by omega) (by omega) (by omega) (by omega)).trans f16, (hy (N + 17) (by omega) (by omega) (by omega) (by omega)).trans f17, (hy (N + 18) (by omega) (by omega) (by omega) (by omega)).trans f18, (hy (N + 19) (by omega) (by omega) (by omega) (by omega)).trans f19, (hy (N + 20) (by omega) (by omega) (by omega) (by omega)).trans f20, (hy (N + 21) (by omega) (by omega) (by omega) (by omega)).trans f21, (hy (N + 22) (by omega) (by omega) (by omega) (by omega)).trans f22, (hy (N + 23) (by omega) (by omega) (by omega) (by omega)).trans f23, (hy (N + 24) (by omega) (by omega) (by omega) (by omega)).trans f24, (hy (N + 25) (by omega) (by omega) (by omega) (by omega)).trans f25, (hy (N + 26) (by omega) (by omega) (by omega) (by omega)).trans f26, (hy (N + 27) (by omega) (by omega) (by omega) (by omega)).trans f27, (hy (N + 28) (by omega) (by omega) (by omega) (by omega)).trans f28, (hy (N + 29) (by omega) (by omega) (by omega) (by omega)).trans f29, (hy (N + 30) (by omega) (by omega) (by omega) (by omega)).trans f30⟩
    | succ m ih =>
      intro i hi e2 he2
      refine b59_322.mpr ⟨fun _ => b59_328.mpr ?_, fun h => absurd (show (i : Int) < 8 by omega) h⟩
      rw [q10 e e2, vkd_up, vkd_up, vkd_up, vkd_up, vln_up, vln_up, k6, l6, vup_sv]
      refine ⟨c65.kd, ⟨rfl, by omega, by omega⟩, b59_335.mpr ?_⟩
      rw [w32_id (z := (i : Int) + 1) (by omega) (by omega)]
      have h9 := ih (i + 1) (by omega) (fun j => if j = (i : Int) then 1 else e2 j) (fun j hj => by
        show (if (j : Int) = (i : Int) then 1 else e2 (j : Int)) = 1
        by_cases h1 : (j : Int) = (i : Int)
        · rw [if_pos h1]
        · rw [if_neg h1]; exact he2 j (by omega))
      exact_mod_cast h9
  have L1 : ∀ (m i : Nat), m + i = 20 → 1 ≤ i → ∀ e : Int → Int, (∀ j : Nat, j < i → e (j : Int) = 9 ^ j) → VW d 59 287 [(2, a), (0, (i : Int))] [] (vup u65 (N + 1) e) Q := by
    intro m
    induction m with
    | zero =>
      intro i hi _ e he
      refine b59_287.mpr ?_
      rw [q3 e, vkd_up, vkd_up, vln_up, k1, l1]
      refine ⟨c65.kd, rfl, fun h => absurd h (by omega), fun _ => b59_320.mpr ?_⟩
      have h9 := L2 e (fun j hj => he j (by omega)) 8 0 rfl (vct (vup u65 (N + 1) e) (N + 6)) (fun j hj => absurd hj (by omega))
      rw [vup_self] at h9
      exact h9
    | succ m ih =>
      intro i hi h1 e he
      refine b59_287.mpr ?_
      rw [q3 e, vkd_up, vkd_up, vln_up, k1, l1]
      refine ⟨c65.kd, rfl, fun _ => b59_296.mpr ?_, fun h => absurd (show (i : Int) < 20 by omega) h⟩
      rw [q3 e, vkd_up, vkd_up, vln_up, k1, l1, w32_id (z := (i : Int) - 1) (by omega) (by omega), vct_upi, vup_sv]
      refine ⟨c65.kd, c65.kd, ⟨rfl, by omega, by omega⟩, ⟨rfl, by omega, by omega⟩, b59_314.mpr ?_⟩
      have e1 : w64 (e ((i : Int) - 1) * 9) = 9 ^ i := by
        rw [show (i : Int) - 1 = ((i - 1 : Nat) : Int) by omega, he (i - 1) (by omega), ← Int.pow_succ, show (i - 1).succ = i by omega]
        have g1 : (9 : Int) ^ i ≤ 9 ^ 19 := by exact_mod_cast Nat.pow_le_pow_right (n := 9) (by decide) (show i ≤ 19 by omega)
        have g2 := pow9_pos i
        rw [show (9 : Int) ^ 19 = 1350851717672992089 from rfl] at g1
        exact w64_id (by omega) (by omega)
      rw [e1, w32_id (z := (i : Int) + 1) (by omega) (by omega)]
      have h9 := ih (i + 1) (by omega) (by omega) (fun j => if j = (i : Int) then 9 ^ i else e j) (fun j hj => by
        show (if (j : Int) = (i : Int) then 9 ^ i else e (j : Int)) = 9 ^ j
        by_cases h2 : (j : Int) = (i : Int)
        · rw [if_pos h2, Int.ofNat.inj h2]
        · rw [if_neg h2]; exact he j (by omega))
      exact_mod_cast h9
  refine b59_278.mpr ?_
  rw [p3, k1, l1]
  refine ⟨c65.kd, ⟨rfl, by omega, by omega⟩, b59_285.mpr ?_⟩
  exact L1 19 1 rfl (Nat.le_refl _) (fun j => if j = 0 then 1 else vct u65 (N + 1) j) (fun j hj => by
    rw [show j = 0 by omega]; rfl)

end MAKERS
