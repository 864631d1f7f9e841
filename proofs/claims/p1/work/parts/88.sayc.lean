/-! the class's Saying, the model's lengthOf and isSaying -/
section SAY
variable {d : Nat} {w : vW} {Q : Int → vW → Prop}
theorem c273 {l : List Int} (h : OKL l) : VC (d + 1) 273 [(1, pk l)] w Q ↔ Q (l.length : Int) w := by
  rw [e273, b273_0, pk_size h]
theorem c274 {l : List Int} (h : OKL l) : VC (d + 1) 274 [(0, (l.length : Int)), (1, c16 l)] w Q ↔ Q (pk l) w := by
  rw [e274, b274_0, of_pk h]
theorem c276 {a b : List Int} {x : Int} (h : OKL (a ++ x :: b)) : VC (d + 1) 276 [(1, pk (a ++ x :: b)), (0, (a.length : Int))] w Q ↔ Q x w := by
  have h1 := h.1
  rw [List.length_append, List.length_cons] at h1
  rw [e276, b276_0, pk_size h, List.length_append, List.length_cons, w32_id (z := ((a.length + (b.length + 1) : Nat) : Int) - 1) (by omega) (by omega), w32_id (z := ((a.length + (b.length + 1) : Nat) : Int) - 1 - (a.length : Int)) (by omega) (by omega), show ((a.length + (b.length + 1) : Nat) : Int) - 1 - (a.length : Int) = (b.length : Int) by omega, pk_word h]
theorem c281 {l : List Int} (h : OKL l) (hq : Q (c9 l) w) : VC (d + 2) 281 [(1, pk l)] w Q := by
  refine e281.mpr (b281_0.mpr ((c273 h).mpr (b281_6.mpr ?_)))
  have L : ∀ (b a : List Int), l = a ++ b → VW (d + 1) 281 11 [(1, pk l), (9, 0), (1, c9 a), (9, 0), (0, (l.length : Int)), (0, (a.length : Int))] [] w Q := by
    intro b
    induction b with
    | nil =>
      intro a ha
      rw [List.append_nil] at ha
      subst ha
      exact b281_11.mpr ⟨fun hc => absurd hc (by omega), fun _ => b281_38.mpr hq⟩
    | cons x b ih =>
      intro a ha
      have h1 := ih (a ++ [x]) (by rw [ha]; simp)
      have h2 : OKL (a ++ x :: b) := ha ▸ h
      have h3 := c9_bd14 (OKL.app h2).1
      have h4 : 1 ≤ x ∧ x ≤ 8 := h2.2 x (List.mem_append_right _ List.mem_cons_self)
      have h5 := h2.1
      rw [List.length_append, List.length_cons] at h5
      refine b281_11.mpr ⟨fun _ => ?_, fun hc => absurd ?_ hc⟩
      · refine b281_18.mpr ?_
        rw [ha]
        refine (c276 h2).mpr (b281_29.mpr (b281_32.mpr ?_))
        rw [← ha, w64_id (z := c9 a * 9) (by omega) (by omega), w64_id (z := c9 a * 9 + x) (by omega) (by omega), w32_id (z := (a.length : Int) + 1) (by omega) (by omega)]
        rw [c9_snoc, List.length_append, List.length_singleton, Int.mul_comm 9] at h1
        exact_mod_cast h1
      · rw [ha, List.length_append, List.length_cons]; omega
  exact L l [] rfl
theorem rd_58 {c r : Int} {b : List Int} (hb : OKL b) (h0 : r = 0 → Q (pk b) w) (h1 : r ≠ 0 → Q (-1) w) : VW (d + 1) 280 58 [(1, c), (9, 0), (1, r), (9, 0), (1, c16 b), (9, 0), (0, (b.length : Int))] [] w Q := by
  refine b280_58.mpr ⟨fun h => ?_, fun h => ?_⟩
  · exact b280_64.mpr ((c274 hb).mpr (b280_71.mpr (b280_77.mpr (h0 (vlc_eq.mp h)))))
  · exact b280_74.mpr (b280_77.mpr (h1 fun e => h (vlc_eq.mpr e)))
theorem c280 {c : Int} (hc : -9223372036854775808 ≤ c ∧ c < 9223372036854775808) (h1 : ∀ l, OKL l → c = c9 l → Q (pk l) w) (h2 : (∀ l, OKL l → c ≠ c9 l) → Q (-1) w) : VC (d + 2) 280 [(1, c)] w Q := by
  refine e280.mpr (b280_0.mpr ?_)
  have L : ∀ (m : Nat) (r : Int) (b : List Int), OKL b → m + b.length = 14 → c = r * 9 ^ b.length + c9 b → (r < 0 → b = []) → r < 9223372036854775808 → VW (d + 1) 280 8 [(1, c), (9, 0), (1, r), (9, 0), (1, c16 b), (9, 0), (0, (b.length : Int))] [] w Q := by
    intro m
    induction m with
    | zero =>
      intro r b hb hm hr hn hr2
      have hex : r ≠ 0 → Q (-1) w := fun hr0 => h2 fun l hl e => by
        have g1 := c9_bd14 hl
        have g2 := c9_bd hb.2
        rcases Int.lt_or_lt_of_ne hr0 with h | h
        · have := hn h
          subst this
          simp [c9_nil] at hr
          omega
        · have h14 : b.length = 14 := by omega
          rw [h14] at hr
          rw [show (9 : Int) ^ 14 = 22876792454961 from rfl] at hr
          omega
      have h58 := rd_58 (d := d) (c := c) hb (fun e => h1 b hb (by rw [hr, e]; omega)) hex
      refine b280_8.mpr ⟨fun _ => b280_14.mpr ⟨fun h => absurd h (by omega), fun _ => h58⟩, fun _ => h58⟩
    | succ m ih =>
      intro r b hb hm hr hn hr2
      refine b280_8.mpr ⟨fun hp => b280_14.mpr ⟨fun _ => ?_, fun h => absurd (show (b.length : Int) < 14 by omega) h⟩, fun hp => ?_⟩
      · have hp := vlc_gt.mp hp
        have g2 := c9_bd hb.2
        refine b280_21.mpr ⟨fun hz => ?_, fun hz => ?_⟩
        · have hz := vlc_eq.mp hz
          rw [tmod_nn (by omega)] at hz
          refine rd_58 hb (fun e => absurd e (by omega)) (fun _ => h2 fun l hl e => ?_)
          obtain ⟨a, rfl, ha⟩ := c9_split hl.2 hb.2 (by omega) (e.symm.trans hr)
          rcases snoc_cases a with rfl | ⟨s, y, rfl⟩
          · rw [c9_nil] at ha; omega
          · have g3 := OKw.sing.mp (OKw.app.mp (OKw.app.mp hl.2).1).2
            rw [c9_snoc] at ha
            omega
        · have hz : Int.tmod r 9 ≠ 0 := fun e => hz (vlc_eq.mpr e)
          rw [tmod_nn (by omega)] at hz
          refine b280_31.mpr (b280_46.mpr ?_)
          rw [tmod_nn (by omega), tdiv_nn (by omega)]
          have hx : OKL (r % 9 :: b) := ⟨by rw [List.length_cons]; omega, fun y hy => by
            rcases List.mem_cons.mp hy with rfl | hy
            · omega
            · exact hb.2 y hy⟩
          have g4 := pk_bd hx
          have g5 := c16_bd hb.2
          rw [c16_cons] at g4
          have e1 : l_or (c16 b) (l_shl (r % 9) (w32 (4 * (b.length : Int)))) = c16 (r % 9 :: b) := by
            rw [w32_id (by omega) (by omega), show 4 * (b.length : Int) = ((4 * b.length : Nat) : Int) by omega, l_shl_mul _ _ (by omega) (by omega) (by rw [← pow16_2]; omega), l_or_low _ _ _ (by omega) g5.1 (by rw [← pow16_2]; exact g5.2) (by rw [← pow16_2]; omega), ← pow16_2, c16_cons]
          rw [e1, w64_id (by omega) (by omega), w32_id (by omega) (by omega)]
          have h9 := ih (r / 9) (r % 9 :: b) hx (by rw [List.length_cons]; omega) (by
            rw [c9_cons, List.length_cons, Int.pow_succ, hr]
            have e2 : r = 9 * (r / 9) + r % 9 := by omega
            generalize r / 9 = q at e2
            generalize r % 9 = x at e2
            rw [e2, Int.add_mul, ← Int.mul_assoc, Int.mul_comm (q * 9 ^ b.length) 9, Int.mul_assoc 9, Int.add_assoc]) (by omega) (by omega)
          rw [List.length_cons] at h9
          exact_mod_cast h9
      · have hp : ¬ 0 < r := fun h => hp (vlc_gt.mpr h)
        refine rd_58 hb (fun e => h1 b hb (by rw [hr, e]; omega)) (fun hr0 => h2 fun l hl e => ?_)
        have g1 := c9_bd14 hl
        have := hn (by omega)
        subst this
        simp [c9_nil] at hr
        omega
  have h := L 14 c [] OKL.nil rfl (by simp [c9_nil]) (fun _ => rfl) hc.2
  exact h
/-- the model's powers of 9 -/
def PW (w : vW) (x : Int) : Prop := vkd w x = 22 ∧ vkd w (vct w x 3) = 2 ∧ vln w (vct w x 3) = 20 ∧ ∀ j : Nat, j < 20 → vct w (vct w x 3) (j : Int) = 9 ^ j
theorem c60 {x : Int} {l : List Int} (hP : PW w x) (h : OKw l) (hl : l.length < 20) (hq : Q (l.length : Int) w) : VC (d + 1) 60 [(2, x), (1, c9 l)] w Q := by
  refine e60.mpr (b60_0.mpr ?_)
  have L : ∀ (m n : Nat), m + n = l.length → VW d 60 2 [(2, x), (1, c9 l), (9, 0), (0, (n : Int))] [] w Q := by
    intro m
    induction m with
    | zero =>
      intro n hn
      refine b60_2.mpr ⟨hP.1, ⟨hP.2.1, by omega, by rw [hP.2.2.1]; omega⟩, fun _ => b60_19.mpr ?_, fun hc => absurd ?_ hc⟩
      · rw [show (n : Int) = (l.length : Int) by omega]; exact hq
      · rw [vlc_lt, hP.2.2.2 n (by omega), c9_lt_iff h]; omega
    | succ m ih =>
      intro n hn
      refine b60_2.mpr ⟨hP.1, ⟨hP.2.1, by omega, by rw [hP.2.2.1]; omega⟩, fun hc => absurd hc ?_, fun _ => b60_13.mpr ?_⟩
      · rw [vlc_lt, hP.2.2.2 n (by omega), c9_lt_iff h]; omega
      · rw [w32_id (by omega) (by omega)]
        exact_mod_cast ih (n + 1) (by omega)
  exact L l.length 0 rfl
theorem c61 {x c : Int} (hP : PW w x) (h1 : ∀ l, OKL l → c = c9 l → Q 1 w) (h2 : (∀ l, OKL l → c ≠ c9 l) → Q 0 w) : VC (d + 1) 61 [(2, x), (1, c)] w Q := by
  refine e61.mpr (b61_0.mpr ⟨fun hc => b61_18.mpr (h2 fun l hl e => ?_), fun hc => b61_6.mpr ⟨hP.1, ⟨hP.2.1, by omega, by rw [hP.2.2.1]; omega⟩, fun hc2 => ?_, fun hc2 => b61_18.mpr (h2 fun l hl e => hc2 ?_)⟩⟩)
  · have := vlc_lt.mp hc
    have := c9_bd14 hl
    omega
  · have hc : ¬ c < 0 := fun h => hc (vlc_lt.mpr h)
    have h14 : vct w (vct w x 3) 14 = 22876792454961 := hP.2.2.2 14 (by decide)
    rw [h14, vlc_lt] at hc2
    refine b61_20.mpr ?_
    have L : ∀ (m : Nat) (r f : Int), 0 ≤ r → r < 22876792454961 → r.toNat ≤ m → ((f = 1 ∧ ∃ b, OKw b ∧ c = r * 9 ^ b.length + c9 b) ∨ (f = 0 ∧ ∀ l, OKL l → c ≠ c9 l)) → VW d 61 25 [(2, x), (1, c), (9, 0), (0, f), (1, r), (9, 0)] [] w Q := by
      intro m
      induction m with
      | zero =>
        intro r f h0 hr hm hI
        refine b61_25.mpr ⟨fun hp => absurd (vlc_gt.mp hp) (by omega), fun _ => b61_64.mpr ?_⟩
        have : r = 0 := by omega
        subst this
        rcases hI with ⟨rfl, b, hb, e⟩ | ⟨rfl, hno⟩
        · rw [Int.zero_mul, Int.zero_add] at e
          refine ⟨by omega, h1 b ⟨(c9_lt_iff hb 14).mp (by rw [← e]; exact hc2), hb⟩ e⟩
        · exact ⟨by omega, h2 hno⟩
      | succ m ih =>
        intro r f h0 hr hm hI
        refine b61_25.mpr ⟨fun hp => ?_, fun hp => b61_64.mpr ?_⟩
        · have hp := vlc_gt.mp hp
          refine b61_32.mpr ⟨fun hf => ?_, fun hf => ?_⟩
          · refine b61_51.mpr (b61_52.mpr ?_)
            rw [tdiv_nn h0, w64_id (by omega) (by omega)]
            refine ih _ _ (by omega) (by omega) (by omega) (Or.inr ⟨rfl, ?_⟩)
            rcases hI with ⟨rfl, -⟩ | ⟨-, hno⟩
            · exact absurd hf (by decide)
            · exact hno
          · rcases hI with ⟨-, b, hb, e⟩ | ⟨rfl, hno⟩
            · have g2 := c9_bd hb
              refine b61_36.mpr ⟨fun hz => ?_, fun hz => ?_⟩
              · have hz := vlc_gt.mp hz
                rw [tmod_nn h0] at hz
                refine b61_47.mpr (b61_52.mpr ?_)
                rw [tdiv_nn h0, w64_id (by omega) (by omega)]
                refine ih _ _ (by omega) (by omega) (by omega) (Or.inl ⟨rfl, r % 9 :: b, fun y hy => ?_, ?_⟩)
                · rcases List.mem_cons.mp hy with rfl | hy
                  · omega
                  · exact hb y hy
                · rw [c9_cons, List.length_cons, Int.pow_succ, e]
                  have e2 : r = 9 * (r / 9) + r % 9 := by omega
                  generalize r / 9 = q at e2
                  generalize r % 9 = y at e2
                  rw [e2, Int.add_mul, ← Int.mul_assoc, Int.mul_comm (q * 9 ^ b.length) 9, Int.mul_assoc 9, Int.add_assoc]
              · have hz : ¬ 0 < Int.tmod r 9 := fun h => hz (vlc_gt.mpr h)
                rw [tmod_nn h0] at hz
                refine b61_51.mpr (b61_52.mpr ?_)
                rw [tdiv_nn h0, w64_id (by omega) (by omega)]
                refine ih _ _ (by omega) (by omega) (by omega) (Or.inr ⟨rfl, fun l hl e3 => ?_⟩)
                obtain ⟨a, rfl, ha⟩ := c9_split hl.2 hb (by omega) (e3.symm.trans e)
                rcases snoc_cases a with rfl | ⟨s, y, rfl⟩
                · rw [c9_nil] at ha; omega
                · have g3 := OKw.sing.mp (OKw.app.mp (OKw.app.mp hl.2).1).2
                  rw [c9_snoc] at ha
                  omega
            · exact absurd rfl hf
        · have hp : ¬ 0 < r := fun h => hp (vlc_gt.mpr h)
          have : r = 0 := by omega
          subst this
          rcases hI with ⟨rfl, b, hb, e⟩ | ⟨rfl, hno⟩
          · rw [Int.zero_mul, Int.zero_add] at e
            refine ⟨by omega, h1 b ⟨(c9_lt_iff hb 14).mp (by rw [← e]; exact hc2), hb⟩ e⟩
          · exact ⟨by omega, h2 hno⟩
    exact L c.toNat c 1 (by omega) hc2 (Nat.le_refl _) (Or.inl ⟨rfl, [], OKw.nil, by simp [c9_nil]⟩)
  · have h14 : vct w (vct w x 3) 14 = 22876792454961 := hP.2.2.2 14 (by decide)
    rw [h14, vlc_lt, e]
    exact (c9_bd14 hl).2
end SAY
