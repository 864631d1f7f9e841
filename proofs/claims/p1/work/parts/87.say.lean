/-! sayings as lists of words (the first one first), their codes and their packed numbers -/
def c9 (l : List Int) : Int := l.foldl (fun a x => 9 * a + x) 0
def c16 (l : List Int) : Int := l.foldl (fun a x => 16 * a + x) 0
def OKw (l : List Int) : Prop := ∀ x ∈ l, 1 ≤ x ∧ x ≤ 8
def OKL (l : List Int) : Prop := l.length ≤ 14 ∧ OKw l
def pk (l : List Int) : Int := (l.length : Int) * 72057594037927936 + c16 l
theorem c9_nil : c9 [] = 0 := rfl
theorem c16_nil : c16 [] = 0 := rfl
theorem c9_snoc (l : List Int) (x : Int) : c9 (l ++ [x]) = 9 * c9 l + x := by simp [c9, List.foldl_append]
theorem c16_snoc (l : List Int) (x : Int) : c16 (l ++ [x]) = 16 * c16 l + x := by simp [c16, List.foldl_append]
theorem OKw.app {a b : List Int} : OKw (a ++ b) ↔ OKw a ∧ OKw b := by
  constructor
  · exact fun h => ⟨fun x hx => h x (List.mem_append_left _ hx), fun x hx => h x (List.mem_append_right _ hx)⟩
  · rintro ⟨h1, h2⟩ x hx
    rcases List.mem_append.mp hx with hx | hx
    · exact h1 x hx
    · exact h2 x hx
theorem OKw.nil : OKw [] := fun _ h => by cases h
theorem OKw.sing {x : Int} : OKw [x] ↔ 1 ≤ x ∧ x ≤ 8 := ⟨fun h => h x List.mem_cons_self, fun h y hy => by rw [List.mem_singleton.mp hy]; exact h⟩
/-- lists are looked at from their end -/
theorem snoc_cases (l : List Int) : l = [] ∨ ∃ (t : List Int) (x : Int), l = t ++ [x] := by
  rcases List.eq_nil_or_concat l with h | ⟨t, x, h⟩
  · exact Or.inl h
  · exact Or.inr ⟨t, x, by rw [h, List.concat_eq_append]⟩
theorem snoc_ind {P : List Int → Prop} (h0 : P []) (h1 : ∀ t x, P t → P (t ++ [x])) : ∀ l, P l := by
  intro l
  have h : ∀ (n : Nat) (l : List Int), l.length = n → P l := by
    intro n
    induction n with
    | zero => intro l hl; rw [List.length_eq_zero_iff.mp hl]; exact h0
    | succ n ih =>
      intro l hl
      rcases snoc_cases l with rfl | ⟨t, x, rfl⟩
      · cases hl
      · exact h1 t x (ih t (by simpa using hl))
  exact h _ l rfl
theorem c9_app (a b : List Int) : c9 (a ++ b) = c9 a * 9 ^ b.length + c9 b := by
  revert b
  refine snoc_ind (by simp [c9_nil]) ?_
  intro t x ih
  rw [← List.append_assoc, c9_snoc, ih, c9_snoc, List.length_append, List.length_singleton, Int.pow_succ, Int.mul_add, ← Int.mul_assoc (c9 a), Int.mul_comm 9 (c9 a * _), Int.add_assoc]
theorem c16_app (a b : List Int) : c16 (a ++ b) = c16 a * 16 ^ b.length + c16 b := by
  revert b
  refine snoc_ind (by simp [c16_nil]) ?_
  intro t x ih
  rw [← List.append_assoc, c16_snoc, ih, c16_snoc, List.length_append, List.length_singleton, Int.pow_succ, Int.mul_add, ← Int.mul_assoc (c16 a), Int.mul_comm 16 (c16 a * _), Int.add_assoc]
theorem c9_bd {l : List Int} (h : OKw l) : 0 ≤ c9 l ∧ c9 l < 9 ^ l.length := by
  revert h
  refine snoc_ind (P := fun l => OKw l → 0 ≤ c9 l ∧ c9 l < 9 ^ l.length) (fun _ => by simp [c9_nil]) ?_ l
  intro t x ih h
  obtain ⟨h1, h2⟩ := OKw.app.mp h
  have h3 := OKw.sing.mp h2
  have h4 := ih h1
  rw [c9_snoc, List.length_append, List.length_singleton, Int.pow_succ]
  generalize (9 : Int) ^ t.length = p at h4 ⊢
  omega
theorem c16_bd {l : List Int} (h : OKw l) : 0 ≤ c16 l ∧ c16 l < 16 ^ l.length := by
  revert h
  refine snoc_ind (P := fun l => OKw l → 0 ≤ c16 l ∧ c16 l < 16 ^ l.length) (fun _ => by simp [c16_nil]) ?_ l
  intro t x ih h
  obtain ⟨h1, h2⟩ := OKw.app.mp h
  have h3 := OKw.sing.mp h2
  have h4 := ih h1
  rw [c16_snoc, List.length_append, List.length_singleton, Int.pow_succ]
  generalize (16 : Int) ^ t.length = p at h4 ⊢
  omega
theorem pow16_le {n : Nat} (h : n ≤ 14) : (16 : Int) ^ n ≤ 72057594037927936 := by
  have h1 : (16 : Int) ^ n ≤ 16 ^ 14 := by exact_mod_cast Nat.pow_le_pow_right (n := 16) (by decide) h
  exact h1
theorem pow9_le {n : Nat} (h : n ≤ 14) : (9 : Int) ^ n ≤ 22876792454961 := by
  have h1 : (9 : Int) ^ n ≤ 9 ^ 14 := by exact_mod_cast Nat.pow_le_pow_right (n := 9) (by decide) h
  exact h1
theorem pow16_pos (n : Nat) : (0 : Int) < 16 ^ n := by exact_mod_cast Nat.pow_pos (n := n) (a := 16) (by decide)
theorem pow9_pos (n : Nat) : (0 : Int) < 9 ^ n := by exact_mod_cast Nat.pow_pos (n := n) (a := 9) (by decide)
theorem pow16_2 (n : Nat) : (16 : Int) ^ n = 2 ^ (4 * n) := by
  rw [Int.pow_mul]; rfl
theorem pk_bd {l : List Int} (h : OKL l) : 0 ≤ pk l ∧ pk l < 1080863910568919040 ∧ 0 ≤ c16 l ∧ c16 l < 72057594037927936 := by
  have h1 := c16_bd h.2
  have h2 := pow16_le h.1
  have h3 := h.1
  unfold pk
  omega
/-- the words behind: if the codes agree so far, the lists do -/
theorem c9_split {b : List Int} : ∀ {l : List Int} {r : Int}, OKw l → OKw b → 0 ≤ r → c9 l = r * 9 ^ b.length + c9 b → ∃ a, l = a ++ b ∧ c9 a = r := by
  refine snoc_ind (P := fun b => ∀ {l : List Int} {r : Int}, OKw l → OKw b → 0 ≤ r → c9 l = r * 9 ^ b.length + c9 b → ∃ a, l = a ++ b ∧ c9 a = r) ?_ ?_ b
  · intro l r _ _ _ h
    exact ⟨l, (List.append_nil l).symm, by simpa [c9_nil] using h⟩
  · intro t x ih l r hl hb hr h
    obtain ⟨h1, h2⟩ := OKw.app.mp hb
    have h3 := OKw.sing.mp h2
    have h4 := c9_bd h1
    rw [c9_snoc, List.length_append, List.length_singleton, Int.pow_succ] at h
    have h5 : 0 ≤ r * 9 ^ t.length := Int.mul_nonneg hr (Int.le_of_lt (pow9_pos _))
    rcases snoc_cases l with rfl | ⟨s, y, rfl⟩
    · rw [c9_nil] at h
      rw [← Int.mul_assoc] at h
      generalize r * 9 ^ t.length = q at h h5
      omega
    · obtain ⟨g1, g2⟩ := OKw.app.mp hl
      have g3 := OKw.sing.mp g2
      rw [c9_snoc, ← Int.mul_assoc] at h
      have e1 : y = x ∧ c9 s = r * 9 ^ t.length + c9 t := by
        generalize r * 9 ^ t.length = q at h h5 ⊢
        omega
      obtain ⟨a, rfl, ha⟩ := ih g1 h1 hr e1.2
      rw [e1.1]
      exact ⟨a, by rw [List.append_assoc], ha⟩
theorem c9_inj {l m : List Int} (hl : OKw l) (hm : OKw m) (h : c9 l = c9 m) : l = m := by
  obtain ⟨a, ha, h0⟩ := c9_split (b := m) hl hm (Int.le_refl 0) (by rw [Int.zero_mul, Int.zero_add]; exact h)
  rcases snoc_cases a with rfl | ⟨s, y, rfl⟩
  · exact ha
  · have h1 : OKw (s ++ [y]) := (OKw.app.mp (ha ▸ hl)).1
    have h2 := c9_bd (OKw.app.mp h1).1
    have h3 := OKw.sing.mp (OKw.app.mp h1).2
    rw [c9_snoc] at h0
    omega
theorem c16_inj : ∀ {l m : List Int}, OKw l → OKw m → l.length = m.length → c16 l = c16 m → l = m := by
  intro l
  refine snoc_ind (P := fun l => ∀ {m : List Int}, OKw l → OKw m → l.length = m.length → c16 l = c16 m → l = m) ?_ ?_ l
  · intro m _ _ h _
    exact (List.length_eq_zero_iff.mp h.symm).symm
  · intro t x ih m hl hm hn h
    rcases snoc_cases m with rfl | ⟨s, y, rfl⟩
    · simp at hn
    · have a1 := OKw.sing.mp (OKw.app.mp hl).2
      have a2 := OKw.sing.mp (OKw.app.mp hm).2
      rw [c16_snoc, c16_snoc] at h
      have e : x = y ∧ c16 t = c16 s := by omega
      rw [e.1, ih (OKw.app.mp hl).1 (OKw.app.mp hm).1 (by simpa using hn) e.2]
theorem pk_inj {l m : List Int} (hl : OKL l) (hm : OKL m) (h : pk l = pk m) : l = m := by
  have h1 := pk_bd hl
  have h2 := pk_bd hm
  unfold pk at h h1 h2
  have e : (l.length : Int) = m.length ∧ c16 l = c16 m := by omega
  exact c16_inj hl.2 hm.2 (by omega) e.2
theorem OKL.app {a b : List Int} (h : OKL (a ++ b)) : OKL a ∧ OKL b := by
  obtain ⟨h1, h2⟩ := h
  rw [List.length_append] at h1
  exact ⟨⟨by omega, (OKw.app.mp h2).1⟩, by omega, (OKw.app.mp h2).2⟩
theorem OKL.nil : OKL [] := ⟨by decide, OKw.nil⟩
theorem pk_nil : pk [] = 0 := rfl
/-- how many words -/
theorem pk_size {l : List Int} (h : OKL l) : w32 (l_ushr (pk l) 56) = l.length := by
  have h1 := pk_bd h
  have h2 := h.1
  rw [show (56 : Int) = ((56 : Nat) : Int) from rfl, l_ushr_nn _ 56 (by decide) h1.1 (by omega)]
  have h3 : pk l / 2 ^ 56 = l.length := by
    unfold pk
    show ((l.length : Int) * 72057594037927936 + c16 l) / 72057594037927936 = l.length
    omega
  rw [h3, w32_id (by omega) (by omega)]
theorem i_mask15 (x : Int) : i_and x 15 = x % 16 := i_mask x 4 (by decide)
/-- the word at a place -/
theorem pk_word {a b : List Int} {x : Int} (h : OKL (a ++ x :: b)) : i_and (w32 (l_ushr (pk (a ++ x :: b)) (w32 (4 * (b.length : Int))))) 15 = x := by
  have h1 := pk_bd h
  have h2 := h.1
  rw [List.length_append, List.length_cons] at h2
  have hx : 1 ≤ x ∧ x ≤ 8 := h.2 x (List.mem_append_right _ List.mem_cons_self)
  have hb := c16_bd (OKw.app.mp (OKw.app.mp (show OKw (a ++ ([x] ++ b)) from h.2)).2).2
  rw [w32_id (z := 4 * (b.length : Int)) (by omega) (by omega), show 4 * (b.length : Int) = ((4 * b.length : Nat) : Int) by omega, l_ushr_nn _ _ (by omega) h1.1 (by omega), i_mask15, ← pow16_2]
  have e : pk (a ++ x :: b) = ((a.length + 1 + b.length : Int) * 16 ^ (13 - b.length) * 16 + (c16 a * 16 + x)) * 16 ^ b.length + c16 b := by
    unfold pk
    rw [show a ++ x :: b = (a ++ [x]) ++ b by simp, c16_app, c16_snoc, show (72057594037927936 : Int) = 16 ^ (13 - b.length) * 16 * 16 ^ b.length from by
      rw [← Int.pow_succ, ← Int.pow_add, show 13 - b.length + 1 + b.length = 14 by omega]; rfl]
    simp only [List.length_append, List.length_singleton]
    rw [show ((a.length + 1 + b.length : Nat) : Int) = (a.length : Int) + 1 + b.length by omega, Int.mul_comm 16 (c16 a)]
    generalize (16 : Int) ^ (13 - b.length) = u
    generalize (16 : Int) ^ b.length = v
    simp only [Int.add_mul, Int.mul_assoc, Int.add_assoc]
  rw [e, Int.mul_comm _ ((16 : Int) ^ b.length), Int.mul_add_ediv_left _ _ (by have := pow16_pos b.length; omega), Int.ediv_eq_zero_of_lt hb.1 hb.2, Int.add_zero]
  generalize (a.length + 1 + b.length : Int) * 16 ^ (13 - b.length) = q
  have := w32_m (q * 16 + (c16 a * 16 + x))
  obtain ⟨k, hk⟩ := this
  rw [hk]
  omega
theorem c9_one (x : Int) : c9 [x] = x := by simp [c9]
theorem c16_one (x : Int) : c16 [x] = x := by simp [c16]
theorem c9_cons (x : Int) (b : List Int) : c9 (x :: b) = x * 9 ^ b.length + c9 b := by
  have h := c9_app [x] b
  rw [c9_one] at h
  exact h
theorem c16_cons (x : Int) (b : List Int) : c16 (x :: b) = x * 16 ^ b.length + c16 b := by
  have h := c16_app [x] b
  rw [c16_one] at h
  exact h
theorem c9_ge {l : List Int} (h : OKw l) {n : Nat} (hn : n < l.length) : 9 ^ n ≤ c9 l := by
  match l, h, hn with
  | x :: t, h, hn =>
    have h1 : 1 ≤ x ∧ x ≤ 8 := h x List.mem_cons_self
    have h2 := c9_bd (l := t) (fun y hy => h y (List.mem_cons_of_mem _ hy))
    rw [c9_cons]
    have h3 : (9 : Int) ^ n ≤ 9 ^ t.length := by
      have h4 : n ≤ t.length := by simpa using Nat.lt_succ_iff.mp hn
      exact_mod_cast Nat.pow_le_pow_right (n := 9) (by decide) h4
    have h5 : 1 * (9 : Int) ^ t.length ≤ x * 9 ^ t.length := Int.mul_le_mul_of_nonneg_right h1.1 (Int.le_of_lt (pow9_pos _))
    omega
theorem c9_lt_iff {l : List Int} (h : OKw l) (n : Nat) : c9 l < 9 ^ n ↔ l.length ≤ n := by
  constructor
  · intro h1
    rcases Nat.lt_or_ge n l.length with h2 | h2
    · have := c9_ge h h2; omega
    · exact h2
  · intro h1
    have h2 := (c9_bd h).2
    have h3 : (9 : Int) ^ l.length ≤ 9 ^ n := by exact_mod_cast Nat.pow_le_pow_right (n := 9) (by decide) h1
    omega
theorem c9_bd14 {l : List Int} (h : OKL l) : 0 ≤ c9 l ∧ c9 l < 22876792454961 := by
  have h1 := c9_bd h.2
  have h2 := pow9_le h.1
  omega
theorem of_pk {l : List Int} (h : OKL l) : l_or (l_shl (l.length : Int) 56) (c16 l) = pk l := by
  have h1 := pk_bd h
  have h2 := h.1
  rw [show (56 : Int) = ((56 : Nat) : Int) from rfl, l_shl_mul _ 56 (by decide) (by omega) (by
    show (l.length : Int) * 72057594037927936 < _
    omega), l_or_add _ _ 56 (by omega) h1.2.2.1 h1.2.2.2 (by
    show (l.length : Int) * 72057594037927936 + c16 l < _
    unfold pk at h1
    omega)]
  rfl
