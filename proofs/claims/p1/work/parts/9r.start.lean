/-! the law itself -/
theorem law_all {w : vW} {xs : Nat → Int32} (hS : SC xs w) (hX : FX w) (hM : FM w) (hv : vnt w = 58) (hc : vec w = 58) (hs : ves w = 57489) : VW 60 299 23 [(2, -2), (2, 0), (2, 25), (2, 57), (0, 0), (9, 0), (9, 0), (9, 0)] [] w Qf := by
  refine b299_23.mpr ⟨hS.k, fun h => absurd h (by rw [hS.l]; decide), fun _ => b299_33.mpr ⟨⟨hS.k, by decide, by rw [hS.l]; decide⟩, ?_⟩⟩
  have hx : i_and (vct w (-2) 0) 63 = vct w (-2) 0 % 64 := i_mask _ 6 (by decide)
  rw [hx]
  have h0 : 0 ≤ vct w (-2) 0 % 64 := by omega
  generalize vct w (-2) 0 % 64 = o at h0
  rw [show vswt 3 o = vsw_3 o from rfl]
  by_cases h0 : o = 0
  · rw [h0]; exact law_0 hS hX hM hv hc hs
  by_cases h1 : o = 1
  · rw [h1]; exact law_1 hS hX hM hv hc hs
  by_cases h2 : o = 2
  · rw [h2]; exact law_2 hS hX hM hv hc hs
  by_cases h3 : o = 3
  · rw [h3]; exact law_3 hS hX hM hv hc hs
  by_cases h4 : o = 4
  · rw [h4]; exact law_4 hS hX hM hv hc hs
  by_cases h5 : o = 5
  · rw [h5]; exact law_5 hS hX hM hv hc hs
  by_cases h6 : o = 6
  · rw [h6]; exact law_6 hS hX hM hv hc hs
  by_cases h7 : o = 7
  · rw [h7]; exact law_7 hS hX hM hv hc hs
  by_cases h8 : o = 8
  · rw [h8]; exact law_8 hS hX hM hv hc hs
  by_cases h9 : o = 9
  · rw [h9]; exact law_9 hS hX hM hv hc hs
  by_cases h10 : o = 10
  · rw [h10]; exact law_10 hS hX hM hv hc hs
  by_cases h11 : o = 11
  · rw [h11]; exact law_11 hS hX hM hv hc hs
  by_cases h12 : o = 12
  · rw [h12]; exact law_12 hS hX hM hv hc hs
  by_cases h13 : o = 13
  · rw [h13]; exact law_13 hS hX hM hv hc hs
  by_cases h14 : o = 14
  · rw [h14]; exact law_14 hS hX hM hv hc hs
  by_cases h15 : o = 15
  · rw [h15]; exact law_15 hS hX hM hv hc hs
  by_cases h16 : o = 16
  · rw [h16]; exact law_16 hS hX hM hv hc hs
  by_cases h17 : o = 17
  · rw [h17]; exact law_17 hS hX hM hv hc hs
  by_cases h18 : o = 18
  · rw [h18]; exact law_18 hS hX hM hv hc hs
  by_cases h19 : o = 19
  · rw [h19]; exact law_19 hS hX hM hv hc hs
  by_cases h20 : o = 20
  · rw [h20]; exact law_20 hS hX hM hv hc hs
  by_cases h21 : o = 21
  · rw [h21]; exact law_21 hS hX hM hv hc hs
  by_cases h22 : o = 22
  · rw [h22]; exact law_22 hS hX hM hv hc hs
  by_cases h23 : o = 23
  · rw [h23]; exact law_23 hS hX hM hv hc hs
  by_cases h24 : o = 24
  · rw [h24]; exact law_24 hS hX hM hv hc hs
  by_cases h25 : o = 25
  · rw [h25]; exact law_25 hS hX hM hv hc hs
  by_cases h26 : o = 26
  · rw [h26]; exact law_26 hS hX hM hv hc hs
  by_cases h27 : o = 27
  · rw [h27]; exact law_27 hS hX hM hv hc hs
  by_cases h28 : o = 28
  · rw [h28]; exact law_28 hS hX hM hv hc hs
  by_cases h29 : o = 29
  · rw [h29]; exact law_29 hS hX hM hv hc hs
  by_cases h30 : o = 30
  · rw [h30]; exact law_30 hS hX hM hv hc hs
  by_cases h31 : o = 31
  · rw [h31]; exact law_31 hS hX hM hv hc hs
  by_cases h32 : o = 32
  · rw [h32]; exact law_32 hS hX hM hv hc hs
  by_cases h33 : o = 33
  · rw [h33]; exact law_33 hS hX hM hv hc hs
  by_cases h34 : o = 34
  · rw [h34]; exact law_34 hS hX hM hv hc hs
  by_cases h35 : o = 35
  · rw [h35]; exact law_35 hS hX hM hv hc hs
  by_cases h36 : o = 36
  · rw [h36]; exact law_36 hS hX hM hv hc hs
  by_cases h37 : o = 37
  · rw [h37]; exact law_37 hS hX hM hv hc hs
  by_cases h38 : o = 38
  · rw [h38]; exact law_38 hS hX hM hv hc hs
  by_cases h39 : o = 39
  · rw [h39]; exact law_39 hS hX hM hv hc hs
  by_cases h40 : o = 40
  · rw [h40]; exact law_40 hS hX hM hv hc hs
  by_cases h41 : o = 41
  · rw [h41]; exact law_41 hS hX hM hv hc hs
  have hd : vsw_3 o = 1763 := by
    unfold vsw_3
    repeat' split
    all_goals first | rfl | (exfalso; omega)
  rw [hd]
  exact lawx hS (by omega) (by omega)
theorem whole_start {p : Program} {e : Env} {s : State} {m : MethodId} {below : List Frame} {meth : Method} {c : Code} (l : Launch) (hflags : l.flags = flags0) {b L : Nat} {xs : Nat → Int32} (hL : L ≤ 6) (C0 : lw_At p s m meth c b L xs) : W p l e room_1 s m #[Value.ref b] below meth c s.heap [] 0 0 (lw_Z below #[Value.ref b] s) (entryFrame m ([Value.ref b] : List Value).toArray 8) := by
  have h : VW 60 299 0 (vent (vnl 299) [(2, -2)]) [] (vw0 L xs) Qf := by
    refine law_st (d := 55) fun w hX hM hs ho hv hc he => ?_
    rcases Nat.lt_or_ge L 6 with h6 | h6
    · have hk : vkd w (-2) = 99 := congrArg (fun x : vC => x.1) hs
      have hl : vln w (-2) = (L : Int) := congrArg (fun x : vC => x.2.1) hs
      refine b299_23.mpr ⟨hk, fun _ => b299_1769.mpr ⟨rfl, by omega, by omega⟩, fun h => absurd ?_ h⟩
      rw [hl, w32_id (by omega) (by omega)]; omega
    · have : L = 6 := by omega
      subst this
      exact law_all hs hX hM hv hc he
  obtain ⟨n, f, z, w1, h1, rfl, rfl, h3, h4⟩ := h
  exact whole_startV l hflags hL C0 n 60 (by decide) (by decide) w1 h1 h3 h4
