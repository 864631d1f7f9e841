/-! the class's finalsOf on a fresh object -/
section FOF
variable {d : Nat} {w : vW} {a : Int} {Q : Int → vW → Prop}
theorem k177 {N : Int} {x1 : Int} (ha : OB w a 13 [-1, -1, -1, -1, 0, 0, 0, 0, 0, 0]) (hN : vnt w = N) (hl : a < N) (h : ∀ w1, CS N w w1 a 13 [N + 0, N + 1, N + 2, N + 3, x1, 0, (-1), (-1), 0, 0] 4 20495 (fun w' => ((((True) ∧ w'.1 (N + 0) = (2, 8192, fun _ => 0)) ∧ w'.1 (N + 1) = (2, 8192, fun _ => 0)) ∧ w'.1 (N + 2) = (1, 15, fun _ => 0)) ∧ w'.1 (N + 3) = (2, 4096, fun _ => 0)) → Q 0 w1) : VC (d + 1) 177 [(2, a), (0, x1)] w Q := by
  have c0 := CS.start ha hN hl
  refine e177.mpr ?_
  refine b177_0.mpr ⟨by rw [ha.1]; decide, s_al c0 fun u1 c1 => ?_⟩
  refine b177_10.mpr ⟨c1.kd, s_st c1 0 (l2 := [N + 0, -1, -1, -1, 0, 0, 0, 0, 0, 0]) rfl fun u2 c2 => ?_⟩
  refine b177_13.mpr (s_al c2 fun u3 c3 => ?_)
  refine b177_19.mpr ⟨c3.kd, s_st c3 1 (l2 := [N + 0, N + 1, -1, -1, 0, 0, 0, 0, 0, 0]) rfl fun u4 c4 => ?_⟩
  refine b177_22.mpr (s_al c4 fun u5 c5 => ?_)
  refine b177_27.mpr ⟨c5.kd, s_st c5 2 (l2 := [N + 0, N + 1, N + 2, -1, 0, 0, 0, 0, 0, 0]) rfl fun u6 c6 => ?_⟩
  refine b177_30.mpr (s_al c6 fun u7 c7 => ?_)
  refine b177_36.mpr ⟨c7.kd, s_st c7 3 (l2 := [N + 0, N + 1, N + 2, N + 3, 0, 0, 0, 0, 0, 0]) rfl fun u8 c8 => ?_⟩
  refine b177_39.mpr ⟨c8.kd, s_st c8 5 (l2 := [N + 0, N + 1, N + 2, N + 3, 0, 0, 0, 0, 0, 0]) rfl fun u9 c9 => ?_⟩
  refine b177_44.mpr ⟨c9.kd, s_st c9 6 (l2 := [N + 0, N + 1, N + 2, N + 3, 0, 0, (-1), 0, 0, 0]) rfl fun u10 c10 => ?_⟩
  refine b177_49.mpr ⟨c10.kd, s_st c10 7 (l2 := [N + 0, N + 1, N + 2, N + 3, 0, 0, (-1), (-1), 0, 0]) rfl fun u11 c11 => ?_⟩
  refine b177_54.mpr ⟨c11.kd, s_st c11 8 (l2 := [N + 0, N + 1, N + 2, N + 3, 0, 0, (-1), (-1), 0, 0]) rfl fun u12 c12 => ?_⟩
  refine b177_59.mpr ⟨c12.kd, s_st c12 9 (l2 := [N + 0, N + 1, N + 2, N + 3, 0, 0, (-1), (-1), 0, 0]) rfl fun u13 c13 => ?_⟩
  refine b177_64.mpr ⟨c13.kd, s_st c13 4 (l2 := [N + 0, N + 1, N + 2, N + 3, x1, 0, (-1), (-1), 0, 0]) rfl fun u14 c14 => ?_⟩
  exact b177_69.mpr (h _ c14)

end FOF
section FOG
variable {d : Nat} {W : vW} {Q : Int → vW → Prop} {A k : Int} {n : Nat}
/-- what the class's own cells must be -/
def CX (W : vW) (z : Nat → Int) : Prop := vkd W 0 = 21 ∧ vct W 0 0 = 1 ∧ vct W 0 3 = 14 ∧ vct W 0 14 = 24 ∧ vkd W 14 = 12 ∧ vct W 14 4 = 3 ∧ vkd W 24 = 5 ∧ vln W 24 = 3 ∧ ∀ j : Nat, j < 3 → vct W 24 (j : Int) = z j
theorem CX.c {W' : vW} {z : Nat → Int} (h : CX W z) (e0 : W'.1 0 = W.1 0) (e14 : W'.1 14 = W.1 14) (e24 : W'.1 24 = W.1 24) : CX W' z := by
  obtain ⟨h1, h2, h3, h4, h5, h6, h7, h8, h9⟩ := h
  exact ⟨(vkd_cl e0).trans h1, (congrFun (vct_cl e0) _).trans h2, (congrFun (vct_cl e0) _).trans h3, (congrFun (vct_cl e0) _).trans h4, (vkd_cl e14).trans h5, (congrFun (vct_cl e14) _).trans h6, (vkd_cl e24).trans h7, (vln_cl e24).trans h8, fun j hj => (congrFun (vct_cl e24) _).trans (h9 j hj)⟩
theorem CX.fa {W' : vW} {z : Nat → Int} (h : CX W z) (hA : 58 ≤ A) (hf : fa A W W') : CX W' z := h.c (hf.2 0 (by omega)) (hf.2 14 (by omega)) (hf.2 24 (by omega))
/-- the last part of finalsOf: up to n words -/
theorem fof_end {z : Nat → Int} {c G : Nat} (hC : CX W z) (hc : c < 3) (hz : z c = A) (hA : 58 ≤ A) (hn : n ≤ 7) (hG : G ≤ n + 1) (hF : FN W A (c : Int) ((G : Int) - 1)) (hD : FD W A G 0) (hR : R1 W) (hq : ∀ W', FN W' A (c : Int) (n : Int) → FD W' A (n + 1) 0 → fa A W W' → Q A W') : VW (d + 9) 53 42 [(2, 0), (0, k), (0, (n : Int)), (0, (c : Int))] [] W Q := by
  have e1 : vct W 24 (c : Int) = A := (hC.2.2.2.2.2.2.2.2 c hc).trans hz
  refine b53_42.mpr ?_
  rw [hC.2.2.2.1, hC.2.2.1, hC.2.1, hC.2.2.2.2.2.1, e1]
  refine ⟨hC.1, ⟨hC.2.2.2.2.2.2.1, by omega, by rw [hC.2.2.2.2.2.2.2.1]; omega⟩, hC.1, hC.1, hC.2.2.2.2.1, hF.1, e179.mpr (b179_0.mpr ⟨hF.1, hR.1, fun _ => b179_11.mpr ⟨hF.1, fun _ => b179_37.mpr ⟨hF.1, ?_⟩, fun h => absurd hF.2.2.2.2.2.2.1 h⟩, fun h => absurd (hF.2.2.2.2.2.2.2.1.trans hR.2.2.1.symm) h⟩)⟩
  rw [hF.2.2.2.2.2.2.2.2.1, show (G : Int) - 1 + 1 = (G : Int) by omega, w32_id (z := (G : Int)) (by omega) (by omega)]
  refine upto_out (W := W) hA hn (fun W' F' D' f' => b53_63.mpr ?_) (n + 1 - G) G (by omega) (9, 0) (9, 0) W hF hD hR fa.rf
  have hC' := hC.fa hA f'
  have e1' : vct W' 24 (c : Int) = A := (hC'.2.2.2.2.2.2.2.2 c hc).trans hz
  rw [hC'.2.2.2.1, e1']
  exact ⟨hC'.1, ⟨hC'.2.2.2.2.2.2.1, by omega, by rw [hC'.2.2.2.2.2.2.2.1]; omega⟩, hq W' F' D' f'⟩
theorem fof_head {z : Nat → Int} {c : Nat} (hC : CX W z) (hc : c < 3) (hq : (z c = -1 → VW (d + 9) 53 28 [(2, 0), (0, (c : Int)), (0, (n : Int)), (0, (c : Int))] [] W Q) ∧ (¬ z c = -1 → VW (d + 9) 53 42 [(2, 0), (0, (c : Int)), (0, (n : Int)), (0, (c : Int))] [] W Q)) : VC (d + 10) 53 [(2, 0), (0, (c : Int)), (0, (n : Int))] W Q := by
  refine e53.mpr (b53_0.mpr ⟨fun h => absurd h (by omega), fun _ => b53_4.mpr ?_⟩)
  rw [hC.2.2.2.1]
  refine ⟨hC.1, hC.2.2.2.2.2.2.1, fun _ => b53_13.mpr (b53_18.mpr ?_), fun h => absurd (show (c : Int) < vln W 24 by rw [hC.2.2.2.2.2.2.2.1]; omega) h⟩
  rw [hC.2.2.2.1, hC.2.2.2.2.2.2.2.2 c hc]
  exact ⟨hC.1, ⟨hC.2.2.2.2.2.2.1, by omega, by rw [hC.2.2.2.2.2.2.2.1]; omega⟩, hq.1, hq.2⟩
/-- they are there already -/
theorem fof_old {z : Nat → Int} {c G : Nat} (hC : CX W z) (hc : c < 3) (hz : z c = A) (hA : 58 ≤ A) (hn : n ≤ 7) (hG : G ≤ n + 1) (hF : FN W A (c : Int) ((G : Int) - 1)) (hD : FD W A G 0) (hR : R1 W) (hq : ∀ W', FN W' A (c : Int) (n : Int) → FD W' A (n + 1) 0 → fa A W W' → Q A W') : VC (d + 10) 53 [(2, 0), (0, (c : Int)), (0, (n : Int))] W Q :=
  fof_head hC hc ⟨fun h => absurd h (by omega), fun _ => fof_end hC hc hz hA hn hG hF hD hR hq⟩
set_option maxRecDepth 60000 in
/-- they are made now -/
theorem fof_new {z : Nat → Int} {c : Nat} (hC : CX W z) (hc : c < 3) (hz : z c = -1) (hv : vnt W = A) (hA : 58 ≤ A) (hn : n ≤ 7) (hR : R1 W) (hq : ∀ W', FN W' A (c : Int) (n : Int) → FD W' A (n + 1) 0 → R1 W' → CX W' (fun j => if j = c then A else z j) → (∀ b : Int, b < A → b ≠ 24 → W'.1 b = W.1 b) → vnt W' = A + 5 → vec W' = vec W + 5 → ves W' = ves W + 20505 → Q A W') : VC (d + 10) 53 [(2, 0), (0, (c : Int)), (0, (n : Int))] W Q := by
  refine fof_head hC hc ⟨fun _ => b53_28.mpr ?_, fun h => absurd hz h⟩
  have ob : OB (vnw W 13 10 (vdfl 13) 10) A 13 [-1, -1, -1, -1, 0, 0, 0, 0, 0, 0] := by rw [← hv]; exact OB.nw (f := 10)
  rw [hC.2.2.2.1, hv]
  refine ⟨hC.1, b53_36.mpr ⟨ob.1, k177 (N := A + 1) ob (by rw [vnt_nw, hv]) (by omega) fun W1 g1 => b53_41.mpr ?_⟩⟩
  have c1 : ∀ b : Int, b < A → W1.1 b = W.1 b := fun b hb => (g1.2.2.2.2.2.1 b (by omega) (by omega)).trans (vcl_nw (by omega))
  have hC1 : CX W1 z := hC.c (c1 0 (by omega)) (c1 14 (by omega)) (c1 24 (by omega))
  have F := g1.fin
  have O := g1.1
  have f0 : W1.1 (A + 1) = (2, 8192, fun _ => 0) := by have := F.1.1.1.2; rwa [Int.add_zero] at this
  have f1 : W1.1 (A + 2) = (2, 8192, fun _ => 0) := by have := F.1.1.2; rwa [Int.add_assoc] at this
  have f2 : W1.1 (A + 3) = (1, 15, fun _ => 0) := by have := F.1.2; rwa [Int.add_assoc] at this
  have f3 : W1.1 (A + 4) = (2, 4096, fun _ => 0) := by have := F.2; rwa [Int.add_assoc] at this
  have o0 : vct W1 A 0 = A + 1 := by have : vct W1 A 0 = A + 1 + 0 := O.f 0 rfl; rwa [Int.add_zero] at this
  have o1 : vct W1 A 1 = A + 2 := by have : vct W1 A 1 = A + 1 + 1 := O.f 1 rfl; rwa [Int.add_assoc] at this
  have o2 : vct W1 A 2 = A + 3 := by have : vct W1 A 2 = A + 1 + 2 := O.f 2 rfl; rwa [Int.add_assoc] at this
  have o3 : vct W1 A 3 = A + 4 := by have : vct W1 A 3 = A + 1 + 3 := O.f 3 rfl; rwa [Int.add_assoc] at this
  have o4 : vct W1 A 4 = (c : Int) := O.f 4 rfl
  have o5 : vct W1 A 5 = 0 := O.f 5 rfl
  have o6 : vct W1 A 6 = -1 := O.f 6 rfl
  have hv1 : vnt W1 = A + 5 := by rw [g1.vn]; omega
  have he1 : vec W1 = vec W + 5 := by
    have h1 := g1.2.2.2.1
    rw [vec_nw] at h1
    omega
  have hs1 : ves W1 = ves W + 20505 := by
    have h1 := g1.2.2.2.2.1
    rw [ves_nw] at h1
    omega
  refine ⟨⟨hC1.2.2.2.2.2.2.1, by omega, by rw [hC1.2.2.2.2.2.2.2.1]; omega, O.1⟩, ?_⟩
  have d1 : ∀ b : Int, b ≠ 24 → (vsv W1 24 (c : Int) A).1 b = W1.1 b := fun b hb => vcl_sv hb
  have hC2 : CX (vsv W1 24 (c : Int) A) (fun j => if j = c then A else z j) := by
    obtain ⟨h1, h2, h3, h4, h5, h6, h7, h8, h9⟩ := hC1
    refine ⟨vkd_sv.trans h1, (vct_svo (fun x => absurd x.1 (by decide))).trans h2, (vct_svo (fun x => absurd x.1 (by decide))).trans h3, (vct_svo (fun x => absurd x.1 (by decide))).trans h4, vkd_sv.trans h5, (vct_svo (fun x => absurd x.1 (by decide))).trans h6, vkd_sv.trans h7, vln_sv.trans h8, fun j hj => ?_⟩
    rw [vct_sv]
    by_cases e : j = c
    · subst e; rw [if_pos ⟨rfl, rfl⟩]; exact (if_pos rfl).symm
    · rw [if_neg (fun x => e (Int.ofNat.inj x.2)), h9 j hj]; exact (if_neg e).symm
  have cell : ∀ b : Int, A ≤ b → (vsv W1 24 (c : Int) A).1 b = W1.1 b := fun b hb => d1 b (by omega)
  have hR2 : R1 (vsv W1 24 (c : Int) A) := by
    have e1 : (vsv W1 24 (c : Int) A).1 1 = W.1 1 := (d1 1 (by decide)).trans (c1 1 (by omega))
    have e4 : (vsv W1 24 (c : Int) A).1 4 = W.1 4 := (d1 4 (by decide)).trans (c1 4 (by omega))
    exact ⟨(vkd_cl e1).trans hR.1, (congrFun (vct_cl e1) _).trans hR.2.1, (congrFun (vct_cl e1) _).trans hR.2.2.1, (congrFun (vct_cl e1) _).trans hR.2.2.2.1, (vkd_cl e4).trans hR.2.2.2.2.1, (vln_cl e4).trans hR.2.2.2.2.2⟩
  have k2 : ∀ b : Int, A ≤ b → vkd (vsv W1 24 (c : Int) A) b = vkd W1 b := fun b _ => vkd_sv
  have l2 : ∀ b : Int, A ≤ b → vln (vsv W1 24 (c : Int) A) b = vln W1 b := fun b _ => vln_sv
  have t2 : ∀ b : Int, A ≤ b → vct (vsv W1 24 (c : Int) A) b = vct W1 b := fun b hb => vct_svw (by omega)
  have ka : ∀ {b : Int} {q : vC}, W1.1 b = q → vkd W1 b = q.1 := fun h => congrArg (fun x : vC => x.1) h
  have la : ∀ {b : Int} {q : vC}, W1.1 b = q → vln W1 b = q.2.1 := fun h => congrArg (fun x : vC => x.2.1) h
  have fv : ∀ b : Int, b < A → b ≠ 24 → (vsv W1 24 (c : Int) A).1 b = W.1 b := fun b h1 h2 => (d1 b h2).trans (c1 b h1)
  have hvv : vnt (vsv W1 24 (c : Int) A) = A + 5 := hv1
  have hee : vec (vsv W1 24 (c : Int) A) = vec W + 5 := he1
  have hss : ves (vsv W1 24 (c : Int) A) = ves W + 20505 := hs1
  have A0 : vkd (vsv W1 24 (c : Int) A) A = 13 := (k2 A (by omega)).trans O.1
  have q0 : ∀ j, vct (vsv W1 24 (c : Int) A) A j = vct W1 A j := fun j => by rw [t2 A (by omega)]
  have K1 := (k2 (A + 1) (by omega)).trans (ka f0)
  have L1 := (l2 (A + 1) (by omega)).trans (la f0)
  have K2 := (k2 (A + 2) (by omega)).trans (ka f1)
  have L2 := (l2 (A + 2) (by omega)).trans (la f1)
  have K3 := (k2 (A + 3) (by omega)).trans (ka f2)
  have L3 := (l2 (A + 3) (by omega)).trans (la f2)
  have K4 := (k2 (A + 4) (by omega)).trans (ka f3)
  have L4 := (l2 (A + 4) (by omega)).trans (la f3)
  generalize vsv W1 24 (c : Int) A = W2 at hC2 hR2 fv hvv hee hss A0 q0 K1 L1 K2 L2 K3 L3 K4 L4 ⊢
  have e1 : vct W2 24 (c : Int) = A := (hC2.2.2.2.2.2.2.2.2 c hc).trans (if_pos rfl)
  refine b53_42.mpr ?_
  rw [hC2.2.2.2.1, hC2.2.2.1, hC2.2.1, hC2.2.2.2.2.2.1, e1]
  refine ⟨hC2.1, ⟨hC2.2.2.2.2.2.2.1, by omega, by rw [hC2.2.2.2.2.2.2.2.1]; omega⟩, hC2.1, hC2.1, hC2.2.2.2.2.1, A0, e179.mpr (b179_0.mpr ⟨A0, hR2.1, fun h => absurd h (by rw [q0, o6, hR2.2.2.1]; decide), fun _ => b179_19.mpr ⟨hR2.1, A0, b179_27.mpr ⟨vkd_sv.trans A0, b179_32.mpr ⟨vkd_sv.trans (vkd_sv.trans A0), b179_37.mpr ⟨vkd_sv.trans (vkd_sv.trans (vkd_sv.trans A0)), ?_⟩⟩⟩⟩⟩)⟩
  rw [hR2.2.2.1, vct_svi, show w32 (-1 + 1) = 0 from by decide]
  have f4 : fa A W2 (vsv (vsv (vsv W2 A 6 0) A 5 3) A 7 (-1)) := ((fa.rf.sv (by omega)).sv (by omega)).sv (by omega)
  have qo : ∀ j, j ≠ 5 → j ≠ 6 → j ≠ 7 → vct (vsv (vsv (vsv W2 A 6 0) A 5 3) A 7 (-1)) A j = vct W1 A j := fun j h5 h6 h7 => by
    rw [vct_svo (fun x => h7 x.2), vct_svo (fun x => h5 x.2), vct_svo (fun x => h6 x.2)]
    exact q0 j
  have kk : ∀ b, vkd (vsv (vsv (vsv W2 A 6 0) A 5 3) A 7 (-1)) b = vkd W2 b := fun b => by rw [vkd_sv, vkd_sv, vkd_sv]
  have ll : ∀ b, vln (vsv (vsv (vsv W2 A 6 0) A 5 3) A 7 (-1)) b = vln W2 b := fun b => by rw [vln_sv, vln_sv, vln_sv]
  have F3 : FN (vsv (vsv (vsv W2 A 6 0) A 5 3) A 7 (-1)) A (c : Int) (((0 : Nat) : Int) - 1) := by
    refine ⟨(kk A).trans A0, (qo 0 (by decide) (by decide) (by decide)).trans o0, (qo 1 (by decide) (by decide) (by decide)).trans o1, (qo 2 (by decide) (by decide) (by decide)).trans o2, (qo 3 (by decide) (by decide) (by decide)).trans o3, (qo 4 (by decide) (by decide) (by decide)).trans o4, ?_, ?_, vct_svi, (kk _).trans K1, (ll _).trans L1, (kk _).trans K2, (ll _).trans L2, (kk _).trans K3, (ll _).trans L3, (kk _).trans K4, (ll _).trans L4⟩
    · rw [vct_svo (fun x => absurd x.2 (by decide))]; exact vct_svi
    · rw [vct_svo (fun x => absurd x.2 (by decide)), vct_svo (fun x => absurd x.2 (by decide))]; exact vct_svi
  have D3 : FD (vsv (vsv (vsv W2 A 6 0) A 5 3) A 7 (-1)) A 0 0 := ⟨fun m hm => absurd hm (by omega), fun q hq => absurd hq (by omega)⟩
  refine upto_out (W := vsv (vsv (vsv W2 A 6 0) A 5 3) A 7 (-1)) hA hn (fun W' F' D' f' => b53_63.mpr ?_) (n + 1) 0 (by omega) (9, 0) (9, 0) _ F3 D3 (hR2.fa hA f4) fa.rf
  have hC' := (hC2.fa hA f4).fa hA f'
  have e1' : vct W' 24 (c : Int) = A := (hC'.2.2.2.2.2.2.2.2 c hc).trans (if_pos rfl)
  rw [hC'.2.2.2.1, e1']
  have ff := f4.tr f'
  have g2 : W'.2 = W2.2 := ff.1
  refine ⟨hC'.1, ⟨hC'.2.2.2.2.2.2.1, by omega, by rw [hC'.2.2.2.2.2.2.2.1]; omega⟩, hq W' F' D' ((hR2.fa hA f4).fa hA f') hC' (fun b h1 h2 => (ff.2 b (by omega)).trans (fv b h1 h2)) ?_ ?_ ?_⟩
  · exact (congrArg (fun x : Int × Nat × Nat => x.1) g2).trans hvv
  · exact (congrArg (fun x : Int × Nat × Nat => x.2.1) g2).trans hee
  · exact (congrArg (fun x : Int × Nat × Nat => x.2.2) g2).trans hss
end FOG
