section STEP
variable {p : Program} {l : Launch} {e : Env} {R : Room} {s : State} {m : MethodId} {args : Array Value} {below : List Frame} {meth : Method} {c : Code} {H : Heap} {locs : List Loc} {cells slots : Nat} {Q : State → Prop}
variable {n d M : Nat} {res : Nat × Int × vW} {b nX : Nat} {xs : Nat → Int32} {dC : Nat → ClassId} {dI : Nat → Nat → Nat} {A : Nat → Prop} {c0 s0 : Nat} {rw0 rw : va_W} {tys : List (ClassId × FieldType)}
variable {pc nx q : Nat} {Ls St : List vV} {w : vW} {ls : Array Slot} {st : List Value}
set_option maxHeartbeats 4000000 in
theorem z_step {op pp : Nat} {z : Int} {i : Instr} {ln : Nat} (C : ckO M pc op nx pp q z i ln = true) (hd : decode (mB M) pc = .ok (i, ln)) (hnX : nX < 2 ^ 31) (IHm : ∀ pp : Nat, pp < 297 → ∀ (d1 : Nat) (av : List vV) (w : vW) (r : Int) (w1 : vW), vrun n d1 pp 0 (vent (vnl pp) av) [] w = some (0, r, w1) → zMet l b nX xs dC dI pp d1 av w r w1)
    (hLw : M = 299 → ∀ (pc idx pp q : Nat) (z : Int) (Ls St : List vV) (w : vW) (ls : Array Slot) (st : List Value) (H : Heap) (locs : List Loc) (cells slots : Nat) (rw : va_W) (tys : List (ClassId × FieldType)) (n : Nat), 297 ≤ pp → pg M pc = (40, pc + 3, pp, q, z) → decode (mB M) pc = .ok (.invokestatic idx, 3) → vcl (vrun n) d M (pc + 3) pp q z Ls St w = some res → zL b (vnl M) rw Ls ls → zS b rw St st → zQ b nX xs dC dI A c0 s0 rw0 s w H locs cells slots rw tys → zKn n d M res b nX xs dC dI A c0 s0 rw0 p l e R s m args below meth c Q → W p l e R s m args below meth c H locs cells slots Q (F0 m pc ls st))
    (hpg : pg M pc = (op, nx, pp, q, z)) (hTh : zTh b nX xs dC dI A c0 s0 rw0 p l e R s m args below meth c Q M res) (En : res.1 = 0 → zEn b nX xs dC dI A c0 s0 rw0 p l e R s m args below meth c Q M res.2.1 res.2.2) (F : zF b nX xs A M p s m args meth c) (Kn : zKn n d M res b nX xs dC dI A c0 s0 rw0 p l e R s m args below meth c Q) (hL : zL b (vnl M) rw Ls ls) (hS : zS b rw St st) (hQ : zQ b nX xs dC dI A c0 s0 rw0 s w H locs cells slots rw tys) (hrc : vec res.2.2 ≤ R.cells + c0) (hrs : ves res.2.2 ≤ R.slots + s0) (hfr : d + 6 ≤ R.frames) (hlo : 80 * d + 80 ≤ R.locals)
    (h : (bif Nat.beq op 40 then vcl (vrun n) d M nx pp q z Ls St w else bif Nat.beq op 41 then vrt pp St w else bif Nat.beq op 46 then vclx (vrun n) d M nx pp q z Ls St w else bif Nat.beq op 50 then vth St w else vgo (vrun n d M) op nx pp q z Ls St w) = some res) : W p l e R s m args below meth c H locs cells slots Q (F0 m pc ls st) := by
  cases i
  case iadd =>
    simp only [ckO, Bool.and_eq_true] at C
    obtain ⟨C1, C2⟩ := C
    obtain ⟨rfl, rfl, rfl⟩ := ckl_inv C1
    obtain rfl := Nat.eq_of_beq_eq_true C2
    exact z_ii a_add Kn hL hS hQ (show v2 0 0 St (fun x y r => vrun n d M (pc + 1) Ls ((0, w32 (x + y)) :: r) w) = some res from h) (fun x y rest k => lv_iadd F.1 F.2.1 hd k)
  case isub =>
    simp only [ckO, Bool.and_eq_true] at C
    obtain ⟨C1, C2⟩ := C
    obtain ⟨rfl, rfl, rfl⟩ := ckl_inv C1
    obtain rfl := Nat.eq_of_beq_eq_true C2
    exact z_ii a_sub Kn hL hS hQ (show v2 0 0 St (fun x y r => vrun n d M (pc + 1) Ls ((0, w32 (x - y)) :: r) w) = some res from h) (fun x y rest k => lv_isub F.1 F.2.1 hd k)
  case imul =>
    simp only [ckO, Bool.and_eq_true] at C
    obtain ⟨C1, C2⟩ := C
    obtain ⟨rfl, rfl, rfl⟩ := ckl_inv C1
    obtain rfl := Nat.eq_of_beq_eq_true C2
    exact z_ii a_mul Kn hL hS hQ (show v2 0 0 St (fun x y r => vrun n d M (pc + 1) Ls ((0, w32 (x * y)) :: r) w) = some res from h) (fun x y rest k => lv_imul F.1 F.2.1 hd k)
  case iand =>
    simp only [ckO, Bool.and_eq_true] at C
    obtain ⟨C1, C2⟩ := C
    obtain ⟨rfl, rfl, rfl⟩ := ckl_inv C1
    obtain rfl := Nat.eq_of_beq_eq_true C2
    exact z_ii a_and Kn hL hS hQ (show v2 0 0 St (fun x y r => vrun n d M (pc + 1) Ls ((0, i_and x y) :: r) w) = some res from h) (fun x y rest k => lv_iand F.1 F.2.1 hd k)
  case ior =>
    simp only [ckO, Bool.and_eq_true] at C
    obtain ⟨C1, C2⟩ := C
    obtain ⟨rfl, rfl, rfl⟩ := ckl_inv C1
    obtain rfl := Nat.eq_of_beq_eq_true C2
    exact z_ii a_or Kn hL hS hQ (show v2 0 0 St (fun x y r => vrun n d M (pc + 1) Ls ((0, i_or x y) :: r) w) = some res from h) (fun x y rest k => lv_ior F.1 F.2.1 hd k)
  case ixor =>
    simp only [ckO, Bool.and_eq_true] at C
    obtain ⟨C1, C2⟩ := C
    obtain ⟨rfl, rfl, rfl⟩ := ckl_inv C1
    obtain rfl := Nat.eq_of_beq_eq_true C2
    exact z_ii a_xor Kn hL hS hQ (show v2 0 0 St (fun x y r => vrun n d M (pc + 1) Ls ((0, i_xor x y) :: r) w) = some res from h) (fun x y rest k => lv_ixor F.1 F.2.1 hd k)
  case ishl =>
    simp only [ckO, Bool.and_eq_true] at C
    obtain ⟨C1, C2⟩ := C
    obtain ⟨rfl, rfl, rfl⟩ := ckl_inv C1
    obtain rfl := Nat.eq_of_beq_eq_true C2
    exact z_ii a_shl Kn hL hS hQ (show v2 0 0 St (fun x y r => vrun n d M (pc + 1) Ls ((0, i_shl x y) :: r) w) = some res from h) (fun x y rest k => lv_ishl F.1 F.2.1 hd k)
  case ishr =>
    simp only [ckO, Bool.and_eq_true] at C
    obtain ⟨C1, C2⟩ := C
    obtain ⟨rfl, rfl, rfl⟩ := ckl_inv C1
    obtain rfl := Nat.eq_of_beq_eq_true C2
    exact z_ii a_shr Kn hL hS hQ (show v2 0 0 St (fun x y r => vrun n d M (pc + 1) Ls ((0, i_shr x y) :: r) w) = some res from h) (fun x y rest k => lv_ishr F.1 F.2.1 hd k)
  case iushr =>
    simp only [ckO, Bool.and_eq_true] at C
    obtain ⟨C1, C2⟩ := C
    obtain ⟨rfl, rfl, rfl⟩ := ckl_inv C1
    obtain rfl := Nat.eq_of_beq_eq_true C2
    exact z_ii a_ushr Kn hL hS hQ (show v2 0 0 St (fun x y r => vrun n d M (pc + 1) Ls ((0, i_ushr x y) :: r) w) = some res from h) (fun x y rest k => lv_iushr F.1 F.2.1 hd rfl k)
  case ladd =>
    simp only [ckO, Bool.and_eq_true] at C
    obtain ⟨C1, C2⟩ := C
    obtain ⟨rfl, rfl, rfl⟩ := ckl_inv C1
    obtain rfl := Nat.eq_of_beq_eq_true C2
    exact z_ll b_add Kn hL hS hQ (show v2 1 1 St (fun x y r => vrun n d M (pc + 1) Ls ((1, w64 (x + y)) :: r) w) = some res from h) (fun x y rest k => lv_ladd F.1 F.2.1 hd k)
  case lsub =>
    simp only [ckO, Bool.and_eq_true] at C
    obtain ⟨C1, C2⟩ := C
    obtain ⟨rfl, rfl, rfl⟩ := ckl_inv C1
    obtain rfl := Nat.eq_of_beq_eq_true C2
    exact z_ll b_sub Kn hL hS hQ (show v2 1 1 St (fun x y r => vrun n d M (pc + 1) Ls ((1, w64 (x - y)) :: r) w) = some res from h) (fun x y rest k => lv_lsub F.1 F.2.1 hd k)
  case lmul =>
    simp only [ckO, Bool.and_eq_true] at C
    obtain ⟨C1, C2⟩ := C
    obtain ⟨rfl, rfl, rfl⟩ := ckl_inv C1
    obtain rfl := Nat.eq_of_beq_eq_true C2
    exact z_ll b_mul Kn hL hS hQ (show v2 1 1 St (fun x y r => vrun n d M (pc + 1) Ls ((1, w64 (x * y)) :: r) w) = some res from h) (fun x y rest k => lv_lmul F.1 F.2.1 hd k)
  case land =>
    simp only [ckO, Bool.and_eq_true] at C
    obtain ⟨C1, C2⟩ := C
    obtain ⟨rfl, rfl, rfl⟩ := ckl_inv C1
    obtain rfl := Nat.eq_of_beq_eq_true C2
    exact z_ll b_and Kn hL hS hQ (show v2 1 1 St (fun x y r => vrun n d M (pc + 1) Ls ((1, l_and x y) :: r) w) = some res from h) (fun x y rest k => lv_land F.1 F.2.1 hd k)
  case lor =>
    simp only [ckO, Bool.and_eq_true] at C
    obtain ⟨C1, C2⟩ := C
    obtain ⟨rfl, rfl, rfl⟩ := ckl_inv C1
    obtain rfl := Nat.eq_of_beq_eq_true C2
    exact z_ll b_or Kn hL hS hQ (show v2 1 1 St (fun x y r => vrun n d M (pc + 1) Ls ((1, l_or x y) :: r) w) = some res from h) (fun x y rest k => lv_lor F.1 F.2.1 hd k)
  case lxor =>
    simp only [ckO, Bool.and_eq_true] at C
    obtain ⟨C1, C2⟩ := C
    obtain ⟨rfl, rfl, rfl⟩ := ckl_inv C1
    obtain rfl := Nat.eq_of_beq_eq_true C2
    exact z_ll b_xor Kn hL hS hQ (show v2 1 1 St (fun x y r => vrun n d M (pc + 1) Ls ((1, l_xor x y) :: r) w) = some res from h) (fun x y rest k => lv_lxor F.1 F.2.1 hd k)
  case lshl =>
    simp only [ckO, Bool.and_eq_true] at C
    obtain ⟨C1, C2⟩ := C
    obtain ⟨rfl, rfl, rfl⟩ := ckl_inv C1
    obtain rfl := Nat.eq_of_beq_eq_true C2
    exact z_li b_shl Kn hL hS hQ (show v2 1 0 St (fun x y r => vrun n d M (pc + 1) Ls ((1, l_shl x y) :: r) w) = some res from h) (fun x y rest k => lv_lshl F.1 F.2.1 hd rfl k)
  case lushr =>
    simp only [ckO, Bool.and_eq_true] at C
    obtain ⟨C1, C2⟩ := C
    obtain ⟨rfl, rfl, rfl⟩ := ckl_inv C1
    obtain rfl := Nat.eq_of_beq_eq_true C2
    exact z_li b_ushr Kn hL hS hQ (show v2 1 0 St (fun x y r => vrun n d M (pc + 1) Ls ((1, l_ushr x y) :: r) w) = some res from h) (fun x y rest k => lv_lushr F.1 F.2.1 hd rfl k)
  case ineg =>
    simp only [ckO, Bool.and_eq_true] at C
    obtain ⟨C1, C2⟩ := C
    obtain ⟨rfl, rfl, rfl⟩ := ckl_inv C1
    obtain rfl := Nat.eq_of_beq_eq_true C2
    exact z_i a_neg Kn hL hS hQ (show v1 0 St (fun x r => vrun n d M (pc + 1) Ls ((0, w32 (-x)) :: r) w) = some res from h) (fun x rest k => lv_ineg F.1 F.2.1 hd k)
  case i2l =>
    simp only [ckO, Bool.and_eq_true] at C
    obtain ⟨C1, C2⟩ := C
    obtain ⟨rfl, rfl, rfl⟩ := ckl_inv C1
    obtain rfl := Nat.eq_of_beq_eq_true C2
    exact z_i2l (f := fun x => x) a_l Kn hL hS hQ (show v1 0 St (fun x r => vrun n d M (pc + 1) Ls ((1, x) :: r) w) = some res from h) (fun x rest k => lv_i2l F.1 F.2.1 hd rfl k)
  case l2i =>
    simp only [ckO, Bool.and_eq_true] at C
    obtain ⟨C1, C2⟩ := C
    obtain ⟨rfl, rfl, rfl⟩ := ckl_inv C1
    obtain rfl := Nat.eq_of_beq_eq_true C2
    exact z_l2i b_i Kn hL hS hQ (show v1 1 St (fun x r => vrun n d M (pc + 1) Ls ((0, w32 x) :: r) w) = some res from h) (fun x rest k => lv_l2i F.1 F.2.1 hd rfl k)
  case i2b =>
    simp only [ckO, Bool.and_eq_true] at C
    obtain ⟨C1, C2⟩ := C
    obtain ⟨rfl, rfl, rfl⟩ := ckl_inv C1
    obtain rfl := Nat.eq_of_beq_eq_true C2
    exact z_i a_b Kn hL hS hQ (show v1 0 St (fun x r => vrun n d M (pc + 1) Ls ((0, i_b x) :: r) w) = some res from h) (fun x rest k => lv_i2b F.1 F.2.1 hd rfl k)
  case i2s =>
    simp only [ckO, Bool.and_eq_true] at C
    obtain ⟨C1, C2⟩ := C
    obtain ⟨rfl, rfl, rfl⟩ := ckl_inv C1
    obtain rfl := Nat.eq_of_beq_eq_true C2
    exact z_i a_s Kn hL hS hQ (show v1 0 St (fun x r => vrun n d M (pc + 1) Ls ((0, i_s x) :: r) w) = some res from h) (fun x rest k => lv_i2s F.1 F.2.1 hd rfl k)
  case lcmp =>
    obtain ⟨rfl, rfl, rfl⟩ := ckl_inv (show ckl op 9 nx pc ln 1 = true from C)
    exact z_lcmp b_cmp Kn hL hS hQ (show v2 1 1 St (fun x y r => vrun n d M (pc + 1) Ls ((0, vlc x y) :: r) w) = some res from h) (fun x y rest k => W.lcmp F.1 F.2.1 hd k)
  case aconst_null =>
    simp only [ckO, Bool.and_eq_true] at C
    obtain ⟨⟨C1, C2⟩, C3⟩ := C
    obtain ⟨rfl, rfl, rfl⟩ := ckl_inv C1
    obtain rfl := Nat.eq_of_beq_eq_true C2
    simp only [decide_eq_true_eq] at C3
    exact z_push (zV.ofr (Or.inl ⟨C3, rfl⟩)) Kn hL hS hQ (show vrun n d M (pc + 1) Ls ((2, z) :: St) w = some res from h) (fun k => lv_null F.1 F.2.1 hd k)
  case iconst v =>
    simp only [ckO, Bool.and_eq_true] at C
    obtain ⟨⟨C1, C2⟩, C3⟩ := C
    obtain ⟨rfl, rfl, rfl⟩ := ckl_inv C1
    obtain rfl := Nat.eq_of_beq_eq_true C2
    simp only [decide_eq_true_eq] at C3
    exact z_push (zV.ofi' C3) Kn hL hS hQ (show vrun n d M (pc + 1) Ls ((0, z) :: St) w = some res from h) (fun k => lv_iconst F.1 F.2.1 hd rfl k)
  case bipush v =>
    simp only [ckO, Bool.and_eq_true] at C
    obtain ⟨⟨C1, C2⟩, C3⟩ := C
    obtain ⟨rfl, rfl, rfl⟩ := ckl_inv C1
    obtain rfl := Nat.eq_of_beq_eq_true C2
    simp only [decide_eq_true_eq] at C3
    exact z_push (zV.ofi' C3) Kn hL hS hQ (show vrun n d M (pc + 2) Ls ((0, z) :: St) w = some res from h) (fun k => lv_bipush F.1 F.2.1 hd rfl k)
  case sipush v =>
    simp only [ckO, Bool.and_eq_true] at C
    obtain ⟨⟨C1, C2⟩, C3⟩ := C
    obtain ⟨rfl, rfl, rfl⟩ := ckl_inv C1
    obtain rfl := Nat.eq_of_beq_eq_true C2
    simp only [decide_eq_true_eq] at C3
    exact z_push (zV.ofi' C3) Kn hL hS hQ (show vrun n d M (pc + 3) Ls ((0, z) :: St) w = some res from h) (fun k => lv_sipush F.1 F.2.1 hd rfl k)
  case lconst v =>
    simp only [ckO, Bool.and_eq_true] at C
    obtain ⟨⟨C1, C2⟩, C3⟩ := C
    obtain ⟨rfl, rfl, rfl⟩ := ckl_inv C1
    obtain rfl := Nat.eq_of_beq_eq_true C2
    simp only [decide_eq_true_eq] at C3
    exact z_push (zV.ofl' C3) Kn hL hS hQ (show vrun n d M (pc + 1) Ls ((1, z) :: St) w = some res from h) (fun k => lv_lconst F.1 F.2.1 hd rfl k)
  case ldc idx =>
    simp only [ckO, Bool.and_eq_true] at C
    obtain ⟨⟨⟨C1, C2⟩, C3⟩, C4⟩ := C
    obtain ⟨rfl, rfl, rfl⟩ := ckl_inv C1
    obtain rfl := Nat.eq_of_beq_eq_true C2
    simp only [decide_eq_true_eq] at C4
    exact z_push (zV.ofi' C4) Kn hL hS hQ (show vrun n d M (pc + 2) Ls ((0, z) :: St) w = some res from h) (fun k => lv_ldc F.1 F.2.1 F.2.2.2.1 (F.2.2.2.2.1 _ (wd_inv C3).1 (wd_inv C3).2) hd k)
  case ldc_w idx =>
    simp only [ckO, Bool.and_eq_true] at C
    obtain ⟨⟨⟨C1, C2⟩, C3⟩, C4⟩ := C
    obtain ⟨rfl, rfl, rfl⟩ := ckl_inv C1
    obtain rfl := Nat.eq_of_beq_eq_true C2
    simp only [decide_eq_true_eq] at C4
    exact z_push (zV.ofi' C4) Kn hL hS hQ (show vrun n d M (pc + 3) Ls ((0, z) :: St) w = some res from h) (fun k => lv_ldcw F.1 F.2.1 F.2.2.2.1 (F.2.2.2.2.1 _ (wd_inv C3).1 (wd_inv C3).2) hd k)
  case ldc2_w idx =>
    simp only [ckO, Bool.and_eq_true] at C
    obtain ⟨⟨⟨C1, C2⟩, C3⟩, C4⟩ := C
    obtain ⟨rfl, rfl, rfl⟩ := ckl_inv C1
    obtain rfl := Nat.eq_of_beq_eq_true C2
    simp only [decide_eq_true_eq] at C4
    exact z_push (zV.ofl' C4) Kn hL hS hQ (show vrun n d M (pc + 3) Ls ((1, z) :: St) w = some res from h) (fun k => lv_ldc2 F.1 F.2.1 F.2.2.2.1 (F.2.2.2.2.1 _ (wd_inv C3).1 (wd_inv C3).2) hd k)
  case iload k =>
    simp only [ckO, Bool.and_eq_true] at C
    obtain ⟨⟨C1, C2⟩, C3⟩ := C
    obtain ⟨rfl, rfl, rfl⟩ := ckl_inv C1
    obtain rfl := Nat.eq_of_beq_eq_true C2
    obtain rfl := Nat.eq_of_beq_eq_true C3
    refine z_load (t := 0) (by decide) Kn hL hS hQ h (fun x hx hv k => ?_)
    obtain ⟨i, rfl, -⟩ := hv.int
    exact lv_iload F.1 F.2.1 hd hx k
  case iload_n k =>
    simp only [ckO, Bool.and_eq_true] at C
    obtain ⟨⟨C1, C2⟩, C3⟩ := C
    obtain ⟨rfl, rfl, rfl⟩ := ckl_inv C1
    obtain rfl := Nat.eq_of_beq_eq_true C2
    obtain rfl := Nat.eq_of_beq_eq_true C3
    refine z_load (t := 0) (by decide) Kn hL hS hQ h (fun x hx hv k => ?_)
    obtain ⟨i, rfl, -⟩ := hv.int
    exact lv_iload_n F.1 F.2.1 hd rfl hx k
  case lload k =>
    simp only [ckO, Bool.and_eq_true] at C
    obtain ⟨⟨C1, C2⟩, C3⟩ := C
    obtain ⟨rfl, rfl, rfl⟩ := ckl_inv C1
    obtain rfl := Nat.eq_of_beq_eq_true C2
    obtain rfl := Nat.eq_of_beq_eq_true C3
    refine z_load (t := 1) (by decide) Kn hL hS hQ h (fun x hx hv k => ?_)
    obtain ⟨i, rfl, -⟩ := hv.long
    exact lv_lload F.1 F.2.1 hd hx k
  case lload_n k =>
    simp only [ckO, Bool.and_eq_true] at C
    obtain ⟨⟨C1, C2⟩, C3⟩ := C
    obtain ⟨rfl, rfl, rfl⟩ := ckl_inv C1
    obtain rfl := Nat.eq_of_beq_eq_true C2
    obtain rfl := Nat.eq_of_beq_eq_true C3
    refine z_load (t := 1) (by decide) Kn hL hS hQ h (fun x hx hv k => ?_)
    obtain ⟨i, rfl, -⟩ := hv.long
    exact lv_lload_n F.1 F.2.1 hd rfl hx k
  case aload k =>
    simp only [ckO, Bool.and_eq_true] at C
    obtain ⟨⟨C1, C2⟩, C3⟩ := C
    obtain ⟨rfl, rfl, rfl⟩ := ckl_inv C1
    obtain rfl := Nat.eq_of_beq_eq_true C2
    obtain rfl := Nat.eq_of_beq_eq_true C3
    refine z_load (t := 2) (by decide) Kn hL hS hQ h (fun x hx hv k => ?_)
    rcases hv.rf with ⟨-, rfl⟩ | ⟨-, rfl⟩ | ⟨j, q', -, -, rfl⟩
    · exact lv_aloadN F.1 F.2.1 hd hx k
    · exact lv_aload F.1 F.2.1 hd hx k
    · exact lv_aload F.1 F.2.1 hd hx k
  case aload_n k =>
    simp only [ckO, Bool.and_eq_true] at C
    obtain ⟨⟨C1, C2⟩, C3⟩ := C
    obtain ⟨rfl, rfl, rfl⟩ := ckl_inv C1
    obtain rfl := Nat.eq_of_beq_eq_true C2
    obtain rfl := Nat.eq_of_beq_eq_true C3
    refine z_load (t := 2) (by decide) Kn hL hS hQ h (fun x hx hv k => ?_)
    rcases hv.rf with ⟨-, rfl⟩ | ⟨-, rfl⟩ | ⟨j, q', -, -, rfl⟩
    · exact lv_aload_nN F.1 F.2.1 hd rfl hx k
    · exact lv_aload_n F.1 F.2.1 hd rfl hx k
    · exact lv_aload_n F.1 F.2.1 hd rfl hx k
  case istore k =>
    simp only [ckO, Bool.and_eq_true] at C
    obtain ⟨⟨⟨C1, C2⟩, C3⟩, C4⟩ := C
    obtain ⟨rfl, rfl, rfl⟩ := ckl_inv C1
    obtain rfl := Nat.eq_of_beq_eq_true C2
    obtain rfl := Nat.eq_of_beq_eq_true C3
    obtain ⟨c1, c2, c3, c4⟩ := ckst_inv C4
    obtain ⟨y, r, rfl, h⟩ := v1_inv (show v1 0 St (fun x r => vsto Ls 0 _ z x (fun l => vrun n d M _ l r w)) = some res from h)
    obtain ⟨x, st, rfl, hx, hS1⟩ := hS.cons
    obtain ⟨i, rfl, rfl⟩ := hx.int
    exact z_sto (Or.inl rfl) c1 c2 c4 hx Kn hL hS1 hQ h (fun k => lv_istore F.1 F.2.1 hd (zlv_has hL.1 hL.2.1) c2 rfl k)
  case lstore k =>
    simp only [ckO, Bool.and_eq_true] at C
    obtain ⟨⟨⟨C1, C2⟩, C3⟩, C4⟩ := C
    obtain ⟨rfl, rfl, rfl⟩ := ckl_inv C1
    obtain rfl := Nat.eq_of_beq_eq_true C2
    obtain rfl := Nat.eq_of_beq_eq_true C3
    obtain ⟨c1, c2, c3, c4⟩ := ckst_inv C4
    obtain ⟨y, r, rfl, h⟩ := v1_inv (show v1 1 St (fun x r => vsto Ls 1 _ z x (fun l => vrun n d M _ l r w)) = some res from h)
    obtain ⟨x, st, rfl, hx, hS1⟩ := hS.cons
    obtain ⟨i, rfl, rfl⟩ := hx.long
    exact z_stol (c3 rfl) c4 hx Kn hL hS1 hQ h (fun k => lv_lstore F.1 F.2.1 hd (zlv_has hL.1 hL.2.1) (c3 rfl) rfl k)
  case astore k =>
    simp only [ckO, Bool.and_eq_true, Bool.or_eq_true] at C
    obtain ⟨⟨⟨C1, C2⟩, C3⟩, C4⟩ := C
    obtain ⟨rfl, rfl, rfl⟩ := ckl_inv C1
    obtain rfl := Nat.eq_of_beq_eq_true C3
    obtain ⟨c1, c2, c3, c4⟩ := ckst_inv C4
    rcases C2 with C2 | C2
    · obtain rfl := Nat.eq_of_beq_eq_true C2
      obtain ⟨y, r, rfl, h⟩ := v1_inv (show v1 2 St (fun x r => vsto Ls 2 _ z x (fun l => vrun n d M _ l r w)) = some res from h)
      obtain ⟨x, st, rfl, hx, hS1⟩ := hS.cons
      have hx2 := hx.rf
      rcases hx2 with ⟨-, rfl⟩ | ⟨-, rfl⟩ | ⟨j, q', -, -, rfl⟩
      · exact z_sto (Or.inr (Or.inl rfl)) c1 c2 c4 hx Kn hL hS1 hQ h (fun k => lv_astoreN F.1 F.2.1 hd (zlv_has hL.1 hL.2.1) c2 rfl k)
      · exact z_sto (Or.inr (Or.inl rfl)) c1 c2 c4 hx Kn hL hS1 hQ h (fun k => lv_astore F.1 F.2.1 hd (zlv_has hL.1 hL.2.1) c2 rfl k)
      · exact z_sto (Or.inr (Or.inl rfl)) c1 c2 c4 hx Kn hL hS1 hQ h (fun k => lv_astore F.1 F.2.1 hd (zlv_has hL.1 hL.2.1) c2 rfl k)
    · obtain rfl := Nat.eq_of_beq_eq_true C2
      obtain ⟨y, r, rfl, h⟩ := v1_inv (show v1 5 St (fun x r => vsto Ls 5 _ z x (fun l => vrun n d M _ l r w)) = some res from h)
      obtain ⟨x, st, rfl, hx, hS1⟩ := hS.cons
      obtain ⟨ax, rfl⟩ : ∃ ax : Nat, x = .ref ax := by rcases hx with ⟨h, -⟩ | ⟨h, -⟩ | ⟨h, -⟩ | ⟨-, h⟩ <;> first | exact h | exact absurd h (show ¬ ((5 : Nat) = _) by decide)
      exact z_sto (Or.inr (Or.inr rfl)) c1 c2 c4 hx Kn hL hS1 hQ h (fun k => lv_astore F.1 F.2.1 hd (zlv_has hL.1 hL.2.1) c2 rfl k)
  case istore_n k =>
    simp only [ckO, Bool.and_eq_true] at C
    obtain ⟨⟨⟨C1, C2⟩, C3⟩, C4⟩ := C
    obtain ⟨rfl, rfl, rfl⟩ := ckl_inv C1
    obtain rfl := Nat.eq_of_beq_eq_true C2
    obtain rfl := Nat.eq_of_beq_eq_true C3
    obtain ⟨c1, c2, c3, c4⟩ := ckst_inv C4
    obtain ⟨y, r, rfl, h⟩ := v1_inv (show v1 0 St (fun x r => vsto Ls 0 _ z x (fun l => vrun n d M _ l r w)) = some res from h)
    obtain ⟨x, st, rfl, hx, hS1⟩ := hS.cons
    obtain ⟨i, rfl, rfl⟩ := hx.int
    exact z_sto (Or.inl rfl) c1 c2 c4 hx Kn hL hS1 hQ h (fun k => lv_istore_n F.1 F.2.1 hd rfl (zlv_has hL.1 hL.2.1) c2 rfl k)
  case lstore_n k =>
    simp only [ckO, Bool.and_eq_true] at C
    obtain ⟨⟨⟨C1, C2⟩, C3⟩, C4⟩ := C
    obtain ⟨rfl, rfl, rfl⟩ := ckl_inv C1
    obtain rfl := Nat.eq_of_beq_eq_true C2
    obtain rfl := Nat.eq_of_beq_eq_true C3
    obtain ⟨c1, c2, c3, c4⟩ := ckst_inv C4
    obtain ⟨y, r, rfl, h⟩ := v1_inv (show v1 1 St (fun x r => vsto Ls 1 _ z x (fun l => vrun n d M _ l r w)) = some res from h)
    obtain ⟨x, st, rfl, hx, hS1⟩ := hS.cons
    obtain ⟨i, rfl, rfl⟩ := hx.long
    exact z_stol (c3 rfl) c4 hx Kn hL hS1 hQ h (fun k => lv_lstore_n F.1 F.2.1 hd rfl (zlv_has hL.1 hL.2.1) (c3 rfl) rfl k)
  case astore_n k =>
    simp only [ckO, Bool.and_eq_true, Bool.or_eq_true] at C
    obtain ⟨⟨⟨C1, C2⟩, C3⟩, C4⟩ := C
    obtain ⟨rfl, rfl, rfl⟩ := ckl_inv C1
    obtain rfl := Nat.eq_of_beq_eq_true C3
    obtain ⟨c1, c2, c3, c4⟩ := ckst_inv C4
    rcases C2 with C2 | C2
    · obtain rfl := Nat.eq_of_beq_eq_true C2
      obtain ⟨y, r, rfl, h⟩ := v1_inv (show v1 2 St (fun x r => vsto Ls 2 _ z x (fun l => vrun n d M _ l r w)) = some res from h)
      obtain ⟨x, st, rfl, hx, hS1⟩ := hS.cons
      have hx2 := hx.rf
      rcases hx2 with ⟨-, rfl⟩ | ⟨-, rfl⟩ | ⟨j, q', -, -, rfl⟩
      · exact z_sto (Or.inr (Or.inl rfl)) c1 c2 c4 hx Kn hL hS1 hQ h (fun k => lv_astore_nN F.1 F.2.1 hd rfl (zlv_has hL.1 hL.2.1) c2 rfl k)
      · exact z_sto (Or.inr (Or.inl rfl)) c1 c2 c4 hx Kn hL hS1 hQ h (fun k => lv_astore_n F.1 F.2.1 hd rfl (zlv_has hL.1 hL.2.1) c2 rfl k)
      · exact z_sto (Or.inr (Or.inl rfl)) c1 c2 c4 hx Kn hL hS1 hQ h (fun k => lv_astore_n F.1 F.2.1 hd rfl (zlv_has hL.1 hL.2.1) c2 rfl k)
    · obtain rfl := Nat.eq_of_beq_eq_true C2
      obtain ⟨y, r, rfl, h⟩ := v1_inv (show v1 5 St (fun x r => vsto Ls 5 _ z x (fun l => vrun n d M _ l r w)) = some res from h)
      obtain ⟨x, st, rfl, hx, hS1⟩ := hS.cons
      obtain ⟨ax, rfl⟩ : ∃ ax : Nat, x = .ref ax := by rcases hx with ⟨h, -⟩ | ⟨h, -⟩ | ⟨h, -⟩ | ⟨-, h⟩ <;> first | exact h | exact absurd h (show ¬ ((5 : Nat) = _) by decide)
      exact z_sto (Or.inr (Or.inr rfl)) c1 c2 c4 hx Kn hL hS1 hQ h (fun k => lv_astore_n F.1 F.2.1 hd rfl (zlv_has hL.1 hL.2.1) c2 rfl k)
  case iinc k v =>
    simp only [ckO, Bool.and_eq_true] at C
    obtain ⟨⟨⟨C1, C2⟩, C3⟩, C4⟩ := C
    obtain ⟨rfl, rfl, rfl⟩ := ckl_inv C1
    obtain rfl := Nat.eq_of_beq_eq_true C2
    simp only [decide_eq_true_eq] at C3
    exact z_iinc C3 (Nat.le_of_ble_eq_true C4) F Kn hL hS hQ hd h
  case dup =>
    obtain ⟨rfl, rfl, rfl⟩ := ckl_inv (show ckl op 10 nx pc ln 1 = true from C)
    exact z_dup F Kn hL hS hQ hd h
  case pop =>
    obtain ⟨rfl, rfl, rfl⟩ := ckl_inv (show ckl op 11 nx pc ln 1 = true from C)
    exact z_pop F Kn hL hS hQ hd h
  case dup2 =>
    obtain ⟨rfl, rfl, rfl⟩ := ckl_inv (show ckl op 14 nx pc ln 1 = true from C)
    exact z_dup2 F Kn hL hS hQ hd h
  case pop2 =>
    obtain ⟨rfl, rfl, rfl⟩ := ckl_inv (show ckl op 17 nx pc ln 1 = true from C)
    exact z_pop2 F Kn hL hS hQ hd h
  case idiv =>
    simp only [ckO, Bool.and_eq_true] at C
    obtain ⟨C1, C2⟩ := C
    obtain ⟨rfl, rfl, rfl⟩ := ckl_inv C1
    obtain rfl := Nat.eq_of_beq_eq_true C2
    obtain ⟨x, y, r, rfl, h⟩ := v2_inv (show v2 0 0 St (fun x y r => if y = 0 then none else vrun n d M (pc + 1) Ls ((0, w32 (Int.tdiv x y)) :: r) w) = some res from h)
    obtain ⟨hy0, h⟩ := iten_inv h
    obtain ⟨v, st, rfl, hv, hS1⟩ := hS.cons
    obtain ⟨u, st, rfl, hu, hS2⟩ := hS1.cons
    obtain ⟨j, rfl, rfl⟩ := hv.int
    obtain ⟨i, rfl, rfl⟩ := hu.int
    have hj0 : ¬ j = 0 := fun hz => hy0 (by rw [hz]; rfl)
    exact lv_idiv F.1 F.2.1 hd hj0 (Kn _ _ _ _ _ _ _ _ _ _ _ _ h hL ⟨zV.ofi' (a_div i j), hS2⟩ hQ)
  case irem =>
    simp only [ckO, Bool.and_eq_true] at C
    obtain ⟨C1, C2⟩ := C
    obtain ⟨rfl, rfl, rfl⟩ := ckl_inv C1
    obtain rfl := Nat.eq_of_beq_eq_true C2
    obtain ⟨x, y, r, rfl, h⟩ := v2_inv (show v2 0 0 St (fun x y r => if y = 0 then none else vrun n d M (pc + 1) Ls ((0, Int.tmod x y) :: r) w) = some res from h)
    obtain ⟨hy0, h⟩ := iten_inv h
    obtain ⟨v, st, rfl, hv, hS1⟩ := hS.cons
    obtain ⟨u, st, rfl, hu, hS2⟩ := hS1.cons
    obtain ⟨j, rfl, rfl⟩ := hv.int
    obtain ⟨i, rfl, rfl⟩ := hu.int
    have hj0 : ¬ j = 0 := fun hz => hy0 (by rw [hz]; rfl)
    exact lv_irem F.1 F.2.1 hd hj0 (Kn _ _ _ _ _ _ _ _ _ _ _ _ h hL ⟨zV.ofi' (a_rem i j hj0), hS2⟩ hQ)
  case ldiv =>
    simp only [ckO, Bool.and_eq_true] at C
    obtain ⟨C1, C2⟩ := C
    obtain ⟨rfl, rfl, rfl⟩ := ckl_inv C1
    obtain rfl := Nat.eq_of_beq_eq_true C2
    obtain ⟨x, y, r, rfl, h⟩ := v2_inv (show v2 1 1 St (fun x y r => if y = 0 then none else vrun n d M (pc + 1) Ls ((1, w64 (Int.tdiv x y)) :: r) w) = some res from h)
    obtain ⟨hy0, h⟩ := iten_inv h
    obtain ⟨v, st, rfl, hv, hS1⟩ := hS.cons
    obtain ⟨u, st, rfl, hu, hS2⟩ := hS1.cons
    obtain ⟨j, rfl, rfl⟩ := hv.long
    obtain ⟨i, rfl, rfl⟩ := hu.long
    have hj0 : ¬ j = 0 := fun hz => hy0 (by rw [hz]; rfl)
    exact lv_ldiv F.1 F.2.1 hd hj0 (Kn _ _ _ _ _ _ _ _ _ _ _ _ h hL ⟨zV.ofl' (b_div i j), hS2⟩ hQ)
  case lrem =>
    simp only [ckO, Bool.and_eq_true] at C
    obtain ⟨C1, C2⟩ := C
    obtain ⟨rfl, rfl, rfl⟩ := ckl_inv C1
    obtain rfl := Nat.eq_of_beq_eq_true C2
    obtain ⟨x, y, r, rfl, h⟩ := v2_inv (show v2 1 1 St (fun x y r => if y = 0 then none else vrun n d M (pc + 1) Ls ((1, Int.tmod x y) :: r) w) = some res from h)
    obtain ⟨hy0, h⟩ := iten_inv h
    obtain ⟨v, st, rfl, hv, hS1⟩ := hS.cons
    obtain ⟨u, st, rfl, hu, hS2⟩ := hS1.cons
    obtain ⟨j, rfl, rfl⟩ := hv.long
    obtain ⟨i, rfl, rfl⟩ := hu.long
    have hj0 : ¬ j = 0 := fun hz => hy0 (by rw [hz]; rfl)
    exact lv_lrem F.1 F.2.1 hd hj0 (Kn _ _ _ _ _ _ _ _ _ _ _ _ h hL ⟨zV.ofl' (b_rem i j hj0), hS2⟩ hQ)
  case ifCond cc off =>
    simp only [ckO, Bool.and_eq_true] at C
    obtain ⟨C1, C2⟩ := C
    obtain ⟨rfl, rfl, rfl, ht⟩ := ckb_inv C1
    obtain rfl := Nat.eq_of_beq_eq_true C2
    cases cc
    · exact z_br1 (f := fun _ => none) (P := fun x => x = 0) (P' := fun x => x = 0) (fun x => i32_eq) Kn hL hS hQ (show v1 0 St (fun x r => if x = 0 then vrun n d M q Ls r w else vrun n d M (pc + 3) Ls r w) = some res from h) (fun x r hh => if_or hh) (fun x rest k1 k2 => lv_if_eq F.1 F.2.1 hd ht k1 k2)
    · exact z_br1 (f := fun _ => none) (P := fun x => ¬ x = 0) (P' := fun x => ¬ x = 0) (fun x => not_congr i32_eq) Kn hL hS hQ (show v1 0 St (fun x r => if x = 0 then vrun n d M (pc + 3) Ls r w else vrun n d M q Ls r w) = some res from h) (fun x r hh => if_or' hh) (fun x rest k1 k2 => lv_if_ne F.1 F.2.1 hd ht k1 (fun hz => k2 (fun hn => hn hz)))
    · exact z_br1 (f := fun _ => none) (P := fun x => x < 0) (P' := fun x => x < 0) (fun x => i32_lt) Kn hL hS hQ (show v1 0 St (fun x r => if x < 0 then vrun n d M q Ls r w else vrun n d M (pc + 3) Ls r w) = some res from h) (fun x r hh => if_or hh) (fun x rest k1 k2 => lv_if_lt F.1 F.2.1 hd ht k1 k2)
    · exact z_br1 (f := fun _ => none) (P := fun x => 0 ≤ x) (P' := fun x => ¬ x < 0) (fun x => (i32_le.trans Int.not_lt.symm)) Kn hL hS hQ (show v1 0 St (fun x r => if x < 0 then vrun n d M (pc + 3) Ls r w else vrun n d M q Ls r w) = some res from h) (fun x r hh => if_or' hh) (fun x rest k1 k2 => lv_if_ge F.1 F.2.1 hd ht k1 k2)
    · exact z_br1 (f := fun _ => none) (P := fun x => 0 < x) (P' := fun x => 0 < x) (fun x => i32_lt) Kn hL hS hQ (show v1 0 St (fun x r => if 0 < x then vrun n d M q Ls r w else vrun n d M (pc + 3) Ls r w) = some res from h) (fun x r hh => if_or hh) (fun x rest k1 k2 => lv_if_gt F.1 F.2.1 hd ht k1 k2)
    · exact z_br1 (f := fun _ => none) (P := fun x => x ≤ 0) (P' := fun x => ¬ 0 < x) (fun x => (i32_le.trans Int.not_lt.symm)) Kn hL hS hQ (show v1 0 St (fun x r => if 0 < x then vrun n d M (pc + 3) Ls r w else vrun n d M q Ls r w) = some res from h) (fun x r hh => if_or' hh) (fun x rest k1 k2 => lv_if_le F.1 F.2.1 hd ht k1 k2)
  case if_icmp cc off =>
    simp only [ckO, Bool.and_eq_true] at C
    obtain ⟨C1, C2⟩ := C
    obtain ⟨rfl, rfl, rfl, ht⟩ := ckb_inv C1
    obtain rfl := Nat.eq_of_beq_eq_true C2
    cases cc
    · exact z_br2 (P := fun x y => x = y) (P' := fun x y => x = y) (fun x y => i32_eq) Kn hL hS hQ (show v2 0 0 St (fun x y r => if x = y then vrun n d M q Ls r w else vrun n d M (pc + 3) Ls r w) = some res from h) (fun x y r hh => if_or hh) (fun x y rest k1 k2 => lv_icmp_eq F.1 F.2.1 hd ht k1 k2)
    · exact z_br2 (P := fun x y => ¬ x = y) (P' := fun x y => ¬ x = y) (fun x y => not_congr i32_eq) Kn hL hS hQ (show v2 0 0 St (fun x y r => if x = y then vrun n d M (pc + 3) Ls r w else vrun n d M q Ls r w) = some res from h) (fun x y r hh => if_or' hh) (fun x y rest k1 k2 => lv_icmp_ne F.1 F.2.1 hd ht k1 (fun hz => k2 (fun hn => hn hz)))
    · exact z_br2 (P := fun x y => x < y) (P' := fun x y => x < y) (fun x y => i32_lt) Kn hL hS hQ (show v2 0 0 St (fun x y r => if x < y then vrun n d M q Ls r w else vrun n d M (pc + 3) Ls r w) = some res from h) (fun x y r hh => if_or hh) (fun x y rest k1 k2 => lv_icmp_lt F.1 F.2.1 hd ht k1 k2)
    · exact z_br2 (P := fun x y => y ≤ x) (P' := fun x y => ¬ x < y) (fun x y => (i32_le.trans Int.not_lt.symm)) Kn hL hS hQ (show v2 0 0 St (fun x y r => if x < y then vrun n d M (pc + 3) Ls r w else vrun n d M q Ls r w) = some res from h) (fun x y r hh => if_or' hh) (fun x y rest k1 k2 => lv_icmp_ge F.1 F.2.1 hd ht k1 k2)
    · exact z_br2 (P := fun x y => y < x) (P' := fun x y => y < x) (fun x y => i32_lt) Kn hL hS hQ (show v2 0 0 St (fun x y r => if y < x then vrun n d M q Ls r w else vrun n d M (pc + 3) Ls r w) = some res from h) (fun x y r hh => if_or hh) (fun x y rest k1 k2 => lv_icmp_gt F.1 F.2.1 hd ht k1 k2)
    · exact z_br2 (P := fun x y => x ≤ y) (P' := fun x y => ¬ y < x) (fun x y => (i32_le.trans Int.not_lt.symm)) Kn hL hS hQ (show v2 0 0 St (fun x y r => if y < x then vrun n d M (pc + 3) Ls r w else vrun n d M q Ls r w) = some res from h) (fun x y r hh => if_or' hh) (fun x y rest k1 k2 => lv_icmp_le F.1 F.2.1 hd ht k1 k2)
  case ifnull off =>
    simp only [ckO, Bool.and_eq_true] at C
    obtain ⟨C1, C2⟩ := C
    obtain ⟨rfl, rfl, rfl, ht⟩ := ckb_inv C1
    obtain rfl := Nat.eq_of_beq_eq_true C2
    exact z_ifnull ht F Kn hL hS hQ hd h
  case ifnonnull off =>
    simp only [ckO, Bool.and_eq_true] at C
    obtain ⟨C1, C2⟩ := C
    obtain ⟨rfl, rfl, rfl, ht⟩ := ckb_inv C1
    obtain rfl := Nat.eq_of_beq_eq_true C2
    exact z_ifnonnull ht F Kn hL hS hQ hd h
  case goto off =>
    simp only [ckO, Bool.and_eq_true] at C
    obtain ⟨⟨C1, C2⟩, C3⟩ := C
    obtain rfl := Nat.eq_of_beq_eq_true C1
    obtain rfl := Nat.eq_of_beq_eq_true C2
    simp only [decide_eq_true_eq] at C3
    exact lv_goto F.1 F.2.1 hd C3 (Kn _ _ _ _ _ _ _ _ _ _ _ _ h hL hS hQ)
  case tableswitch df lo hi offs =>
    simp only [ckO, Bool.and_eq_true] at C
    obtain ⟨⟨C1, C2⟩, C3⟩ := C
    obtain rfl := Nat.eq_of_beq_eq_true C1
    simp only [decide_eq_true_eq] at C3
    exact z_switch (Nat.le_of_ble_eq_true C2) C3 F Kn hL hS hQ hd h
  case getfield idx =>
    simp only [ckO, Bool.and_eq_true] at C
    obtain ⟨C1, C2⟩ := C
    obtain ⟨rfl, rfl, rfl⟩ := ckl_inv C1
    exact z_get F Kn hL hS hQ C2 hd h
  case putfield idx =>
    simp only [ckO, Bool.and_eq_true] at C
    obtain ⟨C1, C2⟩ := C
    obtain ⟨rfl, rfl, rfl⟩ := ckl_inv C1
    exact z_put F Kn hL hS hQ C2 hd h
  case iaload =>
    simp only [ckO, Bool.and_eq_true, Bool.or_eq_true] at C
    obtain ⟨⟨C1, C2⟩, C3⟩ := C
    obtain ⟨rfl, rfl, rfl⟩ := ckl_inv C1
    obtain rfl := Nat.eq_of_beq_eq_true C3
    rcases C2 with C2 | C2
    · obtain rfl := Nat.eq_of_beq_eq_true C2; exact z_iald F Kn hL hS hQ hd h
    · obtain rfl := Nat.eq_of_beq_eq_true C2; exact z_sald F Kn hL hS hQ hd h
  case laload =>
    simp only [ckO, Bool.and_eq_true] at C
    obtain ⟨⟨C1, C2⟩, C3⟩ := C
    obtain ⟨rfl, rfl, rfl⟩ := ckl_inv C1
    obtain rfl := Nat.eq_of_beq_eq_true C2
    obtain rfl := Nat.eq_of_beq_eq_true C3
    exact z_lald F Kn hL hS hQ hd h
  case baload =>
    simp only [ckO, Bool.and_eq_true] at C
    obtain ⟨⟨C1, C2⟩, C3⟩ := C
    obtain ⟨rfl, rfl, rfl⟩ := ckl_inv C1
    obtain rfl := Nat.eq_of_beq_eq_true C2
    obtain rfl := Nat.eq_of_beq_eq_true C3
    exact z_zald F Kn hL hS hQ hd h
  case iastore =>
    simp only [ckO, Bool.and_eq_true] at C
    obtain ⟨⟨C1, C2⟩, C3⟩ := C
    obtain ⟨rfl, rfl, rfl⟩ := ckl_inv C1
    obtain rfl := Nat.eq_of_beq_eq_true C2
    obtain rfl := Nat.eq_of_beq_eq_true C3
    exact z_iast F Kn hL hS hQ hd h
  case lastore =>
    simp only [ckO, Bool.and_eq_true] at C
    obtain ⟨⟨C1, C2⟩, C3⟩ := C
    obtain ⟨rfl, rfl, rfl⟩ := ckl_inv C1
    obtain rfl := Nat.eq_of_beq_eq_true C2
    obtain rfl := Nat.eq_of_beq_eq_true C3
    exact z_last F Kn hL hS hQ hd h
  case bastore =>
    simp only [ckO, Bool.and_eq_true] at C
    obtain ⟨⟨C1, C2⟩, C3⟩ := C
    obtain ⟨rfl, rfl, rfl⟩ := ckl_inv C1
    obtain rfl := Nat.eq_of_beq_eq_true C2
    obtain rfl := Nat.eq_of_beq_eq_true C3
    exact z_zast F Kn hL hS hQ hd h
  case aaload =>
    simp only [ckO, Bool.and_eq_true, Bool.or_eq_true] at C
    obtain ⟨⟨C1, C2⟩, C3⟩ := C
    obtain ⟨rfl, rfl, rfl⟩ := ckl_inv C1
    obtain rfl := Nat.eq_of_beq_eq_true C3
    have hpk : pp = 4 ∨ pp = 5 ∨ pp = 6 ∨ pp = 7 := by rcases C2 with ((C2 | C2) | C2) | C2 <;> (have := Nat.eq_of_beq_eq_true C2; omega)
    exact z_aald hpk F Kn hL hS hQ hd h
  case aastore =>
    simp only [ckO, Bool.and_eq_true, Bool.or_eq_true] at C
    obtain ⟨C1, C2⟩ := C
    obtain ⟨rfl, rfl, rfl⟩ := ckl_inv C1
    have hpk : (pp = 4 ∧ q = 12) ∨ (pp = 5 ∧ q = 13) := by rcases C2 with ⟨C2, C3⟩ | ⟨C2, C3⟩ <;> (have := Nat.eq_of_beq_eq_true C2; have := Nat.eq_of_beq_eq_true C3; omega)
    exact z_aast hpk F Kn hL hS hQ hd h
  case arraylength =>
    simp only [ckO, Bool.and_eq_true, Bool.or_eq_true] at C
    obtain ⟨C1, C2⟩ := C
    obtain ⟨rfl, rfl, rfl⟩ := ckl_inv C1
    have hpk : (pp = 1 ∨ pp = 2 ∨ pp = 3 ∨ pp = 4 ∨ pp = 5 ∨ pp = 6 ∨ pp = 7) ∨ pp = 99 := by rcases C2 with ((((((C2 | C2) | C2) | C2) | C2) | C2) | C2) | C2 <;> (have := Nat.eq_of_beq_eq_true C2; omega)
    rcases hpk with hpk | rfl
    · exact z_len hpk F Kn hL hS hQ hd h
    · exact z_slen hnX F Kn hL hS hQ hd h
  case newarray t =>
    simp only [ckO, Bool.and_eq_true, Bool.or_eq_true, decide_eq_true_eq] at C
    obtain ⟨C1, C2⟩ := C
    obtain ⟨rfl, rfl, rfl⟩ := ckl_inv C1
    rcases C2 with (⟨rfl, C2⟩ | ⟨rfl, C2⟩) | ⟨rfl, C2⟩
    · obtain rfl := Nat.eq_of_beq_eq_true C2; exact z_newa (ty := .int) (a0 := fun N => (N, .inl fun _ => 0)) rfl (by decide) (fun _ _ => rfl) (by decide) (fun rw t N cA tys ht hN => ⟨⟨t, Or.inl ⟨rfl, ht⟩⟩, rfl, hN, fun _ _ => rfl⟩) (wd_inv wk_int) F Kn hL hS hQ hrc hrs hd h
    · obtain rfl := Nat.eq_of_beq_eq_true C2; exact z_newa (ty := .long) (a0 := fun N => (N, .inr (.inl fun _ => 0))) rfl (by decide) (fun _ _ => rfl) (by decide) (fun rw t N cA tys ht hN => ⟨⟨t, rfl, ht⟩, rfl, hN, fun _ _ => rfl⟩) (wd_inv wk_long) F Kn hL hS hQ hrc hrs hd h
    · obtain rfl := Nat.eq_of_beq_eq_true C2; exact z_newa (ty := .boolean) (a0 := fun N => (N, .inl fun _ => 0)) rfl (by decide) (fun _ _ => rfl) (by decide) (fun rw t N cA tys ht hN => ⟨⟨t, Or.inr ⟨rfl, ht⟩⟩, rfl, hN, fun _ _ => rfl⟩) (wd_inv wk_bool) F Kn hL hS hQ hrc hrs hd h
  case new idx =>
    simp only [ckO, Bool.and_eq_true, Bool.or_eq_true] at C
    rcases C with C | ⟨⟨C1, C2⟩, C3⟩
    · obtain rfl := Nat.eq_of_beq_eq_true C
      have h : vth St w = some res := h
      have h9 : St = [] ∧ some (1, 0, vxw w) = some res := by
        cases St with
        | nil => exact ⟨rfl, h⟩
        | cons _ _ => cases h
      obtain ⟨rfl, h⟩ := h9
      have hst : st = [] := by
        cases st with
        | nil => rfl
        | cons _ _ => exact hS.elim
      exact hTh pc idx ls st w H locs cells slots rw tys ln (by rw [hpg]) hd (Option.some.inj h).symm hst hQ hL.1
    · obtain ⟨rfl, rfl, rfl⟩ := ckl_inv C1
      cases hcl : vwCl[pp - 10]? with
      | none => rw [hcl] at C3; cases C3
      | some r0 =>
        obtain ⟨C, T, N⟩ := r0
        rw [hcl] at C3
        simp only [Bool.and_eq_true] at C3
        obtain ⟨⟨⟨c1, c2⟩, c3⟩, c4⟩ := C3
        exact z_new (Nat.le_of_ble_eq_true C2) hcl (Nat.eq_of_beq_eq_true c1) (wd_inv c2) (wd_inv c3) (wd_inv c4) F Kn hL hS hQ hrc hrs hd h
  case anewarray idx =>
    simp only [ckO, Bool.and_eq_true, Bool.or_eq_true] at C
    obtain ⟨⟨C1, C2⟩, C3⟩ := C
    obtain ⟨rfl, rfl, rfl⟩ := ckl_inv C1
    rcases C2 with C2 | C2
    · obtain rfl := Nat.eq_of_beq_eq_true C2; exact z_anew (Or.inl rfl) rfl (wd_inv C3) F.2.2.2.2.2.1.2.1 F Kn hL hS hQ hrc hrs hd h
    · obtain rfl := Nat.eq_of_beq_eq_true C2; exact z_anew (Or.inr rfl) rfl (wd_inv C3) F.2.2.2.2.2.1.2.2.1 F Kn hL hS hQ hrc hrs hd h
  case multianewarray idx k =>
    simp only [ckO, Bool.and_eq_true, Bool.or_eq_true] at C
    obtain ⟨⟨⟨C0, C1⟩, C2⟩, C3⟩ := C
    obtain rfl := Nat.eq_of_beq_eq_true C0
    obtain ⟨rfl, rfl, rfl⟩ := ckl_inv C1
    rcases C2 with ⟨C2, C4⟩ | ⟨C2, C4⟩
    · obtain rfl := Nat.eq_of_beq_eq_true C2; obtain rfl := Nat.eq_of_beq_eq_true C4
      exact z_mnew (ty := .int) (z0 := fun N => (N, .inl fun _ => 0)) (Or.inl ⟨rfl, rfl⟩) rfl rfl (by decide) (wd_inv C3) F.2.2.2.2.2.1.2.2.2.1 (wd_inv wk_int) (hQ.1.2.2.2.2.1.elim fun cy ht => ⟨0, cy, ht, (hQ.2.2.1.2 0 _ ht).2⟩) rfl rfl z_inn0 (fun rw t N cA tys ht hN => ⟨⟨t, Or.inl ⟨rfl, ht⟩⟩, rfl, hN, fun _ _ => rfl⟩) F Kn hL hS hQ hrc hrs hd h
    · obtain rfl := Nat.eq_of_beq_eq_true C2; obtain rfl := Nat.eq_of_beq_eq_true C4
      exact z_mnew (ty := .long) (z0 := fun N => (N, .inr (.inl fun _ => 0))) (Or.inr ⟨rfl, rfl⟩) rfl rfl (by decide) (wd_inv C3) F.2.2.2.2.2.1.2.2.2.2 (wd_inv wk_long) (hQ.1.2.2.2.2.2.elim fun cy ht => ⟨1, cy, ht, (hQ.2.2.1.2 1 _ ht).2⟩) rfl rfl z_inn1 (fun rw t N cA tys ht hN => ⟨⟨t, rfl, ht⟩, rfl, hN, fun _ _ => rfl⟩) F Kn hL hS hQ hrc hrs hd h
  case ireturn =>
    simp only [ckO, Bool.and_eq_true, Bool.or_eq_true, decide_eq_true_eq] at C
    obtain ⟨⟨⟨C1, C2⟩, C3⟩, C4⟩ := C
    obtain rfl := Nat.eq_of_beq_eq_true C1
    obtain rfl := Nat.eq_of_beq_eq_true C2
    have hpk : pp = 0 ∨ pp = 3 := by rcases C3 with C3 | C3 <;> (have := Nat.eq_of_beq_eq_true C3; omega)
    have h : vrt pp St w = some res := h
    rcases vrt_inv h with ⟨h9, rfl, rfl⟩ | ⟨h9, x, rfl, hb, rfl⟩
    · exact absurd h9 (by omega)
    · obtain ⟨y, st, rfl, hy, hS1⟩ := hS.cons
      rw [hS1.nil]
      rw [← C4] at hy hb hpk
      exact En rfl _ _ _ _ _ _ _ _ _ _ hd hQ (Or.inr ⟨y, rfl, hy, Or.inl ⟨rfl, hpk.elim Or.inl (fun h3 => Or.inr ⟨h3, hb h3⟩)⟩⟩)
  case lreturn =>
    simp only [ckO, Bool.and_eq_true, Bool.or_eq_true, decide_eq_true_eq] at C
    obtain ⟨⟨⟨C1, C2⟩, C3⟩, C4⟩ := C
    obtain rfl := Nat.eq_of_beq_eq_true C1
    obtain rfl := Nat.eq_of_beq_eq_true C2
    have hpk : pp = 1 := Nat.eq_of_beq_eq_true C3
    have h : vrt pp St w = some res := h
    rcases vrt_inv h with ⟨h9, rfl, rfl⟩ | ⟨h9, x, rfl, hb, rfl⟩
    · exact absurd h9 (by omega)
    · obtain ⟨y, st, rfl, hy, hS1⟩ := hS.cons
      rw [hS1.nil]
      rw [← C4] at hy hb hpk
      exact En rfl _ _ _ _ _ _ _ _ _ _ hd hQ (Or.inr ⟨y, rfl, hy, Or.inr (Or.inl ⟨rfl, hpk⟩)⟩)
  case areturn =>
    simp only [ckO, Bool.and_eq_true, Bool.or_eq_true, decide_eq_true_eq] at C
    obtain ⟨⟨⟨C1, C2⟩, C3⟩, C4⟩ := C
    obtain rfl := Nat.eq_of_beq_eq_true C1
    obtain rfl := Nat.eq_of_beq_eq_true C2
    have hpk : pp = 2 := Nat.eq_of_beq_eq_true C3
    have h : vrt pp St w = some res := h
    rcases vrt_inv h with ⟨h9, rfl, rfl⟩ | ⟨h9, x, rfl, hb, rfl⟩
    · exact absurd h9 (by omega)
    · obtain ⟨y, st, rfl, hy, hS1⟩ := hS.cons
      rw [hS1.nil]
      rw [← C4] at hy hb hpk
      exact En rfl _ _ _ _ _ _ _ _ _ _ hd hQ (Or.inr ⟨y, rfl, hy, Or.inr (Or.inr ⟨rfl, hpk⟩)⟩)
  case return_ =>
    simp only [ckO, Bool.and_eq_true, Bool.or_eq_true, decide_eq_true_eq] at C
    obtain ⟨⟨⟨C1, C2⟩, C3⟩, C4⟩ := C
    obtain rfl := Nat.eq_of_beq_eq_true C1
    obtain rfl := Nat.eq_of_beq_eq_true C2
    have hpk : pp = 9 := Nat.eq_of_beq_eq_true C3
    have h : vrt pp St w = some res := h
    rcases vrt_inv h with ⟨h9, rfl, rfl⟩ | ⟨h9, x, rfl, hb, rfl⟩
    · rw [hS.nil]; exact En rfl _ _ _ _ _ _ _ _ _ _ hd hQ (Or.inl ⟨rfl, C4.trans hpk, rfl⟩)
    · exact absurd hpk h9
  case invokestatic idx =>
    simp only [ckO, Bool.and_eq_true, Bool.or_eq_true] at C
    rcases C with ((⟨⟨⟨⟨⟨C1, C2⟩, C3⟩, C4⟩, C5⟩, C6⟩ | ⟨⟨C1, C2⟩, C3⟩) | ⟨⟨C1, C2⟩, C3⟩) | ⟨⟨C1, C2⟩, C3⟩
    · obtain ⟨rfl, rfl, rfl⟩ := ckl_inv C1
      simp only [decide_eq_true_eq] at C6
      have hp := Nat.le_of_ble_eq_true C2
      exact z_callS (fun d1 av w r w1 => IHm pp hp d1 av w r w1) (ch_all pp hp) C3 (wd_inv C4) (Nat.eq_of_beq_eq_true C5) (ch7 pp hp) C6 F Kn hL hS hQ hrc hrs hfr hlo hd h
    · obtain ⟨rfl, rfl, rfl⟩ := ckl_inv C1
      exact z_math (Nat.le_of_ble_eq_true C2) (wd_inv C3) F Kn hL hS hQ hrc hrs (by omega) (by omega) hd h
    · obtain ⟨rfl, rfl, rfl⟩ := ckl_inv C1
      rcases C2 with C2 | C2
      · obtain rfl := Nat.eq_of_beq_eq_true C2; exact z_cpyi (wd_inv C3) F Kn hL hS hQ (by omega) (by omega) hd (cpy_inv (k := fun r w => vrun n d M (pc + 3) Ls r w) h)
      · obtain rfl := Nat.eq_of_beq_eq_true C2; exact z_cpyl (wd_inv C3) F Kn hL hS hQ (by omega) (by omega) hd (cpy_inv (k := fun r w => vrun n d M (pc + 3) Ls r w) h)
    · obtain ⟨rfl, rfl, rfl⟩ := ckl_inv C1
      exact hLw (Nat.eq_of_beq_eq_true C3) _ _ _ _ _ _ _ _ _ _ _ _ _ _ _ _ _ (Nat.le_of_ble_eq_true C2) hpg hd h hL hS hQ Kn
  case invokevirtual idx =>
    simp only [ckO, Bool.and_eq_true] at C
    obtain ⟨⟨⟨⟨⟨⟨⟨C1, C2⟩, C3⟩, Cx⟩, C4⟩, C5⟩, C6⟩, C7⟩ := C
    obtain ⟨rfl, rfl, rfl⟩ := ckl_inv C1
    simp only [decide_eq_true_eq] at C7
    have hp := Nat.le_of_ble_eq_true C2
    exact z_callV (fun d1 av w r w1 => IHm pp hp d1 av w r w1) (ch_all pp hp) (by simpa using C3) (by simpa using C4) (wd_inv C5) (Nat.eq_of_beq_eq_true C6) (ch7 pp hp) C7 F Kn hL hS hQ hrc hrs hfr hlo hd h
  case invokespecial idx =>
    simp only [ckO, Bool.and_eq_true, Bool.or_eq_true, decide_eq_true_eq, beq_iff_eq] at C
    rcases C with ⟨C1, C2⟩ | ⟨⟨⟨⟨⟨⟨⟨C1, C2⟩, C3⟩, C4⟩, C5⟩, C6⟩, C7⟩, C8⟩
    · obtain ⟨rfl, rfl, rfl⟩ := ckl_inv C1
      exact z_obj (wd_inv C2) F Kn hL hS hQ (by omega) (by omega) hd h
    · obtain ⟨rfl, rfl, rfl⟩ := ckl_inv C1
      have hp := Nat.le_of_ble_eq_true C2
      exact z_callI (fun d1 av w r w1 => IHm pp hp d1 av w r w1) (ch_all pp hp) (by simpa using C3) C4 C5 (C6.elim (fun h => Or.inl (wd_inv h)) Or.inr) (Nat.eq_of_beq_eq_true C7) C8 F Kn hL hS hQ hrc hrs hfr hlo hd h
  all_goals exact absurd (show false = true from C) (by decide)
end STEP
