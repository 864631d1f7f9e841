/-! V: a small machine of my own. A value is a pair (tag, number): tag 0 int, 1 long, 2 reference (its number is the cell's name, -1 is null), 5 a caught exception, 9 nothing. A cell is (kind, length, contents). -/
abbrev vV : Type := Nat × Int
abbrev vC : Type := Nat × Int × (Int → Int)
abbrev vW : Type := (Int → vC) × Int × Nat × Nat
abbrev vR : Type := Option (Nat × Int × vW)
abbrev vK : Type := Nat → List vV → List vV → vW → vR
def vkd (w : vW) (a : Int) : Nat := (w.1 a).1
def vln (w : vW) (a : Int) : Int := (w.1 a).2.1
def vct (w : vW) (a i : Int) : Int := (w.1 a).2.2 i
def vnt (w : vW) : Int := w.2.1
def vec (w : vW) : Nat := w.2.2.1
def ves (w : vW) : Nat := w.2.2.2
def vsv (w : vW) (a i v : Int) : vW := (fun b => if b = a then (vkd w a, vln w a, fun j => if j = i then v else vct w a j) else w.1 b, w.2)
def vnw (w : vW) (k : Nat) (n : Int) (c : Int → Int) (s : Nat) : vW := (fun b => if b = w.2.1 then (k, n, c) else w.1 b, w.2.1 + 1, w.2.2.1 + 1, w.2.2.2 + s)
def w32 (z : Int) : Int := (z + 2147483648) % 4294967296 - 2147483648
def w64 (z : Int) : Int := (z + 9223372036854775808) % 18446744073709551616 - 9223372036854775808
/-! bits: these names stand for themselves (no evaluation looks into them); what they are: .._d -/
theorem ex_f2 (g : Int → Int → Int) : ∃ f : Int → Int → Int, f = g := ⟨g, rfl⟩
theorem ex_f1 (g : Int → Int) : ∃ f : Int → Int, f = g := ⟨g, rfl⟩
noncomputable def i_and : Int → Int → Int := Classical.choose (ex_f2 fun x y => (Int32.ofInt x &&& Int32.ofInt y).toInt)
theorem i_and_d (x y : Int) : i_and x y = (Int32.ofInt x &&& Int32.ofInt y).toInt := congrFun (congrFun (Classical.choose_spec (ex_f2 fun x y => (Int32.ofInt x &&& Int32.ofInt y).toInt)) x) y
noncomputable def i_or : Int → Int → Int := Classical.choose (ex_f2 fun x y => (Int32.ofInt x ||| Int32.ofInt y).toInt)
theorem i_or_d (x y : Int) : i_or x y = (Int32.ofInt x ||| Int32.ofInt y).toInt := congrFun (congrFun (Classical.choose_spec (ex_f2 fun x y => (Int32.ofInt x ||| Int32.ofInt y).toInt)) x) y
noncomputable def i_xor : Int → Int → Int := Classical.choose (ex_f2 fun x y => (Int32.ofInt x ^^^ Int32.ofInt y).toInt)
theorem i_xor_d (x y : Int) : i_xor x y = (Int32.ofInt x ^^^ Int32.ofInt y).toInt := congrFun (congrFun (Classical.choose_spec (ex_f2 fun x y => (Int32.ofInt x ^^^ Int32.ofInt y).toInt)) x) y
noncomputable def l_and : Int → Int → Int := Classical.choose (ex_f2 fun x y => (Int64.ofInt x &&& Int64.ofInt y).toInt)
theorem l_and_d (x y : Int) : l_and x y = (Int64.ofInt x &&& Int64.ofInt y).toInt := congrFun (congrFun (Classical.choose_spec (ex_f2 fun x y => (Int64.ofInt x &&& Int64.ofInt y).toInt)) x) y
noncomputable def l_or : Int → Int → Int := Classical.choose (ex_f2 fun x y => (Int64.ofInt x ||| Int64.ofInt y).toInt)
theorem l_or_d (x y : Int) : l_or x y = (Int64.ofInt x ||| Int64.ofInt y).toInt := congrFun (congrFun (Classical.choose_spec (ex_f2 fun x y => (Int64.ofInt x ||| Int64.ofInt y).toInt)) x) y
noncomputable def l_xor : Int → Int → Int := Classical.choose (ex_f2 fun x y => (Int64.ofInt x ^^^ Int64.ofInt y).toInt)
theorem l_xor_d (x y : Int) : l_xor x y = (Int64.ofInt x ^^^ Int64.ofInt y).toInt := congrFun (congrFun (Classical.choose_spec (ex_f2 fun x y => (Int64.ofInt x ^^^ Int64.ofInt y).toInt)) x) y
noncomputable def i_shl : Int → Int → Int := Classical.choose (ex_f2 fun x y => (Int32.ofInt x <<< (Int32.ofInt y &&& 31)).toInt)
theorem i_shl_d (x y : Int) : i_shl x y = (Int32.ofInt x <<< (Int32.ofInt y &&& 31)).toInt := congrFun (congrFun (Classical.choose_spec (ex_f2 fun x y => (Int32.ofInt x <<< (Int32.ofInt y &&& 31)).toInt)) x) y
noncomputable def i_shr : Int → Int → Int := Classical.choose (ex_f2 fun x y => (Int32.ofInt x >>> (Int32.ofInt y &&& 31)).toInt)
theorem i_shr_d (x y : Int) : i_shr x y = (Int32.ofInt x >>> (Int32.ofInt y &&& 31)).toInt := congrFun (congrFun (Classical.choose_spec (ex_f2 fun x y => (Int32.ofInt x >>> (Int32.ofInt y &&& 31)).toInt)) x) y
noncomputable def i_ushr : Int → Int → Int := Classical.choose (ex_f2 fun x y => ((Int32.ofInt x).toUInt32 >>> ((Int32.ofInt y).toUInt32 &&& Int32.toUInt32 31)).toInt32.toInt)
theorem i_ushr_d (x y : Int) : i_ushr x y = ((Int32.ofInt x).toUInt32 >>> ((Int32.ofInt y).toUInt32 &&& Int32.toUInt32 31)).toInt32.toInt := congrFun (congrFun (Classical.choose_spec (ex_f2 fun x y => ((Int32.ofInt x).toUInt32 >>> ((Int32.ofInt y).toUInt32 &&& Int32.toUInt32 31)).toInt32.toInt)) x) y
noncomputable def l_shl : Int → Int → Int := Classical.choose (ex_f2 fun x y => (Int64.ofInt x <<< ((Int32.ofInt y).toInt64 &&& 63)).toInt)
theorem l_shl_d (x y : Int) : l_shl x y = (Int64.ofInt x <<< ((Int32.ofInt y).toInt64 &&& 63)).toInt := congrFun (congrFun (Classical.choose_spec (ex_f2 fun x y => (Int64.ofInt x <<< ((Int32.ofInt y).toInt64 &&& 63)).toInt)) x) y
noncomputable def l_shr : Int → Int → Int := Classical.choose (ex_f2 fun x y => (Int64.ofInt x >>> ((Int32.ofInt y).toInt64 &&& 63)).toInt)
theorem l_shr_d (x y : Int) : l_shr x y = (Int64.ofInt x >>> ((Int32.ofInt y).toInt64 &&& 63)).toInt := congrFun (congrFun (Classical.choose_spec (ex_f2 fun x y => (Int64.ofInt x >>> ((Int32.ofInt y).toInt64 &&& 63)).toInt)) x) y
noncomputable def l_ushr : Int → Int → Int := Classical.choose (ex_f2 fun x y => ((Int64.ofInt x).toUInt64 >>> ((Int32.ofInt y).toInt64.toUInt64 &&& Int64.toUInt64 63)).toInt64.toInt)
theorem l_ushr_d (x y : Int) : l_ushr x y = ((Int64.ofInt x).toUInt64 >>> ((Int32.ofInt y).toInt64.toUInt64 &&& Int64.toUInt64 63)).toInt64.toInt := congrFun (congrFun (Classical.choose_spec (ex_f2 fun x y => ((Int64.ofInt x).toUInt64 >>> ((Int32.ofInt y).toInt64.toUInt64 &&& Int64.toUInt64 63)).toInt64.toInt)) x) y
noncomputable def i_b : Int → Int := Classical.choose (ex_f1 fun x => (Int32.ofInt x).toInt8.toInt32.toInt)
theorem i_b_d (x : Int) : i_b x = (Int32.ofInt x).toInt8.toInt32.toInt := congrFun (Classical.choose_spec (ex_f1 fun x => (Int32.ofInt x).toInt8.toInt32.toInt)) x
noncomputable def i_s : Int → Int := Classical.choose (ex_f1 fun x => (Int32.ofInt x).toInt16.toInt32.toInt)
theorem i_s_d (x : Int) : i_s x = (Int32.ofInt x).toInt16.toInt32.toInt := congrFun (Classical.choose_spec (ex_f1 fun x => (Int32.ofInt x).toInt16.toInt32.toInt)) x
noncomputable def i_c : Int → Int := Classical.choose (ex_f1 fun x => (Int32.ofInt x).toUInt32.toUInt16.toUInt32.toInt32.toInt)
theorem i_c_d (x : Int) : i_c x = (Int32.ofInt x).toUInt32.toUInt16.toUInt32.toInt32.toInt := congrFun (Classical.choose_spec (ex_f1 fun x => (Int32.ofInt x).toUInt32.toUInt16.toUInt32.toInt32.toInt)) x
def vlc (x y : Int) : Int := if x < y then -1 else if x = y then 0 else 1
noncomputable def vlg (l : List vV) : Nat → vV := List.rec (fun _ => (9, 0)) (fun v _ ih i => Nat.rec v (fun j _ => ih j) i) l
noncomputable def vlset (l : List vV) (v : vV) : Nat → List vV := List.rec (fun _ => []) (fun u t ih i => Nat.rec (v :: t) (fun j _ => u :: ih j) i) l
noncomputable def vflat (l : List vV) : List vV := List.rec [] (fun v _ ih => bif Nat.beq v.1 1 then v :: (9, 0) :: ih else v :: ih) l
noncomputable def vent (n : Nat) (l : List vV) : List vV := vflat l ++ List.replicate (n - (vflat l).length) (9, 0)
def v1 (t : Nat) (st : List vV) (f : Int → List vV → vR) : vR := match st with
  | y :: r => bif Nat.beq y.1 t then f y.2 r else none
  | _ => none
def v2 (t1 t2 : Nat) (st : List vV) (f : Int → Int → List vV → vR) : vR := match st with
  | y :: x :: r => bif Nat.beq y.1 t2 then bif Nat.beq x.1 t1 then f x.2 y.2 r else none else none
  | _ => none
def v3 (t1 t2 t3 : Nat) (st : List vV) (f : Int → Int → Int → List vV → vR) : vR := match st with
  | z :: y :: x :: r => bif Nat.beq z.1 t3 then bif Nat.beq y.1 t2 then bif Nat.beq x.1 t1 then f x.2 y.2 z.2 r else none else none else none
  | _ => none
noncomputable def v_ib (f : Nat) (x y : Int) (k : Int → vR) : vR :=
  bif Nat.beq f 0 then k (w32 (x + y)) else bif Nat.beq f 1 then k (w32 (x - y)) else bif Nat.beq f 2 then k (w32 (x * y)) else bif Nat.beq f 3 then k (i_and x y) else bif Nat.beq f 4 then k (i_or x y) else
  bif Nat.beq f 5 then k (i_xor x y) else bif Nat.beq f 6 then k (i_shl x y) else bif Nat.beq f 7 then k (i_shr x y) else bif Nat.beq f 8 then k (i_ushr x y) else none
noncomputable def v_lb (f : Nat) (x y : Int) (k : Int → vR) : vR :=
  bif Nat.beq f 0 then k (w64 (x + y)) else bif Nat.beq f 1 then k (w64 (x - y)) else bif Nat.beq f 2 then k (w64 (x * y)) else bif Nat.beq f 3 then k (l_and x y) else bif Nat.beq f 4 then k (l_or x y) else bif Nat.beq f 5 then k (l_xor x y) else none
noncomputable def v_ls (f : Nat) (x y : Int) (k : Int → vR) : vR := bif Nat.beq f 6 then k (l_shl x y) else bif Nat.beq f 7 then k (l_shr x y) else bif Nat.beq f 8 then k (l_ushr x y) else none
noncomputable def v_un (f : Nat) (st : List vV) (k : vV → List vV → vR) : vR :=
  bif Nat.beq f 0 then v1 0 st (fun x r => k (0, w32 (-x)) r) else bif Nat.beq f 1 then v1 1 st (fun x r => k (1, w64 (-x)) r) else bif Nat.beq f 2 then v1 0 st (fun x r => k (1, x) r) else bif Nat.beq f 3 then v1 1 st (fun x r => k (0, w32 x) r) else
  bif Nat.beq f 4 then v1 0 st (fun x r => k (0, i_b x) r) else bif Nat.beq f 5 then v1 0 st (fun x r => k (0, i_s x) r) else bif Nat.beq f 6 then v1 0 st (fun x r => k (0, i_c x) r) else none
def v_mm (f : Nat) (st : List vV) (k : vV → List vV → vR) : vR :=
  bif Nat.beq f 0 then v2 0 0 st (fun x y r => k (0, max x y) r) else bif Nat.beq f 1 then v2 0 0 st (fun x y r => k (0, min x y) r) else bif Nat.beq f 2 then v2 1 1 st (fun x y r => k (1, max x y) r) else bif Nat.beq f 3 then v2 1 1 st (fun x y r => k (1, min x y) r) else none
def v_dv (f : Nat) (x y : Int) (k : Int → vR) : vR := bif Nat.beq f 0 then k (w32 (Int.tdiv x y)) else bif Nat.beq f 1 then k (Int.tmod x y) else bif Nat.beq f 2 then k (w64 (Int.tdiv x y)) else none
/-- units of depth -/
def vcs (l : List vV) : Nat := match l with
  | [] => 0
  | v :: r => (bif Nat.beq v.1 1 then 2 else 1) + vcs r
/-- a store: (flag 1) what lies just ahead is forgotten, (0) it is no long, (2) there is nothing ahead -/
noncomputable def vsto (ls : List vV) (p q : Nat) (z : Int) (x : Int) (f : List vV → vR) : vR :=
  let l1 := fun l => bif Nat.beq p 1 then f (vlset (vlset l (p, x) q) (9, 0) (q + 1)) else f (vlset l (p, x) q)
  bif Nat.beq z.toNat 1 then l1 (vlset ls (9, 0) (q - 1)) else bif Nat.beq z.toNat 0 then (bif Nat.beq (vlg ls (q - 1)).1 1 then none else l1 ls) else l1 ls
def vbr (k : Nat → vR) (p q nx : Nat) (x y : Int) : vR :=
  bif Nat.beq p 0 then (if x = y then k q else k nx) else bif Nat.beq p 1 then (if x = y then k nx else k q) else bif Nat.beq p 2 then (if x < y then k q else k nx) else
  bif Nat.beq p 3 then (if x < y then k nx else k q) else bif Nat.beq p 4 then (if y < x then k q else k nx) else (if y < x then k nx else k q)
def vcat2 (v : vV) : Bool := Nat.beq v.1 1
/-- stack moves: 10 dup, 11 pop, 12 dup_x1, 13 dup_x2, 14 dup2, 15 dup2_x1, 16 dup2_x2, 17 pop2 -/
def vstk (op : Nat) (st : List vV) (f : List vV → vR) : vR :=
  bif Nat.beq op 10 then (match st with | a :: r => bif vcat2 a then none else f (a :: a :: r) | _ => none) else
  bif Nat.beq op 11 then (match st with | a :: r => bif vcat2 a then none else f r | _ => none) else
  bif Nat.beq op 12 then (match st with | a :: b :: r => bif vcat2 a then none else bif vcat2 b then none else f (a :: b :: a :: r) | _ => none) else
  bif Nat.beq op 13 then (match st with | a :: b :: c :: r => bif vcat2 a then none else bif vcat2 b then none else bif vcat2 c then none else f (a :: b :: c :: a :: r) | _ => none) else
  bif Nat.beq op 14 then (match st with | a :: r => bif vcat2 a then f (a :: a :: r) else (match r with | b :: r => bif vcat2 b then none else f (a :: b :: a :: b :: r) | _ => none) | _ => none) else
  bif Nat.beq op 15 then (match st with | a :: b :: r => bif vcat2 a then (bif vcat2 b then none else f (a :: b :: a :: r)) else none | _ => none) else
  bif Nat.beq op 16 then (match st with | a :: b :: c :: r => bif vcat2 a then (bif vcat2 b then none else bif vcat2 c then none else f (a :: b :: c :: a :: r)) else none | _ => none) else
  (match st with | a :: r => bif vcat2 a then f r else (match r with | b :: r => bif vcat2 b then none else f r | _ => none) | _ => none)
/-- a boolean is 0 or 1 -/
def vokb (t : Nat) (v : Int) (f : vR) : vR := bif Nat.beq t 3 then (if 0 ≤ v ∧ v ≤ 1 then f else none) else f
def vtg (t : Nat) : Nat := bif Nat.beq t 3 then 0 else t
/-- an array of n arrays of m: the outer one first -/
def vnwm (w : vW) (ko ki : Nat) (n m : Int) : vW := (fun b => if b = w.2.1 then (ko, n, fun j => w.2.1 + 1 + j) else if w.2.1 < b ∧ b ≤ w.2.1 + n then (ki, m, fun _ => 0) else w.1 b, w.2.1 + 1 + n, w.2.2.1 + 1 + n.toNat, w.2.2.2 + n.toNat + n.toNat * m.toNat)
/-- an exception's cell has no name -/
def vxw (w : vW) : vW := (w.1, w.2.1, w.2.2.1 + 1, w.2.2.2 + 6)
/-- n numbers of one row into another (unlike) one -/
def vcpw (w : vW) (a i b j n : Int) : vW := (fun q => if q = b then (vkd w b, vln w b, fun k => if j ≤ k ∧ k < j + n then vct w a (k - j + i) else vct w b k) else w.1 q, w.2)
/-- all but calls, ends and throws -/
noncomputable def vgo (k : vK) (op nx p q : Nat) (z : Int) (ls st : List vV) (w : vW) : vR :=
  bif Nat.blt op 10 then
    bif Nat.beq op 1 then k nx ls ((p, z) :: st) w else
    bif Nat.beq op 2 then (bif Nat.beq (vlg ls q).1 p then k nx ls ((p, (vlg ls q).2) :: st) w else none) else
    bif Nat.beq op 3 then v1 p st (fun x r => vsto ls p q z x (fun l => k nx l r w)) else
    bif Nat.beq op 4 then (bif Nat.beq (vlg ls q).1 0 then k nx (vlset ls (0, w32 ((vlg ls q).2 + z)) q) st w else none) else
    bif Nat.beq op 5 then v2 0 0 st (fun x y r => v_ib p x y (fun v => k nx ls ((0, v) :: r) w)) else
    bif Nat.beq op 6 then v2 1 1 st (fun x y r => v_lb p x y (fun v => k nx ls ((1, v) :: r) w)) else
    bif Nat.beq op 7 then v2 1 0 st (fun x y r => v_ls p x y (fun v => k nx ls ((1, v) :: r) w)) else
    bif Nat.beq op 8 then v_un p st (fun v r => k nx ls (v :: r) w) else
    bif Nat.beq op 9 then v2 1 1 st (fun x y r => k nx ls ((0, vlc x y) :: r) w) else none
  else bif Nat.blt op 18 then vstk op st (fun r => k nx ls r w)
  else bif Nat.blt op 20 then
    bif Nat.beq op 18 then v2 0 0 st (fun x y r => if y = 0 then none else v_dv p x y (fun v => k nx ls ((0, v) :: r) w)) else
    v2 1 1 st (fun x y r => if y = 0 then none else v_dv (bif Nat.beq p 0 then 2 else 1) x y (fun v => k nx ls ((1, v) :: r) w))
  else bif Nat.blt op 30 then
    bif Nat.beq op 20 then v1 0 st (fun x r => vbr (fun pc => k pc ls r w) p q nx x 0) else
    bif Nat.beq op 21 then v2 0 0 st (fun x y r => vbr (fun pc => k pc ls r w) p q nx x y) else
    bif Nat.beq op 22 then v1 2 st (fun x r => vbr (fun pc => k pc ls r w) p q nx x (-1)) else
    bif Nat.beq op 23 then v2 2 2 st (fun x y r => vbr (fun pc => k pc ls r w) p q nx x y) else
    bif Nat.beq op 24 then k q ls st w else
    bif Nat.beq op 25 then v1 0 st (fun x r => k (vswt p x) ls r w) else none
  else bif Nat.blt op 40 then
    bif Nat.beq op 30 then v1 2 st (fun a r => if vkd w a = p then k nx ls ((z.toNat, vct w a q) :: r) w else none) else
    bif Nat.beq op 31 then v2 2 (vtg z.toNat) st (fun a v r => vokb z.toNat v (if vkd w a = p then k nx ls r (vsv w a q v) else none)) else
    bif Nat.beq op 32 then v2 2 0 st (fun a i r => if vkd w a = p ∧ 0 ≤ i ∧ i < vln w a then k nx ls ((vtg q, vct w a i) :: r) w else none) else
    bif Nat.beq op 33 then v3 2 0 (vtg q) st (fun a i v r => vokb q v (if vkd w a = p ∧ 0 ≤ i ∧ i < vln w a then k nx ls r (vsv w a i v) else none)) else
    bif Nat.beq op 34 then v1 2 st (fun a r => if vkd w a = p then k nx ls ((0, vln w a) :: r) w else none) else
    bif Nat.beq op 35 then v1 0 st (fun n r => if 0 ≤ n ∧ n ≤ 1000000 then k nx ls ((2, vnt w) :: r) (vnw w p n (fun _ => 0) n.toNat) else none) else
    bif Nat.beq op 36 then k nx ls ((2, vnt w) :: st) (vnw w p q (vdfl p) q) else
    bif Nat.beq op 37 then v1 0 st (fun n r => if 0 ≤ n ∧ n ≤ 1000000 then k nx ls ((2, vnt w) :: r) (vnw w p n (fun _ => -1) n.toNat) else none) else
    bif Nat.beq op 38 then v2 0 0 st (fun n m r => if 0 ≤ n ∧ n ≤ 1000 ∧ 0 ≤ m ∧ m ≤ 1000 then k nx ls ((2, vnt w) :: r) (vnwm w p q n m) else none) else
    -- 39: a reference into a row of references: q is the kind of what it refers to
    bif Nat.beq op 39 then v3 2 0 2 st (fun a i v r => if vkd w a = p ∧ 0 ≤ i ∧ i < vln w a ∧ vkd w v = q then k nx ls r (vsv w a i v) else none) else none
  else
    bif Nat.beq op 42 then v_mm p st (fun v r => bif Nat.ble (vcs r) 8 then k nx ls (v :: r) w else none) else
    bif Nat.beq op 44 then (match st with
      | n :: j :: b :: i :: a :: r => bif Nat.beq n.1 0 then bif Nat.beq j.1 0 then bif Nat.beq b.1 2 then bif Nat.beq i.1 0 then bif Nat.beq a.1 2 then
          (if vkd w a.2 = p ∧ vkd w b.2 = p ∧ a.2 ≠ b.2 ∧ 0 ≤ i.2 ∧ 0 ≤ j.2 ∧ 0 ≤ n.2 ∧ i.2 + n.2 ≤ vln w a.2 ∧ j.2 + n.2 ≤ vln w b.2 then (bif Nat.ble (vcs r) 8 then k nx ls r (vcpw w a.2 i.2 b.2 j.2 n.2) else none) else none) else none else none else none else none else none
      | _ => none) else
    bif Nat.beq op 45 then v1 2 st (fun a r => if vkd w a ≠ 0 then (bif Nat.ble (vcs r) 8 then k nx ls r w else none) else none) else none
/-- room for a call: what stays on the stack, the arguments in their locals -/
noncomputable def vfit (p q : Nat) (st : List vV) : Bool := Nat.ble (vcs (st.drop q)) 8 && Nat.ble (vflat (st.take q)).length (vnl p) && Nat.beq (st.take q).length q
noncomputable def vclr (ih : Nat → Nat → Nat → List vV → List vV → vW → vR) (d M nx p q : Nat) (z : Int) (ls st : List vV) (w : vW) : vR := match d with
  | 0 => none
  | d + 1 => bif vfit p q st then (match ih d p 0 (vent (vnl p) (st.take q).reverse) [] w with
    | some (f, r, w1) => bif Nat.beq f 0 then ih (d + 1) M nx ls (bif Nat.beq z.toNat 9 then st.drop q else (z.toNat, r) :: st.drop q) w1 else none
    | none => none) else none
/-- a call that may throw: then on at the handler, vswt p 0 -/
noncomputable def vclxr (ih : Nat → Nat → Nat → List vV → List vV → vW → vR) (d M nx p q : Nat) (z : Int) (ls st : List vV) (w : vW) : vR := match d with
  | 0 => none
  | d + 1 => bif vfit p q st then (match ih d p 0 (vent (vnl p) (st.take q).reverse) [] w with
    | some (f, r, w1) => bif Nat.beq f 0 then ih (d + 1) M nx ls (bif Nat.beq z.toNat 9 then st.drop q else (z.toNat, r) :: st.drop q) w1 else ih (d + 1) M (vhdl p) ls [(5, 0)] w1
    | none => none) else none
/-- the receiver is there, and of the method's class -/
noncomputable def vrec (p q : Nat) (st : List vV) (w : vW) (f : vR) : vR := bif Nat.beq (vrk p) 0 then f else bif Nat.beq (vlg st (q - 1)).1 2 then (if vkd w (vlg st (q - 1)).2 = vrk p then f else none) else none
noncomputable def vcl (ih : Nat → Nat → Nat → List vV → List vV → vW → vR) (d M nx p q : Nat) (z : Int) (ls st : List vV) (w : vW) : vR := vrec p q st w (vclr ih d M nx p q z ls st w)
noncomputable def vclx (ih : Nat → Nat → Nat → List vV → List vV → vW → vR) (d M nx p q : Nat) (z : Int) (ls st : List vV) (w : vW) : vR := vrec p q st w (vclxr ih d M nx p q z ls st w)
def vrt (p : Nat) (st : List vV) (w : vW) : vR := match st with
  | [] => bif Nat.beq p 9 then some (0, 0, w) else none
  | [y] => bif Nat.beq p 9 then none else bif Nat.beq y.1 (vtg p) then vokb p y.2 (some (0, y.2, w)) else none
  | _ => none
/-- new X(), thrown: nothing else on the stack -/
def vth (st : List vV) (w : vW) : vR := match st with
  | [] => some (1, 0, vxw w)
  | _ :: _ => none
noncomputable def vst (ih : Nat → Nat → Nat → List vV → List vV → vW → vR) (d M pc : Nat) (ls st : List vV) (w : vW) : vR := match pg M pc with
  | (op, nx, p, q, z) =>
    bif Nat.beq op 40 then vcl ih d M nx p q z ls st w else
    bif Nat.beq op 41 then vrt p st w else
    bif Nat.beq op 46 then vclx ih d M nx p q z ls st w else
    bif Nat.beq op 50 then vth st w else
    vgo (ih d M) op nx p q z ls st w
noncomputable def vrun (n : Nat) : Nat → Nat → Nat → List vV → List vV → vW → vR := Nat.rec (fun _ _ _ _ _ _ => none) (fun _ ih d M pc ls st w => vst ih d M pc ls st w) n
