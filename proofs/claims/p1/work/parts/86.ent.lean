/-! entries of methods; what a world's cells are behind a store -/
theorem e0 {d : Nat} {w : vW} {x0 : Int} {Q : Int → vW → Prop} : VC (d + 1) 0 [(2, x0)] w Q ↔ VW d 0 0 [(2, x0)] [] w Q := Iff.rfl
theorem e1 {d : Nat} {w : vW} {x0 x1 : Int} {Q : Int → vW → Prop} : VC (d + 1) 1 [(2, x0), (0, x1)] w Q ↔ VW d 1 0 [(2, x0), (0, x1)] [] w Q := Iff.rfl
theorem e2 {d : Nat} {w : vW} {x0 x1 : Int} {Q : Int → vW → Prop} : VC (d + 1) 2 [(2, x0), (0, x1)] w Q ↔ VW d 2 0 [(2, x0), (0, x1)] [] w Q := Iff.rfl
theorem e3 {d : Nat} {w : vW} {x0 : Int} {Q : Int → vW → Prop} : VC (d + 1) 3 [(2, x0)] w Q ↔ VW d 3 0 [(2, x0), (9, 0)] [] w Q := Iff.rfl
theorem e4 {d : Nat} {w : vW} {x0 : Int} {Q : Int → vW → Prop} : VC (d + 1) 4 [(2, x0)] w Q ↔ VW d 4 0 [(2, x0), (9, 0), (9, 0), (9, 0), (9, 0)] [] w Q := Iff.rfl
theorem e5 {d : Nat} {w : vW} {x0 x1 : Int} {Q : Int → vW → Prop} : VC (d + 1) 5 [(2, x0), (1, x1)] w Q ↔ VW d 5 0 [(2, x0), (1, x1), (9, 0), (9, 0), (9, 0)] [] w Q := Iff.rfl
theorem e6 {d : Nat} {w : vW} {x0 x1 : Int} {Q : Int → vW → Prop} : VC (d + 1) 6 [(2, x0), (1, x1)] w Q ↔ VW d 6 0 [(2, x0), (1, x1), (9, 0)] [] w Q := Iff.rfl
theorem e7 {d : Nat} {w : vW} {x0 x1 x2 : Int} {Q : Int → vW → Prop} : VC (d + 1) 7 [(2, x0), (0, x1), (0, x2)] w Q ↔ VW d 7 0 [(2, x0), (0, x1), (0, x2)] [] w Q := Iff.rfl
theorem e8 {d : Nat} {w : vW} {x0 x1 x2 : Int} {Q : Int → vW → Prop} : VC (d + 1) 8 [(2, x0), (0, x1), (0, x2)] w Q ↔ VW d 8 0 [(2, x0), (0, x1), (0, x2), (9, 0)] [] w Q := Iff.rfl
theorem e9 {d : Nat} {w : vW} {x0 x1 x2 x3 x4 : Int} {Q : Int → vW → Prop} : VC (d + 1) 9 [(2, x0), (0, x1), (0, x2), (0, x3), (0, x4)] w Q ↔ VW d 9 0 [(2, x0), (0, x1), (0, x2), (0, x3), (0, x4), (9, 0), (9, 0), (9, 0), (9, 0)] [] w Q := Iff.rfl
theorem e10 {d : Nat} {w : vW} {x0 x1 : Int} {Q : Int → vW → Prop} : VC (d + 1) 10 [(0, x0), (0, x1)] w Q ↔ VW d 10 0 [(0, x0), (0, x1)] [] w Q := Iff.rfl
theorem e11 {d : Nat} {w : vW} {x0 x1 : Int} {Q : Int → vW → Prop} : VC (d + 1) 11 [(2, x0), (0, x1)] w Q ↔ VW d 11 0 [(2, x0), (0, x1), (9, 0)] [] w Q := Iff.rfl
theorem e12 {d : Nat} {w : vW} {x0 x1 x2 : Int} {Q : Int → vW → Prop} : VC (d + 1) 12 [(2, x0), (0, x1), (0, x2)] w Q ↔ VW d 12 0 [(2, x0), (0, x1), (0, x2)] [] w Q := Iff.rfl
theorem e13 {d : Nat} {w : vW} {x0 x1 : Int} {Q : Int → vW → Prop} : VC (d + 1) 13 [(2, x0), (0, x1)] w Q ↔ VW d 13 0 [(2, x0), (0, x1), (9, 0)] [] w Q := Iff.rfl
theorem e14 {d : Nat} {w : vW} {x0 x1 : Int} {Q : Int → vW → Prop} : VC (d + 1) 14 [(2, x0), (0, x1)] w Q ↔ VW d 14 0 [(2, x0), (0, x1), (9, 0)] [] w Q := Iff.rfl
theorem e15 {d : Nat} {w : vW} {x0 : Int} {Q : Int → vW → Prop} : VC (d + 1) 15 [(2, x0)] w Q ↔ VW d 15 0 [(2, x0), (9, 0)] [] w Q := Iff.rfl
theorem e16 {d : Nat} {w : vW} {x0 x1 x2 : Int} {Q : Int → vW → Prop} : VC (d + 1) 16 [(2, x0), (0, x1), (0, x2)] w Q ↔ VW d 16 0 [(2, x0), (0, x1), (0, x2), (9, 0), (9, 0), (9, 0)] [] w Q := Iff.rfl
theorem e17 {d : Nat} {w : vW} {x0 : Int} {Q : Int → vW → Prop} : VC (d + 1) 17 [(2, x0)] w Q ↔ VW d 17 0 [(2, x0)] [] w Q := Iff.rfl
theorem e18 {d : Nat} {w : vW} {x0 : Int} {Q : Int → vW → Prop} : VC (d + 1) 18 [(2, x0)] w Q ↔ VW d 18 0 [(2, x0)] [] w Q := Iff.rfl
theorem e19 {d : Nat} {w : vW} {x0 : Int} {Q : Int → vW → Prop} : VC (d + 1) 19 [(2, x0)] w Q ↔ VW d 19 0 [(2, x0), (9, 0), (9, 0), (9, 0)] [] w Q := Iff.rfl
theorem e20 {d : Nat} {w : vW} {x0 x1 x2 x3 : Int} {Q : Int → vW → Prop} : VC (d + 1) 20 [(2, x0), (0, x1), (0, x2), (0, x3)] w Q ↔ VW d 20 0 [(2, x0), (0, x1), (0, x2), (0, x3), (9, 0), (9, 0), (9, 0), (9, 0), (9, 0), (9, 0), (9, 0)] [] w Q := Iff.rfl
theorem e21 {d : Nat} {w : vW} {x0 : Int} {Q : Int → vW → Prop} : VC (d + 1) 21 [(2, x0)] w Q ↔ VW d 21 0 [(2, x0), (9, 0)] [] w Q := Iff.rfl
theorem e22 {d : Nat} {w : vW} {x0 x1 : Int} {Q : Int → vW → Prop} : VC (d + 1) 22 [(2, x0), (0, x1)] w Q ↔ VW d 22 0 [(2, x0), (0, x1), (9, 0), (9, 0), (9, 0)] [] w Q := Iff.rfl
theorem e23 {d : Nat} {w : vW} {x0 x1 : Int} {Q : Int → vW → Prop} : VC (d + 1) 23 [(2, x0), (1, x1)] w Q ↔ VW d 23 0 [(2, x0), (1, x1), (9, 0), (9, 0), (9, 0), (9, 0), (9, 0), (9, 0), (9, 0)] [] w Q := Iff.rfl
theorem e24 {d : Nat} {w : vW} {x0 x1 : Int} {Q : Int → vW → Prop} : VC (d + 1) 24 [(2, x0), (1, x1)] w Q ↔ VW d 24 0 [(2, x0), (1, x1), (9, 0), (9, 0), (9, 0), (9, 0), (9, 0)] [] w Q := Iff.rfl
theorem e25 {d : Nat} {w : vW} {x0 : Int} {Q : Int → vW → Prop} : VC (d + 1) 25 [(2, x0)] w Q ↔ VW d 25 0 [(2, x0), (9, 0), (9, 0), (9, 0), (9, 0), (9, 0), (9, 0), (9, 0)] [] w Q := Iff.rfl
theorem e26 {d : Nat} {w : vW} {x0 x1 x2 : Int} {Q : Int → vW → Prop} : VC (d + 1) 26 [(2, x0), (1, x1), (1, x2)] w Q ↔ VW d 26 0 [(2, x0), (1, x1), (9, 0), (1, x2), (9, 0), (9, 0), (9, 0), (9, 0), (9, 0), (9, 0), (9, 0)] [] w Q := Iff.rfl
theorem e27 {d : Nat} {w : vW} {x0 x1 x2 x3 : Int} {Q : Int → vW → Prop} : VC (d + 1) 27 [(2, x0), (1, x1), (1, x2), (0, x3)] w Q ↔ VW d 27 0 [(2, x0), (1, x1), (9, 0), (1, x2), (9, 0), (0, x3), (9, 0), (9, 0)] [] w Q := Iff.rfl
theorem e28 {d : Nat} {w : vW} {x0 : Int} {Q : Int → vW → Prop} : VC (d + 1) 28 [(2, x0)] w Q ↔ VW d 28 0 [(2, x0), (9, 0), (9, 0), (9, 0), (9, 0), (9, 0), (9, 0)] [] w Q := Iff.rfl
theorem e29 {d : Nat} {w : vW} {x0 x1 : Int} {Q : Int → vW → Prop} : VC (d + 1) 29 [(2, x0), (0, x1)] w Q ↔ VW d 29 0 [(2, x0), (0, x1), (9, 0), (9, 0), (9, 0)] [] w Q := Iff.rfl
theorem e30 {d : Nat} {w : vW} {x0 : Int} {Q : Int → vW → Prop} : VC (d + 1) 30 [(2, x0)] w Q ↔ VW d 30 0 [(2, x0), (9, 0), (9, 0), (9, 0), (9, 0)] [] w Q := Iff.rfl
theorem e31 {d : Nat} {w : vW} {x0 : Int} {Q : Int → vW → Prop} : VC (d + 1) 31 [(2, x0)] w Q ↔ VW d 31 0 [(2, x0), (9, 0), (9, 0), (9, 0), (9, 0)] [] w Q := Iff.rfl
theorem e32 {d : Nat} {w : vW} {x0 : Int} {Q : Int → vW → Prop} : VC (d + 1) 32 [(2, x0)] w Q ↔ VW d 32 0 [(2, x0), (9, 0), (9, 0)] [] w Q := Iff.rfl
theorem e33 {d : Nat} {w : vW} {x0 x1 : Int} {Q : Int → vW → Prop} : VC (d + 1) 33 [(2, x0), (0, x1)] w Q ↔ VW d 33 0 [(2, x0), (0, x1), (9, 0), (9, 0), (9, 0)] [] w Q := Iff.rfl
theorem e34 {d : Nat} {w : vW} {x0 x1 x2 : Int} {Q : Int → vW → Prop} : VC (d + 1) 34 [(2, x0), (1, x1), (1, x2)] w Q ↔ VW d 34 0 [(2, x0), (1, x1), (9, 0), (1, x2), (9, 0), (9, 0), (9, 0), (9, 0), (9, 0), (9, 0), (9, 0), (9, 0), (9, 0), (9, 0)] [] w Q := Iff.rfl
theorem e35 {d : Nat} {w : vW} {x0 x1 x2 x3 : Int} {Q : Int → vW → Prop} : VC (d + 1) 35 [(2, x0), (1, x1), (1, x2), (0, x3)] w Q ↔ VW d 35 0 [(2, x0), (1, x1), (9, 0), (1, x2), (9, 0), (0, x3), (9, 0), (9, 0), (9, 0), (9, 0), (9, 0), (9, 0), (9, 0), (9, 0)] [] w Q := Iff.rfl
theorem e36 {d : Nat} {w : vW} {x0 x1 x2 x3 : Int} {Q : Int → vW → Prop} : VC (d + 1) 36 [(2, x0), (0, x1), (0, x2), (1, x3)] w Q ↔ VW d 36 0 [(2, x0), (0, x1), (0, x2), (1, x3), (9, 0), (9, 0), (9, 0), (9, 0), (9, 0), (9, 0)] [] w Q := Iff.rfl
theorem e37 {d : Nat} {w : vW} {x0 x1 x2 : Int} {Q : Int → vW → Prop} : VC (d + 1) 37 [(2, x0), (0, x1), (1, x2)] w Q ↔ VW d 37 0 [(2, x0), (0, x1), (1, x2), (9, 0), (9, 0), (9, 0), (9, 0), (9, 0)] [] w Q := Iff.rfl
theorem e38 {d : Nat} {w : vW} {x0 x1 x2 : Int} {Q : Int → vW → Prop} : VC (d + 1) 38 [(2, x0), (0, x1), (0, x2)] w Q ↔ VW d 38 0 [(2, x0), (0, x1), (0, x2), (9, 0), (9, 0), (9, 0), (9, 0)] [] w Q := Iff.rfl
theorem e39 {d : Nat} {w : vW} {x0 x1 : Int} {Q : Int → vW → Prop} : VC (d + 1) 39 [(2, x0), (0, x1)] w Q ↔ VW d 39 0 [(2, x0), (0, x1)] [] w Q := Iff.rfl
theorem e40 {d : Nat} {w : vW} {x0 x1 x2 : Int} {Q : Int → vW → Prop} : VC (d + 1) 40 [(2, x0), (0, x1), (0, x2)] w Q ↔ VW d 40 0 [(2, x0), (0, x1), (0, x2), (9, 0), (9, 0), (9, 0)] [] w Q := Iff.rfl
theorem e41 {d : Nat} {w : vW} {x0 x1 : Int} {Q : Int → vW → Prop} : VC (d + 1) 41 [(2, x0), (0, x1)] w Q ↔ VW d 41 0 [(2, x0), (0, x1), (9, 0), (9, 0), (9, 0)] [] w Q := Iff.rfl
theorem e42 {d : Nat} {w : vW} {x0 x1 x2 : Int} {Q : Int → vW → Prop} : VC (d + 1) 42 [(2, x0), (0, x1), (0, x2)] w Q ↔ VW d 42 0 [(2, x0), (0, x1), (0, x2)] [] w Q := Iff.rfl
theorem e43 {d : Nat} {w : vW} {x0 x1 : Int} {Q : Int → vW → Prop} : VC (d + 1) 43 [(2, x0), (0, x1)] w Q ↔ VW d 43 0 [(2, x0), (0, x1), (9, 0)] [] w Q := Iff.rfl
theorem e44 {d : Nat} {w : vW} {x0 x1 : Int} {Q : Int → vW → Prop} : VC (d + 1) 44 [(2, x0), (0, x1)] w Q ↔ VW d 44 0 [(2, x0), (0, x1)] [] w Q := Iff.rfl
theorem e45 {d : Nat} {w : vW} {x0 x1 : Int} {Q : Int → vW → Prop} : VC (d + 1) 45 [(2, x0), (0, x1)] w Q ↔ VW d 45 0 [(2, x0), (0, x1)] [] w Q := Iff.rfl
theorem e46 {d : Nat} {w : vW} {x0 x1 : Int} {Q : Int → vW → Prop} : VC (d + 1) 46 [(2, x0), (0, x1)] w Q ↔ VW d 46 0 [(2, x0), (0, x1)] [] w Q := Iff.rfl
theorem e47 {d : Nat} {w : vW} {x0 : Int} {Q : Int → vW → Prop} : VC (d + 1) 47 [(2, x0)] w Q ↔ VW d 47 0 [(2, x0)] [] w Q := Iff.rfl
theorem e48 {d : Nat} {w : vW} {x0 x1 : Int} {Q : Int → vW → Prop} : VC (d + 1) 48 [(2, x0), (0, x1)] w Q ↔ VW d 48 0 [(2, x0), (0, x1)] [] w Q := Iff.rfl
theorem e49 {d : Nat} {w : vW} {x0 : Int} {Q : Int → vW → Prop} : VC (d + 1) 49 [(2, x0)] w Q ↔ VW d 49 0 [(2, x0)] [] w Q := Iff.rfl
theorem e50 {d : Nat} {w : vW} {x0 : Int} {Q : Int → vW → Prop} : VC (d + 1) 50 [(2, x0)] w Q ↔ VW d 50 0 [(2, x0)] [] w Q := Iff.rfl
theorem e51 {d : Nat} {w : vW} {x0 : Int} {Q : Int → vW → Prop} : VC (d + 1) 51 [(2, x0)] w Q ↔ VW d 51 0 [(2, x0)] [] w Q := Iff.rfl
theorem e52 {d : Nat} {w : vW} {x0 : Int} {Q : Int → vW → Prop} : VC (d + 1) 52 [(2, x0)] w Q ↔ VW d 52 0 [(2, x0)] [] w Q := Iff.rfl
theorem e53 {d : Nat} {w : vW} {x0 x1 x2 : Int} {Q : Int → vW → Prop} : VC (d + 1) 53 [(2, x0), (0, x1), (0, x2)] w Q ↔ VW d 53 0 [(2, x0), (0, x1), (0, x2), (9, 0)] [] w Q := Iff.rfl
theorem e54 {d : Nat} {w : vW} {x0 : Int} {Q : Int → vW → Prop} : VC (d + 1) 54 [(2, x0)] w Q ↔ VW d 54 0 [(2, x0)] [] w Q := Iff.rfl
theorem e55 {d : Nat} {w : vW} {x0 : Int} {Q : Int → vW → Prop} : VC (d + 1) 55 [(2, x0)] w Q ↔ VW d 55 0 [(2, x0)] [] w Q := Iff.rfl
theorem e56 {d : Nat} {w : vW} {x0 x1 x2 : Int} {Q : Int → vW → Prop} : VC (d + 1) 56 [(1, x0), (1, x1), (1, x2)] w Q ↔ VW d 56 0 [(1, x0), (9, 0), (1, x1), (9, 0), (1, x2), (9, 0)] [] w Q := Iff.rfl
theorem e57 {d : Nat} {w : vW} {x0 : Int} {Q : Int → vW → Prop} : VC (d + 1) 57 [(0, x0)] w Q ↔ VW d 57 0 [(0, x0)] [] w Q := Iff.rfl
theorem e58 {d : Nat} {w : vW} {x0 x1 : Int} {Q : Int → vW → Prop} : VC (d + 1) 58 [(2, x0), (1, x1)] w Q ↔ VW d 58 0 [(2, x0), (1, x1), (9, 0)] [] w Q := Iff.rfl
theorem e59 {d : Nat} {w : vW} {x0 : Int} {Q : Int → vW → Prop} : VC (d + 1) 59 [(2, x0)] w Q ↔ VW d 59 0 [(2, x0), (9, 0)] [] w Q := Iff.rfl
theorem e60 {d : Nat} {w : vW} {x0 x1 : Int} {Q : Int → vW → Prop} : VC (d + 1) 60 [(2, x0), (1, x1)] w Q ↔ VW d 60 0 [(2, x0), (1, x1), (9, 0), (9, 0)] [] w Q := Iff.rfl
theorem e61 {d : Nat} {w : vW} {x0 x1 : Int} {Q : Int → vW → Prop} : VC (d + 1) 61 [(2, x0), (1, x1)] w Q ↔ VW d 61 0 [(2, x0), (1, x1), (9, 0), (9, 0), (9, 0), (9, 0)] [] w Q := Iff.rfl
theorem e62 {d : Nat} {w : vW} {x0 x1 : Int} {Q : Int → vW → Prop} : VC (d + 1) 62 [(2, x0), (0, x1)] w Q ↔ VW d 62 0 [(2, x0), (0, x1), (9, 0)] [] w Q := Iff.rfl
theorem e63 {d : Nat} {w : vW} {x0 x1 : Int} {Q : Int → vW → Prop} : VC (d + 1) 63 [(2, x0), (0, x1)] w Q ↔ VW d 63 0 [(2, x0), (0, x1)] [] w Q := Iff.rfl
theorem e64 {d : Nat} {w : vW} {x0 : Int} {Q : Int → vW → Prop} : VC (d + 1) 64 [(2, x0)] w Q ↔ VW d 64 0 [(2, x0), (9, 0)] [] w Q := Iff.rfl
theorem e65 {d : Nat} {w : vW} {x0 x1 : Int} {Q : Int → vW → Prop} : VC (d + 1) 65 [(2, x0), (0, x1)] w Q ↔ VW d 65 0 [(2, x0), (0, x1), (9, 0)] [] w Q := Iff.rfl
theorem e66 {d : Nat} {w : vW} {x0 : Int} {Q : Int → vW → Prop} : VC (d + 1) 66 [(2, x0)] w Q ↔ VW d 66 0 [(2, x0)] [] w Q := Iff.rfl
theorem e67 {d : Nat} {w : vW} {x0 x1 : Int} {Q : Int → vW → Prop} : VC (d + 1) 67 [(2, x0), (0, x1)] w Q ↔ VW d 67 0 [(2, x0), (0, x1), (9, 0), (9, 0), (9, 0)] [] w Q := Iff.rfl
theorem e68 {d : Nat} {w : vW} {x0 x1 x2 : Int} {Q : Int → vW → Prop} : VC (d + 1) 68 [(2, x0), (0, x1), (0, x2)] w Q ↔ VW d 68 0 [(2, x0), (0, x1), (0, x2), (9, 0)] [] w Q := Iff.rfl
theorem e69 {d : Nat} {w : vW} {x0 x1 x2 x3 : Int} {Q : Int → vW → Prop} : VC (d + 1) 69 [(2, x0), (0, x1), (1, x2), (1, x3)] w Q ↔ VW d 69 0 [(2, x0), (0, x1), (1, x2), (9, 0), (1, x3), (9, 0)] [] w Q := Iff.rfl
theorem e70 {d : Nat} {w : vW} {x0 : Int} {Q : Int → vW → Prop} : VC (d + 1) 70 [(2, x0)] w Q ↔ VW d 70 0 [(2, x0), (9, 0), (9, 0), (9, 0), (9, 0)] [] w Q := Iff.rfl
theorem e71 {d : Nat} {w : vW} {x0 : Int} {Q : Int → vW → Prop} : VC (d + 1) 71 [(2, x0)] w Q ↔ VW d 71 0 [(2, x0), (9, 0), (9, 0), (9, 0), (9, 0), (9, 0), (9, 0)] [] w Q := Iff.rfl
theorem e72 {d : Nat} {w : vW} {x0 x1 : Int} {Q : Int → vW → Prop} : VC (d + 1) 72 [(2, x0), (1, x1)] w Q ↔ VW d 72 0 [(2, x0), (1, x1), (9, 0)] [] w Q := Iff.rfl
theorem e73 {d : Nat} {w : vW} {x0 : Int} {Q : Int → vW → Prop} : VC (d + 1) 73 [(2, x0)] w Q ↔ VW d 73 0 [(2, x0), (9, 0), (9, 0), (9, 0), (9, 0)] [] w Q := Iff.rfl
theorem e74 {d : Nat} {w : vW} {x0 x1 : Int} {Q : Int → vW → Prop} : VC (d + 1) 74 [(2, x0), (1, x1)] w Q ↔ VW d 74 0 [(2, x0), (1, x1), (9, 0)] [] w Q := Iff.rfl
theorem e75 {d : Nat} {w : vW} {x0 x1 : Int} {Q : Int → vW → Prop} : VC (d + 1) 75 [(2, x0), (1, x1)] w Q ↔ VW d 75 0 [(2, x0), (1, x1), (9, 0), (9, 0), (9, 0), (9, 0)] [] w Q := Iff.rfl
theorem e76 {d : Nat} {w : vW} {x0 x1 x2 : Int} {Q : Int → vW → Prop} : VC (d + 1) 76 [(2, x0), (0, x1), (0, x2)] w Q ↔ VW d 76 0 [(2, x0), (0, x1), (0, x2)] [] w Q := Iff.rfl
theorem e77 {d : Nat} {w : vW} {x0 x1 x2 : Int} {Q : Int → vW → Prop} : VC (d + 1) 77 [(2, x0), (0, x1), (0, x2)] w Q ↔ VW d 77 0 [(2, x0), (0, x1), (0, x2), (9, 0)] [] w Q := Iff.rfl
theorem e78 {d : Nat} {w : vW} {x0 x1 x2 x3 x4 : Int} {Q : Int → vW → Prop} : VC (d + 1) 78 [(2, x0), (0, x1), (0, x2), (0, x3), (0, x4)] w Q ↔ VW d 78 0 [(2, x0), (0, x1), (0, x2), (0, x3), (0, x4), (9, 0), (9, 0), (9, 0), (9, 0)] [] w Q := Iff.rfl
theorem e79 {d : Nat} {w : vW} {x0 x1 : Int} {Q : Int → vW → Prop} : VC (d + 1) 79 [(2, x0), (0, x1)] w Q ↔ VW d 79 0 [(2, x0), (0, x1), (9, 0)] [] w Q := Iff.rfl
theorem e80 {d : Nat} {w : vW} {x0 x1 x2 : Int} {Q : Int → vW → Prop} : VC (d + 1) 80 [(2, x0), (0, x1), (0, x2)] w Q ↔ VW d 80 0 [(2, x0), (0, x1), (0, x2), (9, 0), (9, 0), (9, 0), (9, 0)] [] w Q := Iff.rfl
theorem e81 {d : Nat} {w : vW} {x0 x1 x2 x3 x4 x5 : Int} {Q : Int → vW → Prop} : VC (d + 1) 81 [(2, x0), (1, x1), (0, x2), (1, x3), (0, x4), (0, x5)] w Q ↔ VW d 81 0 [(2, x0), (1, x1), (9, 0), (0, x2), (1, x3), (9, 0), (0, x4), (0, x5), (9, 0)] [] w Q := Iff.rfl
theorem e82 {d : Nat} {w : vW} {x0 x1 x2 x3 x4 x5 x6 : Int} {Q : Int → vW → Prop} : VC (d + 1) 82 [(2, x0), (1, x1), (0, x2), (0, x3), (0, x4), (1, x5), (0, x6)] w Q ↔ VW d 82 0 [(2, x0), (1, x1), (9, 0), (0, x2), (0, x3), (0, x4), (1, x5), (9, 0), (0, x6), (9, 0)] [] w Q := Iff.rfl
theorem e83 {d : Nat} {w : vW} {x0 x1 x2 x3 : Int} {Q : Int → vW → Prop} : VC (d + 1) 83 [(2, x0), (1, x1), (0, x2), (0, x3)] w Q ↔ VW d 83 0 [(2, x0), (1, x1), (9, 0), (0, x2), (0, x3)] [] w Q := Iff.rfl
theorem e84 {d : Nat} {w : vW} {x0 x1 x2 x3 x4 : Int} {Q : Int → vW → Prop} : VC (d + 1) 84 [(2, x0), (1, x1), (0, x2), (0, x3), (0, x4)] w Q ↔ VW d 84 0 [(2, x0), (1, x1), (9, 0), (0, x2), (0, x3), (0, x4)] [] w Q := Iff.rfl
theorem e85 {d : Nat} {w : vW} {x0 x1 x2 x3 : Int} {Q : Int → vW → Prop} : VC (d + 1) 85 [(2, x0), (1, x1), (0, x2), (0, x3)] w Q ↔ VW d 85 0 [(2, x0), (1, x1), (9, 0), (0, x2), (0, x3), (9, 0), (9, 0), (9, 0)] [] w Q := Iff.rfl
theorem e86 {d : Nat} {w : vW} {x0 x1 x2 x3 x4 : Int} {Q : Int → vW → Prop} : VC (d + 1) 86 [(2, x0), (1, x1), (0, x2), (0, x3), (0, x4)] w Q ↔ VW d 86 0 [(2, x0), (1, x1), (9, 0), (0, x2), (0, x3), (0, x4)] [] w Q := Iff.rfl
theorem e87 {d : Nat} {w : vW} {x0 x1 : Int} {Q : Int → vW → Prop} : VC (d + 1) 87 [(2, x0), (1, x1)] w Q ↔ VW d 87 0 [(2, x0), (1, x1), (9, 0), (9, 0), (9, 0), (9, 0), (9, 0)] [] w Q := Iff.rfl
theorem e88 {d : Nat} {w : vW} {x0 x1 : Int} {Q : Int → vW → Prop} : VC (d + 1) 88 [(2, x0), (0, x1)] w Q ↔ VW d 88 0 [(2, x0), (0, x1)] [] w Q := Iff.rfl
theorem e89 {d : Nat} {w : vW} {x0 x1 : Int} {Q : Int → vW → Prop} : VC (d + 1) 89 [(2, x0), (1, x1)] w Q ↔ VW d 89 0 [(2, x0), (1, x1), (9, 0), (9, 0), (9, 0), (9, 0), (9, 0), (9, 0)] [] w Q := Iff.rfl
theorem e90 {d : Nat} {w : vW} {x0 x1 : Int} {Q : Int → vW → Prop} : VC (d + 1) 90 [(2, x0), (0, x1)] w Q ↔ VW d 90 0 [(2, x0), (0, x1), (9, 0), (9, 0)] [] w Q := Iff.rfl
theorem e91 {d : Nat} {w : vW} {x0 x1 : Int} {Q : Int → vW → Prop} : VC (d + 1) 91 [(2, x0), (0, x1)] w Q ↔ VW d 91 0 [(2, x0), (0, x1)] [] w Q := Iff.rfl
theorem e92 {d : Nat} {w : vW} {x0 x1 x2 : Int} {Q : Int → vW → Prop} : VC (d + 1) 92 [(2, x0), (0, x1), (0, x2)] w Q ↔ VW d 92 0 [(2, x0), (0, x1), (0, x2), (9, 0), (9, 0)] [] w Q := Iff.rfl
theorem e93 {d : Nat} {w : vW} {x0 : Int} {Q : Int → vW → Prop} : VC (d + 1) 93 [(2, x0)] w Q ↔ VW d 93 0 [(2, x0)] [] w Q := Iff.rfl
theorem e94 {d : Nat} {w : vW} {x0 : Int} {Q : Int → vW → Prop} : VC (d + 1) 94 [(2, x0)] w Q ↔ VW d 94 0 [(2, x0)] [] w Q := Iff.rfl
theorem e95 {d : Nat} {w : vW} {x0 : Int} {Q : Int → vW → Prop} : VC (d + 1) 95 [(2, x0)] w Q ↔ VW d 95 0 [(2, x0), (9, 0), (9, 0), (9, 0), (9, 0)] [] w Q := Iff.rfl
theorem e96 {d : Nat} {w : vW} {x0 x1 x2 x3 : Int} {Q : Int → vW → Prop} : VC (d + 1) 96 [(2, x0), (0, x1), (0, x2), (0, x3)] w Q ↔ VW d 96 0 [(2, x0), (0, x1), (0, x2), (0, x3), (9, 0), (9, 0), (9, 0), (9, 0), (9, 0), (9, 0), (9, 0)] [] w Q := Iff.rfl
theorem e97 {d : Nat} {w : vW} {x0 : Int} {Q : Int → vW → Prop} : VC (d + 1) 97 [(2, x0)] w Q ↔ VW d 97 0 [(2, x0), (9, 0)] [] w Q := Iff.rfl
theorem e98 {d : Nat} {w : vW} {x0 x1 : Int} {Q : Int → vW → Prop} : VC (d + 1) 98 [(2, x0), (1, x1)] w Q ↔ VW d 98 0 [(2, x0), (1, x1), (9, 0), (9, 0)] [] w Q := Iff.rfl
theorem e99 {d : Nat} {w : vW} {x0 x1 : Int} {Q : Int → vW → Prop} : VC (d + 1) 99 [(2, x0), (1, x1)] w Q ↔ VW d 99 0 [(2, x0), (1, x1), (9, 0), (9, 0)] [] w Q := Iff.rfl
theorem e100 {d : Nat} {w : vW} {x0 x1 : Int} {Q : Int → vW → Prop} : VC (d + 1) 100 [(2, x0), (1, x1)] w Q ↔ VW d 100 0 [(2, x0), (1, x1), (9, 0), (9, 0)] [] w Q := Iff.rfl
theorem e101 {d : Nat} {w : vW} {x0 x1 : Int} {Q : Int → vW → Prop} : VC (d + 1) 101 [(2, x0), (0, x1)] w Q ↔ VW d 101 0 [(2, x0), (0, x1)] [] w Q := Iff.rfl
theorem e102 {d : Nat} {w : vW} {x0 x1 : Int} {Q : Int → vW → Prop} : VC (d + 1) 102 [(2, x0), (1, x1)] w Q ↔ VW d 102 0 [(2, x0), (1, x1), (9, 0), (9, 0), (9, 0), (9, 0), (9, 0)] [] w Q := Iff.rfl
theorem e103 {d : Nat} {w : vW} {x0 x1 x2 : Int} {Q : Int → vW → Prop} : VC (d + 1) 103 [(2, x0), (0, x1), (0, x2)] w Q ↔ VW d 103 0 [(2, x0), (0, x1), (0, x2), (9, 0), (9, 0), (9, 0), (9, 0), (9, 0)] [] w Q := Iff.rfl
theorem e104 {d : Nat} {w : vW} {x0 : Int} {Q : Int → vW → Prop} : VC (d + 1) 104 [(2, x0)] w Q ↔ VW d 104 0 [(2, x0), (9, 0)] [] w Q := Iff.rfl
theorem e105 {d : Nat} {w : vW} {x0 x1 : Int} {Q : Int → vW → Prop} : VC (d + 1) 105 [(2, x0), (1, x1)] w Q ↔ VW d 105 0 [(2, x0), (1, x1), (9, 0), (9, 0), (9, 0), (9, 0), (9, 0), (9, 0), (9, 0), (9, 0), (9, 0), (9, 0)] [] w Q := Iff.rfl
theorem e106 {d : Nat} {w : vW} {x0 x1 : Int} {Q : Int → vW → Prop} : VC (d + 1) 106 [(2, x0), (1, x1)] w Q ↔ VW d 106 0 [(2, x0), (1, x1), (9, 0)] [] w Q := Iff.rfl
theorem e107 {d : Nat} {w : vW} {x0 : Int} {Q : Int → vW → Prop} : VC (d + 1) 107 [(2, x0)] w Q ↔ VW d 107 0 [(2, x0), (9, 0), (9, 0)] [] w Q := Iff.rfl
theorem e108 {d : Nat} {w : vW} {x0 x1 : Int} {Q : Int → vW → Prop} : VC (d + 1) 108 [(2, x0), (0, x1)] w Q ↔ VW d 108 0 [(2, x0), (0, x1), (9, 0), (9, 0)] [] w Q := Iff.rfl
theorem e109 {d : Nat} {w : vW} {x0 x1 : Int} {Q : Int → vW → Prop} : VC (d + 1) 109 [(2, x0), (1, x1)] w Q ↔ VW d 109 0 [(2, x0), (1, x1), (9, 0), (9, 0), (9, 0), (9, 0), (9, 0)] [] w Q := Iff.rfl
theorem e110 {d : Nat} {w : vW} {x0 x1 x2 : Int} {Q : Int → vW → Prop} : VC (d + 1) 110 [(2, x0), (1, x1), (0, x2)] w Q ↔ VW d 110 0 [(2, x0), (1, x1), (9, 0), (0, x2), (9, 0), (9, 0), (9, 0)] [] w Q := Iff.rfl
theorem e111 {d : Nat} {w : vW} {x0 x1 : Int} {Q : Int → vW → Prop} : VC (d + 1) 111 [(2, x0), (1, x1)] w Q ↔ VW d 111 0 [(2, x0), (1, x1), (9, 0), (9, 0), (9, 0)] [] w Q := Iff.rfl
theorem e112 {d : Nat} {w : vW} {x0 x1 x2 x3 : Int} {Q : Int → vW → Prop} : VC (d + 1) 112 [(2, x0), (1, x1), (0, x2), (0, x3)] w Q ↔ VW d 112 0 [(2, x0), (1, x1), (9, 0), (0, x2), (0, x3), (9, 0), (9, 0)] [] w Q := Iff.rfl
theorem e113 {d : Nat} {w : vW} {x0 : Int} {Q : Int → vW → Prop} : VC (d + 1) 113 [(2, x0)] w Q ↔ VW d 113 0 [(2, x0), (9, 0), (9, 0), (9, 0), (9, 0)] [] w Q := Iff.rfl
theorem e114 {d : Nat} {w : vW} {x0 x1 x2 : Int} {Q : Int → vW → Prop} : VC (d + 1) 114 [(2, x0), (1, x1), (1, x2)] w Q ↔ VW d 114 0 [(2, x0), (1, x1), (9, 0), (1, x2), (9, 0), (9, 0), (9, 0)] [] w Q := Iff.rfl
theorem e115 {d : Nat} {w : vW} {x0 x1 x2 : Int} {Q : Int → vW → Prop} : VC (d + 1) 115 [(2, x0), (1, x1), (1, x2)] w Q ↔ VW d 115 0 [(2, x0), (1, x1), (9, 0), (1, x2), (9, 0), (9, 0)] [] w Q := Iff.rfl
theorem e116 {d : Nat} {w : vW} {x0 : Int} {Q : Int → vW → Prop} : VC (d + 1) 116 [(2, x0)] w Q ↔ VW d 116 0 [(2, x0)] [] w Q := Iff.rfl
theorem e117 {d : Nat} {w : vW} {x0 x1 x2 x3 : Int} {Q : Int → vW → Prop} : VC (d + 1) 117 [(2, x0), (0, x1), (0, x2), (0, x3)] w Q ↔ VW d 117 0 [(2, x0), (0, x1), (0, x2), (0, x3), (9, 0), (9, 0), (9, 0), (9, 0)] [] w Q := Iff.rfl
theorem e118 {d : Nat} {w : vW} {x0 x1 : Int} {Q : Int → vW → Prop} : VC (d + 1) 118 [(2, x0), (0, x1)] w Q ↔ VW d 118 0 [(2, x0), (0, x1)] [] w Q := Iff.rfl
theorem e119 {d : Nat} {w : vW} {x0 : Int} {Q : Int → vW → Prop} : VC (d + 1) 119 [(2, x0)] w Q ↔ VW d 119 0 [(2, x0), (9, 0), (9, 0), (9, 0), (9, 0)] [] w Q := Iff.rfl
theorem e120 {d : Nat} {w : vW} {x0 x1 : Int} {Q : Int → vW → Prop} : VC (d + 1) 120 [(2, x0), (0, x1)] w Q ↔ VW d 120 0 [(2, x0), (0, x1), (9, 0), (9, 0)] [] w Q := Iff.rfl
theorem e121 {d : Nat} {w : vW} {x0 : Int} {Q : Int → vW → Prop} : VC (d + 1) 121 [(2, x0)] w Q ↔ VW d 121 0 [(2, x0), (9, 0), (9, 0), (9, 0)] [] w Q := Iff.rfl
theorem e122 {d : Nat} {w : vW} {x0 : Int} {Q : Int → vW → Prop} : VC (d + 1) 122 [(2, x0)] w Q ↔ VW d 122 0 [(2, x0), (9, 0), (9, 0), (9, 0), (9, 0)] [] w Q := Iff.rfl
theorem e123 {d : Nat} {w : vW} {x0 : Int} {Q : Int → vW → Prop} : VC (d + 1) 123 [(2, x0)] w Q ↔ VW d 123 0 [(2, x0), (9, 0), (9, 0), (9, 0)] [] w Q := Iff.rfl
theorem e124 {d : Nat} {w : vW} {x0 x1 : Int} {Q : Int → vW → Prop} : VC (d + 1) 124 [(2, x0), (0, x1)] w Q ↔ VW d 124 0 [(2, x0), (0, x1), (9, 0), (9, 0), (9, 0), (9, 0)] [] w Q := Iff.rfl
theorem e125 {d : Nat} {w : vW} {x0 x1 : Int} {Q : Int → vW → Prop} : VC (d + 1) 125 [(2, x0), (0, x1)] w Q ↔ VW d 125 0 [(2, x0), (0, x1), (9, 0), (9, 0)] [] w Q := Iff.rfl
theorem e126 {d : Nat} {w : vW} {x0 x1 : Int} {Q : Int → vW → Prop} : VC (d + 1) 126 [(2, x0), (0, x1)] w Q ↔ VW d 126 0 [(2, x0), (0, x1), (9, 0), (9, 0)] [] w Q := Iff.rfl
theorem e127 {d : Nat} {w : vW} {x0 : Int} {Q : Int → vW → Prop} : VC (d + 1) 127 [(2, x0)] w Q ↔ VW d 127 0 [(2, x0), (9, 0)] [] w Q := Iff.rfl
theorem e128 {d : Nat} {w : vW} {x0 x1 : Int} {Q : Int → vW → Prop} : VC (d + 1) 128 [(2, x0), (0, x1)] w Q ↔ VW d 128 0 [(2, x0), (0, x1), (9, 0), (9, 0), (9, 0), (9, 0)] [] w Q := Iff.rfl
theorem e129 {d : Nat} {w : vW} {x0 x1 : Int} {Q : Int → vW → Prop} : VC (d + 1) 129 [(2, x0), (0, x1)] w Q ↔ VW d 129 0 [(2, x0), (0, x1), (9, 0), (9, 0)] [] w Q := Iff.rfl
theorem e130 {d : Nat} {w : vW} {x0 x1 x2 : Int} {Q : Int → vW → Prop} : VC (d + 1) 130 [(2, x0), (1, x1), (1, x2)] w Q ↔ VW d 130 0 [(2, x0), (1, x1), (9, 0), (1, x2), (9, 0), (9, 0), (9, 0), (9, 0), (9, 0)] [] w Q := Iff.rfl
theorem e131 {d : Nat} {w : vW} {x0 x1 x2 x3 : Int} {Q : Int → vW → Prop} : VC (d + 1) 131 [(2, x0), (1, x1), (0, x2), (0, x3)] w Q ↔ VW d 131 0 [(2, x0), (1, x1), (9, 0), (0, x2), (0, x3), (9, 0), (9, 0), (9, 0)] [] w Q := Iff.rfl
theorem e132 {d : Nat} {w : vW} {x0 x1 x2 : Int} {Q : Int → vW → Prop} : VC (d + 1) 132 [(2, x0), (1, x1), (0, x2)] w Q ↔ VW d 132 0 [(2, x0), (1, x1), (9, 0), (0, x2), (9, 0)] [] w Q := Iff.rfl
theorem e133 {d : Nat} {w : vW} {x0 x1 x2 : Int} {Q : Int → vW → Prop} : VC (d + 1) 133 [(2, x0), (1, x1), (1, x2)] w Q ↔ VW d 133 0 [(2, x0), (1, x1), (9, 0), (1, x2), (9, 0)] [] w Q := Iff.rfl
theorem e134 {d : Nat} {w : vW} {x0 x1 x2 : Int} {Q : Int → vW → Prop} : VC (d + 1) 134 [(2, x0), (1, x1), (1, x2)] w Q ↔ VW d 134 0 [(2, x0), (1, x1), (9, 0), (1, x2), (9, 0), (9, 0), (9, 0), (9, 0)] [] w Q := Iff.rfl
theorem e135 {d : Nat} {w : vW} {x0 x1 x2 : Int} {Q : Int → vW → Prop} : VC (d + 1) 135 [(2, x0), (0, x1), (0, x2)] w Q ↔ VW d 135 0 [(2, x0), (0, x1), (0, x2), (9, 0), (9, 0)] [] w Q := Iff.rfl
theorem e136 {d : Nat} {w : vW} {x0 x1 x2 x3 : Int} {Q : Int → vW → Prop} : VC (d + 1) 136 [(2, x0), (1, x1), (1, x2), (0, x3)] w Q ↔ VW d 136 0 [(2, x0), (1, x1), (9, 0), (1, x2), (9, 0), (0, x3), (9, 0), (9, 0), (9, 0), (9, 0), (9, 0), (9, 0), (9, 0), (9, 0), (9, 0)] [] w Q := Iff.rfl
theorem e137 {d : Nat} {w : vW} {x0 x1 : Int} {Q : Int → vW → Prop} : VC (d + 1) 137 [(2, x0), (0, x1)] w Q ↔ VW d 137 0 [(2, x0), (0, x1), (9, 0), (9, 0)] [] w Q := Iff.rfl
theorem e138 {d : Nat} {w : vW} {x0 x1 x2 : Int} {Q : Int → vW → Prop} : VC (d + 1) 138 [(2, x0), (0, x1), (0, x2)] w Q ↔ VW d 138 0 [(2, x0), (0, x1), (0, x2), (9, 0), (9, 0), (9, 0), (9, 0)] [] w Q := Iff.rfl
theorem e139 {d : Nat} {w : vW} {x0 : Int} {Q : Int → vW → Prop} : VC (d + 1) 139 [(0, x0)] w Q ↔ VW d 139 0 [(0, x0)] [] w Q := Iff.rfl
theorem e140 {d : Nat} {w : vW} {x0 : Int} {Q : Int → vW → Prop} : VC (d + 1) 140 [(0, x0)] w Q ↔ VW d 140 0 [(0, x0)] [] w Q := Iff.rfl
theorem e141 {d : Nat} {w : vW} {x0 x1 x2 x3 : Int} {Q : Int → vW → Prop} : VC (d + 1) 141 [(2, x0), (0, x1), (0, x2), (1, x3)] w Q ↔ VW d 141 0 [(2, x0), (0, x1), (0, x2), (1, x3), (9, 0), (9, 0), (9, 0), (9, 0), (9, 0)] [] w Q := Iff.rfl
theorem e142 {d : Nat} {w : vW} {x0 x1 : Int} {Q : Int → vW → Prop} : VC (d + 1) 142 [(2, x0), (0, x1)] w Q ↔ VW d 142 0 [(2, x0), (0, x1)] [] w Q := Iff.rfl
theorem e143 {d : Nat} {w : vW} {x0 x1 x2 x3 : Int} {Q : Int → vW → Prop} : VC (d + 1) 143 [(2, x0), (0, x1), (0, x2), (1, x3)] w Q ↔ VW d 143 0 [(2, x0), (0, x1), (0, x2), (1, x3), (9, 0), (9, 0)] [] w Q := Iff.rfl
theorem e144 {d : Nat} {w : vW} {x0 x1 x2 : Int} {Q : Int → vW → Prop} : VC (d + 1) 144 [(2, x0), (0, x1), (1, x2)] w Q ↔ VW d 144 0 [(2, x0), (0, x1), (1, x2), (9, 0), (9, 0)] [] w Q := Iff.rfl
theorem e145 {d : Nat} {w : vW} {x0 x1 x2 : Int} {Q : Int → vW → Prop} : VC (d + 1) 145 [(2, x0), (0, x1), (0, x2)] w Q ↔ VW d 145 0 [(2, x0), (0, x1), (0, x2), (9, 0), (9, 0), (9, 0), (9, 0), (9, 0), (9, 0), (9, 0)] [] w Q := Iff.rfl
theorem e146 {d : Nat} {w : vW} {x0 x1 x2 : Int} {Q : Int → vW → Prop} : VC (d + 1) 146 [(2, x0), (1, x1), (0, x2)] w Q ↔ VW d 146 0 [(2, x0), (1, x1), (9, 0), (0, x2), (9, 0), (9, 0)] [] w Q := Iff.rfl
theorem e147 {d : Nat} {w : vW} {x0 x1 : Int} {Q : Int → vW → Prop} : VC (d + 1) 147 [(2, x0), (0, x1)] w Q ↔ VW d 147 0 [(2, x0), (0, x1), (9, 0), (9, 0), (9, 0), (9, 0), (9, 0)] [] w Q := Iff.rfl
theorem e148 {d : Nat} {w : vW} {x0 x1 x2 : Int} {Q : Int → vW → Prop} : VC (d + 1) 148 [(2, x0), (0, x1), (0, x2)] w Q ↔ VW d 148 0 [(2, x0), (0, x1), (0, x2), (9, 0), (9, 0), (9, 0), (9, 0), (9, 0)] [] w Q := Iff.rfl
theorem e149 {d : Nat} {w : vW} {x0 x1 x2 : Int} {Q : Int → vW → Prop} : VC (d + 1) 149 [(2, x0), (0, x1), (0, x2)] w Q ↔ VW d 149 0 [(2, x0), (0, x1), (0, x2), (9, 0), (9, 0), (9, 0), (9, 0), (9, 0), (9, 0), (9, 0), (9, 0)] [] w Q := Iff.rfl
theorem e150 {d : Nat} {w : vW} {x0 x1 : Int} {Q : Int → vW → Prop} : VC (d + 1) 150 [(2, x0), (0, x1)] w Q ↔ VW d 150 0 [(2, x0), (0, x1), (9, 0), (9, 0), (9, 0), (9, 0), (9, 0)] [] w Q := Iff.rfl
theorem e151 {d : Nat} {w : vW} {x0 x1 : Int} {Q : Int → vW → Prop} : VC (d + 1) 151 [(2, x0), (0, x1)] w Q ↔ VW d 151 0 [(2, x0), (0, x1), (9, 0)] [] w Q := Iff.rfl
theorem e152 {d : Nat} {w : vW} {x0 x1 : Int} {Q : Int → vW → Prop} : VC (d + 1) 152 [(2, x0), (0, x1)] w Q ↔ VW d 152 0 [(2, x0), (0, x1), (9, 0), (9, 0)] [] w Q := Iff.rfl
theorem e153 {d : Nat} {w : vW} {x0 x1 : Int} {Q : Int → vW → Prop} : VC (d + 1) 153 [(2, x0), (0, x1)] w Q ↔ VW d 153 0 [(2, x0), (0, x1), (9, 0), (9, 0)] [] w Q := Iff.rfl
theorem e154 {d : Nat} {w : vW} {x0 x1 : Int} {Q : Int → vW → Prop} : VC (d + 1) 154 [(2, x0), (0, x1)] w Q ↔ VW d 154 0 [(2, x0), (0, x1)] [] w Q := Iff.rfl
theorem e155 {d : Nat} {w : vW} {x0 : Int} {Q : Int → vW → Prop} : VC (d + 1) 155 [(2, x0)] w Q ↔ VW d 155 0 [(2, x0)] [] w Q := Iff.rfl
theorem e156 {d : Nat} {w : vW} {x0 x1 : Int} {Q : Int → vW → Prop} : VC (d + 1) 156 [(2, x0), (0, x1)] w Q ↔ VW d 156 0 [(2, x0), (0, x1)] [] w Q := Iff.rfl
theorem e157 {d : Nat} {w : vW} {x0 : Int} {Q : Int → vW → Prop} : VC (d + 1) 157 [(2, x0)] w Q ↔ VW d 157 0 [(2, x0)] [] w Q := Iff.rfl
theorem e158 {d : Nat} {w : vW} {x0 x1 x2 : Int} {Q : Int → vW → Prop} : VC (d + 1) 158 [(2, x0), (2, x1), (0, x2)] w Q ↔ VW d 158 0 [(2, x0), (2, x1), (0, x2), (9, 0)] [] w Q := Iff.rfl
theorem e159 {d : Nat} {w : vW} {x0 x1 : Int} {Q : Int → vW → Prop} : VC (d + 1) 159 [(2, x0), (2, x1)] w Q ↔ VW d 159 0 [(2, x0), (2, x1)] [] w Q := Iff.rfl
theorem e160 {d : Nat} {w : vW} {x0 x1 : Int} {Q : Int → vW → Prop} : VC (d + 1) 160 [(2, x0), (0, x1)] w Q ↔ VW d 160 0 [(2, x0), (0, x1), (9, 0), (9, 0), (9, 0), (9, 0), (9, 0)] [] w Q := Iff.rfl
theorem e161 {d : Nat} {w : vW} {x0 x1 x2 x3 : Int} {Q : Int → vW → Prop} : VC (d + 1) 161 [(2, x0), (1, x1), (1, x2), (0, x3)] w Q ↔ VW d 161 0 [(2, x0), (1, x1), (9, 0), (1, x2), (9, 0), (0, x3)] [] w Q := Iff.rfl
theorem e162 {d : Nat} {w : vW} {x0 : Int} {Q : Int → vW → Prop} : VC (d + 1) 162 [(2, x0)] w Q ↔ VW d 162 0 [(2, x0)] [] w Q := Iff.rfl
theorem e163 {d : Nat} {w : vW} {x0 x1 : Int} {Q : Int → vW → Prop} : VC (d + 1) 163 [(2, x0), (2, x1)] w Q ↔ VW d 163 0 [(2, x0), (2, x1)] [] w Q := Iff.rfl
theorem e164 {d : Nat} {w : vW} {x0 x1 : Int} {Q : Int → vW → Prop} : VC (d + 1) 164 [(2, x0), (2, x1)] w Q ↔ VW d 164 0 [(2, x0), (2, x1), (9, 0), (9, 0)] [] w Q := Iff.rfl
theorem e165 {d : Nat} {w : vW} {x0 x1 : Int} {Q : Int → vW → Prop} : VC (d + 1) 165 [(2, x0), (0, x1)] w Q ↔ VW d 165 0 [(2, x0), (0, x1)] [] w Q := Iff.rfl
theorem e166 {d : Nat} {w : vW} {x0 x1 : Int} {Q : Int → vW → Prop} : VC (d + 1) 166 [(1, x0), (0, x1)] w Q ↔ VW d 166 0 [(1, x0), (9, 0), (0, x1), (9, 0), (9, 0)] [] w Q := Iff.rfl
theorem e167 {d : Nat} {w : vW} {x0 x1 : Int} {Q : Int → vW → Prop} : VC (d + 1) 167 [(2, x0), (0, x1)] w Q ↔ VW d 167 0 [(2, x0), (0, x1), (9, 0)] [] w Q := Iff.rfl
theorem e168 {d : Nat} {w : vW} {x0 x1 x2 : Int} {Q : Int → vW → Prop} : VC (d + 1) 168 [(2, x0), (2, x1), (2, x2)] w Q ↔ VW d 168 0 [(2, x0), (2, x1), (2, x2), (9, 0), (9, 0), (9, 0), (9, 0)] [] w Q := Iff.rfl
theorem e169 {d : Nat} {w : vW} {x0 x1 x2 x3 : Int} {Q : Int → vW → Prop} : VC (d + 1) 169 [(2, x0), (0, x1), (2, x2), (2, x3)] w Q ↔ VW d 169 0 [(2, x0), (0, x1), (2, x2), (2, x3), (9, 0), (9, 0), (9, 0)] [] w Q := Iff.rfl
theorem e170 {d : Nat} {w : vW} {x0 x1 x2 x3 x4 : Int} {Q : Int → vW → Prop} : VC (d + 1) 170 [(2, x0), (0, x1), (0, x2), (2, x3), (2, x4)] w Q ↔ VW d 170 0 [(2, x0), (0, x1), (0, x2), (2, x3), (2, x4), (9, 0), (9, 0), (9, 0)] [] w Q := Iff.rfl
theorem e171 {d : Nat} {w : vW} {x0 x1 x2 : Int} {Q : Int → vW → Prop} : VC (d + 1) 171 [(2, x0), (0, x1), (0, x2)] w Q ↔ VW d 171 0 [(2, x0), (0, x1), (0, x2)] [] w Q := Iff.rfl
theorem e172 {d : Nat} {w : vW} {x0 : Int} {Q : Int → vW → Prop} : VC (d + 1) 172 [(2, x0)] w Q ↔ VW d 172 0 [(2, x0), (9, 0)] [] w Q := Iff.rfl
theorem e173 {d : Nat} {w : vW} {x0 x1 : Int} {Q : Int → vW → Prop} : VC (d + 1) 173 [(2, x0), (2, x1)] w Q ↔ VW d 173 0 [(2, x0), (2, x1), (9, 0)] [] w Q := Iff.rfl
theorem e174 {d : Nat} {w : vW} {x0 x1 : Int} {Q : Int → vW → Prop} : VC (d + 1) 174 [(2, x0), (0, x1)] w Q ↔ VW d 174 0 [(2, x0), (0, x1)] [] w Q := Iff.rfl
theorem e175 {d : Nat} {w : vW} {x0 x1 x2 : Int} {Q : Int → vW → Prop} : VC (d + 1) 175 [(2, x0), (0, x1), (0, x2)] w Q ↔ VW d 175 0 [(2, x0), (0, x1), (0, x2)] [] w Q := Iff.rfl
theorem e176 {d : Nat} {w : vW} {x0 x1 : Int} {Q : Int → vW → Prop} : VC (d + 1) 176 [(2, x0), (1, x1)] w Q ↔ VW d 176 0 [(2, x0), (1, x1), (9, 0), (9, 0), (9, 0), (9, 0)] [] w Q := Iff.rfl
theorem e177 {d : Nat} {w : vW} {x0 x1 : Int} {Q : Int → vW → Prop} : VC (d + 1) 177 [(2, x0), (0, x1)] w Q ↔ VW d 177 0 [(2, x0), (0, x1)] [] w Q := Iff.rfl
theorem e178 {d : Nat} {w : vW} {x0 x1 : Int} {Q : Int → vW → Prop} : VC (d + 1) 178 [(0, x0), (0, x1)] w Q ↔ VW d 178 0 [(0, x0), (0, x1), (9, 0), (9, 0)] [] w Q := Iff.rfl
theorem e179 {d : Nat} {w : vW} {x0 x1 x2 x3 : Int} {Q : Int → vW → Prop} : VC (d + 1) 179 [(2, x0), (2, x1), (0, x2), (0, x3)] w Q ↔ VW d 179 0 [(2, x0), (2, x1), (0, x2), (0, x3), (9, 0), (9, 0), (9, 0)] [] w Q := Iff.rfl
theorem e180 {d : Nat} {w : vW} {x0 x1 : Int} {Q : Int → vW → Prop} : VC (d + 1) 180 [(2, x0), (0, x1)] w Q ↔ VW d 180 0 [(2, x0), (0, x1)] [] w Q := Iff.rfl
theorem e181 {d : Nat} {w : vW} {x0 x1 x2 : Int} {Q : Int → vW → Prop} : VC (d + 1) 181 [(2, x0), (0, x1), (0, x2)] w Q ↔ VW d 181 0 [(2, x0), (0, x1), (0, x2), (9, 0), (9, 0), (9, 0), (9, 0)] [] w Q := Iff.rfl
theorem e182 {d : Nat} {w : vW} {x0 x1 : Int} {Q : Int → vW → Prop} : VC (d + 1) 182 [(2, x0), (1, x1)] w Q ↔ VW d 182 0 [(2, x0), (1, x1), (9, 0), (9, 0), (9, 0), (9, 0), (9, 0)] [] w Q := Iff.rfl
theorem e183 {d : Nat} {w : vW} {x0 x1 x2 x3 : Int} {Q : Int → vW → Prop} : VC (d + 1) 183 [(2, x0), (2, x1), (1, x2), (0, x3)] w Q ↔ VW d 183 0 [(2, x0), (2, x1), (1, x2), (9, 0), (0, x3), (9, 0), (9, 0), (9, 0), (9, 0), (9, 0), (9, 0)] [] w Q := Iff.rfl
theorem e184 {d : Nat} {w : vW} {x0 x1 x2 : Int} {Q : Int → vW → Prop} : VC (d + 1) 184 [(2, x0), (0, x1), (0, x2)] w Q ↔ VW d 184 0 [(2, x0), (0, x1), (0, x2), (9, 0)] [] w Q := Iff.rfl
theorem e185 {d : Nat} {w : vW} {x0 x1 x2 : Int} {Q : Int → vW → Prop} : VC (d + 1) 185 [(2, x0), (0, x1), (0, x2)] w Q ↔ VW d 185 0 [(2, x0), (0, x1), (0, x2), (9, 0)] [] w Q := Iff.rfl
theorem e186 {d : Nat} {w : vW} {x0 x1 x2 : Int} {Q : Int → vW → Prop} : VC (d + 1) 186 [(2, x0), (0, x1), (1, x2)] w Q ↔ VW d 186 0 [(2, x0), (0, x1), (1, x2), (9, 0), (9, 0), (9, 0)] [] w Q := Iff.rfl
theorem e187 {d : Nat} {w : vW} {x0 x1 : Int} {Q : Int → vW → Prop} : VC (d + 1) 187 [(2, x0), (0, x1)] w Q ↔ VW d 187 0 [(2, x0), (0, x1), (9, 0), (9, 0), (9, 0), (9, 0), (9, 0)] [] w Q := Iff.rfl
theorem e188 {d : Nat} {w : vW} {x0 x1 : Int} {Q : Int → vW → Prop} : VC (d + 1) 188 [(2, x0), (0, x1)] w Q ↔ VW d 188 0 [(2, x0), (0, x1), (9, 0), (9, 0), (9, 0), (9, 0), (9, 0)] [] w Q := Iff.rfl
theorem e189 {d : Nat} {w : vW} {x0 x1 x2 : Int} {Q : Int → vW → Prop} : VC (d + 1) 189 [(2, x0), (2, x1), (0, x2)] w Q ↔ VW d 189 0 [(2, x0), (2, x1), (0, x2), (9, 0), (9, 0)] [] w Q := Iff.rfl
theorem e190 {d : Nat} {w : vW} {x0 : Int} {Q : Int → vW → Prop} : VC (d + 1) 190 [(2, x0)] w Q ↔ VW d 190 0 [(2, x0)] [] w Q := Iff.rfl
theorem e191 {d : Nat} {w : vW} {x0 x1 x2 x3 : Int} {Q : Int → vW → Prop} : VC (d + 1) 191 [(2, x0), (2, x1), (0, x2), (1, x3)] w Q ↔ VW d 191 0 [(2, x0), (2, x1), (0, x2), (1, x3), (9, 0), (9, 0), (9, 0), (9, 0), (9, 0)] [] w Q := Iff.rfl
theorem e192 {d : Nat} {w : vW} {x0 x1 : Int} {Q : Int → vW → Prop} : VC (d + 1) 192 [(2, x0), (2, x1)] w Q ↔ VW d 192 0 [(2, x0), (2, x1), (9, 0)] [] w Q := Iff.rfl
theorem e193 {d : Nat} {w : vW} {x0 x1 : Int} {Q : Int → vW → Prop} : VC (d + 1) 193 [(2, x0), (0, x1)] w Q ↔ VW d 193 0 [(2, x0), (0, x1), (9, 0), (9, 0)] [] w Q := Iff.rfl
theorem e194 {d : Nat} {w : vW} {x0 x1 x2 x3 : Int} {Q : Int → vW → Prop} : VC (d + 1) 194 [(2, x0), (2, x1), (0, x2), (0, x3)] w Q ↔ VW d 194 0 [(2, x0), (2, x1), (0, x2), (0, x3), (9, 0), (9, 0), (9, 0), (9, 0), (9, 0), (9, 0), (9, 0), (9, 0), (9, 0), (9, 0)] [] w Q := Iff.rfl
theorem e195 {d : Nat} {w : vW} {x0 x1 : Int} {Q : Int → vW → Prop} : VC (d + 1) 195 [(2, x0), (1, x1)] w Q ↔ VW d 195 0 [(2, x0), (1, x1), (9, 0), (9, 0), (9, 0), (9, 0), (9, 0), (9, 0), (9, 0), (9, 0), (9, 0)] [] w Q := Iff.rfl
theorem e196 {d : Nat} {w : vW} {x0 : Int} {Q : Int → vW → Prop} : VC (d + 1) 196 [(2, x0)] w Q ↔ VW d 196 0 [(2, x0)] [] w Q := Iff.rfl
theorem e197 {d : Nat} {w : vW} {x0 x1 : Int} {Q : Int → vW → Prop} : VC (d + 1) 197 [(2, x0), (1, x1)] w Q ↔ VW d 197 0 [(2, x0), (1, x1), (9, 0), (9, 0)] [] w Q := Iff.rfl
theorem e198 {d : Nat} {w : vW} {x0 x1 : Int} {Q : Int → vW → Prop} : VC (d + 1) 198 [(2, x0), (1, x1)] w Q ↔ VW d 198 0 [(2, x0), (1, x1), (9, 0), (9, 0), (9, 0), (9, 0), (9, 0)] [] w Q := Iff.rfl
theorem e199 {d : Nat} {w : vW} {x0 x1 : Int} {Q : Int → vW → Prop} : VC (d + 1) 199 [(2, x0), (1, x1)] w Q ↔ VW d 199 0 [(2, x0), (1, x1), (9, 0), (9, 0), (9, 0)] [] w Q := Iff.rfl
theorem e200 {d : Nat} {w : vW} {x0 x1 x2 x3 : Int} {Q : Int → vW → Prop} : VC (d + 1) 200 [(2, x0), (1, x1), (0, x2), (0, x3)] w Q ↔ VW d 200 0 [(2, x0), (1, x1), (9, 0), (0, x2), (0, x3), (9, 0)] [] w Q := Iff.rfl
theorem e201 {d : Nat} {w : vW} {x0 x1 x2 x3 : Int} {Q : Int → vW → Prop} : VC (d + 1) 201 [(2, x0), (2, x1), (1, x2), (0, x3)] w Q ↔ VW d 201 0 [(2, x0), (2, x1), (1, x2), (9, 0), (0, x3), (9, 0), (9, 0)] [] w Q := Iff.rfl
theorem e202 {d : Nat} {w : vW} {x0 x1 x2 x3 x4 : Int} {Q : Int → vW → Prop} : VC (d + 1) 202 [(2, x0), (2, x1), (1, x2), (1, x3), (0, x4)] w Q ↔ VW d 202 0 [(2, x0), (2, x1), (1, x2), (9, 0), (1, x3), (9, 0), (0, x4), (9, 0), (9, 0)] [] w Q := Iff.rfl
theorem e203 {d : Nat} {w : vW} {x0 x1 x2 : Int} {Q : Int → vW → Prop} : VC (d + 1) 203 [(2, x0), (0, x1), (1, x2)] w Q ↔ VW d 203 0 [(2, x0), (0, x1), (1, x2), (9, 0), (9, 0)] [] w Q := Iff.rfl
theorem e204 {d : Nat} {w : vW} {x0 x1 x2 : Int} {Q : Int → vW → Prop} : VC (d + 1) 204 [(2, x0), (2, x1), (1, x2)] w Q ↔ VW d 204 0 [(2, x0), (2, x1), (1, x2), (9, 0), (9, 0), (9, 0), (9, 0)] [] w Q := Iff.rfl
theorem e205 {d : Nat} {w : vW} {x0 x1 x2 x3 : Int} {Q : Int → vW → Prop} : VC (d + 1) 205 [(2, x0), (2, x1), (1, x2), (0, x3)] w Q ↔ VW d 205 0 [(2, x0), (2, x1), (1, x2), (9, 0), (0, x3), (9, 0)] [] w Q := Iff.rfl
theorem e206 {d : Nat} {w : vW} {x0 x1 x2 x3 x4 : Int} {Q : Int → vW → Prop} : VC (d + 1) 206 [(2, x0), (1, x1), (1, x2), (1, x3), (0, x4)] w Q ↔ VW d 206 0 [(2, x0), (1, x1), (9, 0), (1, x2), (9, 0), (1, x3), (9, 0), (0, x4), (9, 0), (9, 0), (9, 0)] [] w Q := Iff.rfl
theorem e207 {d : Nat} {w : vW} {x0 x1 : Int} {Q : Int → vW → Prop} : VC (d + 1) 207 [(2, x0), (1, x1)] w Q ↔ VW d 207 0 [(2, x0), (1, x1), (9, 0), (9, 0), (9, 0)] [] w Q := Iff.rfl
theorem e208 {d : Nat} {w : vW} {x0 x1 : Int} {Q : Int → vW → Prop} : VC (d + 1) 208 [(2, x0), (0, x1)] w Q ↔ VW d 208 0 [(2, x0), (0, x1)] [] w Q := Iff.rfl
theorem e209 {d : Nat} {w : vW} {x0 x1 : Int} {Q : Int → vW → Prop} : VC (d + 1) 209 [(2, x0), (0, x1)] w Q ↔ VW d 209 0 [(2, x0), (0, x1)] [] w Q := Iff.rfl
theorem e210 {d : Nat} {w : vW} {x0 : Int} {Q : Int → vW → Prop} : VC (d + 1) 210 [(2, x0)] w Q ↔ VW d 210 0 [(2, x0)] [] w Q := Iff.rfl
theorem e211 {d : Nat} {w : vW} {x0 x1 x2 : Int} {Q : Int → vW → Prop} : VC (d + 1) 211 [(2, x0), (2, x1), (0, x2)] w Q ↔ VW d 211 0 [(2, x0), (2, x1), (0, x2), (9, 0)] [] w Q := Iff.rfl
theorem e212 {d : Nat} {w : vW} {x0 x1 x2 : Int} {Q : Int → vW → Prop} : VC (d + 1) 212 [(2, x0), (1, x1), (0, x2)] w Q ↔ VW d 212 0 [(2, x0), (1, x1), (9, 0), (0, x2), (9, 0), (9, 0)] [] w Q := Iff.rfl
theorem e213 {d : Nat} {w : vW} {x0 : Int} {Q : Int → vW → Prop} : VC (d + 1) 213 [(2, x0)] w Q ↔ VW d 213 0 [(2, x0), (9, 0), (9, 0)] [] w Q := Iff.rfl
theorem e214 {d : Nat} {w : vW} {x0 : Int} {Q : Int → vW → Prop} : VC (d + 1) 214 [(2, x0)] w Q ↔ VW d 214 0 [(2, x0), (9, 0), (9, 0), (9, 0)] [] w Q := Iff.rfl
theorem e215 {d : Nat} {w : vW} {x0 : Int} {Q : Int → vW → Prop} : VC (d + 1) 215 [(2, x0)] w Q ↔ VW d 215 0 [(2, x0), (9, 0)] [] w Q := Iff.rfl
theorem e216 {d : Nat} {w : vW} {x0 : Int} {Q : Int → vW → Prop} : VC (d + 1) 216 [(2, x0)] w Q ↔ VW d 216 0 [(2, x0), (9, 0), (9, 0), (9, 0)] [] w Q := Iff.rfl
theorem e217 {d : Nat} {w : vW} {x0 x1 : Int} {Q : Int → vW → Prop} : VC (d + 1) 217 [(2, x0), (0, x1)] w Q ↔ VW d 217 0 [(2, x0), (0, x1), (9, 0), (9, 0)] [] w Q := Iff.rfl
theorem e218 {d : Nat} {w : vW} {x0 x1 : Int} {Q : Int → vW → Prop} : VC (d + 1) 218 [(2, x0), (2, x1)] w Q ↔ VW d 218 0 [(2, x0), (2, x1), (9, 0), (9, 0), (9, 0)] [] w Q := Iff.rfl
theorem e219 {d : Nat} {w : vW} {x0 x1 : Int} {Q : Int → vW → Prop} : VC (d + 1) 219 [(2, x0), (0, x1)] w Q ↔ VW d 219 0 [(2, x0), (0, x1)] [] w Q := Iff.rfl
theorem e220 {d : Nat} {w : vW} {x0 x1 : Int} {Q : Int → vW → Prop} : VC (d + 1) 220 [(2, x0), (0, x1)] w Q ↔ VW d 220 0 [(2, x0), (0, x1)] [] w Q := Iff.rfl
theorem e221 {d : Nat} {w : vW} {x0 x1 : Int} {Q : Int → vW → Prop} : VC (d + 1) 221 [(2, x0), (0, x1)] w Q ↔ VW d 221 0 [(2, x0), (0, x1)] [] w Q := Iff.rfl
theorem e222 {d : Nat} {w : vW} {x0 x1 : Int} {Q : Int → vW → Prop} : VC (d + 1) 222 [(2, x0), (0, x1)] w Q ↔ VW d 222 0 [(2, x0), (0, x1)] [] w Q := Iff.rfl
theorem e223 {d : Nat} {w : vW} {x0 x1 : Int} {Q : Int → vW → Prop} : VC (d + 1) 223 [(2, x0), (0, x1)] w Q ↔ VW d 223 0 [(2, x0), (0, x1)] [] w Q := Iff.rfl
theorem e224 {d : Nat} {w : vW} {x0 x1 : Int} {Q : Int → vW → Prop} : VC (d + 1) 224 [(2, x0), (0, x1)] w Q ↔ VW d 224 0 [(2, x0), (0, x1)] [] w Q := Iff.rfl
theorem e225 {d : Nat} {w : vW} {x0 : Int} {Q : Int → vW → Prop} : VC (d + 1) 225 [(2, x0)] w Q ↔ VW d 225 0 [(2, x0)] [] w Q := Iff.rfl
theorem e226 {d : Nat} {w : vW} {x0 x1 : Int} {Q : Int → vW → Prop} : VC (d + 1) 226 [(2, x0), (2, x1)] w Q ↔ VW d 226 0 [(2, x0), (2, x1)] [] w Q := Iff.rfl
theorem e227 {d : Nat} {w : vW} {x0 : Int} {Q : Int → vW → Prop} : VC (d + 1) 227 [(2, x0)] w Q ↔ VW d 227 0 [(2, x0), (9, 0)] [] w Q := Iff.rfl
theorem e228 {d : Nat} {w : vW} {x0 x1 : Int} {Q : Int → vW → Prop} : VC (d + 1) 228 [(2, x0), (0, x1)] w Q ↔ VW d 228 0 [(2, x0), (0, x1), (9, 0)] [] w Q := Iff.rfl
theorem e229 {d : Nat} {w : vW} {x0 : Int} {Q : Int → vW → Prop} : VC (d + 1) 229 [(2, x0)] w Q ↔ VW d 229 0 [(2, x0), (9, 0), (9, 0), (9, 0), (9, 0), (9, 0)] [] w Q := Iff.rfl
theorem e230 {d : Nat} {w : vW} {x0 : Int} {Q : Int → vW → Prop} : VC (d + 1) 230 [(2, x0)] w Q ↔ VW d 230 0 [(2, x0)] [] w Q := Iff.rfl
theorem e231 {d : Nat} {w : vW} {x0 x1 : Int} {Q : Int → vW → Prop} : VC (d + 1) 231 [(2, x0), (0, x1)] w Q ↔ VW d 231 0 [(2, x0), (0, x1)] [] w Q := Iff.rfl
theorem e232 {d : Nat} {w : vW} {x0 : Int} {Q : Int → vW → Prop} : VC (d + 1) 232 [(2, x0)] w Q ↔ VW d 232 0 [(2, x0)] [] w Q := Iff.rfl
theorem e233 {d : Nat} {w : vW} {x0 x1 : Int} {Q : Int → vW → Prop} : VC (d + 1) 233 [(2, x0), (0, x1)] w Q ↔ VW d 233 0 [(2, x0), (0, x1), (9, 0)] [] w Q := Iff.rfl
theorem e234 {d : Nat} {w : vW} {x0 x1 : Int} {Q : Int → vW → Prop} : VC (d + 1) 234 [(2, x0), (0, x1)] w Q ↔ VW d 234 0 [(2, x0), (0, x1)] [] w Q := Iff.rfl
theorem e235 {d : Nat} {w : vW} {x0 x1 : Int} {Q : Int → vW → Prop} : VC (d + 1) 235 [(2, x0), (0, x1)] w Q ↔ VW d 235 0 [(2, x0), (0, x1)] [] w Q := Iff.rfl
theorem e236 {d : Nat} {w : vW} {x0 : Int} {Q : Int → vW → Prop} : VC (d + 1) 236 [(0, x0)] w Q ↔ VW d 236 0 [(0, x0)] [] w Q := Iff.rfl
theorem e237 {d : Nat} {w : vW} {x0 : Int} {Q : Int → vW → Prop} : VC (d + 1) 237 [(2, x0)] w Q ↔ VW d 237 0 [(2, x0), (9, 0)] [] w Q := Iff.rfl
theorem e238 {d : Nat} {w : vW} {x0 : Int} {Q : Int → vW → Prop} : VC (d + 1) 238 [(2, x0)] w Q ↔ VW d 238 0 [(2, x0), (9, 0), (9, 0), (9, 0), (9, 0)] [] w Q := Iff.rfl
theorem e239 {d : Nat} {w : vW} {x0 x1 : Int} {Q : Int → vW → Prop} : VC (d + 1) 239 [(2, x0), (0, x1)] w Q ↔ VW d 239 0 [(2, x0), (0, x1), (9, 0)] [] w Q := Iff.rfl
theorem e240 {d : Nat} {w : vW} {x0 x1 : Int} {Q : Int → vW → Prop} : VC (d + 1) 240 [(2, x0), (0, x1)] w Q ↔ VW d 240 0 [(2, x0), (0, x1), (9, 0)] [] w Q := Iff.rfl
theorem e241 {d : Nat} {w : vW} {x0 x1 : Int} {Q : Int → vW → Prop} : VC (d + 1) 241 [(2, x0), (0, x1)] w Q ↔ VW d 241 0 [(2, x0), (0, x1), (9, 0)] [] w Q := Iff.rfl
theorem e242 {d : Nat} {w : vW} {x0 x1 x2 : Int} {Q : Int → vW → Prop} : VC (d + 1) 242 [(2, x0), (0, x1), (0, x2)] w Q ↔ VW d 242 0 [(2, x0), (0, x1), (0, x2)] [] w Q := Iff.rfl
theorem e243 {d : Nat} {w : vW} {x0 x1 : Int} {Q : Int → vW → Prop} : VC (d + 1) 243 [(2, x0), (0, x1)] w Q ↔ VW d 243 0 [(2, x0), (0, x1)] [] w Q := Iff.rfl
theorem e244 {d : Nat} {w : vW} {x0 x1 : Int} {Q : Int → vW → Prop} : VC (d + 1) 244 [(2, x0), (0, x1)] w Q ↔ VW d 244 0 [(2, x0), (0, x1), (9, 0)] [] w Q := Iff.rfl
theorem e245 {d : Nat} {w : vW} {x0 x1 : Int} {Q : Int → vW → Prop} : VC (d + 1) 245 [(2, x0), (0, x1)] w Q ↔ VW d 245 0 [(2, x0), (0, x1)] [] w Q := Iff.rfl
theorem e246 {d : Nat} {w : vW} {x0 : Int} {Q : Int → vW → Prop} : VC (d + 1) 246 [(2, x0)] w Q ↔ VW d 246 0 [(2, x0)] [] w Q := Iff.rfl
theorem e247 {d : Nat} {w : vW} {x0 x1 x2 : Int} {Q : Int → vW → Prop} : VC (d + 1) 247 [(2, x0), (2, x1), (2, x2)] w Q ↔ VW d 247 0 [(2, x0), (2, x1), (2, x2), (9, 0)] [] w Q := Iff.rfl
theorem e248 {d : Nat} {w : vW} {x0 : Int} {Q : Int → vW → Prop} : VC (d + 1) 248 [(2, x0)] w Q ↔ VW d 248 0 [(2, x0)] [] w Q := Iff.rfl
theorem e249 {d : Nat} {w : vW} {x0 x1 : Int} {Q : Int → vW → Prop} : VC (d + 1) 249 [(0, x0), (0, x1)] w Q ↔ VW d 249 0 [(0, x0), (0, x1)] [] w Q := Iff.rfl
theorem e250 {d : Nat} {w : vW} {x0 : Int} {Q : Int → vW → Prop} : VC (d + 1) 250 [(0, x0)] w Q ↔ VW d 250 0 [(0, x0)] [] w Q := Iff.rfl
theorem e251 {d : Nat} {w : vW} {x0 : Int} {Q : Int → vW → Prop} : VC (d + 1) 251 [(0, x0)] w Q ↔ VW d 251 0 [(0, x0)] [] w Q := Iff.rfl
theorem e252 {d : Nat} {w : vW} {x0 x1 : Int} {Q : Int → vW → Prop} : VC (d + 1) 252 [(2, x0), (0, x1)] w Q ↔ VW d 252 0 [(2, x0), (0, x1)] [] w Q := Iff.rfl
theorem e253 {d : Nat} {w : vW} {x0 x1 : Int} {Q : Int → vW → Prop} : VC (d + 1) 253 [(2, x0), (0, x1)] w Q ↔ VW d 253 0 [(2, x0), (0, x1)] [] w Q := Iff.rfl
theorem e254 {d : Nat} {w : vW} {x0 : Int} {Q : Int → vW → Prop} : VC (d + 1) 254 [(2, x0)] w Q ↔ VW d 254 0 [(2, x0)] [] w Q := Iff.rfl
theorem e255 {d : Nat} {w : vW} {x0 x1 x2 : Int} {Q : Int → vW → Prop} : VC (d + 1) 255 [(2, x0), (1, x1), (1, x2)] w Q ↔ VW d 255 0 [(2, x0), (1, x1), (9, 0), (1, x2), (9, 0)] [] w Q := Iff.rfl
theorem e256 {d : Nat} {w : vW} {x0 x1 : Int} {Q : Int → vW → Prop} : VC (d + 1) 256 [(2, x0), (2, x1)] w Q ↔ VW d 256 0 [(2, x0), (2, x1), (9, 0)] [] w Q := Iff.rfl
theorem e257 {d : Nat} {w : vW} {x0 x1 x2 : Int} {Q : Int → vW → Prop} : VC (d + 1) 257 [(2, x0), (0, x1), (0, x2)] w Q ↔ VW d 257 0 [(2, x0), (0, x1), (0, x2), (9, 0), (9, 0), (9, 0), (9, 0)] [] w Q := Iff.rfl
theorem e258 {d : Nat} {w : vW} {x0 : Int} {Q : Int → vW → Prop} : VC (d + 1) 258 [(2, x0)] w Q ↔ VW d 258 0 [(2, x0), (9, 0), (9, 0)] [] w Q := Iff.rfl
theorem e259 {d : Nat} {w : vW} {x0 x1 x2 : Int} {Q : Int → vW → Prop} : VC (d + 1) 259 [(2, x0), (0, x1), (2, x2)] w Q ↔ VW d 259 0 [(2, x0), (0, x1), (2, x2)] [] w Q := Iff.rfl
theorem e260 {d : Nat} {w : vW} {x0 x1 x2 x3 : Int} {Q : Int → vW → Prop} : VC (d + 1) 260 [(2, x0), (0, x1), (1, x2), (0, x3)] w Q ↔ VW d 260 0 [(2, x0), (0, x1), (1, x2), (9, 0), (0, x3)] [] w Q := Iff.rfl
theorem e261 {d : Nat} {w : vW} {x0 x1 x2 : Int} {Q : Int → vW → Prop} : VC (d + 1) 261 [(2, x0), (1, x1), (0, x2)] w Q ↔ VW d 261 0 [(2, x0), (1, x1), (9, 0), (0, x2), (9, 0)] [] w Q := Iff.rfl
theorem e262 {d : Nat} {w : vW} {x0 x1 x2 : Int} {Q : Int → vW → Prop} : VC (d + 1) 262 [(2, x0), (1, x1), (0, x2)] w Q ↔ VW d 262 0 [(2, x0), (1, x1), (9, 0), (0, x2), (9, 0), (9, 0), (9, 0)] [] w Q := Iff.rfl
theorem e263 {d : Nat} {w : vW} {x0 x1 x2 : Int} {Q : Int → vW → Prop} : VC (d + 1) 263 [(2, x0), (0, x1), (1, x2)] w Q ↔ VW d 263 0 [(2, x0), (0, x1), (1, x2), (9, 0), (9, 0), (9, 0), (9, 0), (9, 0)] [] w Q := Iff.rfl
theorem e264 {d : Nat} {w : vW} {x0 x1 : Int} {Q : Int → vW → Prop} : VC (d + 1) 264 [(2, x0), (1, x1)] w Q ↔ VW d 264 0 [(2, x0), (1, x1), (9, 0), (9, 0), (9, 0), (9, 0)] [] w Q := Iff.rfl
theorem e265 {d : Nat} {w : vW} {x0 x1 x2 : Int} {Q : Int → vW → Prop} : VC (d + 1) 265 [(2, x0), (0, x1), (1, x2)] w Q ↔ VW d 265 0 [(2, x0), (0, x1), (1, x2), (9, 0), (9, 0), (9, 0), (9, 0), (9, 0)] [] w Q := Iff.rfl
theorem e266 {d : Nat} {w : vW} {x0 : Int} {Q : Int → vW → Prop} : VC (d + 1) 266 [(2, x0)] w Q ↔ VW d 266 0 [(2, x0)] [] w Q := Iff.rfl
theorem e267 {d : Nat} {w : vW} {x0 x1 : Int} {Q : Int → vW → Prop} : VC (d + 1) 267 [(2, x0), (0, x1)] w Q ↔ VW d 267 0 [(2, x0), (0, x1), (9, 0), (9, 0), (9, 0), (9, 0), (9, 0)] [] w Q := Iff.rfl
theorem e268 {d : Nat} {w : vW} {x0 x1 x2 x3 : Int} {Q : Int → vW → Prop} : VC (d + 1) 268 [(2, x0), (0, x1), (1, x2), (0, x3)] w Q ↔ VW d 268 0 [(2, x0), (0, x1), (1, x2), (9, 0), (0, x3), (9, 0), (9, 0), (9, 0), (9, 0), (9, 0), (9, 0), (9, 0)] [] w Q := Iff.rfl
theorem e269 {d : Nat} {w : vW} {x0 x1 x2 : Int} {Q : Int → vW → Prop} : VC (d + 1) 269 [(2, x0), (1, x1), (0, x2)] w Q ↔ VW d 269 0 [(2, x0), (1, x1), (9, 0), (0, x2), (9, 0), (9, 0)] [] w Q := Iff.rfl
theorem e270 {d : Nat} {w : vW} {x0 x1 : Int} {Q : Int → vW → Prop} : VC (d + 1) 270 [(2, x0), (1, x1)] w Q ↔ VW d 270 0 [(2, x0), (1, x1), (9, 0), (9, 0), (9, 0)] [] w Q := Iff.rfl
theorem e271 {d : Nat} {w : vW} {x0 x1 x2 : Int} {Q : Int → vW → Prop} : VC (d + 1) 271 [(2, x0), (0, x1), (1, x2)] w Q ↔ VW d 271 0 [(2, x0), (0, x1), (1, x2), (9, 0), (9, 0), (9, 0)] [] w Q := Iff.rfl
theorem e272 {d : Nat} {w : vW} {x0 x1 x2 : Int} {Q : Int → vW → Prop} : VC (d + 1) 272 [(2, x0), (1, x1), (0, x2)] w Q ↔ VW d 272 0 [(2, x0), (1, x1), (9, 0), (0, x2), (9, 0), (9, 0), (9, 0)] [] w Q := Iff.rfl
theorem e273 {d : Nat} {w : vW} {x0 : Int} {Q : Int → vW → Prop} : VC (d + 1) 273 [(1, x0)] w Q ↔ VW d 273 0 [(1, x0), (9, 0)] [] w Q := Iff.rfl
theorem e274 {d : Nat} {w : vW} {x0 x1 : Int} {Q : Int → vW → Prop} : VC (d + 1) 274 [(0, x0), (1, x1)] w Q ↔ VW d 274 0 [(0, x0), (1, x1), (9, 0)] [] w Q := Iff.rfl
theorem e275 {d : Nat} {w : vW} {x0 : Int} {Q : Int → vW → Prop} : VC (d + 1) 275 [(1, x0)] w Q ↔ VW d 275 0 [(1, x0), (9, 0)] [] w Q := Iff.rfl
theorem e276 {d : Nat} {w : vW} {x0 x1 : Int} {Q : Int → vW → Prop} : VC (d + 1) 276 [(1, x0), (0, x1)] w Q ↔ VW d 276 0 [(1, x0), (9, 0), (0, x1)] [] w Q := Iff.rfl
theorem e277 {d : Nat} {w : vW} {x0 x1 x2 : Int} {Q : Int → vW → Prop} : VC (d + 1) 277 [(1, x0), (0, x1), (0, x2)] w Q ↔ VW d 277 0 [(1, x0), (9, 0), (0, x1), (0, x2), (9, 0)] [] w Q := Iff.rfl
theorem e278 {d : Nat} {w : vW} {x0 x1 x2 x3 : Int} {Q : Int → vW → Prop} : VC (d + 1) 278 [(1, x0), (0, x1), (0, x2), (1, x3)] w Q ↔ VW d 278 0 [(1, x0), (9, 0), (0, x1), (0, x2), (1, x3), (9, 0), (9, 0), (9, 0), (9, 0), (9, 0), (9, 0)] [] w Q := Iff.rfl
theorem e279 {d : Nat} {w : vW} {x0 x1 x2 : Int} {Q : Int → vW → Prop} : VC (d + 1) 279 [(1, x0), (0, x1), (1, x2)] w Q ↔ VW d 279 0 [(1, x0), (9, 0), (0, x1), (1, x2), (9, 0), (9, 0), (9, 0)] [] w Q := Iff.rfl
theorem e280 {d : Nat} {w : vW} {x0 : Int} {Q : Int → vW → Prop} : VC (d + 1) 280 [(1, x0)] w Q ↔ VW d 280 0 [(1, x0), (9, 0), (9, 0), (9, 0), (9, 0), (9, 0), (9, 0)] [] w Q := Iff.rfl
theorem e281 {d : Nat} {w : vW} {x0 : Int} {Q : Int → vW → Prop} : VC (d + 1) 281 [(1, x0)] w Q ↔ VW d 281 0 [(1, x0), (9, 0), (9, 0), (9, 0), (9, 0), (9, 0)] [] w Q := Iff.rfl
theorem e282 {d : Nat} {w : vW} {x0 x1 : Int} {Q : Int → vW → Prop} : VC (d + 1) 282 [(2, x0), (0, x1)] w Q ↔ VW d 282 0 [(2, x0), (0, x1), (9, 0), (9, 0), (9, 0), (9, 0), (9, 0), (9, 0)] [] w Q := Iff.rfl
theorem e283 {d : Nat} {w : vW} {x0 : Int} {Q : Int → vW → Prop} : VC (d + 1) 283 [(2, x0)] w Q ↔ VW d 283 0 [(2, x0)] [] w Q := Iff.rfl
theorem e284 {d : Nat} {w : vW} {x0 x1 x2 x3 : Int} {Q : Int → vW → Prop} : VC (d + 1) 284 [(2, x0), (2, x1), (0, x2), (0, x3)] w Q ↔ VW d 284 0 [(2, x0), (2, x1), (0, x2), (0, x3), (9, 0), (9, 0), (9, 0), (9, 0)] [] w Q := Iff.rfl
theorem e285 {d : Nat} {w : vW} {x0 x1 : Int} {Q : Int → vW → Prop} : VC (d + 1) 285 [(2, x0), (2, x1)] w Q ↔ VW d 285 0 [(2, x0), (2, x1), (9, 0), (9, 0), (9, 0), (9, 0)] [] w Q := Iff.rfl
theorem e286 {d : Nat} {w : vW} {x0 x1 : Int} {Q : Int → vW → Prop} : VC (d + 1) 286 [(2, x0), (1, x1)] w Q ↔ VW d 286 0 [(2, x0), (1, x1), (9, 0)] [] w Q := Iff.rfl
theorem e287 {d : Nat} {w : vW} {x0 x1 : Int} {Q : Int → vW → Prop} : VC (d + 1) 287 [(2, x0), (1, x1)] w Q ↔ VW d 287 0 [(2, x0), (1, x1), (9, 0), (9, 0)] [] w Q := Iff.rfl
theorem e288 {d : Nat} {w : vW} {x0 x1 x2 : Int} {Q : Int → vW → Prop} : VC (d + 1) 288 [(2, x0), (2, x1), (1, x2)] w Q ↔ VW d 288 0 [(2, x0), (2, x1), (1, x2), (9, 0), (9, 0), (9, 0), (9, 0)] [] w Q := Iff.rfl
theorem e289 {d : Nat} {w : vW} {x0 x1 x2 x3 : Int} {Q : Int → vW → Prop} : VC (d + 1) 289 [(2, x0), (2, x1), (2, x2), (0, x3)] w Q ↔ VW d 289 0 [(2, x0), (2, x1), (2, x2), (0, x3), (9, 0), (9, 0), (9, 0)] [] w Q := Iff.rfl
theorem e290 {d : Nat} {w : vW} {x0 : Int} {Q : Int → vW → Prop} : VC (d + 1) 290 [(2, x0)] w Q ↔ VW d 290 0 [(2, x0)] [] w Q := Iff.rfl
theorem e291 {d : Nat} {w : vW} {x0 : Int} {Q : Int → vW → Prop} : VC (d + 1) 291 [(2, x0)] w Q ↔ VW d 291 0 [(2, x0)] [] w Q := Iff.rfl
theorem e292 {d : Nat} {w : vW} {x0 x1 : Int} {Q : Int → vW → Prop} : VC (d + 1) 292 [(2, x0), (0, x1)] w Q ↔ VW d 292 0 [(2, x0), (0, x1), (9, 0)] [] w Q := Iff.rfl
theorem e293 {d : Nat} {w : vW} {x0 x1 : Int} {Q : Int → vW → Prop} : VC (d + 1) 293 [(2, x0), (1, x1)] w Q ↔ VW d 293 0 [(2, x0), (1, x1), (9, 0)] [] w Q := Iff.rfl
theorem e294 {d : Nat} {w : vW} {x0 x1 x2 : Int} {Q : Int → vW → Prop} : VC (d + 1) 294 [(2, x0), (0, x1), (1, x2)] w Q ↔ VW d 294 0 [(2, x0), (0, x1), (1, x2), (9, 0)] [] w Q := Iff.rfl
theorem e295 {d : Nat} {w : vW} {x0 x1 : Int} {Q : Int → vW → Prop} : VC (d + 1) 295 [(2, x0), (0, x1)] w Q ↔ VW d 295 0 [(2, x0), (0, x1)] [] w Q := Iff.rfl
theorem e296 {d : Nat} {w : vW} {x0 x1 : Int} {Q : Int → vW → Prop} : VC (d + 1) 296 [(2, x0), (0, x1)] w Q ↔ VW d 296 0 [(2, x0), (0, x1)] [] w Q := Iff.rfl
theorem e297 {d : Nat} {w : vW} {x0 x1 x2 x3 : Int} {Q : Int → vW → Prop} : VC (d + 1) 297 [(2, x0), (0, x1), (0, x2), (2, x3)] w Q ↔ VW d 297 0 [(2, x0), (0, x1), (0, x2), (2, x3), (9, 0)] [] w Q := Iff.rfl
theorem e298 {d : Nat} {w : vW} {x0 x1 x2 : Int} {Q : Int → vW → Prop} : VC (d + 1) 298 [(2, x0), (0, x1), (2, x2)] w Q ↔ VW d 298 0 [(2, x0), (0, x1), (2, x2), (9, 0)] [] w Q := Iff.rfl
theorem e299 {d : Nat} {w : vW} {x0 : Int} {Q : Int → vW → Prop} : VC (d + 1) 299 [(2, x0)] w Q ↔ VW d 299 0 [(2, x0), (9, 0), (9, 0), (9, 0), (9, 0), (9, 0), (9, 0), (9, 0)] [] w Q := Iff.rfl
theorem e7x {d : Nat} {w : vW} {x0 x1 x2 : Int} {Q : Int → vW → Prop} {QX : vW → Prop} : VCX (d + 1) 7 [(2, x0), (0, x1), (0, x2)] w Q QX ↔ VX d 7 0 [(2, x0), (0, x1), (0, x2)] [] w Q QX := Iff.rfl
theorem e48x {d : Nat} {w : vW} {x0 x1 : Int} {Q : Int → vW → Prop} {QX : vW → Prop} : VCX (d + 1) 48 [(2, x0), (0, x1)] w Q QX ↔ VX d 48 0 [(2, x0), (0, x1)] [] w Q QX := Iff.rfl
section WORLD
variable {w : vW} {a b i j v n : Int} {k s : Nat} {c : Int → Int}
theorem vkd_sv : vkd (vsv w a i v) b = vkd w b := by
  show (if b = a then _ else _ : vC).1 = _
  by_cases h : b = a
  · rw [if_pos h, h]
  · rw [if_neg h]; rfl
theorem vln_sv : vln (vsv w a i v) b = vln w b := by
  show (if b = a then _ else _ : vC).2.1 = _
  by_cases h : b = a
  · rw [if_pos h, h]
  · rw [if_neg h]; rfl
theorem vct_sv : vct (vsv w a i v) b j = if b = a ∧ j = i then v else vct w b j := by
  show (if b = a then _ else _ : vC).2.2 j = _
  by_cases h : b = a
  · rw [if_pos h, h]
    by_cases h2 : j = i
    · rw [if_pos ⟨rfl, h2⟩]; exact if_pos h2
    · rw [if_neg (fun x => h2 x.2)]; exact if_neg h2
  · rw [if_neg h, if_neg (fun x => h x.1)]; rfl
theorem vct_svo (h : ¬ (b = a ∧ j = i)) : vct (vsv w a i v) b j = vct w b j := vct_sv.trans (if_neg h)
theorem vct_svi : vct (vsv w a i v) a i = v := vct_sv.trans (if_pos ⟨rfl, rfl⟩)
theorem vnt_sv : vnt (vsv w a i v) = vnt w := rfl
theorem vec_sv : vec (vsv w a i v) = vec w := rfl
theorem ves_sv : ves (vsv w a i v) = ves w := rfl
theorem vcl_sv (h : b ≠ a) : (vsv w a i v).1 b = w.1 b := if_neg h
theorem vkd_nw : vkd (vnw w k n c s) b = if b = vnt w then k else vkd w b := by
  show (if b = w.2.1 then _ else _ : vC).1 = _
  by_cases h : b = w.2.1
  · rw [if_pos h]; exact (if_pos h).symm
  · rw [if_neg h]; exact (if_neg h).symm
theorem vln_nw : vln (vnw w k n c s) b = if b = vnt w then n else vln w b := by
  show (if b = w.2.1 then _ else _ : vC).2.1 = _
  by_cases h : b = w.2.1
  · rw [if_pos h]; exact (if_pos h).symm
  · rw [if_neg h]; exact (if_neg h).symm
theorem vct_nw : vct (vnw w k n c s) b j = if b = vnt w then c j else vct w b j := by
  show (if b = w.2.1 then _ else _ : vC).2.2 j = _
  by_cases h : b = w.2.1
  · rw [if_pos h]; exact (if_pos h).symm
  · rw [if_neg h]; exact (if_neg h).symm
theorem vnt_nw : vnt (vnw w k n c s) = vnt w + 1 := rfl
theorem vec_nw : vec (vnw w k n c s) = vec w + 1 := rfl
theorem ves_nw : ves (vnw w k n c s) = ves w + s := rfl
theorem vcl_nw (h : b ≠ vnt w) : (vnw w k n c s).1 b = w.1 b := if_neg h
theorem vkd_nwm {ko ki : Nat} {m : Int} : vkd (vnwm w ko ki n m) b = if b = vnt w then ko else if vnt w < b ∧ b ≤ vnt w + n then ki else vkd w b := by
  show (if b = w.2.1 then _ else if w.2.1 < b ∧ b ≤ w.2.1 + n then _ else _ : vC).1 = if b = w.2.1 then ko else if w.2.1 < b ∧ b ≤ w.2.1 + n then ki else vkd w b
  by_cases h : b = w.2.1
  · rw [if_pos h, if_pos h]
  · rw [if_neg h, if_neg h]
    by_cases h2 : w.2.1 < b ∧ b ≤ w.2.1 + n
    · rw [if_pos h2, if_pos h2]
    · rw [if_neg h2, if_neg h2]; rfl
theorem vln_nwm {ko ki : Nat} {m : Int} : vln (vnwm w ko ki n m) b = if b = vnt w then n else if vnt w < b ∧ b ≤ vnt w + n then m else vln w b := by
  show (if b = w.2.1 then _ else if w.2.1 < b ∧ b ≤ w.2.1 + n then _ else _ : vC).2.1 = if b = w.2.1 then n else if w.2.1 < b ∧ b ≤ w.2.1 + n then m else vln w b
  by_cases h : b = w.2.1
  · rw [if_pos h, if_pos h]
  · rw [if_neg h, if_neg h]
    by_cases h2 : w.2.1 < b ∧ b ≤ w.2.1 + n
    · rw [if_pos h2, if_pos h2]
    · rw [if_neg h2, if_neg h2]; rfl
theorem vct_nwm {ko ki : Nat} {m : Int} : vct (vnwm w ko ki n m) b j = if b = vnt w then vnt w + 1 + j else if vnt w < b ∧ b ≤ vnt w + n then 0 else vct w b j := by
  show (if b = w.2.1 then _ else if w.2.1 < b ∧ b ≤ w.2.1 + n then _ else _ : vC).2.2 j = if b = w.2.1 then w.2.1 + 1 + j else if w.2.1 < b ∧ b ≤ w.2.1 + n then 0 else vct w b j
  by_cases h : b = w.2.1
  · rw [if_pos h, if_pos h]
  · rw [if_neg h, if_neg h]
    by_cases h2 : w.2.1 < b ∧ b ≤ w.2.1 + n
    · rw [if_pos h2, if_pos h2]
    · rw [if_neg h2, if_neg h2]; rfl
theorem vnt_nwm {ko ki : Nat} {m : Int} : vnt (vnwm w ko ki n m) = vnt w + 1 + n := rfl
theorem vec_nwm {ko ki : Nat} {m : Int} : vec (vnwm w ko ki n m) = vec w + 1 + n.toNat := rfl
theorem ves_nwm {ko ki : Nat} {m : Int} : ves (vnwm w ko ki n m) = ves w + n.toNat + n.toNat * m.toNat := rfl
theorem vcl_nwm {ko ki : Nat} {m : Int} (h : b < vnt w) : (vnwm w ko ki n m).1 b = w.1 b := by
  show (if b = w.2.1 then _ else if w.2.1 < b ∧ b ≤ w.2.1 + n then _ else _ : vC) = _
  have h' : b < w.2.1 := h
  rw [if_neg (by omega), if_neg (by omega)]
/-- a row's contents put for others -/
def vup (w : vW) (a : Int) (c : Int → Int) : vW := (fun b => if b = a then (vkd w a, vln w a, c) else w.1 b, w.2)
theorem vkd_up : vkd (vup w a c) b = vkd w b := by
  show (if b = a then _ else _ : vC).1 = _
  by_cases h : b = a
  · rw [if_pos h, h]
  · rw [if_neg h]; rfl
theorem vln_up : vln (vup w a c) b = vln w b := by
  show (if b = a then _ else _ : vC).2.1 = _
  by_cases h : b = a
  · rw [if_pos h, h]
  · rw [if_neg h]; rfl
theorem vct_up : vct (vup w a c) b j = if b = a then c j else vct w b j := by
  show (if b = a then _ else _ : vC).2.2 j = _
  by_cases h : b = a
  · rw [if_pos h, if_pos h]
  · rw [if_neg h, if_neg h]; rfl
theorem vct_upo (h : b ≠ a) : vct (vup w a c) b j = vct w b j := vct_up.trans (if_neg h)
theorem vct_upi : vct (vup w a c) a j = c j := vct_up.trans (if_pos rfl)
theorem vcl_up (h : b ≠ a) : (vup w a c).1 b = w.1 b := if_neg h
theorem vnt_up : vnt (vup w a c) = vnt w := rfl
theorem vec_up : vec (vup w a c) = vec w := rfl
theorem ves_up : ves (vup w a c) = ves w := rfl
theorem vsv_up : vsv w a i v = vup w a (fun j => if j = i then v else vct w a j) := rfl
theorem vup_up {c' : Int → Int} : vup (vup w a c) a c' = vup w a c' := by
  refine Prod.ext (funext fun b => ?_) rfl
  show (if b = a then (vkd (vup w a c) a, vln (vup w a c) a, c') else (if b = a then (vkd w a, vln w a, c) else w.1 b) : vC) = (if b = a then (vkd w a, vln w a, c') else w.1 b : vC)
  by_cases h : b = a
  · rw [if_pos h, if_pos h, vkd_up, vln_up]
  · rw [if_neg h, if_neg h, if_neg h]
theorem vup_self : vup w a (vct w a) = w := by
  refine Prod.ext (funext fun b => ?_) rfl
  show (if b = a then (vkd w a, vln w a, vct w a) else w.1 b : vC) = w.1 b
  by_cases h : b = a
  · rw [if_pos h, h]; rfl
  · rw [if_neg h]
theorem vup_sv : vsv (vup w a c) a i v = vup w a (fun j => if j = i then v else c j) := by
  rw [vsv_up, vup_up]
  congr 1
  funext j
  rw [vct_upi]
theorem vkd_xw : vkd (vxw w) b = vkd w b := rfl
theorem vln_xw : vln (vxw w) b = vln w b := rfl
theorem vct_xw : vct (vxw w) b j = vct w b j := rfl
theorem vct_cl {w' : vW} (h : w'.1 a = w.1 a) : vct w' a = vct w a := by show (w'.1 a).2.2 = _; rw [h]; rfl
theorem vkd_cl {w' : vW} (h : w'.1 a = w.1 a) : vkd w' a = vkd w a := by show (w'.1 a).1 = _; rw [h]; rfl
theorem vln_cl {w' : vW} (h : w'.1 a = w.1 a) : vln w' a = vln w a := by show (w'.1 a).2.1 = _; rw [h]; rfl
end WORLD
/-! numbers -/
theorem w32_m (z : Int) : ∃ q, w32 z = z + 4294967296 * q := ⟨-((z + 2147483648) / 4294967296), by unfold w32; omega⟩
theorem w32_r (z : Int) : -2147483648 ≤ w32 z ∧ w32 z < 2147483648 := by unfold w32; omega
theorem w64_r (z : Int) : -9223372036854775808 ≤ w64 z ∧ w64 z < 9223372036854775808 := by unfold w64; omega
theorem vlc_lt {x y : Int} : vlc x y < 0 ↔ x < y := by unfold vlc; split <;> (try split) <;> omega
theorem vlc_gt {x y : Int} : 0 < vlc x y ↔ y < x := by unfold vlc; split <;> (try split) <;> omega
theorem vlc_eq {x y : Int} : vlc x y = 0 ↔ x = y := by unfold vlc; split <;> (try split) <;> omega
theorem l_or_comm (x y : Int) : l_or x y = l_or y x := by
  rw [l_or_d, l_or_d, Int64.or_comm]
theorem i_or_comm (x y : Int) : i_or x y = i_or y x := by
  rw [i_or_d, i_or_d, Int32.or_comm]
theorem l_or_low (a b : Int) (k : Nat) (ha : 0 ≤ a) (hb : 0 ≤ b) (hb2 : b < 2 ^ k) (hs : a * 2 ^ k + b < 9223372036854775808) : l_or b (a * 2 ^ k) = a * 2 ^ k + b := (l_or_comm _ _).trans (l_or_add a b k ha hb hb2 hs)
theorem tmod_nn {x y : Int} (h : 0 ≤ x) : Int.tmod x y = x % y := Int.tmod_eq_emod_of_nonneg h
theorem tdiv_nn {x y : Int} (h : 0 ≤ x) : Int.tdiv x y = x / y := Int.tdiv_eq_ediv_of_nonneg h
