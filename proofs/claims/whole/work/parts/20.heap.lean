def hp (n : Nat) (xs : Nat → Int32) (f : Nat → Int32) (a : Nat → Nat → Int32) (o : Nat → Int64) : ax_H := [
  .inl (3, n, .inl xs),
  .inr (6, [.int (f 9), .ref 15, .ref 20, .ref 2, .ref 6, .ref 8, .ref 11, .int (f 10), .int (f 11), .ref 13, .ref 14]),
  .inr (0, [.ref 3, .ref 4, .ref 5, .int (f 0)]),
  .inl (0, 4, .inl (a 3)), .inl (0, 4, .inl (a 4)), .inl (1, 4, .inl (a 5)),
  .inr (2, [.int (f 5), .int (f 6), .ref 7]), .inl (0, 20, .inl (a 7)),
  .inr (1, [.ref 9, .ref 10, .int (f 1), .int (f 2), .int (f 3), .int (f 4)]), .inl (0, 257, .inl (a 9)), .inl (0, 257, .inl (a 10)),
  .inr (5, [.ref 12]), .inl (0, 8, .inl (a 12)),
  .inl (0, 5, .inl (a 13)), .inl (0, 5, .inl (a 14)),
  .inr (3, [.ref 19, .ref 16, .ref 17, .ref 18, .int (f 7)]), .inl (0, 20, .inl (a 16)), .inl (0, 20, .inl (a 17)), .inl (0, 20, .inl (a 18)), .inl (0, 20, .inl (a 19)),
  .inr (4, [.ref 24, .ref 21, .ref 22, .ref 23, .int (f 8)]), .inl (0, 8, .inl (a 21)), .inl (0, 8, .inl (a 22)), .inl (0, 8, .inl (a 23)), .inl (0, 8, .inl (a 24)),
  .inr (7, [.int (f 12), .int (f 13), .int (f 14), .ref 26, .ref 27, .ref 28, .ref 29, .ref 30, .ref 31, .int (f 15), .ref 32, .int (f 16), .ref 33, .int (f 17), .int (f 18), .ref 34, .ref 35, .ref 36, .int (f 19), .ref 37, .ref 38, .ref 39, .ref 40, .ref 41, .int (f 20), .ref 42, .ref 43, .ref 44, .int (f 21), .int (f 22)]),
  .inl (0, 20, .inl (a 26)), .inl (0, 20, .inl (a 27)), .inl (0, 20, .inl (a 28)), .inl (1, 20, .inl (a 29)), .inl (0, 20, .inl (a 30)), .inl (0, 20, .inl (a 31)), .inl (0, 8, .inl (a 32)), .inl (0, 64, .inl (a 33)), .inl (0, 4, .inl (a 34)), .inl (0, 4, .inl (a 35)), .inl (1, 4, .inl (a 36)), .inl (0, 16, .inl (a 37)), .inl (0, 16, .inl (a 38)), .inl (0, 1024, .inl (a 39)), .inl (0, 1024, .inl (a 40)), .inl (1, 64, .inl (a 41)), .inl (0, 5, .inl (a 42)), .inl (0, 8, .inl (a 43)), .inl (0, 8, .inl (a 44)),
  .inl (2, 1, .inr (.inl o))]
def ix_of (r : Option Nat) : Int32 := match r with
  | some i => nI i
  | none => -1
def tb_at (T : tm_T) (k x y : Nat → Int32) : Prop := ∀ (i : Nat) (e : Nat × Nat × Nat), T[i]? = some e → k i = nI e.1 ∧ x i = nI e.2.1 ∧ y i = nI e.2.2 ∧ e.1 < 2 ^ 31 ∧ e.2.1 < 2 ^ 31 ∧ e.2.2 < 2 ^ 31
