/-! the picture: a p k is the int in slot k of the class's object at place p, g p j element j of its array at p; b k, f p j likewise of the reference -/
def u1 (f : Nat → Int32) (k : Nat) (x : Int32) (j : Nat) : Int32 := if j = k then x else f j
def hu (a : Nat → Nat → Int32) (p : Nat) (r : Nat → Int32) (q : Nat) : Nat → Int32 := if q = p then r else a q
def zb (x : Int32) : Int32 := vp_nar .boolean x
theorem zb_0 : zb 0 = 0 := by decide +kernel
theorem zb_1 : zb 1 = 1 := by decide +kernel
def hp (a g : Nat → Nat → Int32) (b : Nat → Int32) (f : Nat → Nat → Int32) : rx_H := [
  .inr (8, [.int (a 0 0), .ref 1, .ref 3, .ref 13, .ref 15, .ref 17, .ref 20, .ref 22, .ref 24, .ref 27, .int (a 0 10), .int (a 0 11), .int (a 0 12), .int (a 0 13), .int (a 0 14), .int (a 0 15), .int (a 0 16), .int (a 0 17)]),
  .inr (3, [.ref 2]),
  .inl (0, 2000, .inl (g 2)),
  .inr (0, [.ref 4, .ref 5, .ref 6]),
  .inl (0, 6, .inl (g 4)),
  .inl (0, 6, .inl (g 5)),
  .inl (2, 6, .inr (.inr (.inr (.inr (fun j => if j < 6 then some (7 + j) else none))))),
  .inl (0, 400, .inl (g 7)),
  .inl (0, 400, .inl (g 8)),
  .inl (0, 400, .inl (g 9)),
  .inl (0, 400, .inl (g 10)),
  .inl (0, 400, .inl (g 11)),
  .inl (0, 400, .inl (g 12)),
  .inr (5, [.ref 14, .int (a 13 1)]),
  .inl (0, 8, .inl (g 14)),
  .inr (5, [.ref 16, .int (a 15 1)]),
  .inl (0, 60, .inl (g 16)),
  .inr (7, [.int (a 17 0), .ref 18, .ref 19, .int (a 17 3)]),
  .inl (0, 16, .inl (g 18)),
  .inl (0, 16, .inl (g 19)),
  .inr (6, [.ref 21, .int (a 20 1), .int (a 20 2)]),
  .inl (0, 100, .inl (g 21)),
  .inr (1, [.ref 23, .int (a 22 1)]),
  .inl (0, 40, .inl (g 23)),
  .inr (2, [.ref 25, .ref 26, .int (a 24 2)]),
  .inl (0, 200, .inl (g 25)),
  .inl (0, 200, .inl (g 26)),
  .inr (4, [.ref 28, .int (a 27 1), .int (a 27 2), .int (a 27 3)]),
  .inl (1, 10, .inl (g 28)),
  .inr (9, [.int (b 0), .ref 30, .ref 31, .ref 32, .ref 33, .ref 34, .int (b 6), .int (b 7), .int (b 8), .int (b 9), .ref 35, .ref 36, .int (b 12), .ref 37, .int (b 14), .int (b 15), .int (b 16), .int (b 17), .int (b 18), .ref 38, .int (b 20), .int (b 21), .int (b 22), .ref 39, .int (b 24), .ref 40, .int (b 26), .int (b 27), .int (b 28), .ref 41, .ref 42, .int (b 31)]),
  .inl (0, 2000, .inl (f 30)),
  .inl (0, 6, .inl (f 31)),
  .inl (0, 6, .inl (f 32)),
  .inl (0, 2400, .inl (f 33)),
  .inl (0, 8, .inl (f 34)),
  .inl (0, 16, .inl (f 35)),
  .inl (0, 16, .inl (f 36)),
  .inl (0, 100, .inl (f 37)),
  .inl (0, 60, .inl (f 38)),
  .inl (0, 40, .inl (f 39)),
  .inl (1, 10, .inl (f 40)),
  .inl (0, 200, .inl (f 41)),
  .inl (0, 200, .inl (f 42))]
theorem rc_0 {a g : Nat → Nat → Int32} {b : Nat → Int32} {f : Nat → Nat → Int32} {tl : List Value} : rx_rcv (hp a g b f) 8 (.ref 0 :: tl) = true := id rfl
theorem gf_0_0 {a g : Nat → Nat → Int32} {b : Nat → Int32} {f : Nat → Nat → Int32} : rx_gf (hp a g b f) 0 8 0 = some (.int (a 0 0)) := id rfl
theorem gf_0_1 {a g : Nat → Nat → Int32} {b : Nat → Int32} {f : Nat → Nat → Int32} : rx_gf (hp a g b f) 0 8 1 = some (.ref 1) := id rfl
theorem gf_0_2 {a g : Nat → Nat → Int32} {b : Nat → Int32} {f : Nat → Nat → Int32} : rx_gf (hp a g b f) 0 8 2 = some (.ref 3) := id rfl
theorem gf_0_3 {a g : Nat → Nat → Int32} {b : Nat → Int32} {f : Nat → Nat → Int32} : rx_gf (hp a g b f) 0 8 3 = some (.ref 13) := id rfl
theorem gf_0_4 {a g : Nat → Nat → Int32} {b : Nat → Int32} {f : Nat → Nat → Int32} : rx_gf (hp a g b f) 0 8 4 = some (.ref 15) := id rfl
theorem gf_0_5 {a g : Nat → Nat → Int32} {b : Nat → Int32} {f : Nat → Nat → Int32} : rx_gf (hp a g b f) 0 8 5 = some (.ref 17) := id rfl
theorem gf_0_6 {a g : Nat → Nat → Int32} {b : Nat → Int32} {f : Nat → Nat → Int32} : rx_gf (hp a g b f) 0 8 6 = some (.ref 20) := id rfl
theorem gf_0_7 {a g : Nat → Nat → Int32} {b : Nat → Int32} {f : Nat → Nat → Int32} : rx_gf (hp a g b f) 0 8 7 = some (.ref 22) := id rfl
theorem gf_0_8 {a g : Nat → Nat → Int32} {b : Nat → Int32} {f : Nat → Nat → Int32} : rx_gf (hp a g b f) 0 8 8 = some (.ref 24) := id rfl
theorem gf_0_9 {a g : Nat → Nat → Int32} {b : Nat → Int32} {f : Nat → Nat → Int32} : rx_gf (hp a g b f) 0 8 9 = some (.ref 27) := id rfl
theorem gf_0_10 {a g : Nat → Nat → Int32} {b : Nat → Int32} {f : Nat → Nat → Int32} : rx_gf (hp a g b f) 0 8 10 = some (.int (a 0 10)) := id rfl
theorem pf_0_10 {a g : Nat → Nat → Int32} {b : Nat → Int32} {f : Nat → Nat → Int32} {x : Int32} : rx_pf (hp a g b f) 0 8 10 (.int x) = some (hp (hu a 0 (u1 (a 0) 10 x)) g b f) := id rfl
theorem gf_0_11 {a g : Nat → Nat → Int32} {b : Nat → Int32} {f : Nat → Nat → Int32} : rx_gf (hp a g b f) 0 8 11 = some (.int (a 0 11)) := id rfl
theorem pf_0_11 {a g : Nat → Nat → Int32} {b : Nat → Int32} {f : Nat → Nat → Int32} {x : Int32} : rx_pf (hp a g b f) 0 8 11 (.int x) = some (hp (hu a 0 (u1 (a 0) 11 x)) g b f) := id rfl
theorem gf_0_12 {a g : Nat → Nat → Int32} {b : Nat → Int32} {f : Nat → Nat → Int32} : rx_gf (hp a g b f) 0 8 12 = some (.int (a 0 12)) := id rfl
theorem pf_0_12 {a g : Nat → Nat → Int32} {b : Nat → Int32} {f : Nat → Nat → Int32} {x : Int32} : rx_pf (hp a g b f) 0 8 12 (.int x) = some (hp (hu a 0 (u1 (a 0) 12 x)) g b f) := id rfl
theorem gf_0_13 {a g : Nat → Nat → Int32} {b : Nat → Int32} {f : Nat → Nat → Int32} : rx_gf (hp a g b f) 0 8 13 = some (.int (a 0 13)) := id rfl
theorem pf_0_13 {a g : Nat → Nat → Int32} {b : Nat → Int32} {f : Nat → Nat → Int32} {x : Int32} : rx_pf (hp a g b f) 0 8 13 (.int x) = some (hp (hu a 0 (u1 (a 0) 13 x)) g b f) := id rfl
theorem gf_0_14 {a g : Nat → Nat → Int32} {b : Nat → Int32} {f : Nat → Nat → Int32} : rx_gf (hp a g b f) 0 8 14 = some (.int (a 0 14)) := id rfl
theorem pf_0_14 {a g : Nat → Nat → Int32} {b : Nat → Int32} {f : Nat → Nat → Int32} {x : Int32} : rx_pf (hp a g b f) 0 8 14 (.int x) = some (hp (hu a 0 (u1 (a 0) 14 x)) g b f) := id rfl
theorem gf_0_15 {a g : Nat → Nat → Int32} {b : Nat → Int32} {f : Nat → Nat → Int32} : rx_gf (hp a g b f) 0 8 15 = some (.int (a 0 15)) := id rfl
theorem pf_0_15 {a g : Nat → Nat → Int32} {b : Nat → Int32} {f : Nat → Nat → Int32} {x : Int32} : rx_pf (hp a g b f) 0 8 15 (.int x) = some (hp (hu a 0 (u1 (a 0) 15 x)) g b f) := id rfl
theorem gf_0_16 {a g : Nat → Nat → Int32} {b : Nat → Int32} {f : Nat → Nat → Int32} : rx_gf (hp a g b f) 0 8 16 = some (.int (a 0 16)) := id rfl
theorem pf_0_16 {a g : Nat → Nat → Int32} {b : Nat → Int32} {f : Nat → Nat → Int32} {x : Int32} : rx_pf (hp a g b f) 0 8 16 (.int x) = some (hp (hu a 0 (u1 (a 0) 16 x)) g b f) := id rfl
theorem gf_0_17 {a g : Nat → Nat → Int32} {b : Nat → Int32} {f : Nat → Nat → Int32} : rx_gf (hp a g b f) 0 8 17 = some (.int (a 0 17)) := id rfl
theorem pf_0_17 {a g : Nat → Nat → Int32} {b : Nat → Int32} {f : Nat → Nat → Int32} {x : Int32} : rx_pf (hp a g b f) 0 8 17 (.int x) = some (hp (hu a 0 (u1 (a 0) 17 x)) g b f) := id rfl
theorem rc_1 {a g : Nat → Nat → Int32} {b : Nat → Int32} {f : Nat → Nat → Int32} {tl : List Value} : rx_rcv (hp a g b f) 3 (.ref 1 :: tl) = true := id rfl
theorem gf_1_0 {a g : Nat → Nat → Int32} {b : Nat → Int32} {f : Nat → Nat → Int32} : rx_gf (hp a g b f) 1 3 0 = some (.ref 2) := id rfl
theorem al_2 {a g : Nat → Nat → Int32} {b : Nat → Int32} {f : Nat → Nat → Int32} {i : Int32} : rx_ald (hp a g b f) 2 0 i = if 0 ≤ i.toInt ∧ i.toInt < 2000 then some (g 2 i.toNatClampNeg) else none := id rfl
theorem as_2 {a g : Nat → Nat → Int32} {b : Nat → Int32} {f : Nat → Nat → Int32} {i x : Int32} : rx_ast (hp a g b f) 2 0 i x = if 0 ≤ i.toInt ∧ i.toInt < 2000 then some (hp a (hu g 2 (u1 (g 2) i.toNatClampNeg (x))) b f) else none := id rfl
theorem rc_3 {a g : Nat → Nat → Int32} {b : Nat → Int32} {f : Nat → Nat → Int32} {tl : List Value} : rx_rcv (hp a g b f) 0 (.ref 3 :: tl) = true := id rfl
theorem gf_3_0 {a g : Nat → Nat → Int32} {b : Nat → Int32} {f : Nat → Nat → Int32} : rx_gf (hp a g b f) 3 0 0 = some (.ref 4) := id rfl
theorem gf_3_1 {a g : Nat → Nat → Int32} {b : Nat → Int32} {f : Nat → Nat → Int32} : rx_gf (hp a g b f) 3 0 1 = some (.ref 5) := id rfl
theorem gf_3_2 {a g : Nat → Nat → Int32} {b : Nat → Int32} {f : Nat → Nat → Int32} : rx_gf (hp a g b f) 3 0 2 = some (.ref 6) := id rfl
theorem al_4 {a g : Nat → Nat → Int32} {b : Nat → Int32} {f : Nat → Nat → Int32} {i : Int32} : rx_ald (hp a g b f) 4 0 i = if 0 ≤ i.toInt ∧ i.toInt < 6 then some (g 4 i.toNatClampNeg) else none := id rfl
theorem as_4 {a g : Nat → Nat → Int32} {b : Nat → Int32} {f : Nat → Nat → Int32} {i x : Int32} : rx_ast (hp a g b f) 4 0 i x = if 0 ≤ i.toInt ∧ i.toInt < 6 then some (hp a (hu g 4 (u1 (g 4) i.toNatClampNeg (x))) b f) else none := id rfl
theorem al_5 {a g : Nat → Nat → Int32} {b : Nat → Int32} {f : Nat → Nat → Int32} {i : Int32} : rx_ald (hp a g b f) 5 0 i = if 0 ≤ i.toInt ∧ i.toInt < 6 then some (g 5 i.toNatClampNeg) else none := id rfl
theorem as_5 {a g : Nat → Nat → Int32} {b : Nat → Int32} {f : Nat → Nat → Int32} {i x : Int32} : rx_ast (hp a g b f) 5 0 i x = if 0 ≤ i.toInt ∧ i.toInt < 6 then some (hp a (hu g 5 (u1 (g 5) i.toNatClampNeg (x))) b f) else none := id rfl
theorem al_7 {a g : Nat → Nat → Int32} {b : Nat → Int32} {f : Nat → Nat → Int32} {i : Int32} : rx_ald (hp a g b f) 7 0 i = if 0 ≤ i.toInt ∧ i.toInt < 400 then some (g 7 i.toNatClampNeg) else none := id rfl
theorem as_7 {a g : Nat → Nat → Int32} {b : Nat → Int32} {f : Nat → Nat → Int32} {i x : Int32} : rx_ast (hp a g b f) 7 0 i x = if 0 ≤ i.toInt ∧ i.toInt < 400 then some (hp a (hu g 7 (u1 (g 7) i.toNatClampNeg (x))) b f) else none := id rfl
theorem al_8 {a g : Nat → Nat → Int32} {b : Nat → Int32} {f : Nat → Nat → Int32} {i : Int32} : rx_ald (hp a g b f) 8 0 i = if 0 ≤ i.toInt ∧ i.toInt < 400 then some (g 8 i.toNatClampNeg) else none := id rfl
theorem as_8 {a g : Nat → Nat → Int32} {b : Nat → Int32} {f : Nat → Nat → Int32} {i x : Int32} : rx_ast (hp a g b f) 8 0 i x = if 0 ≤ i.toInt ∧ i.toInt < 400 then some (hp a (hu g 8 (u1 (g 8) i.toNatClampNeg (x))) b f) else none := id rfl
theorem al_9 {a g : Nat → Nat → Int32} {b : Nat → Int32} {f : Nat → Nat → Int32} {i : Int32} : rx_ald (hp a g b f) 9 0 i = if 0 ≤ i.toInt ∧ i.toInt < 400 then some (g 9 i.toNatClampNeg) else none := id rfl
theorem as_9 {a g : Nat → Nat → Int32} {b : Nat → Int32} {f : Nat → Nat → Int32} {i x : Int32} : rx_ast (hp a g b f) 9 0 i x = if 0 ≤ i.toInt ∧ i.toInt < 400 then some (hp a (hu g 9 (u1 (g 9) i.toNatClampNeg (x))) b f) else none := id rfl
theorem al_10 {a g : Nat → Nat → Int32} {b : Nat → Int32} {f : Nat → Nat → Int32} {i : Int32} : rx_ald (hp a g b f) 10 0 i = if 0 ≤ i.toInt ∧ i.toInt < 400 then some (g 10 i.toNatClampNeg) else none := id rfl
theorem as_10 {a g : Nat → Nat → Int32} {b : Nat → Int32} {f : Nat → Nat → Int32} {i x : Int32} : rx_ast (hp a g b f) 10 0 i x = if 0 ≤ i.toInt ∧ i.toInt < 400 then some (hp a (hu g 10 (u1 (g 10) i.toNatClampNeg (x))) b f) else none := id rfl
theorem al_11 {a g : Nat → Nat → Int32} {b : Nat → Int32} {f : Nat → Nat → Int32} {i : Int32} : rx_ald (hp a g b f) 11 0 i = if 0 ≤ i.toInt ∧ i.toInt < 400 then some (g 11 i.toNatClampNeg) else none := id rfl
theorem as_11 {a g : Nat → Nat → Int32} {b : Nat → Int32} {f : Nat → Nat → Int32} {i x : Int32} : rx_ast (hp a g b f) 11 0 i x = if 0 ≤ i.toInt ∧ i.toInt < 400 then some (hp a (hu g 11 (u1 (g 11) i.toNatClampNeg (x))) b f) else none := id rfl
theorem al_12 {a g : Nat → Nat → Int32} {b : Nat → Int32} {f : Nat → Nat → Int32} {i : Int32} : rx_ald (hp a g b f) 12 0 i = if 0 ≤ i.toInt ∧ i.toInt < 400 then some (g 12 i.toNatClampNeg) else none := id rfl
theorem as_12 {a g : Nat → Nat → Int32} {b : Nat → Int32} {f : Nat → Nat → Int32} {i x : Int32} : rx_ast (hp a g b f) 12 0 i x = if 0 ≤ i.toInt ∧ i.toInt < 400 then some (hp a (hu g 12 (u1 (g 12) i.toNatClampNeg (x))) b f) else none := id rfl
theorem rc_13 {a g : Nat → Nat → Int32} {b : Nat → Int32} {f : Nat → Nat → Int32} {tl : List Value} : rx_rcv (hp a g b f) 5 (.ref 13 :: tl) = true := id rfl
theorem gf_13_0 {a g : Nat → Nat → Int32} {b : Nat → Int32} {f : Nat → Nat → Int32} : rx_gf (hp a g b f) 13 5 0 = some (.ref 14) := id rfl
theorem gf_13_1 {a g : Nat → Nat → Int32} {b : Nat → Int32} {f : Nat → Nat → Int32} : rx_gf (hp a g b f) 13 5 1 = some (.int (a 13 1)) := id rfl
theorem pf_13_1 {a g : Nat → Nat → Int32} {b : Nat → Int32} {f : Nat → Nat → Int32} {x : Int32} : rx_pf (hp a g b f) 13 5 1 (.int x) = some (hp (hu a 13 (u1 (a 13) 1 x)) g b f) := id rfl
theorem al_14 {a g : Nat → Nat → Int32} {b : Nat → Int32} {f : Nat → Nat → Int32} {i : Int32} : rx_ald (hp a g b f) 14 0 i = if 0 ≤ i.toInt ∧ i.toInt < 8 then some (g 14 i.toNatClampNeg) else none := id rfl
theorem as_14 {a g : Nat → Nat → Int32} {b : Nat → Int32} {f : Nat → Nat → Int32} {i x : Int32} : rx_ast (hp a g b f) 14 0 i x = if 0 ≤ i.toInt ∧ i.toInt < 8 then some (hp a (hu g 14 (u1 (g 14) i.toNatClampNeg (x))) b f) else none := id rfl
theorem rc_15 {a g : Nat → Nat → Int32} {b : Nat → Int32} {f : Nat → Nat → Int32} {tl : List Value} : rx_rcv (hp a g b f) 5 (.ref 15 :: tl) = true := id rfl
theorem gf_15_0 {a g : Nat → Nat → Int32} {b : Nat → Int32} {f : Nat → Nat → Int32} : rx_gf (hp a g b f) 15 5 0 = some (.ref 16) := id rfl
theorem gf_15_1 {a g : Nat → Nat → Int32} {b : Nat → Int32} {f : Nat → Nat → Int32} : rx_gf (hp a g b f) 15 5 1 = some (.int (a 15 1)) := id rfl
theorem pf_15_1 {a g : Nat → Nat → Int32} {b : Nat → Int32} {f : Nat → Nat → Int32} {x : Int32} : rx_pf (hp a g b f) 15 5 1 (.int x) = some (hp (hu a 15 (u1 (a 15) 1 x)) g b f) := id rfl
theorem al_16 {a g : Nat → Nat → Int32} {b : Nat → Int32} {f : Nat → Nat → Int32} {i : Int32} : rx_ald (hp a g b f) 16 0 i = if 0 ≤ i.toInt ∧ i.toInt < 60 then some (g 16 i.toNatClampNeg) else none := id rfl
theorem as_16 {a g : Nat → Nat → Int32} {b : Nat → Int32} {f : Nat → Nat → Int32} {i x : Int32} : rx_ast (hp a g b f) 16 0 i x = if 0 ≤ i.toInt ∧ i.toInt < 60 then some (hp a (hu g 16 (u1 (g 16) i.toNatClampNeg (x))) b f) else none := id rfl
theorem rc_17 {a g : Nat → Nat → Int32} {b : Nat → Int32} {f : Nat → Nat → Int32} {tl : List Value} : rx_rcv (hp a g b f) 7 (.ref 17 :: tl) = true := id rfl
theorem gf_17_0 {a g : Nat → Nat → Int32} {b : Nat → Int32} {f : Nat → Nat → Int32} : rx_gf (hp a g b f) 17 7 0 = some (.int (a 17 0)) := id rfl
theorem gf_17_1 {a g : Nat → Nat → Int32} {b : Nat → Int32} {f : Nat → Nat → Int32} : rx_gf (hp a g b f) 17 7 1 = some (.ref 18) := id rfl
theorem gf_17_2 {a g : Nat → Nat → Int32} {b : Nat → Int32} {f : Nat → Nat → Int32} : rx_gf (hp a g b f) 17 7 2 = some (.ref 19) := id rfl
theorem gf_17_3 {a g : Nat → Nat → Int32} {b : Nat → Int32} {f : Nat → Nat → Int32} : rx_gf (hp a g b f) 17 7 3 = some (.int (a 17 3)) := id rfl
theorem pf_17_3 {a g : Nat → Nat → Int32} {b : Nat → Int32} {f : Nat → Nat → Int32} {x : Int32} : rx_pf (hp a g b f) 17 7 3 (.int x) = some (hp (hu a 17 (u1 (a 17) 3 x)) g b f) := id rfl
theorem al_18 {a g : Nat → Nat → Int32} {b : Nat → Int32} {f : Nat → Nat → Int32} {i : Int32} : rx_ald (hp a g b f) 18 0 i = if 0 ≤ i.toInt ∧ i.toInt < 16 then some (g 18 i.toNatClampNeg) else none := id rfl
theorem as_18 {a g : Nat → Nat → Int32} {b : Nat → Int32} {f : Nat → Nat → Int32} {i x : Int32} : rx_ast (hp a g b f) 18 0 i x = if 0 ≤ i.toInt ∧ i.toInt < 16 then some (hp a (hu g 18 (u1 (g 18) i.toNatClampNeg (x))) b f) else none := id rfl
theorem al_19 {a g : Nat → Nat → Int32} {b : Nat → Int32} {f : Nat → Nat → Int32} {i : Int32} : rx_ald (hp a g b f) 19 0 i = if 0 ≤ i.toInt ∧ i.toInt < 16 then some (g 19 i.toNatClampNeg) else none := id rfl
theorem as_19 {a g : Nat → Nat → Int32} {b : Nat → Int32} {f : Nat → Nat → Int32} {i x : Int32} : rx_ast (hp a g b f) 19 0 i x = if 0 ≤ i.toInt ∧ i.toInt < 16 then some (hp a (hu g 19 (u1 (g 19) i.toNatClampNeg (x))) b f) else none := id rfl
theorem rc_20 {a g : Nat → Nat → Int32} {b : Nat → Int32} {f : Nat → Nat → Int32} {tl : List Value} : rx_rcv (hp a g b f) 6 (.ref 20 :: tl) = true := id rfl
theorem gf_20_0 {a g : Nat → Nat → Int32} {b : Nat → Int32} {f : Nat → Nat → Int32} : rx_gf (hp a g b f) 20 6 0 = some (.ref 21) := id rfl
theorem gf_20_1 {a g : Nat → Nat → Int32} {b : Nat → Int32} {f : Nat → Nat → Int32} : rx_gf (hp a g b f) 20 6 1 = some (.int (a 20 1)) := id rfl
theorem pf_20_1 {a g : Nat → Nat → Int32} {b : Nat → Int32} {f : Nat → Nat → Int32} {x : Int32} : rx_pf (hp a g b f) 20 6 1 (.int x) = some (hp (hu a 20 (u1 (a 20) 1 x)) g b f) := id rfl
theorem gf_20_2 {a g : Nat → Nat → Int32} {b : Nat → Int32} {f : Nat → Nat → Int32} : rx_gf (hp a g b f) 20 6 2 = some (.int (a 20 2)) := id rfl
theorem pf_20_2 {a g : Nat → Nat → Int32} {b : Nat → Int32} {f : Nat → Nat → Int32} {x : Int32} : rx_pf (hp a g b f) 20 6 2 (.int x) = some (hp (hu a 20 (u1 (a 20) 2 x)) g b f) := id rfl
theorem al_21 {a g : Nat → Nat → Int32} {b : Nat → Int32} {f : Nat → Nat → Int32} {i : Int32} : rx_ald (hp a g b f) 21 0 i = if 0 ≤ i.toInt ∧ i.toInt < 100 then some (g 21 i.toNatClampNeg) else none := id rfl
theorem as_21 {a g : Nat → Nat → Int32} {b : Nat → Int32} {f : Nat → Nat → Int32} {i x : Int32} : rx_ast (hp a g b f) 21 0 i x = if 0 ≤ i.toInt ∧ i.toInt < 100 then some (hp a (hu g 21 (u1 (g 21) i.toNatClampNeg (x))) b f) else none := id rfl
theorem rc_22 {a g : Nat → Nat → Int32} {b : Nat → Int32} {f : Nat → Nat → Int32} {tl : List Value} : rx_rcv (hp a g b f) 1 (.ref 22 :: tl) = true := id rfl
theorem gf_22_0 {a g : Nat → Nat → Int32} {b : Nat → Int32} {f : Nat → Nat → Int32} : rx_gf (hp a g b f) 22 1 0 = some (.ref 23) := id rfl
theorem gf_22_1 {a g : Nat → Nat → Int32} {b : Nat → Int32} {f : Nat → Nat → Int32} : rx_gf (hp a g b f) 22 1 1 = some (.int (a 22 1)) := id rfl
theorem pf_22_1 {a g : Nat → Nat → Int32} {b : Nat → Int32} {f : Nat → Nat → Int32} {x : Int32} : rx_pf (hp a g b f) 22 1 1 (.int x) = some (hp (hu a 22 (u1 (a 22) 1 x)) g b f) := id rfl
theorem al_23 {a g : Nat → Nat → Int32} {b : Nat → Int32} {f : Nat → Nat → Int32} {i : Int32} : rx_ald (hp a g b f) 23 0 i = if 0 ≤ i.toInt ∧ i.toInt < 40 then some (g 23 i.toNatClampNeg) else none := id rfl
theorem as_23 {a g : Nat → Nat → Int32} {b : Nat → Int32} {f : Nat → Nat → Int32} {i x : Int32} : rx_ast (hp a g b f) 23 0 i x = if 0 ≤ i.toInt ∧ i.toInt < 40 then some (hp a (hu g 23 (u1 (g 23) i.toNatClampNeg (x))) b f) else none := id rfl
theorem rc_24 {a g : Nat → Nat → Int32} {b : Nat → Int32} {f : Nat → Nat → Int32} {tl : List Value} : rx_rcv (hp a g b f) 2 (.ref 24 :: tl) = true := id rfl
theorem gf_24_0 {a g : Nat → Nat → Int32} {b : Nat → Int32} {f : Nat → Nat → Int32} : rx_gf (hp a g b f) 24 2 0 = some (.ref 25) := id rfl
theorem gf_24_1 {a g : Nat → Nat → Int32} {b : Nat → Int32} {f : Nat → Nat → Int32} : rx_gf (hp a g b f) 24 2 1 = some (.ref 26) := id rfl
theorem gf_24_2 {a g : Nat → Nat → Int32} {b : Nat → Int32} {f : Nat → Nat → Int32} : rx_gf (hp a g b f) 24 2 2 = some (.int (a 24 2)) := id rfl
theorem pf_24_2 {a g : Nat → Nat → Int32} {b : Nat → Int32} {f : Nat → Nat → Int32} {x : Int32} : rx_pf (hp a g b f) 24 2 2 (.int x) = some (hp (hu a 24 (u1 (a 24) 2 x)) g b f) := id rfl
theorem al_25 {a g : Nat → Nat → Int32} {b : Nat → Int32} {f : Nat → Nat → Int32} {i : Int32} : rx_ald (hp a g b f) 25 0 i = if 0 ≤ i.toInt ∧ i.toInt < 200 then some (g 25 i.toNatClampNeg) else none := id rfl
theorem as_25 {a g : Nat → Nat → Int32} {b : Nat → Int32} {f : Nat → Nat → Int32} {i x : Int32} : rx_ast (hp a g b f) 25 0 i x = if 0 ≤ i.toInt ∧ i.toInt < 200 then some (hp a (hu g 25 (u1 (g 25) i.toNatClampNeg (x))) b f) else none := id rfl
theorem al_26 {a g : Nat → Nat → Int32} {b : Nat → Int32} {f : Nat → Nat → Int32} {i : Int32} : rx_ald (hp a g b f) 26 0 i = if 0 ≤ i.toInt ∧ i.toInt < 200 then some (g 26 i.toNatClampNeg) else none := id rfl
theorem as_26 {a g : Nat → Nat → Int32} {b : Nat → Int32} {f : Nat → Nat → Int32} {i x : Int32} : rx_ast (hp a g b f) 26 0 i x = if 0 ≤ i.toInt ∧ i.toInt < 200 then some (hp a (hu g 26 (u1 (g 26) i.toNatClampNeg (x))) b f) else none := id rfl
theorem rc_27 {a g : Nat → Nat → Int32} {b : Nat → Int32} {f : Nat → Nat → Int32} {tl : List Value} : rx_rcv (hp a g b f) 4 (.ref 27 :: tl) = true := id rfl
theorem gf_27_0 {a g : Nat → Nat → Int32} {b : Nat → Int32} {f : Nat → Nat → Int32} : rx_gf (hp a g b f) 27 4 0 = some (.ref 28) := id rfl
theorem gf_27_1 {a g : Nat → Nat → Int32} {b : Nat → Int32} {f : Nat → Nat → Int32} : rx_gf (hp a g b f) 27 4 1 = some (.int (a 27 1)) := id rfl
theorem pf_27_1 {a g : Nat → Nat → Int32} {b : Nat → Int32} {f : Nat → Nat → Int32} {x : Int32} : rx_pf (hp a g b f) 27 4 1 (.int x) = some (hp (hu a 27 (u1 (a 27) 1 x)) g b f) := id rfl
theorem gf_27_2 {a g : Nat → Nat → Int32} {b : Nat → Int32} {f : Nat → Nat → Int32} : rx_gf (hp a g b f) 27 4 2 = some (.int (a 27 2)) := id rfl
theorem pf_27_2 {a g : Nat → Nat → Int32} {b : Nat → Int32} {f : Nat → Nat → Int32} {x : Int32} : rx_pf (hp a g b f) 27 4 2 (.int x) = some (hp (hu a 27 (u1 (a 27) 2 x)) g b f) := id rfl
theorem gf_27_3 {a g : Nat → Nat → Int32} {b : Nat → Int32} {f : Nat → Nat → Int32} : rx_gf (hp a g b f) 27 4 3 = some (.int (a 27 3)) := id rfl
theorem pf_27_3 {a g : Nat → Nat → Int32} {b : Nat → Int32} {f : Nat → Nat → Int32} {x : Int32} : rx_pf (hp a g b f) 27 4 3 (.int x) = some (hp (hu a 27 (u1 (a 27) 3 x)) g b f) := id rfl
theorem al_28 {a g : Nat → Nat → Int32} {b : Nat → Int32} {f : Nat → Nat → Int32} {i : Int32} : rx_ald (hp a g b f) 28 1 i = if 0 ≤ i.toInt ∧ i.toInt < 10 then some (g 28 i.toNatClampNeg) else none := id rfl
theorem as_28 {a g : Nat → Nat → Int32} {b : Nat → Int32} {f : Nat → Nat → Int32} {i x : Int32} : rx_ast (hp a g b f) 28 1 i x = if 0 ≤ i.toInt ∧ i.toInt < 10 then some (hp a (hu g 28 (u1 (g 28) i.toNatClampNeg (zb x))) b f) else none := id rfl
theorem rc_29 {a g : Nat → Nat → Int32} {b : Nat → Int32} {f : Nat → Nat → Int32} {tl : List Value} : rx_rcv (hp a g b f) 9 (.ref 29 :: tl) = true := id rfl
theorem gf_29_0 {a g : Nat → Nat → Int32} {b : Nat → Int32} {f : Nat → Nat → Int32} : rx_gf (hp a g b f) 29 9 0 = some (.int (b 0)) := id rfl
theorem gf_29_1 {a g : Nat → Nat → Int32} {b : Nat → Int32} {f : Nat → Nat → Int32} : rx_gf (hp a g b f) 29 9 1 = some (.ref 30) := id rfl
theorem gf_29_2 {a g : Nat → Nat → Int32} {b : Nat → Int32} {f : Nat → Nat → Int32} : rx_gf (hp a g b f) 29 9 2 = some (.ref 31) := id rfl
theorem gf_29_3 {a g : Nat → Nat → Int32} {b : Nat → Int32} {f : Nat → Nat → Int32} : rx_gf (hp a g b f) 29 9 3 = some (.ref 32) := id rfl
theorem gf_29_4 {a g : Nat → Nat → Int32} {b : Nat → Int32} {f : Nat → Nat → Int32} : rx_gf (hp a g b f) 29 9 4 = some (.ref 33) := id rfl
theorem gf_29_5 {a g : Nat → Nat → Int32} {b : Nat → Int32} {f : Nat → Nat → Int32} : rx_gf (hp a g b f) 29 9 5 = some (.ref 34) := id rfl
theorem gf_29_6 {a g : Nat → Nat → Int32} {b : Nat → Int32} {f : Nat → Nat → Int32} : rx_gf (hp a g b f) 29 9 6 = some (.int (b 6)) := id rfl
theorem pf_29_6 {a g : Nat → Nat → Int32} {b : Nat → Int32} {f : Nat → Nat → Int32} {x : Int32} : rx_pf (hp a g b f) 29 9 6 (.int x) = some (hp a g (u1 b 6 x) f) := id rfl
theorem gf_29_7 {a g : Nat → Nat → Int32} {b : Nat → Int32} {f : Nat → Nat → Int32} : rx_gf (hp a g b f) 29 9 7 = some (.int (b 7)) := id rfl
theorem pf_29_7 {a g : Nat → Nat → Int32} {b : Nat → Int32} {f : Nat → Nat → Int32} {x : Int32} : rx_pf (hp a g b f) 29 9 7 (.int x) = some (hp a g (u1 b 7 x) f) := id rfl
theorem gf_29_8 {a g : Nat → Nat → Int32} {b : Nat → Int32} {f : Nat → Nat → Int32} : rx_gf (hp a g b f) 29 9 8 = some (.int (b 8)) := id rfl
theorem pf_29_8 {a g : Nat → Nat → Int32} {b : Nat → Int32} {f : Nat → Nat → Int32} {x : Int32} : rx_pf (hp a g b f) 29 9 8 (.int x) = some (hp a g (u1 b 8 x) f) := id rfl
theorem gf_29_9 {a g : Nat → Nat → Int32} {b : Nat → Int32} {f : Nat → Nat → Int32} : rx_gf (hp a g b f) 29 9 9 = some (.int (b 9)) := id rfl
theorem pf_29_9 {a g : Nat → Nat → Int32} {b : Nat → Int32} {f : Nat → Nat → Int32} {x : Int32} : rx_pf (hp a g b f) 29 9 9 (.int x) = some (hp a g (u1 b 9 x) f) := id rfl
theorem gf_29_10 {a g : Nat → Nat → Int32} {b : Nat → Int32} {f : Nat → Nat → Int32} : rx_gf (hp a g b f) 29 9 10 = some (.ref 35) := id rfl
theorem gf_29_11 {a g : Nat → Nat → Int32} {b : Nat → Int32} {f : Nat → Nat → Int32} : rx_gf (hp a g b f) 29 9 11 = some (.ref 36) := id rfl
theorem gf_29_12 {a g : Nat → Nat → Int32} {b : Nat → Int32} {f : Nat → Nat → Int32} : rx_gf (hp a g b f) 29 9 12 = some (.int (b 12)) := id rfl
theorem pf_29_12 {a g : Nat → Nat → Int32} {b : Nat → Int32} {f : Nat → Nat → Int32} {x : Int32} : rx_pf (hp a g b f) 29 9 12 (.int x) = some (hp a g (u1 b 12 x) f) := id rfl
theorem gf_29_13 {a g : Nat → Nat → Int32} {b : Nat → Int32} {f : Nat → Nat → Int32} : rx_gf (hp a g b f) 29 9 13 = some (.ref 37) := id rfl
theorem gf_29_14 {a g : Nat → Nat → Int32} {b : Nat → Int32} {f : Nat → Nat → Int32} : rx_gf (hp a g b f) 29 9 14 = some (.int (b 14)) := id rfl
theorem pf_29_14 {a g : Nat → Nat → Int32} {b : Nat → Int32} {f : Nat → Nat → Int32} {x : Int32} : rx_pf (hp a g b f) 29 9 14 (.int x) = some (hp a g (u1 b 14 x) f) := id rfl
theorem gf_29_15 {a g : Nat → Nat → Int32} {b : Nat → Int32} {f : Nat → Nat → Int32} : rx_gf (hp a g b f) 29 9 15 = some (.int (b 15)) := id rfl
theorem pf_29_15 {a g : Nat → Nat → Int32} {b : Nat → Int32} {f : Nat → Nat → Int32} {x : Int32} : rx_pf (hp a g b f) 29 9 15 (.int x) = some (hp a g (u1 b 15 x) f) := id rfl
theorem gf_29_16 {a g : Nat → Nat → Int32} {b : Nat → Int32} {f : Nat → Nat → Int32} : rx_gf (hp a g b f) 29 9 16 = some (.int (b 16)) := id rfl
theorem pf_29_16 {a g : Nat → Nat → Int32} {b : Nat → Int32} {f : Nat → Nat → Int32} {x : Int32} : rx_pf (hp a g b f) 29 9 16 (.int x) = some (hp a g (u1 b 16 x) f) := id rfl
theorem gf_29_17 {a g : Nat → Nat → Int32} {b : Nat → Int32} {f : Nat → Nat → Int32} : rx_gf (hp a g b f) 29 9 17 = some (.int (b 17)) := id rfl
theorem pf_29_17 {a g : Nat → Nat → Int32} {b : Nat → Int32} {f : Nat → Nat → Int32} {x : Int32} : rx_pf (hp a g b f) 29 9 17 (.int x) = some (hp a g (u1 b 17 x) f) := id rfl
theorem gf_29_18 {a g : Nat → Nat → Int32} {b : Nat → Int32} {f : Nat → Nat → Int32} : rx_gf (hp a g b f) 29 9 18 = some (.int (b 18)) := id rfl
theorem pf_29_18 {a g : Nat → Nat → Int32} {b : Nat → Int32} {f : Nat → Nat → Int32} {x : Int32} : rx_pf (hp a g b f) 29 9 18 (.int x) = some (hp a g (u1 b 18 x) f) := id rfl
theorem gf_29_19 {a g : Nat → Nat → Int32} {b : Nat → Int32} {f : Nat → Nat → Int32} : rx_gf (hp a g b f) 29 9 19 = some (.ref 38) := id rfl
theorem gf_29_20 {a g : Nat → Nat → Int32} {b : Nat → Int32} {f : Nat → Nat → Int32} : rx_gf (hp a g b f) 29 9 20 = some (.int (b 20)) := id rfl
theorem pf_29_20 {a g : Nat → Nat → Int32} {b : Nat → Int32} {f : Nat → Nat → Int32} {x : Int32} : rx_pf (hp a g b f) 29 9 20 (.int x) = some (hp a g (u1 b 20 x) f) := id rfl
theorem gf_29_21 {a g : Nat → Nat → Int32} {b : Nat → Int32} {f : Nat → Nat → Int32} : rx_gf (hp a g b f) 29 9 21 = some (.int (b 21)) := id rfl
theorem pf_29_21 {a g : Nat → Nat → Int32} {b : Nat → Int32} {f : Nat → Nat → Int32} {x : Int32} : rx_pf (hp a g b f) 29 9 21 (.int x) = some (hp a g (u1 b 21 x) f) := id rfl
theorem gf_29_22 {a g : Nat → Nat → Int32} {b : Nat → Int32} {f : Nat → Nat → Int32} : rx_gf (hp a g b f) 29 9 22 = some (.int (b 22)) := id rfl
theorem pf_29_22 {a g : Nat → Nat → Int32} {b : Nat → Int32} {f : Nat → Nat → Int32} {x : Int32} : rx_pf (hp a g b f) 29 9 22 (.int x) = some (hp a g (u1 b 22 x) f) := id rfl
theorem gf_29_23 {a g : Nat → Nat → Int32} {b : Nat → Int32} {f : Nat → Nat → Int32} : rx_gf (hp a g b f) 29 9 23 = some (.ref 39) := id rfl
theorem gf_29_24 {a g : Nat → Nat → Int32} {b : Nat → Int32} {f : Nat → Nat → Int32} : rx_gf (hp a g b f) 29 9 24 = some (.int (b 24)) := id rfl
theorem pf_29_24 {a g : Nat → Nat → Int32} {b : Nat → Int32} {f : Nat → Nat → Int32} {x : Int32} : rx_pf (hp a g b f) 29 9 24 (.int x) = some (hp a g (u1 b 24 x) f) := id rfl
theorem gf_29_25 {a g : Nat → Nat → Int32} {b : Nat → Int32} {f : Nat → Nat → Int32} : rx_gf (hp a g b f) 29 9 25 = some (.ref 40) := id rfl
theorem gf_29_26 {a g : Nat → Nat → Int32} {b : Nat → Int32} {f : Nat → Nat → Int32} : rx_gf (hp a g b f) 29 9 26 = some (.int (b 26)) := id rfl
theorem pf_29_26 {a g : Nat → Nat → Int32} {b : Nat → Int32} {f : Nat → Nat → Int32} {x : Int32} : rx_pf (hp a g b f) 29 9 26 (.int x) = some (hp a g (u1 b 26 x) f) := id rfl
theorem gf_29_27 {a g : Nat → Nat → Int32} {b : Nat → Int32} {f : Nat → Nat → Int32} : rx_gf (hp a g b f) 29 9 27 = some (.int (b 27)) := id rfl
theorem pf_29_27 {a g : Nat → Nat → Int32} {b : Nat → Int32} {f : Nat → Nat → Int32} {x : Int32} : rx_pf (hp a g b f) 29 9 27 (.int x) = some (hp a g (u1 b 27 x) f) := id rfl
theorem gf_29_28 {a g : Nat → Nat → Int32} {b : Nat → Int32} {f : Nat → Nat → Int32} : rx_gf (hp a g b f) 29 9 28 = some (.int (b 28)) := id rfl
theorem pf_29_28 {a g : Nat → Nat → Int32} {b : Nat → Int32} {f : Nat → Nat → Int32} {x : Int32} : rx_pf (hp a g b f) 29 9 28 (.int x) = some (hp a g (u1 b 28 x) f) := id rfl
theorem gf_29_29 {a g : Nat → Nat → Int32} {b : Nat → Int32} {f : Nat → Nat → Int32} : rx_gf (hp a g b f) 29 9 29 = some (.ref 41) := id rfl
theorem gf_29_30 {a g : Nat → Nat → Int32} {b : Nat → Int32} {f : Nat → Nat → Int32} : rx_gf (hp a g b f) 29 9 30 = some (.ref 42) := id rfl
theorem gf_29_31 {a g : Nat → Nat → Int32} {b : Nat → Int32} {f : Nat → Nat → Int32} : rx_gf (hp a g b f) 29 9 31 = some (.int (b 31)) := id rfl
theorem pf_29_31 {a g : Nat → Nat → Int32} {b : Nat → Int32} {f : Nat → Nat → Int32} {x : Int32} : rx_pf (hp a g b f) 29 9 31 (.int x) = some (hp a g (u1 b 31 x) f) := id rfl
theorem al_30 {a g : Nat → Nat → Int32} {b : Nat → Int32} {f : Nat → Nat → Int32} {i : Int32} : rx_ald (hp a g b f) 30 0 i = if 0 ≤ i.toInt ∧ i.toInt < 2000 then some (f 30 i.toNatClampNeg) else none := id rfl
theorem as_30 {a g : Nat → Nat → Int32} {b : Nat → Int32} {f : Nat → Nat → Int32} {i x : Int32} : rx_ast (hp a g b f) 30 0 i x = if 0 ≤ i.toInt ∧ i.toInt < 2000 then some (hp a g b (hu f 30 (u1 (f 30) i.toNatClampNeg (x)))) else none := id rfl
theorem al_31 {a g : Nat → Nat → Int32} {b : Nat → Int32} {f : Nat → Nat → Int32} {i : Int32} : rx_ald (hp a g b f) 31 0 i = if 0 ≤ i.toInt ∧ i.toInt < 6 then some (f 31 i.toNatClampNeg) else none := id rfl
theorem as_31 {a g : Nat → Nat → Int32} {b : Nat → Int32} {f : Nat → Nat → Int32} {i x : Int32} : rx_ast (hp a g b f) 31 0 i x = if 0 ≤ i.toInt ∧ i.toInt < 6 then some (hp a g b (hu f 31 (u1 (f 31) i.toNatClampNeg (x)))) else none := id rfl
theorem al_32 {a g : Nat → Nat → Int32} {b : Nat → Int32} {f : Nat → Nat → Int32} {i : Int32} : rx_ald (hp a g b f) 32 0 i = if 0 ≤ i.toInt ∧ i.toInt < 6 then some (f 32 i.toNatClampNeg) else none := id rfl
theorem as_32 {a g : Nat → Nat → Int32} {b : Nat → Int32} {f : Nat → Nat → Int32} {i x : Int32} : rx_ast (hp a g b f) 32 0 i x = if 0 ≤ i.toInt ∧ i.toInt < 6 then some (hp a g b (hu f 32 (u1 (f 32) i.toNatClampNeg (x)))) else none := id rfl
theorem al_33 {a g : Nat → Nat → Int32} {b : Nat → Int32} {f : Nat → Nat → Int32} {i : Int32} : rx_ald (hp a g b f) 33 0 i = if 0 ≤ i.toInt ∧ i.toInt < 2400 then some (f 33 i.toNatClampNeg) else none := id rfl
theorem as_33 {a g : Nat → Nat → Int32} {b : Nat → Int32} {f : Nat → Nat → Int32} {i x : Int32} : rx_ast (hp a g b f) 33 0 i x = if 0 ≤ i.toInt ∧ i.toInt < 2400 then some (hp a g b (hu f 33 (u1 (f 33) i.toNatClampNeg (x)))) else none := id rfl
theorem al_34 {a g : Nat → Nat → Int32} {b : Nat → Int32} {f : Nat → Nat → Int32} {i : Int32} : rx_ald (hp a g b f) 34 0 i = if 0 ≤ i.toInt ∧ i.toInt < 8 then some (f 34 i.toNatClampNeg) else none := id rfl
theorem as_34 {a g : Nat → Nat → Int32} {b : Nat → Int32} {f : Nat → Nat → Int32} {i x : Int32} : rx_ast (hp a g b f) 34 0 i x = if 0 ≤ i.toInt ∧ i.toInt < 8 then some (hp a g b (hu f 34 (u1 (f 34) i.toNatClampNeg (x)))) else none := id rfl
theorem al_35 {a g : Nat → Nat → Int32} {b : Nat → Int32} {f : Nat → Nat → Int32} {i : Int32} : rx_ald (hp a g b f) 35 0 i = if 0 ≤ i.toInt ∧ i.toInt < 16 then some (f 35 i.toNatClampNeg) else none := id rfl
theorem as_35 {a g : Nat → Nat → Int32} {b : Nat → Int32} {f : Nat → Nat → Int32} {i x : Int32} : rx_ast (hp a g b f) 35 0 i x = if 0 ≤ i.toInt ∧ i.toInt < 16 then some (hp a g b (hu f 35 (u1 (f 35) i.toNatClampNeg (x)))) else none := id rfl
theorem al_36 {a g : Nat → Nat → Int32} {b : Nat → Int32} {f : Nat → Nat → Int32} {i : Int32} : rx_ald (hp a g b f) 36 0 i = if 0 ≤ i.toInt ∧ i.toInt < 16 then some (f 36 i.toNatClampNeg) else none := id rfl
theorem as_36 {a g : Nat → Nat → Int32} {b : Nat → Int32} {f : Nat → Nat → Int32} {i x : Int32} : rx_ast (hp a g b f) 36 0 i x = if 0 ≤ i.toInt ∧ i.toInt < 16 then some (hp a g b (hu f 36 (u1 (f 36) i.toNatClampNeg (x)))) else none := id rfl
theorem al_37 {a g : Nat → Nat → Int32} {b : Nat → Int32} {f : Nat → Nat → Int32} {i : Int32} : rx_ald (hp a g b f) 37 0 i = if 0 ≤ i.toInt ∧ i.toInt < 100 then some (f 37 i.toNatClampNeg) else none := id rfl
theorem as_37 {a g : Nat → Nat → Int32} {b : Nat → Int32} {f : Nat → Nat → Int32} {i x : Int32} : rx_ast (hp a g b f) 37 0 i x = if 0 ≤ i.toInt ∧ i.toInt < 100 then some (hp a g b (hu f 37 (u1 (f 37) i.toNatClampNeg (x)))) else none := id rfl
theorem al_38 {a g : Nat → Nat → Int32} {b : Nat → Int32} {f : Nat → Nat → Int32} {i : Int32} : rx_ald (hp a g b f) 38 0 i = if 0 ≤ i.toInt ∧ i.toInt < 60 then some (f 38 i.toNatClampNeg) else none := id rfl
theorem as_38 {a g : Nat → Nat → Int32} {b : Nat → Int32} {f : Nat → Nat → Int32} {i x : Int32} : rx_ast (hp a g b f) 38 0 i x = if 0 ≤ i.toInt ∧ i.toInt < 60 then some (hp a g b (hu f 38 (u1 (f 38) i.toNatClampNeg (x)))) else none := id rfl
theorem al_39 {a g : Nat → Nat → Int32} {b : Nat → Int32} {f : Nat → Nat → Int32} {i : Int32} : rx_ald (hp a g b f) 39 0 i = if 0 ≤ i.toInt ∧ i.toInt < 40 then some (f 39 i.toNatClampNeg) else none := id rfl
theorem as_39 {a g : Nat → Nat → Int32} {b : Nat → Int32} {f : Nat → Nat → Int32} {i x : Int32} : rx_ast (hp a g b f) 39 0 i x = if 0 ≤ i.toInt ∧ i.toInt < 40 then some (hp a g b (hu f 39 (u1 (f 39) i.toNatClampNeg (x)))) else none := id rfl
theorem al_40 {a g : Nat → Nat → Int32} {b : Nat → Int32} {f : Nat → Nat → Int32} {i : Int32} : rx_ald (hp a g b f) 40 1 i = if 0 ≤ i.toInt ∧ i.toInt < 10 then some (f 40 i.toNatClampNeg) else none := id rfl
theorem as_40 {a g : Nat → Nat → Int32} {b : Nat → Int32} {f : Nat → Nat → Int32} {i x : Int32} : rx_ast (hp a g b f) 40 1 i x = if 0 ≤ i.toInt ∧ i.toInt < 10 then some (hp a g b (hu f 40 (u1 (f 40) i.toNatClampNeg (zb x)))) else none := id rfl
theorem al_41 {a g : Nat → Nat → Int32} {b : Nat → Int32} {f : Nat → Nat → Int32} {i : Int32} : rx_ald (hp a g b f) 41 0 i = if 0 ≤ i.toInt ∧ i.toInt < 200 then some (f 41 i.toNatClampNeg) else none := id rfl
theorem as_41 {a g : Nat → Nat → Int32} {b : Nat → Int32} {f : Nat → Nat → Int32} {i x : Int32} : rx_ast (hp a g b f) 41 0 i x = if 0 ≤ i.toInt ∧ i.toInt < 200 then some (hp a g b (hu f 41 (u1 (f 41) i.toNatClampNeg (x)))) else none := id rfl
theorem al_42 {a g : Nat → Nat → Int32} {b : Nat → Int32} {f : Nat → Nat → Int32} {i : Int32} : rx_ald (hp a g b f) 42 0 i = if 0 ≤ i.toInt ∧ i.toInt < 200 then some (f 42 i.toNatClampNeg) else none := id rfl
theorem as_42 {a g : Nat → Nat → Int32} {b : Nat → Int32} {f : Nat → Nat → Int32} {i x : Int32} : rx_ast (hp a g b f) 42 0 i x = if 0 ≤ i.toInt ∧ i.toInt < 200 then some (hp a g b (hu f 42 (u1 (f 42) i.toNatClampNeg (x)))) else none := id rfl
theorem ql_6 {a g : Nat → Nat → Int32} {b : Nat → Int32} {f : Nat → Nat → Int32} {i : Int32} : rx_qld (hp a g b f) 6 i = if 0 ≤ i.toInt ∧ i.toInt < 6 then (if i.toNatClampNeg < 6 then some (7 + i.toNatClampNeg) else none) else none := id rfl
theorem gl_14 {a g : Nat → Nat → Int32} {b : Nat → Int32} {f : Nat → Nat → Int32} : rx_gl (hp a g b f) 14 = some 8 := id rfl
theorem gl_16 {a g : Nat → Nat → Int32} {b : Nat → Int32} {f : Nat → Nat → Int32} : rx_gl (hp a g b f) 16 = some 60 := id rfl
theorem al_row {a g : Nat → Nat → Int32} {b : Nat → Int32} {f : Nat → Nat → Int32} {n : Nat} (hn : n < 6) {i : Int32} : rx_ald (hp a g b f) (7 + n) 0 i = if 0 ≤ i.toInt ∧ i.toInt < 400 then some (g (7 + n) i.toNatClampNeg) else none := by
  rcases (show n = 0 ∨ n = 1 ∨ n = 2 ∨ n = 3 ∨ n = 4 ∨ n = 5 by omega) with rfl | rfl | rfl | rfl | rfl | rfl <;> rfl
theorem as_row {a g : Nat → Nat → Int32} {b : Nat → Int32} {f : Nat → Nat → Int32} {n : Nat} (hn : n < 6) {i x : Int32} : rx_ast (hp a g b f) (7 + n) 0 i x = if 0 ≤ i.toInt ∧ i.toInt < 400 then some (hp a (hu g (7 + n) (u1 (g (7 + n)) i.toNatClampNeg x)) b f) else none := by
  rcases (show n = 0 ∨ n = 1 ∨ n = 2 ∨ n = 3 ∨ n = 4 ∨ n = 5 by omega) with rfl | rfl | rfl | rfl | rfl | rfl <;> rfl
theorem kv_q {sc : rx_S} {i pc : Nat} {lv : rx_L} {bc bs : Nat} {st : List Value} {h : rx_H} {v : Value} : rx_kv sc i pc lv st h bc bs v = rx_V sc i pc lv (v :: st) h bc bs := id rfl
theorem ki_q {sc : rx_S} {i pc : Nat} {lv : rx_L} {bc bs : Nat} {st : List Value} {h : rx_H} {x : Int32} : rx_ki sc i pc lv st h bc bs x = rx_V sc i pc lv (.int x :: st) h bc bs := id rfl
theorem kr_q {sc : rx_S} {i pc : Nat} {lv : rx_L} {bc bs : Nat} {st : List Value} {h : rx_H} {x : Nat} : rx_kr sc i pc lv st h bc bs x = rx_V sc i pc lv (.ref x :: st) h bc bs := id rfl
theorem kn_q {sc : rx_S} {i pc : Nat} {lv : rx_L} {bc bs : Nat} {st : List Value} {h : rx_H} {n : Nat} : rx_kn sc i pc lv st h bc bs n = rx_V sc i pc lv (.int (Int32.ofNat n) :: st) h bc bs := id rfl
theorem kh_q {sc : rx_S} {i pc : Nat} {lv : rx_L} {bc bs : Nat} {st : List Value} {h : rx_H} : rx_kh sc i pc lv st bc bs h = rx_V sc i pc lv st h bc bs := id rfl
theorem kc_q {sc : rx_S} {i pc : Nat} {lv : rx_L} {bc bs : Nat} {rest : List Value} {o : Option Value} {h : rx_H} : rx_kc sc i pc lv rest bc bs (o, h) = rx_V sc i pc lv (o.toList ++ rest) h bc bs := id rfl
