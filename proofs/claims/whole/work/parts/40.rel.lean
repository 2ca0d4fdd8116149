/-! THE RELATION between the class's cells and the reference's, behind t calls -/
def nmOk (x : Int32) : Prop := x = -9 ∨ (0 ≤ x.toInt ∧ x.toInt ≤ 5)
def sgOk (c : Int32) : Prop := c = 13 ∨ (32 ≤ c.toInt ∧ c.toInt ≤ 126)
def byOk (c : Int32) : Prop := 0 ≤ c.toInt ∧ c.toInt ≤ 255
/-- a counted row: the first ones are the same -/
def Iq (n : Int) (P : Int32 → Prop) (x y : Int32) (u v : Nat → Int32) : Prop := x = y ∧ 0 ≤ x.toInt ∧ x.toInt ≤ n ∧ ∀ j : Nat, (j : Int) < x.toInt → u j = v j ∧ P (u j)
def Im (u v : Nat → Int32) : Prop := ∀ j : Nat, j < 2000 → u j = v j ∧ 0 ≤ (u j).toInt ∧ (u j).toInt ≤ 255
def Ik (k k' l l' : Nat → Int32) : Prop := ∀ n : Nat, n < 6 → k n = k' n ∧ l n = l' n ∧ (k n = -9 ∨ k n = 0 ∨ k n = 1) ∧ 0 ≤ (l n).toInt ∧ (l n).toInt ≤ 400 ∧ (k n = -9 → l n = 0)
def Ir (n : Nat) (u w : Nat → Int32) : Prop := ∀ j : Nat, j < 400 → u j = w (400 * n + j) ∧ 0 ≤ (u j).toInt ∧ (u j).toInt ≤ 255
def It (m x y : Int32) (u v w z : Nat → Int32) : Prop := x = y ∧ 0 ≤ x.toInt ∧ x.toInt ≤ m.toInt ∧ m.toInt ≤ 16 ∧ ∀ j : Nat, (j : Int) < x.toInt → u j = v j ∧ w j = z j ∧ 0 ≤ (u j).toInt ∧ (u j).toInt ≤ 1998 ∧ 0 ≤ (w j).toInt ∧ (u j).toInt + 2 + (w j).toInt ≤ 2000
def Is (t : Nat) (c c' o o' : Int32) (u v : Nat → Int32) : Prop := c = c' ∧ o = o' ∧ (o = 0 ∨ o = 1) ∧ 0 ≤ c.toInt ∧ c.toInt ≤ (t : Int) ∧ ∀ j : Nat, j < 100 → u j = v j
def Ip (c c' n n' r r' : Int32) (u v : Nat → Int32) : Prop := c = c' ∧ n = n' ∧ r = r' ∧ (c = -9 ∨ (3 ≤ c.toInt ∧ c.toInt ≤ 9)) ∧ ∀ j : Nat, j < 10 → u j = v j ∧ (u j = 0 ∨ u j = 1)
def Iv (x y m : Int32) : Prop := x = y ∧ 1 ≤ x.toInt ∧ x.toInt ≤ 8 ∧ m = if x.toInt < 5 then 1 else 16
def In (x y : Int32) : Prop := x = y ∧ nmOk x
def Ia (x y : Int32) : Prop := x = y ∧ 0 ≤ x.toInt ∧ x.toInt ≤ 400
def I3 (x x' y y' z z' w w' : Int32) : Prop := x = x' ∧ y = y' ∧ z = z' ∧ w = w'
def I6 (g0 g1 g2 g3 g4 g5 w : Nat → Int32) : Prop := Ir 0 g0 w ∧ Ir 1 g1 w ∧ Ir 2 g2 w ∧ Ir 3 g3 w ∧ Ir 4 g4 w ∧ Ir 5 g5 w
def Rel (t : Nat) (a g : Nat → Nat → Int32) (b : Nat → Int32) (f : Nat → Nat → Int32) : Prop :=
  Iv (a 0 0) (b 0) (a 17 0) ∧ In (a 0 10) (b 8) ∧ In (a 0 11) (b 9) ∧ In (a 0 12) (b 21) ∧ Ia (a 0 13) (b 22) ∧ I3 (a 0 14) (b 15) (a 0 15) (b 16) (a 0 16) (b 17) (a 0 17) (b 18) ∧
  Im (g 2) (f 30) ∧ Ik (g 4) (f 31) (g 5) (f 32) ∧ I6 (g 7) (g 8) (g 9) (g 10) (g 11) (g 12) (f 33) ∧
  Iq 8 nmOk (a 13 1) (b 6) (g 14) (f 34) ∧ Iq 60 sgOk (a 15 1) (b 20) (g 16) (f 38) ∧ It (a 17 0) (a 17 3) (b 12) (g 18) (f 35) (g 19) (f 36) ∧
  Is t (a 20 1) (b 14) (a 20 2) (b 7) (g 21) (f 37) ∧ Iq 40 byOk (a 22 1) (b 24) (g 23) (f 39) ∧ (Iq 200 (fun _ => True) (a 24 2) (b 31) (g 25) (f 41) ∧ Iq 200 (fun _ => True) (a 24 2) (b 31) (g 26) (f 42)) ∧
  Ip (a 27 1) (b 26) (a 27 2) (b 27) (a 27 3) (b 28) (g 28) (f 40)
/-- a counted row grows -/
theorem Iq.push {n : Int} {P : Int32 → Prop} {x y c : Int32} {u v : Nat → Int32} (h : Iq n P x y u v) (hn : n < 2147483647) (hx : x.toInt < n) (hc : P c) : Iq n P (x + 1) (y + 1) (u1 u x.toNatClampNeg c) (u1 v y.toNatClampNeg c) := by
  obtain ⟨rfl, h1, h2, h3⟩ := h
  have e : (x + 1).toInt = x.toInt + 1 := by rw [i32_add] <;> simp only [Int32.reduceToInt] <;> omega
  refine ⟨rfl, by omega, by omega, fun j hj => ?_⟩
  rw [e] at hj
  unfold u1
  by_cases hh : j = x.toNatClampNeg
  · rw [if_pos hh, if_pos hh]
    exact ⟨rfl, hc⟩
  · rw [if_neg hh, if_neg hh]
    rw [i32_nat] at hh
    exact h3 j (by omega)
/-- a counted row loses its first -/
theorem Iq.shift {n : Int} {P : Int32 → Prop} {x y : Int32} {u v : Nat → Int32} (h : Iq n P x y u v) (hx : ¬ x.toInt = 0) : Iq n P (x - 1) (y - 1) (shl u 1 (x.toInt.toNat - 1)) (shl v 1 (y.toInt.toNat - 1)) := by
  obtain ⟨rfl, h1, h2, h3⟩ := h
  have e : (x - 1).toInt = x.toInt - 1 := by
    have := Int32.toInt_lt x
    rw [i32_sub] <;> simp only [Int32.reduceToInt] <;> omega
  refine ⟨rfl, by omega, by omega, fun j hj => ?_⟩
  rw [e] at hj
  unfold shl
  rw [if_pos (by omega), if_pos (by omega)]
  exact h3 (j + 1) (by omega)
section SIM
variable {sc : rx_S} {t : Nat} {a g : Nat → Nat → Int32} {b : Nat → Int32} {f : Nat → Nat → Int32}
/-- Log.add and row -/
theorem sim_log {k n : Int32} (H : Rel t a g b f) : ∃ a1 g1 b1 f1, (∀ b f, rx_V sc 21 0 [some (.ref 24), some (.int k), some (.int n)] [] (hp a g b f) 0 0 = some (none, hp a1 g1 b f)) ∧ (∀ a g, rx_V sc 110 0 [some (.ref 29), some (.int k), some (.int n)] [] (hp a g b f) 0 0 = some (none, hp a g b1 f1)) ∧ Rel t a1 g1 b1 f1 ∧ (∀ p, p ≠ 24 → a1 p = a p) ∧ (∀ p, p ≠ 25 → p ≠ 26 → g1 p = g p) ∧ (∀ q, q ≠ 31 → b1 q = b q) ∧ (∀ p, p ≠ 41 → p ≠ 42 → f1 p = f p) := by
  obtain ⟨h1, h2, h3, h4, h5, h6, h7, h8, h9, h10, h11, h12, h13, h14, ⟨h15, h16⟩, h17⟩ := H
  have hx0 : 0 ≤ (a 24 2).toInt := h15.2.1
  have hb0 : 0 ≤ (b 31).toInt := by rw [← h15.1]; exact hx0
  by_cases hc : (a 24 2).toInt < 200
  · have hc2 : (b 31).toInt < 200 := by rw [← h15.1]; exact hc
    refine ⟨hu a 24 (u1 (a 24) 2 (a 24 2 + 1)), hu (hu g 25 (u1 (g 25) (a 24 2).toNatClampNeg k)) 26 (u1 (g 26) (a 24 2).toNatClampNeg n), u1 b 31 (b 31 + 1), hu (hu f 41 (u1 (f 41) (b 31).toNatClampNeg k)) 42 (u1 (f 42) (b 31).toNatClampNeg n), fun b f => by rw [x21 hx0, if_pos hc], fun a g => by rw [m110 hb0]; unfold mrow; rw [if_pos hc2], ?_, fun p hp => hu_n hp, fun p hp hq => by rw [hu_n hq, hu_n hp], fun q hq => u1_n hq, fun p hp hq => by rw [hu_n hq, hu_n hp]⟩
    exact ⟨h1, h2, h3, h4, h5, h6, h7, h8, h9, h10, h11, h12, h13, h14, ⟨h15.push (by decide) hc trivial, h16.push (by decide) hc trivial⟩, h17⟩
  · have hc2 : ¬ (b 31).toInt < 200 := by rw [← h15.1]; exact hc
    exact ⟨a, g, b, f, fun b f => by rw [x21 hx0, if_neg hc], fun a g => by rw [m110 hb0]; unfold mrow; rw [if_neg hc2], ⟨h1, h2, h3, h4, h5, h6, h7, h8, h9, h10, h11, h12, h13, h14, ⟨h15, h16⟩, h17⟩, fun _ _ => rfl, fun _ _ _ => rfl, fun _ _ => rfl, fun _ _ _ => rfl⟩
end SIM
