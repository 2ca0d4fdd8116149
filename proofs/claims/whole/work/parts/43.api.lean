/-! the public calls, one by one: the class answers as the reference does, and the relation holds behind it -/
def Sim (sc : rx_S) (t : Nat) (a g : Nat → Nat → Int32) (b : Nat → Int32) (f : Nat → Nat → Int32) (j k : Nat) (lx lm : rx_L) : Prop :=
  ∃ (r : Int32) (a1 g1 : Nat → Nat → Int32) (b1 : Nat → Int32) (f1 : Nat → Nat → Int32), (∀ b f, rx_V sc j 0 lx [] (hp a g b f) 0 0 = some (some (.int r), hp a1 g1 b f)) ∧ (∀ a g, rx_V sc k 0 lm [] (hp a g b f) 0 0 = some (some (.int r), hp a g b1 f1)) ∧ Rel (t + 64) a1 g1 b1 f1
theorem Rel.mono {t s : Nat} {a g : Nat → Nat → Int32} {b : Nat → Int32} {f : Nat → Nat → Int32} (H : Rel t a g b f) (hs : t ≤ s) : Rel s a g b f := by
  obtain ⟨h1, h2, h3, h4, h5, h6, h7, h8, h9, h10, h11, h12, ⟨s1, s2, s3, s4, s5, s6⟩, h14, h15, h17⟩ := H
  exact ⟨h1, h2, h3, h4, h5, h6, h7, h8, h9, h10, h11, h12, ⟨s1, s2, s3, s4, by omega, s6⟩, h14, h15, h17⟩
theorem Rel.up {t : Nat} {a g : Nat → Nat → Int32} {b : Nat → Int32} {f : Nat → Nat → Int32} (H : Rel t a g b f) : Rel (t + 64) a g b f := H.mono (by omega)
theorem bv_nn {x : BitVec 32} (h : x.toNat < 2147483648) : x.toInt = (x.toNat : Int) := BitVec.toInt_eq_toNat_of_lt (by omega)
theorem and_le {x : Int32} {m : Int32} {k : Nat} (hm : m.toBitVec.toNat = k) (hk : k < 2147483648) : 0 ≤ (x &&& m).toInt ∧ (x &&& m).toInt ≤ k := by
  have e : (x &&& m).toBitVec.toNat ≤ k := by
    show (x.toBitVec &&& m.toBitVec).toNat ≤ k
    rw [BitVec.toNat_and, hm]
    exact Nat.and_le_right
  have e2 : (x &&& m).toInt = ((x &&& m).toBitVec.toNat : Int) := bv_nn (by omega)
  omega
theorem or_bit {x : Int32} : 0 ≤ ((x &&& 254) ||| 0).toInt ∧ ((x &&& 254) ||| 0).toInt ≤ 255 ∧ 0 ≤ ((x &&& 254) ||| 1).toInt ∧ ((x &&& 254) ||| 1).toInt ≤ 255 := by
  have e : (x &&& 254).toBitVec.toNat < 2 ^ 8 := by
    show (x.toBitVec &&& (254 : Int32).toBitVec).toNat < 2 ^ 8
    rw [BitVec.toNat_and]
    exact Nat.lt_of_le_of_lt Nat.and_le_right (by decide +kernel)
  have e0 : ((x &&& 254) ||| 0).toBitVec.toNat < 2 ^ 8 := by
    show ((x &&& 254).toBitVec ||| (0 : Int32).toBitVec).toNat < 2 ^ 8
    rw [BitVec.toNat_or]
    exact Nat.or_lt_two_pow e (by decide +kernel)
  have e1 : ((x &&& 254) ||| 1).toBitVec.toNat < 2 ^ 8 := by
    show ((x &&& 254).toBitVec ||| (1 : Int32).toBitVec).toNat < 2 ^ 8
    rw [BitVec.toNat_or]
    exact Nat.or_lt_two_pow e (by decide +kernel)
  have q0 : ((x &&& 254) ||| 0).toInt = (((x &&& 254) ||| 0).toBitVec.toNat : Int) := bv_nn (by omega)
  have q1 : ((x &&& 254) ||| 1).toInt = (((x &&& 254) ||| 1).toBitVec.toNat : Int) := bv_nn (by omega)
  omega
theorem and255 {x : Int32} (h0 : 0 ≤ x.toInt) (h1 : x.toInt ≤ 255) : x &&& 255 = x := by
  have e := ofn h0
  generalize hc : x.toInt.toNat = c at e
  rw [e, pk_andN (n := c) (by omega) (m := 255) 8 (by decide +kernel), Nat.mod_eq_of_lt (by omega)]
theorem Im.set {u v : Nat → Int32} {n : Nat} {c : Int32} (h : Im u v) (h0 : 0 ≤ c.toInt) (h1 : c.toInt ≤ 255) : Im (u1 u n c) (u1 v n c) := by
  intro j hj
  unfold u1
  by_cases e : j = n
  · rw [if_pos e, if_pos e]; exact ⟨rfl, h0, h1⟩
  · rw [if_neg e, if_neg e]; exact h j hj
theorem Ik.set {k k' l l' : Nat → Int32} {n : Nat} {x y : Int32} (h : Ik k k' l l') (hx : x = -9 ∨ x = 0 ∨ x = 1) (h0 : 0 ≤ y.toInt) (h1 : y.toInt ≤ 400) (hy : x = -9 → y = 0) : Ik (u1 k n x) (u1 k' n x) (u1 l n y) (u1 l' n y) := by
  intro j hj
  unfold u1
  by_cases e : j = n
  · simp only [if_pos e]; exact ⟨trivial, trivial, hx, h0, h1, hy⟩
  · simp only [if_neg e]; exact h j hj
theorem Ik.len {k k' l l' : Nat → Int32} {n : Nat} {y : Int32} (h : Ik k k' l l') (hn : k n = 0) (h0 : 0 ≤ y.toInt) (h1 : y.toInt ≤ 400) : Ik k k' (u1 l n y) (u1 l' n y) := by
  intro j hj
  obtain ⟨q1, q2, q3, q4, q5, q6⟩ := h j hj
  unfold u1
  by_cases e : j = n
  · simp only [if_pos e]
    refine ⟨q1, trivial, q3, h0, h1, fun q => ?_⟩
    rw [e, hn] at q
    exact absurd q (by decide)
  · simp only [if_neg e]; exact ⟨q1, q2, q3, q4, q5, q6⟩
section API
variable {sc : rx_S} {t : Nat} {a g : Nat → Nat → Int32} {b : Nat → Int32} {f : Nat → Nat → Int32}
theorem api_depth (H : Rel t a g b f) : Sim sc t a g b f 66 120 [some (.ref 0)] [some (.ref 29)] := by
  refine ⟨a 17 3, a, g, b, f, fun b f => x66, fun a' g' => ?_, H.up⟩
  obtain ⟨h1, h2, h3, h4, h5, h6, h7, h8, h9, h10, h11, h12, h13, h14, h15, h17⟩ := H
  rw [m120, h12.1]
theorem api_table {i w : Int32} (H : Rel t a g b f) : Sim sc t a g b f 67 121 [some (.ref 0), some (.int i), some (.int w)] [some (.ref 29), some (.int i), some (.int w)] := by
  have H0 := H
  obtain ⟨h1, h2, h3, h4, h5, h6, h7, h8, h9, h10, h11, ⟨q1, q2, q3, q4, q5⟩, h13, h14, h15, h17⟩ := H
  refine ⟨_, a, g, b, f, fun b f => x67 (by omega), fun a' g' => ?_, H0.up⟩
  rw [m121 (by rw [← q1]; omega) (by rw [← q1]; omega), ← q1]
  by_cases hc : 0 ≤ i.toInt ∧ i.toInt < (a 17 3).toInt
  · have e := q5 i.toNatClampNeg (by rw [i32_nat]; omega)
    simp only [if_pos hc, e.1, e.2.1]
  · simp only [if_neg hc]
theorem api_shown {n : Int32} (H : Rel t a g b f) : Sim sc t a g b f 68 122 [some (.ref 0), some (.int n)] [some (.ref 29), some (.int n)] := by
  have H0 := H
  obtain ⟨h1, h2, h3, h4, h5, h6, h7, h8, h9, h10, h11, h12, ⟨s1, s2, s3, s4, s5, s6⟩, h14, h15, h17⟩ := H
  refine ⟨_, a, g, b, f, fun b f => x68 s4, fun a' g' => ?_, H0.up⟩
  rw [m122 (by rw [← s1]; exact s4), ← s1]
  rw [s6 _ (show ((a 20 1).toInt - 1 - n.toInt).toNat % 100 < 100 by omega)]
theorem api_transcript {n : Int32} (H : Rel t a g b f) : Sim sc t a g b f 69 123 [some (.ref 0), some (.int n), none] [some (.ref 29), some (.int n), none] := by
  obtain ⟨h1, h2, h3, h4, h5, h6, h7, h8, h9, h10, h11, h12, h13, h14, h15, h17⟩ := H.up
  have e := (h7 17 (by decide)).1
  refine ⟨_, _, _, b, hu f 30 (u1 (f 30) 17 ((f 30 17 &&& 254) ||| (if n = 0 then 0 else 1))), fun b f => x69, fun a' g' => by rw [m123, e], ?_⟩
  have hb := or_bit (x := g 2 17)
  have hs : Im (u1 (g 2) 17 ((g 2 17 &&& 254) ||| (if n = 0 then 0 else 1))) (u1 (f 30) 17 ((f 30 17 &&& 254) ||| (if n = 0 then 0 else 1))) := by
    rw [← e]
    by_cases hn : n = 0
    · simp only [if_pos hn]; exact h7.set hb.1 hb.2.1
    · simp only [if_neg hn]; exact h7.set hb.2.2.1 hb.2.2.2
  exact ⟨h1, h2, h3, h4, h5, h6, hs, h8, h9, h10, h11, h12, h13, h14, h15, h17⟩
theorem api_peek {n : Int32} (H : Rel t a g b f) : Sim sc t a g b f 70 124 [some (.ref 0), some (.int n)] [some (.ref 29), some (.int n)] := by
  have H0 := H
  obtain ⟨h1, h2, h3, h4, h5, h6, h7, h8, h9, h10, h11, h12, h13, h14, h15, h17⟩ := H
  refine ⟨_, a, g, b, f, fun b f => x70, fun a' g' => ?_, H0.up⟩
  rw [m124]
  by_cases hc : 0 ≤ n.toInt ∧ n.toInt < 2000
  · have e := h7 n.toNatClampNeg (by rw [i32_nat]; omega)
    simp only [if_pos hc, e.1]
  · simp only [if_neg hc]
theorem api_poke {n v : Int32} (H : Rel t a g b f) : Sim sc t a g b f 71 125 [some (.ref 0), some (.int n), some (.int v), none] [some (.ref 29), some (.int n), some (.int v), none] := by
  by_cases hc : 0 ≤ n.toInt ∧ n.toInt < 2000
  · by_cases hv : v.toInt < 0 ∨ 255 < v.toInt
    · exact ⟨-2, a, g, b, f, fun b f => by rw [x71, if_pos hc, if_pos hv], fun a' g' => by rw [m125, if_pos hc, if_pos hv], H.up⟩
    · obtain ⟨h1, h2, h3, h4, h5, h6, h7, h8, h9, h10, h11, h12, h13, h14, h15, h17⟩ := H.up
      have e := h7 n.toNatClampNeg (by rw [i32_nat]; omega)
      have e2 : v &&& 255 = v := and255 (by omega) (by omega)
      refine ⟨g 2 n.toNatClampNeg, a, hu g 2 (u1 (g 2) n.toNatClampNeg v), b, hu f 30 (u1 (f 30) n.toNatClampNeg v), fun b f => by rw [x71, if_pos hc, if_neg hv, e2], fun a' g' => by rw [m125, if_pos hc, if_neg hv, e.1], ?_⟩
      exact ⟨h1, h2, h3, h4, h5, h6, h7.set (n := n.toNatClampNeg) (c := v) (by omega) (by omega), h8, h9, h10, h11, h12, h13, h14, h15, h17⟩
  · exact ⟨-1, a, g, b, f, fun b f => by rw [x71, if_neg hc], fun a' g' => by rw [m125, if_neg hc], H.up⟩
theorem api_answer {n : Int32} (H : Rel t a g b f) : Sim sc t a g b f 72 126 [some (.ref 0), some (.int n)] [some (.ref 29), some (.int n)] := by
  have H0 := H
  obtain ⟨h1, h2, h3, h4, h5, h6, h7, h8, h9, h10, h11, h12, h13, h14, h15, h17⟩ := H.up
  have x0 := h10.2.1
  have y0 : 0 ≤ (b 6).toInt := by rw [← h10.1]; exact x0
  have y1 : (b 6).toInt ≤ 8 := by rw [← h10.1]; exact h10.2.2.1
  by_cases hc : n = -9 ∨ (0 ≤ n.toInt ∧ n.toInt < 6)
  · by_cases hs : (a 13 1).toInt < 8
    · have hs2 : (b 6).toInt < 8 := by rw [← h10.1]; exact hs
      have hnm : nmOk n := hc.imp id (fun q => ⟨q.1, by omega⟩)
      refine ⟨a 13 1 + 1, _, _, _, _, fun b f => by rw [x72 x0, if_pos hc, if_pos hs], fun a' g' => by rw [m126 y0 y1, if_pos hc, if_pos hs2, h10.1], ?_⟩
      exact ⟨h1, h2, h3, h4, h5, h6, h7, h8, h9, h10.push (by decide) hs hnm, h11, h12, h13, h14, h15, h17⟩
    · have hs2 : ¬ (b 6).toInt < 8 := by rw [← h10.1]; exact hs
      exact ⟨-4, a, g, b, f, fun b f => by rw [x72 x0, if_pos hc, if_neg hs], fun a' g' => by rw [m126 y0 y1, if_pos hc, if_neg hs2], H0.up⟩
  · exact ⟨-2, a, g, b, f, fun b f => by rw [x72 x0, if_neg hc], fun a' g' => by rw [m126 y0 y1, if_neg hc], H0.up⟩
theorem api_type {c : Int32} (H : Rel t a g b f) : Sim sc t a g b f 78 133 [some (.ref 0), some (.int c)] [some (.ref 29), some (.int c)] := by
  have H0 := H
  obtain ⟨h1, h2, h3, h4, h5, h6, h7, h8, h9, h10, h11, h12, h13, h14, h15, h17⟩ := H.up
  have x0 := h11.2.1
  have y0 : 0 ≤ (b 20).toInt := by rw [← h11.1]; exact x0
  have y1 : (b 20).toInt ≤ 60 := by rw [← h11.1]; exact h11.2.2.1
  by_cases hc : c = 13 ∨ (32 ≤ c.toInt ∧ c.toInt ≤ 126)
  · by_cases hs : (a 15 1).toInt < 60
    · have hs2 : (b 20).toInt < 60 := by rw [← h11.1]; exact hs
      refine ⟨a 15 1 + 1, _, _, _, _, fun b f => by rw [x78 x0, if_pos hc, if_pos hs], fun a' g' => by rw [m133 y0 y1, if_pos hc, if_pos hs2, h11.1], ?_⟩
      exact ⟨h1, h2, h3, h4, h5, h6, h7, h8, h9, h10, h11.push (by decide) hs hc, h12, h13, h14, h15, h17⟩
    · have hs2 : ¬ (b 20).toInt < 60 := by rw [← h11.1]; exact hs
      exact ⟨-4, a, g, b, f, fun b f => by rw [x78 x0, if_pos hc, if_neg hs], fun a' g' => by rw [m133 y0 y1, if_pos hc, if_neg hs2], H0.up⟩
  · exact ⟨-2, a, g, b, f, fun b f => by rw [x78 x0, if_neg hc], fun a' g' => by rw [m133 y0 y1, if_neg hc], H0.up⟩
theorem api_fileOf {n w : Int32} (H : Rel t a g b f) : Sim sc t a g b f 73 127 [some (.ref 0), some (.int n), some (.int w)] [some (.ref 29), some (.int n), some (.int w)] := by
  have H0 := H
  obtain ⟨h1, h2, h3, h4, h5, h6, h7, h8, h9, h10, h11, h12, h13, h14, h15, h17⟩ := H
  refine ⟨_, a, g, b, f, fun b f => x73, fun a' g' => ?_, H0.up⟩
  rw [m127]
  by_cases hc : 0 ≤ n.toInt ∧ n.toInt < 6
  · obtain ⟨e1, e2, e3, e4, e5, e6⟩ := h8 n.toNatClampNeg (by rw [i32_nat]; omega)
    simp only [if_pos hc, ← e1, ← e2]
    by_cases hk : g 4 n.toNatClampNeg = -9
    · rw [if_pos hk, e6 hk]
    · rw [if_neg hk]
  · simp only [if_neg hc]
theorem api_drop {n : Int32} (H : Rel t a g b f) : Sim sc t a g b f 75 129 [some (.ref 0), some (.int n)] [some (.ref 29), some (.int n), none] := by
  by_cases hc : 0 ≤ n.toInt ∧ n.toInt < 6
  · obtain ⟨h1, h2, h3, h4, h5, h6, h7, h8, h9, h10, h11, h12, h13, h14, h15, h17⟩ := H.up
    obtain ⟨e1, e2, e3, e4, e5, e6⟩ := h8 n.toNatClampNeg (by rw [i32_nat]; omega)
    have hset : Ik (u1 (g 4) n.toNatClampNeg (-9)) (u1 (f 31) n.toNatClampNeg (-9)) (u1 (g 5) n.toNatClampNeg 0) (u1 (f 32) n.toNatClampNeg 0) := h8.set (Or.inl rfl) (by decide) (by decide) (fun _ => rfl)
    by_cases hk : g 4 n.toNatClampNeg = -9
    · refine ⟨0, a, g, b, hu (hu f 31 (u1 (f 31) n.toNatClampNeg (-9))) 32 (u1 (f 32) n.toNatClampNeg 0), fun b f => by rw [x75, if_pos hc, if_pos hk], fun a' g' => by rw [m129, if_pos hc, ← e1, if_pos hk], ?_⟩
      have k1 : u1 (g 4) n.toNatClampNeg (-9) = g 4 := funext fun j => by
        unfold u1
        by_cases e : j = n.toNatClampNeg
        · rw [if_pos e, e, hk]
        · rw [if_neg e]
      have k2 : u1 (g 5) n.toNatClampNeg 0 = g 5 := funext fun j => by
        unfold u1
        by_cases e : j = n.toNatClampNeg
        · rw [if_pos e, e, e6 hk]
        · rw [if_neg e]
      rw [k1, k2] at hset
      exact ⟨h1, h2, h3, h4, h5, h6, h7, hset, h9, h10, h11, h12, h13, h14, h15, h17⟩
    · refine ⟨1, a, hu (hu g 4 (u1 (g 4) n.toNatClampNeg (-9))) 5 (u1 (g 5) n.toNatClampNeg 0), b, hu (hu f 31 (u1 (f 31) n.toNatClampNeg (-9))) 32 (u1 (f 32) n.toNatClampNeg 0), fun b f => by rw [x75, if_pos hc, if_neg hk], fun a' g' => by rw [m129, if_pos hc, ← e1, if_neg hk], ?_⟩
      exact ⟨h1, h2, h3, h4, h5, h6, h7, hset, h9, h10, h11, h12, h13, h14, h15, h17⟩
  · exact ⟨-1, a, g, b, f, fun b f => by rw [x75, if_neg hc], fun a' g' => by rw [m129, if_neg hc], H.up⟩
theorem api_lineAt {i : Int32} (H : Rel t a g b f) : Sim sc t a g b f 81 136 [some (.ref 0), some (.int i)] [some (.ref 29), some (.int i)] := by
  have H0 := H
  obtain ⟨h1, h2, h3, h4, h5, h6, h7, h8, h9, h10, h11, h12, h13, ⟨q1, q2, q3, q4⟩, h15, h17⟩ := H
  refine ⟨_, a, g, b, f, fun b f => x81 (by omega), fun a' g' => ?_, H0.up⟩
  rw [m136 (by rw [← q1]; omega) (by rw [← q1]; omega), ← q1]
  by_cases hc : 0 ≤ i.toInt ∧ i.toInt < (a 22 1).toInt
  · have e := q4 i.toNatClampNeg (by rw [i32_nat]; omega)
    simp only [if_pos hc, e.1]
  · simp only [if_neg hc]
theorem api_order {i w : Int32} (H : Rel t a g b f) : Sim sc t a g b f 85 141 [some (.ref 0), some (.int i), some (.int w)] [some (.ref 29), some (.int i), some (.int w)] := by
  have H0 := H
  obtain ⟨h1, h2, h3, h4, h5, h6, h7, h8, h9, h10, h11, h12, h13, h14, ⟨⟨q1, q2, q3, q4⟩, ⟨_, _, _, p4⟩⟩, h17⟩ := H
  refine ⟨_, a, g, b, f, fun b f => x85 (by omega), fun a' g' => ?_, H0.up⟩
  rw [m141 (by rw [← q1]; omega) (by rw [← q1]; omega), ← q1]
  by_cases hc : 0 ≤ i.toInt ∧ i.toInt < (a 24 2).toInt
  · have e := q4 i.toNatClampNeg (by rw [i32_nat]; omega)
    have e2 := p4 i.toNatClampNeg (by rw [i32_nat]; omega)
    simp only [if_pos hc, e.1, e2.1]
  · simp only [if_neg hc]
theorem api_told {w : Int32} (H : Rel t a g b f) : Sim sc t a g b f 86 142 [some (.ref 0), some (.int w)] [some (.ref 29), some (.int w)] := by
  have H0 := H
  obtain ⟨h1, h2, h3, h4, h5, ⟨i1, i2, i3, i4⟩, h7, h8, h9, h10, h11, h12, h13, h14, h15, h17⟩ := H
  refine ⟨_, a, g, b, f, fun b f => x86, fun a' g' => ?_, H0.up⟩
  rw [m142, h1.1, h2.1, h3.1, h4.1, i1, i2, i3, i4, h10.1, h11.1, h13.1, h15.1.1]
end API
