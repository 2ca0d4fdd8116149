/-! the value of a point, instruction by instruction -/
theorem rx_V_next {sc : rx_S} {ins : Instr} {ln i pc pc' : Nat} {lv lv' : rx_L} {st st' : List Value} {h h' : rx_H} {bc bs bc' bs' : Nat} (hd : decode (rx_cd i) pc = .ok (ins, ln)) (hl : ln = rx_len ins ln) (hs : rx_ins sc ins i pc lv st h bc bs = some (.inl (i, pc', lv', st', h', bc', bs'))) : rx_V sc i pc lv st h bc bs = rx_V sc i pc' lv' st' h' bc' bs' := by
  refine rx_lim_next ?_
  unfold rx_stp
  dsimp only
  rw [hd]
  dsimp only
  rw [if_pos hl, hs]
  exact if_pos rfl
theorem rx_V_bind {α : Type} {sc : rx_S} {ins : Instr} {ln i pc : Nat} {lv : rx_L} {st : List Value} {h : rx_H} {bc bs : Nat} {x : Option α} {F : α → rx_C} (hd : decode (rx_cd i) pc = .ok (ins, ln)) (hl : ln = rx_len ins ln) (hs : rx_ins sc ins i pc lv st h bc bs = x.bind (fun a => some (.inl (F a)))) (hF : ∀ a, (F a).1 = i) : rx_V sc i pc lv st h bc bs = x.bind (fun a => rx_lim (rx_stp sc) (F a)) := by
  have e : rx_stp sc (i, pc, lv, st, h, bc, bs) = x.bind (fun a => some (.inl (F a))) := by
    unfold rx_stp
    dsimp only
    rw [hd]
    dsimp only
    rw [if_pos hl, hs]
    cases x with
    | none => rfl
    | some a => exact if_pos (hF a)
  cases x with
  | none => exact rx_lim_stuck e
  | some a => exact rx_lim_next e
theorem rx_V_if {sc : rx_S} {ins : Instr} {ln i pc : Nat} {lv : rx_L} {st : List Value} {h : rx_H} {bc bs : Nat} {c : Prop} {dc : Decidable c} {A B : rx_C} (hd : decode (rx_cd i) pc = .ok (ins, ln)) (hl : ln = rx_len ins ln) (hs : rx_ins sc ins i pc lv st h bc bs = if decide c = true then some (.inl A) else some (.inl B)) (hA : A.1 = i) (hB : B.1 = i) : rx_V sc i pc lv st h bc bs = if c then rx_lim (rx_stp sc) A else rx_lim (rx_stp sc) B := by
  have e : rx_stp sc (i, pc, lv, st, h, bc, bs) = if c then some (.inl A) else some (.inl B) := by
    unfold rx_stp
    dsimp only
    rw [hd]
    dsimp only
    rw [if_pos hl, hs]
    by_cases hc : c
    · rw [if_pos (decide_eq_true hc), if_pos hc]; exact if_pos hA
    · rw [if_neg (by simpa using hc), if_neg hc]; exact if_pos hB
  by_cases hc : c
  · rw [if_pos hc] at e ⊢; exact rx_lim_next e
  · rw [if_neg hc] at e ⊢; exact rx_lim_next e
/-- an instruction with a check -/
theorem rx_V_chk {sc : rx_S} {ins : Instr} {ln i pc : Nat} {lv : rx_L} {st : List Value} {h : rx_H} {bc bs : Nat} {c : Prop} {dc : Decidable c} {A : rx_C} (hd : decode (rx_cd i) pc = .ok (ins, ln)) (hl : ln = rx_len ins ln) (hs : rx_ins sc ins i pc lv st h bc bs = if c then some (.inl A) else none) (hA : A.1 = i) : rx_V sc i pc lv st h bc bs = if c then rx_lim (rx_stp sc) A else none := by
  have e : rx_stp sc (i, pc, lv, st, h, bc, bs) = if c then some (.inl A) else none := by
    unfold rx_stp
    dsimp only
    rw [hd]
    dsimp only
    rw [if_pos hl, hs]
    by_cases hc : c
    · rw [if_pos hc]; exact if_pos hA
    · rw [if_neg hc]; rfl
  by_cases hc : c
  · rw [if_pos hc] at e ⊢; exact rx_lim_next e
  · rw [if_neg hc] at e ⊢; exact rx_lim_stuck e
/-- a boolean or a reference is put: the check, then the cell -/
theorem rx_V_put {sc : rx_S} {ins : Instr} {ln i pc : Nat} {lv : rx_L} {st : List Value} {h : rx_H} {bc bs : Nat} {c : Prop} {dc : Decidable c} {x : Option rx_H} {F : rx_H → rx_C} (hd : decode (rx_cd i) pc = .ok (ins, ln)) (hl : ln = rx_len ins ln) (hs : rx_ins sc ins i pc lv st h bc bs = if c then x.bind (fun a => some (.inl (F a))) else none) (hF : ∀ a, (F a).1 = i) : rx_V sc i pc lv st h bc bs = if c then x.bind (fun a => rx_lim (rx_stp sc) (F a)) else none := by
  have e : rx_stp sc (i, pc, lv, st, h, bc, bs) = if c then x.bind (fun a => some (.inl (F a))) else none := by
    unfold rx_stp
    dsimp only
    rw [hd]
    dsimp only
    rw [if_pos hl, hs]
    by_cases hc : c
    · rw [if_pos hc]
      cases x with
      | none => rfl
      | some a => exact if_pos (hF a)
    · rw [if_neg hc]; rfl
  by_cases hc : c
  · rw [if_pos hc] at e ⊢
    cases x with
    | none => exact rx_lim_stuck e
    | some a => exact rx_lim_next e
  · rw [if_neg hc] at e ⊢; exact rx_lim_stuck e
theorem rx_V_ret {sc : rx_S} {ins : Instr} {ln i pc : Nat} {lv : rx_L} {st : List Value} {h : rx_H} {bc bs : Nat} {r : rx_O} (hd : decode (rx_cd i) pc = .ok (ins, ln)) (hl : ln = rx_len ins ln) (hs : rx_ins sc ins i pc lv st h bc bs = some (.inr (.inl r))) : rx_V sc i pc lv st h bc bs = some r := by
  refine rx_lim_ret ?_
  unfold rx_stp
  dsimp only
  rw [hd]
  dsimp only
  rw [if_pos hl, hs]
  rfl
/-- a boolean is answered -/
theorem rx_V_retz {sc : rx_S} {i pc : Nat} {lv : rx_L} {h : rx_H} {bs : Nat} {x : Int32} (hd : decode (rx_cd i) pc = .ok (.ireturn, 1)) (hr : rx_rt i = some .boolean) : rx_V sc i pc lv [.int x] h 0 bs = if x = 0 ∨ x = 1 then some (some (.int x), h) else none := by
  have e : rx_stp sc (i, pc, lv, [.int x], h, 0, bs) = if x = 0 ∨ x = 1 then some (.inr (.inl (some (.int x), h))) else none := by
    unfold rx_stp
    dsimp only
    rw [hd]
    dsimp only
    rw [if_pos (show 1 = rx_len Instr.ireturn 1 from rfl)]
    show rx_sel i ((rx_rets i [.int x]).bind _) = _
    unfold rx_rets
    rw [hr]
    dsimp only
    by_cases hc : x = 0 ∨ x = 1
    · rw [if_pos hc, if_pos hc]
      dsimp only [Option.bind_some]
      rw [if_pos ⟨rfl, Or.inl rfl⟩]
      rfl
    · rw [if_neg hc, if_neg hc]; rfl
  by_cases hc : x = 0 ∨ x = 1
  · rw [if_pos hc] at e ⊢; exact rx_lim_ret e
  · rw [if_neg hc] at e ⊢; exact rx_lim_stuck e
theorem rx_V_call {sc : rx_S} {ins : Instr} {idx i pc j kd : Nat} {lv : rx_L} {st As rest : List Value} {h : rx_H} {bc bs : Nat} {g : Bool} (hd : decode (rx_cd i) pc = .ok (ins, 3)) (hins : ins = .invokevirtual idx ∧ kd = 0 ∨ ins = .invokestatic idx ∧ kd = 1 ∨ ins = .invokespecial idx ∧ (kd = 2 ∨ kd = 3)) (hm : rx_mll.lookup (rx_ow i, idx) = some (j, kd)) (hpop : rx_pop (rx_na j) st = some (As, rest)) (hck : rx_chk i h j kd As rest bc bs = g) :
    rx_V sc i pc lv st h bc bs = if g = true then (rx_V sc j 0 (As.map some ++ List.replicate (rx_ml j - rx_na j) none) [] h (rx_mc j) (rx_ms j)).bind (fun r => rx_V sc i (pc + 3) lv (r.1.toList ++ rest) r.2 (bc - rx_mc j) (bs - rx_ms j)) else none := by
  have hcal : ∀ kd0 : Nat → Bool, kd0 kd = true → ¬ kd = 4 → rx_cal kd0 i pc lv st h bc bs idx = if g = true then rx_do i pc lv rest bc bs j As h else none := by
    intro kd0 hk h4
    unfold rx_cal
    rw [hm]
    dsimp only
    rw [if_pos hk, if_neg h4, hpop]
    dsimp only
    rw [hck]
  have hin : rx_ins sc ins i pc lv st h bc bs = if g = true then rx_do i pc lv rest bc bs j As h else none := by
    rcases hins with ⟨rfl, rfl⟩ | ⟨rfl, rfl⟩ | ⟨rfl, rfl | rfl⟩
    · exact hcal _ rfl (by decide)
    · exact hcal _ rfl (by decide)
    · exact hcal _ rfl (by decide)
    · exact hcal _ rfl (by decide)
  have hl : 3 = rx_len ins 3 := by
    rcases hins with ⟨rfl, -⟩ | ⟨rfl, -⟩ | ⟨rfl, -⟩ <;> rfl
  have e : rx_stp sc (i, pc, lv, st, h, bc, bs) = if g = true then rx_do i pc lv rest bc bs j As h else none := by
    unfold rx_stp
    dsimp only
    rw [hd]
    dsimp only
    rw [if_pos hl, hin]
    by_cases hg : g = true
    · rw [if_pos hg]; rfl
    · rw [if_neg hg]; rfl
  by_cases hg : g = true
  · rw [if_pos hg] at e ⊢
    unfold rx_do at e
    exact rx_lim_call e
  · rw [if_neg hg] at e ⊢
    exact rx_lim_stuck e
/-- Object's constructor -/
theorem rx_V_obj {sc : rx_S} {idx i pc j q : Nat} {lv : rx_L} {h : rx_H} {bc bs : Nat} (hd : decode (rx_cd i) pc = .ok (.invokespecial idx, 3)) (hm : rx_mll.lookup (rx_ow i, idx) = some (j, 4)) (hf : 1 ≤ rx_fr i ∧ 20 ≤ rx_lo i) : rx_V sc i pc lv [.ref q] h bc bs = rx_V sc i (pc + 3) lv [] h bc bs := by
  refine rx_V_next hd rfl ?_
  show rx_cal _ i pc lv [.ref q] h bc bs idx = _
  unfold rx_cal
  rw [hm]
  dsimp only
  rw [if_pos (show (4 == 2 || 4 == 3 || 4 == 4) = true from rfl)]
  exact if_pos (show 1 ≤ rx_fr i ∧ 20 ≤ rx_lo i ∧ (List.map (fun v : Value => v.category) []).sum ≤ 8 from ⟨hf.1, hf.2, by decide⟩)
/-- a switch -/
def rx_tbs (f : Nat → Option rx_O) (pc : Nat) : List Int → Int → Int → Int32 → Option rx_O
  | [], _, d, _ => (rx_tgt pc d).bind f
  | o :: os, lo, d, x => if x = Int32.ofInt lo then (rx_tgt pc o).bind f else rx_tbs f pc os (lo + 1) d x
theorem rx_ofInt_eq {x : Int32} {a : Int} (h1 : -2147483648 ≤ a) (h2 : a < 2147483648) : x = Int32.ofInt a ↔ x.toInt = a := by
  have e : (Int32.ofInt a).toInt = a := Int32.toInt_ofInt_of_le h1 h2
  constructor
  · intro h; rw [h, e]
  · intro h; exact Int32.toInt_inj.mp (by rw [h, e])
theorem rx_tbs_eq (f : Nat → Option rx_O) (pc : Nat) : ∀ (os : List Int) (lo d : Int) (x : Int32), -2147483648 ≤ lo → lo + (os.length : Int) < 2147483648 → (rx_tgt pc (rx_tsw os lo d x.toInt)).bind f = rx_tbs f pc os lo d x
  | [], _, _, _, _, _ => rfl
  | o :: os, lo, d, x, h1, h2 => by
    unfold rx_tsw rx_tbs
    simp only [List.length_cons] at h2
    by_cases h : x = Int32.ofInt lo
    · rw [if_pos h, if_pos ((rx_ofInt_eq h1 (by omega)).mp h)]
    · rw [if_neg h, if_neg (fun q => h ((rx_ofInt_eq h1 (by omega)).mpr q))]
      exact rx_tbs_eq f pc os (lo + 1) d x (by omega) (by omega)
theorem rx_V_tsw {sc : rx_S} {ln i pc : Nat} {lv : rx_L} {st : List Value} {h : rx_H} {bc bs : Nat} {d lo hi : Int} {offs : Array Int} {x : Int32} (hd : decode (rx_cd i) pc = .ok (.tableswitch d lo hi offs, ln)) (h0 : hi = lo + (offs.toList.length : Int) - 1) (h1 : -2147483648 ≤ lo) (h2 : lo + (offs.toList.length : Int) < 2147483648) : rx_V sc i pc lv (.int x :: st) h bc bs = rx_tbs (fun t => rx_V sc i t lv st h bc bs) pc offs.toList lo d x := by
  rw [← rx_tbs_eq _ _ _ _ _ _ h1 h2]
  refine rx_V_bind (F := fun t => (i, t, lv, st, h, bc, bs)) hd rfl ?_ (fun _ => rfl)
  show (if hi = lo + (offs.toList.length : Int) - 1 then _ else _) = _
  rw [if_pos h0]
def rx_lsw (f : Nat → Option rx_O) (pc : Nat) : List (Int × Int) → Int → Int32 → Option rx_O
  | [], d, _ => (rx_tgt pc d).bind f
  | o :: os, d, x => if x = Int32.ofInt o.1 then (rx_tgt pc o.2).bind f else rx_lsw f pc os d x
theorem rx_lsw_eq (f : Nat → Option rx_O) (pc : Nat) : ∀ (os : List (Int × Int)) (d : Int) (x : Int32), os.all (fun o => decide (-2147483648 ≤ o.1) && decide (o.1 < 2147483648)) = true → (rx_tgt pc (Op.lookupswitch.offset os d x.toInt)).bind f = rx_lsw f pc os d x
  | [], _, _, _ => rfl
  | o :: os, d, x, h => by
    unfold rx_lsw
    simp only [List.all_cons, Bool.and_eq_true, decide_eq_true_eq] at h
    by_cases hx : x = Int32.ofInt o.1
    · rw [if_pos hx]
      have := (rx_ofInt_eq h.1.1 h.1.2).mp hx
      obtain ⟨a, b⟩ := o
      simp only [Op.lookupswitch.offset] at this ⊢
      simp [this]
    · rw [if_neg hx]
      have hn : ¬ x.toInt = o.1 := fun q => hx ((rx_ofInt_eq h.1.1 h.1.2).mpr q)
      rw [← rx_lsw_eq f pc os d x h.2]
      obtain ⟨a, b⟩ := o
      dsimp only at hn
      show (rx_tgt pc (if a = x.toInt then b else Op.lookupswitch.offset os d x.toInt)).bind f = _
      rw [if_neg (fun q => hn q.symm)]
theorem rx_V_lsw {sc : rx_S} {ln i pc : Nat} {lv : rx_L} {st : List Value} {h : rx_H} {bc bs : Nat} {d : Int} {ps : Array (Int × Int)} {x : Int32} (hd : decode (rx_cd i) pc = .ok (.lookupswitch d ps, ln)) (h0 : (ps.toList.zip (ps.toList.drop 1)).all (fun (a, next) => a.1 < next.1) = true) (h1 : ps.toList.all (fun o => decide (-2147483648 ≤ o.1) && decide (o.1 < 2147483648)) = true) : rx_V sc i pc lv (.int x :: st) h bc bs = rx_lsw (fun t => rx_V sc i t lv st h bc bs) pc ps.toList d x := by
  rw [← rx_lsw_eq _ _ _ _ _ h1]
  refine rx_V_bind (F := fun t => (i, t, lv, st, h, bc, bs)) hd rfl ?_ (fun _ => rfl)
  show (if (ps.toList.zip (ps.toList.drop 1)).all (fun (a, next) => a.1 < next.1) = true then _ else _) = _
  rw [if_pos h0]
theorem rx_V_rem {sc : rx_S} {i pc : Nat} {lv : rx_L} {st : List Value} {h : rx_H} {bc bs : Nat} {x y : Int32} (hd : decode (rx_cd i) pc = .ok (.irem, 1)) : rx_V sc i pc lv (.int y :: .int x :: st) h bc bs = if ¬ y = 0 then rx_V sc i (pc + 1) lv (.int (x - x / y * y) :: st) h bc bs else none := by
  refine rx_V_chk hd rfl ?_ rfl
  show (if y = 0 then none else _) = _
  by_cases hy : y = 0
  · rw [if_pos hy, if_neg (fun q => q hy)]
  · rw [if_neg hy, if_pos hy]
theorem rx_V_putz {sc : rx_S} {i pc idx q : Nat} {f : Nat × Nat × Nat × Nat} {lv : rx_L} {st : List Value} {h : rx_H} {bc bs : Nat} {x : Int32} (hd : decode (rx_cd i) pc = .ok (.putfield idx, 3)) (hl : 3 = rx_len (.putfield idx) 3) (hf : rx_fl.lookup (rx_ow i, idx) = some f) (hk : f.2.2.1 = 1) (hfin : f.2.2.2 = 0 ∨ (rx_ini i = 1 ∧ f.1 = rx_ow i)) : rx_V sc i pc lv (.int x :: .ref q :: st) h bc bs = if x = 0 ∨ x = 1 then (rx_pf h q f.1 f.2.1 (.int x)).bind (fun h => rx_V sc i (pc + 3) lv st h bc bs) else none := by
  refine rx_V_put hd hl ?_ (fun _ => rfl)
  show (rx_fl.lookup (rx_ow i, idx)).bind _ = _
  rw [hf, Option.bind_some]
  show (if rx_okf f.2.2.1 (.int x) = true ∧ (f.2.2.2 = 0 ∨ (rx_ini i = 1 ∧ f.1 = rx_ow i)) then _ else none) = _
  rw [hk]
  by_cases hx : x = 0 ∨ x = 1
  · rw [if_pos hx, if_pos ⟨by simpa [rx_okf] using hx, hfin⟩]
  · rw [if_neg hx, if_neg (fun q => hx (by simpa [rx_okf] using q.1))]
theorem rx_V_mna {sc : rx_S} {i pc : Nat} {lv : rx_L} {st : List Value} {h : rx_H} {bc bs : Nat} {x y : Int32} (hd : decode (rx_cd i) pc = .ok (.multianewarray 18 2, 4)) (ho : rx_ow i = 0) : rx_V sc i pc lv (.int y :: .int x :: st) h bc bs = if 0 ≤ x.toInt ∧ x.toInt ≤ 10000 ∧ 0 ≤ y.toInt ∧ y.toInt ≤ 10000 ∧ 1 + x.toNatClampNeg ≤ bc ∧ x.toNatClampNeg + x.toNatClampNeg * y.toNatClampNeg ≤ bs then rx_V sc i (pc + 4) lv (.ref h.length :: st) (h ++ [.inl (2, x.toNatClampNeg, .inr (.inr (.inr (.inr (fun j => if j < x.toNatClampNeg then some (h.length + 1 + j) else none)))))] ++ List.replicate x.toNatClampNeg (.inl (0, y.toNatClampNeg, .inl (fun _ => 0)))) (bc - (1 + x.toNatClampNeg)) (bs - (x.toNatClampNeg + x.toNatClampNeg * y.toNatClampNeg)) else none := by
  refine rx_V_chk hd rfl ?_ rfl
  show (if rx_ow i = 0 ∧ 18 = 18 ∧ 2 = 2 ∧ _ then _ else none) = _
  by_cases hc : 0 ≤ x.toInt ∧ x.toInt ≤ 10000 ∧ 0 ≤ y.toInt ∧ y.toInt ≤ 10000 ∧ 1 + x.toNatClampNeg ≤ bc ∧ x.toNatClampNeg + x.toNatClampNeg * y.toNatClampNeg ≤ bs
  · rw [if_pos hc, if_pos ⟨ho, rfl, rfl, hc⟩]
  · rw [if_neg hc, if_neg (fun q => hc q.2.2.2)]
theorem rx_V_calla {sc : rx_S} {ins : Instr} {idx i pc j kd : Nat} {lv : rx_L} {st As rest : List Value} {h : rx_H} {bc bs : Nat} (hd : decode (rx_cd i) pc = .ok (ins, 3)) (hins : ins = .invokevirtual idx ∧ kd = 0 ∨ ins = .invokestatic idx ∧ kd = 1 ∨ ins = .invokespecial idx ∧ (kd = 2 ∨ kd = 3)) (hm : rx_mll.lookup (rx_ow i, idx) = some (j, kd)) (hpop : rx_pop (rx_na j) st = some (As, rest)) (h1 : rx_fr j + 1 ≤ rx_fr i) (h2 : 8 + (rx_ml j + 11) + rx_lo j ≤ rx_lo i) (h3 : ¬ kd = 0 ∧ ¬ kd = 1) (h4 : ∀ v ∈ As, v.category = 1) (h5 : (rest.map fun v => v.category).sum ≤ 8) (h6 : rx_isref As = true) :
    rx_V sc i pc lv st h bc bs = if rx_mc j ≤ bc ∧ rx_ms j ≤ bs then (rx_V sc j 0 (As.map some ++ List.replicate (rx_ml j - rx_na j) none) [] h (rx_mc j) (rx_ms j)).bind (fun r => rx_V sc i (pc + 3) lv (r.1.toList ++ rest) r.2 (bc - rx_mc j) (bs - rx_ms j)) else none := by
  rw [rx_V_call hd hins hm hpop rfl]
  have e : rx_chk i h j kd As rest bc bs = true ↔ rx_mc j ≤ bc ∧ rx_ms j ≤ bs := by
    unfold rx_chk
    have h4' : As.all (fun v => v.category == 1) = true := List.all_eq_true.mpr (fun v hv => by simpa using h4 v hv)
    simp only [h4', h3.1, h3.2, h6, if_false, Bool.and_eq_true, decide_eq_true_eq, h1, h2, h5, true_and, and_true]
  by_cases hc : rx_mc j ≤ bc ∧ rx_ms j ≤ bs
  · rw [if_pos hc, if_pos (e.mpr hc)]
  · rw [if_neg hc, if_neg (fun q => hc (e.mp q))]
theorem rx_V_retl {sc : rx_S} {pc : Nat} {lv : rx_L} {h : rx_H} {bc bs : Nat} {x : Int32} (hd : decode (rx_cd 147) pc = .ok (.ireturn, 1)) : rx_V sc 147 pc lv [.int x] h bc bs = if x = 0 ∨ x = 1 then some (some (.int x), h) else none := by
  have e : rx_stp sc (147, pc, lv, [.int x], h, bc, bs) = if x = 0 ∨ x = 1 then some (.inr (.inl (some (.int x), h))) else none := by
    unfold rx_stp
    dsimp only
    rw [hd]
    dsimp only
    rw [if_pos (show 1 = rx_len Instr.ireturn 1 from rfl)]
    show rx_sel 147 ((rx_rets 147 [.int x]).bind _) = _
    by_cases hc : x = 0 ∨ x = 1
    · rw [if_pos hc]
      have : rx_rets 147 [.int x] = some (some (.int x)) := by
        show (if x = 0 ∨ x = 1 then _ else _) = _
        rw [if_pos hc]
      rw [this]
      dsimp only [Option.bind_some]
      rw [if_pos ⟨rfl, Or.inr rfl⟩]
      rfl
    · rw [if_neg hc]
      have : rx_rets 147 [.int x] = none := by
        show (if x = 0 ∨ x = 1 then _ else _) = _
        rw [if_neg hc]
      rw [this]
      rfl
  by_cases hc : x = 0 ∨ x = 1
  · rw [if_pos hc] at e ⊢; exact rx_lim_ret e
  · rw [if_neg hc] at e ⊢; exact rx_lim_stuck e
/-- what follows, as functions of what was read, stored, answered -/
noncomputable def rx_kv (sc : rx_S) (i pc : Nat) (lv : rx_L) (st : List Value) (h : rx_H) (bc bs : Nat) (v : Value) : Option rx_O := rx_V sc i pc lv (v :: st) h bc bs
noncomputable def rx_ki (sc : rx_S) (i pc : Nat) (lv : rx_L) (st : List Value) (h : rx_H) (bc bs : Nat) (x : Int32) : Option rx_O := rx_V sc i pc lv (.int x :: st) h bc bs
noncomputable def rx_kr (sc : rx_S) (i pc : Nat) (lv : rx_L) (st : List Value) (h : rx_H) (bc bs : Nat) (x : Nat) : Option rx_O := rx_V sc i pc lv (.ref x :: st) h bc bs
noncomputable def rx_kn (sc : rx_S) (i pc : Nat) (lv : rx_L) (st : List Value) (h : rx_H) (bc bs : Nat) (n : Nat) : Option rx_O := rx_V sc i pc lv (.int (Int32.ofNat n) :: st) h bc bs
noncomputable def rx_kh (sc : rx_S) (i pc : Nat) (lv : rx_L) (st : List Value) (bc bs : Nat) (h : rx_H) : Option rx_O := rx_V sc i pc lv st h bc bs
noncomputable def rx_kc (sc : rx_S) (i pc : Nat) (lv : rx_L) (rest : List Value) (bc bs : Nat) (r : rx_O) : Option rx_O := rx_V sc i pc lv (r.1.toList ++ rest) r.2 bc bs
theorem kv_eq {sc : rx_S} {i pc : Nat} {lv : rx_L} {st : List Value} {h : rx_H} {bc bs : Nat} {v : Value} : rx_kv sc i pc lv st h bc bs v = rx_V sc i pc lv (v :: st) h bc bs := rfl
theorem ki_eq {sc : rx_S} {i pc : Nat} {lv : rx_L} {st : List Value} {h : rx_H} {bc bs : Nat} {x : Int32} : rx_ki sc i pc lv st h bc bs x = rx_V sc i pc lv (.int x :: st) h bc bs := rfl
theorem kr_eq {sc : rx_S} {i pc : Nat} {lv : rx_L} {st : List Value} {h : rx_H} {bc bs : Nat} {x : Nat} : rx_kr sc i pc lv st h bc bs x = rx_V sc i pc lv (.ref x :: st) h bc bs := rfl
theorem kn_eq {sc : rx_S} {i pc : Nat} {lv : rx_L} {st : List Value} {h : rx_H} {bc bs : Nat} {n : Nat} : rx_kn sc i pc lv st h bc bs n = rx_V sc i pc lv (.int (Int32.ofNat n) :: st) h bc bs := rfl
theorem kh_eq {sc : rx_S} {i pc : Nat} {lv : rx_L} {st : List Value} {h : rx_H} {bc bs : Nat} : rx_kh sc i pc lv st bc bs h = rx_V sc i pc lv st h bc bs := rfl
theorem kc_eq {sc : rx_S} {i pc : Nat} {lv : rx_L} {rest : List Value} {bc bs : Nat} {o : Option Value} {h : rx_H} : rx_kc sc i pc lv rest bc bs (o, h) = rx_V sc i pc lv (o.toList ++ rest) h bc bs := rfl
