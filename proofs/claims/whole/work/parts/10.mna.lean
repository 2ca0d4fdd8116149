/-! new int[n][m]: the outer array, and its rows behind it -/
theorem rx_outer (c : ClassId) (N h0 : Nat) : ∀ i : Nat, Jvm.Free.Multi.outerC c N h0 i = arrV c N (fun j => va_rf (if j < i then some (h0 + 1 + j) else none))
  | 0 => by
    show ({ cls := c, slots := Array.replicate N .null, vm := .none } : Cell) = _
    rw [arrV_new]
    refine congrArg (arrV c N) (funext fun j => ?_)
    simp [va_rf]
  | i + 1 => by
    show (Jvm.Free.Multi.outerC c N h0 i).setSlot i (.ref (h0 + 1 + i)) = _
    rw [rx_outer c N h0 i, arrV_store]
    refine congrArg (arrV c N) (funext fun j => ?_)
    by_cases e : j = i
    · subst e
      simp [updV, va_rf]
    · by_cases h : j < i
      · simp [updV, e, h, Nat.lt_succ_of_lt h]
      · simp [updV, e, h, show ¬ j < i + 1 by omega]
theorem rx_w_rep {b z : Nat} {ca : Nat → ClassId} {e : va_E} : ∀ (n : Nat) (h : rx_H), rx_w b z ca (h ++ List.replicate n e) = rx_w b z ca h ++ (List.range n).map (fun j => (z + h.length + j, rx_e b z ca e)) := by
  intro n h
  refine List.ext_getElem? fun j => ?_
  rw [List.getElem?_append, rx_w_len]
  simp only [rx_w, List.getElem?_mapIdx]
  by_cases hj : j < h.length
  · simp [hj, List.getElem?_append]
  · rw [if_neg hj, List.getElem?_append_right (by omega)]
    by_cases hk : j - h.length < n
    · simp [List.getElem?_replicate, hk, List.getElem?_map, List.getElem?_range hk]
      omega
    · simp [List.getElem?_replicate, hk, List.getElem?_map]
theorem rx_n_mna {D : va_G} {ca : Nat → ClassId} {b z : Nat} {sc : rx_S} {i pc : Nat} {p : Program} {l : Launch} {e : Env} {R : Room} {s : State} {m : MethodId} {args : Array Value} {below : List Frame} {meth : Method} {cod : Code} {C0 S0 : Nat} {Q : State → Prop} {lv : rx_L} {st : List Value} {h : rx_H} {bc bs : Nat} {c2 : rx_C} {idx dim : Nat} (E : rx_En D ca b z sc i p s m args meth cod R C0 S0) (hd : decode (rx_cd i) pc = .ok (.multianewarray idx dim, 4)) (hs : rx_ins sc (.multianewarray idx dim) i pc lv st h bc bs = some (.inl c2)) (k : rx_Go D ca b z p l e R s m args below meth cod C0 S0 Q c2) : rx_Go D ca b z p l e R s m args below meth cod C0 S0 Q (i, pc, lv, st, h, bc, bs) := by
  obtain ⟨hx, hb, hml, hr, hlk, hown, hts, hin, hCx, hz, hf, hlo, hc0, hs0⟩ := E
  obtain ⟨q, hq, hs9⟩ := Option.bind_eq_some_iff.mp hs
  clear hs
  obtain rfl := rx_p2_eq hq
  obtain ⟨x, y, st2⟩ := q
  dsimp only at hs9
  split at hs9
  · rename_i hbud
    obtain ⟨ho, rfl, rfl, b1, b2, b3, b4, b5, b6⟩ := hbud
    cases hs9
    intro H locs ls cells slots hp T hT X
    have hp : rx_Pt D ca b z s i lv h bc bs C0 S0 H locs ls cells slots := hp
    have hsz : H.size = z + h.length := rx_size hz hp hT X
    obtain ⟨h1, hP, hS, h4, h5, h6⟩ := hp
    have hn0 : ¬ x < 0 := by rw [Int32.lt_iff_toInt_lt]; simp only [Int32.toInt_zero]; omega
    have hk0 : ¬ y < 0 := by rw [Int32.lt_iff_toInt_lt]; simp only [Int32.toInt_zero]; omega
    have hxl : x.toNatClampNeg ≤ 10000 := by show x.toInt.toNat ≤ 10000; omega
    have hyl : y.toNatClampNeg ≤ 10000 := by show y.toInt.toNat ≤ 10000; omega
    have hclink : (Cond.classLink (rx_on (rx_ow i)) 18 ("[" ++ (FieldType.array .int).toString)).before args s = true := by
      rw [ho]
      exact hts _ rx_clA
    have hover : (Cond.arrayOver (.array .int)).before args s = true := hCx.2.1.2
    have hd2 : decode cod.code pc = .ok (.multianewarray 18 2, 4) := by rw [hb]; exact hd
    obtain ⟨vm₁, cA, comp, -, fA, fC, hO, -, X', step⟩ := X.multianewarray2F (ty := .int) hx hown hclink hover (hts _ rx_acI) (g := F0 m pc ls (.int y :: .int x :: st2.map (rx_v b z))) rfl hd2 rfl hn0 hk0 (by omega) (by show y.toNatClampNeg * 4 ≤ _; omega) (by omega) rfl rfl (by omega) (by omega)
    have e0 : comp = ca 0 := by
      have h8 : s.vm.findClass ("[" ++ FieldType.int.toString) = some (ca 0) := (hCx.1.2 0 _ (show (rx_tys ca)[0]? = some (ca 0, .int) from rfl)).2
      exact Option.some.inj (fC.symm.trans h8)
    have e2 : cA = ca 2 := by
      have h8 : s.vm.findClass ("[" ++ (FieldType.array .int).toString) = some (ca 2) := (hCx.1.2 2 _ (show (rx_tys ca)[2]? = some (ca 2, .array .int) from rfl)).2
      exact Option.some.inj (fA.symm.trans h8)
    subst e0
    subst e2
    have hTh : (T.setVm vm₁).heap = H := hT
    obtain ⟨f1, f2, -, -⟩ := Jvm.Free.Multi.fill_facts (T.setVm vm₁) (ca 2) (ca 0) x.toNatClampNeg y.toNatClampNeg (defaultValue .int) x.toNatClampNeg
    have hold : ∀ a : Nat, a < H.size → (Jvm.Free.Multi.fill (T.setVm vm₁) (ca 2) (ca 0) x.toNatClampNeg y.toNatClampNeg (defaultValue .int) x.toNatClampNeg).heap[a]? = H[a]? := fun a ha => by
      rw [← hTh]
      exact Jvm.Free.Multi.fill_old (T.setVm vm₁) (ca 2) (ca 0) x.toNatClampNeg y.toNatClampNeg (defaultValue .int) (a := a) (by rw [hTh]; exact ha) x.toNatClampNeg
    have hrow : ∀ j : Nat, j < x.toNatClampNeg → (Jvm.Free.Multi.fill (T.setVm vm₁) (ca 2) (ca 0) x.toNatClampNeg y.toNatClampNeg (defaultValue .int) x.toNatClampNeg).heap[H.size + 1 + j]? = some (Jvm.Free.Multi.innerC (ca 0) y.toNatClampNeg (defaultValue .int)) := fun j hj => by
      have := Jvm.Free.Multi.fill_inner (T.setVm vm₁) (ca 2) (ca 0) x.toNatClampNeg y.toNatClampNeg (defaultValue .int) x.toNatClampNeg j hj
      rw [hTh] at this
      exact this
    rw [hTh] at f1 f2
    generalize Jvm.Free.Multi.fill (T.setVm vm₁) (ca 2) (ca 0) x.toNatClampNeg y.toNatClampNeg (defaultValue .int) x.toNatClampNeg = F at X' step f1 f2 hold hrow
    generalize hN : x.toNatClampNeg = N at *
    generalize hM : y.toNatClampNeg = M at *
    have hres : rx_Pt D ca b z s i lv (h ++ [.inl (2, N, .inr (.inr (.inr (.inr (fun j => if j < N then some (h.length + 1 + j) else none)))))] ++ List.replicate N (.inl (0, M, .inl (fun _ => 0)))) (bc - (1 + N)) (bs - (N + N * M)) C0 S0 F.heap locs ls (cells + 1 + N) (slots + N + N * M) := by
      refine ⟨?_, ?_, ?_, h4, by omega, by omega⟩
      · simp only [List.length_append, List.length_singleton, List.length_replicate]
        omega
      · rw [rx_w_rep, rx_w_app]
        refine ((hP.kept (fun k9 x9 hx9 => hold x9.1 ((hP k9 x9 hx9).lt))).app (fun k9 x9 hx9 => ?_)).app (fun k9 x9 hx9 => ?_)
        · have hz9 : k9 < 1 := (List.getElem?_eq_some_iff.mp hx9).1
          rw [show k9 = 0 by omega] at hx9
          cases hx9
          show F.heap[z + h.length]? = some (vp_cell _ _)
          rw [← hsz, f2, rx_outer, vp_cell_q]
          refine congrArg some (congrArg (arrV (ca 2) N) (funext fun j => ?_))
          by_cases hj : j < N
          · rw [if_pos hj]
            show va_rf (some _) = va_rf ((if j < N then some (h.length + 1 + j) else none).map (fun q => z + q))
            rw [if_pos hj, hsz]
            exact congrArg Value.ref (by omega : z + h.length + 1 + j = z + (h.length + 1 + j))
          · rw [if_neg hj]
            show va_rf none = va_rf ((if j < N then some (h.length + 1 + j) else none).map (fun q => z + q))
            rw [if_neg hj]
            rfl
        · obtain ⟨j, hj, rfl⟩ := List.mem_map.mp (List.mem_of_getElem? hx9)
          have hj := List.mem_range.mp hj
          show F.heap[z + (h ++ [_]).length + j]? = some (vp_cell _ _)
          rw [List.length_append, List.length_singleton, show z + (h.length + 1) + j = H.size + 1 + j by omega, hrow j hj]
          show some (Jvm.Free.Multi.innerC (ca 0) M (.int 0)) = _
          unfold Jvm.Free.Multi.innerC
          rw [arrV_new]
          rfl
      · exact ⟨Nat.le_trans hS.1 (by omega), fun a h9 h10 => (hold a (by have := hS.1; omega)).trans (hS.2.1 a h9 h10), hS.2.2⟩
    obtain ⟨t, a1, b9⟩ := k F.heap locs ls (cells + 1 + N) (slots + N + N * M) hres F rfl X'
    refine ⟨t, step t ?_, b9⟩
    have e9 : T.heap.size = z + h.length := by rw [hT]; exact hsz
    rw [e9]
    exact a1
  · cases hs9
