/-! the instructions that read and write cells -/
theorem rx_df_plain : ∀ ci, ci < 10 → ∀ (b z : Nat), ∀ v ∈ rx_df.getD ci [], rx_v b z v = v := by
  intro ci h b z v hv
  have h2 : (List.range 10).all (fun c => (rx_df.getD c []).all (fun v => v == .int 0 || v == .null)) = true := by decide +kernel
  have h3 := List.all_eq_true.mp (List.all_eq_true.mp h2 ci (List.mem_range.mpr h)) v hv
  simp only [Bool.or_eq_true, beq_iff_eq] at h3
  rcases h3 with rfl | rfl <;> rfl
section RXH
variable {D : va_G} {ca : Nat → ClassId} {b z : Nat} {sc : rx_S} {i pc : Nat} {p : Program} {l : Launch} {e : Env} {R : Room} {s : State} {m : MethodId} {args : Array Value} {below : List Frame} {meth : Method} {cod : Code} {C0 S0 : Nat} {Q : State → Prop} {lv : rx_L} {st : List Value} {h : rx_H} {bc bs : Nat} {c2 : rx_C}
theorem rx_n_getfield {idx : Nat} (E : rx_En D ca b z sc i p s m args meth cod R C0 S0) (hd : decode (rx_cd i) pc = .ok (.getfield idx, 3)) (hs : rx_ins sc (.getfield idx) i pc lv st h bc bs = some (.inl c2)) (k : rx_Go D ca b z p l e R s m args below meth cod C0 S0 Q c2) : rx_Go D ca b z p l e R s m args below meth cod C0 S0 Q (i, pc, lv, st, h, bc, bs) := by
  obtain ⟨hx, hb, hml, hr, hlk, hown, hts, hin, hCx, hz, hf, hlo, hc0, hs0⟩ := E
  obtain ⟨f, hff, hs9⟩ := Option.bind_eq_some_iff.mp hs
  clear hs; have hs := hs9; clear hs9
  obtain ⟨q, hq, hs9⟩ := Option.bind_eq_some_iff.mp hs
  clear hs; have hs := hs9; clear hs9
  obtain ⟨v, hv, hs9⟩ := Option.bind_eq_some_iff.mp hs
  clear hs; have hs := hs9; clear hs9
  obtain rfl := rx_pr_eq hq
  cases hs
  intro H locs ls cells slots hp
  obtain ⟨C, T, N, ty, hcf, hk, hlw, -, -⟩ := rx_look_f hff
  obtain ⟨fs, hg, hfv⟩ := rx_gf_eq hv
  have hin2 := hcf.2.2.1
  have hcl := hcf.1
  have hC := hcf.2.2.2.2.2.2.2.2 f.2.1 hk
  exact va_get (D := D) (ci := f.1) (C := C) (T := T) (N := N) hx hb hts hin2 hown hCx.1 hp.2.1 q.1 (rx_w_get hg) hcl f.2.1 hk (hts _ hlw) (fun x9 h9 => by rw [hC] at h9; exact h9) (v := rx_v b z v) (by rw [List.getElem?_map, hfv]; rfl) hd (k H locs ls cells slots hp)
theorem rx_n_putfield {idx : Nat} (E : rx_En D ca b z sc i p s m args meth cod R C0 S0) (hd : decode (rx_cd i) pc = .ok (.putfield idx, 3)) (hs : rx_ins sc (.putfield idx) i pc lv st h bc bs = some (.inl c2)) (k : rx_Go D ca b z p l e R s m args below meth cod C0 S0 Q c2) : rx_Go D ca b z p l e R s m args below meth cod C0 S0 Q (i, pc, lv, st, h, bc, bs) := by
  obtain ⟨hx, hb, hml, hr, hlk, hown, hts, hin, hCx, hz, hf, hlo, hc0, hs0⟩ := E
  obtain ⟨f, hff, hs9⟩ := Option.bind_eq_some_iff.mp hs
  clear hs; have hs := hs9; clear hs9
  obtain ⟨q, hq, hs9⟩ := Option.bind_eq_some_iff.mp hs
  clear hs; have hs := hs9; clear hs9
  obtain rfl := rx_pv_eq hq
  split at hs
  · rename_i hok
    obtain ⟨h2, hh2, hs9⟩ := Option.bind_eq_some_iff.mp hs
    cases hs9
    intro H locs ls cells slots hp
    obtain ⟨C, T, N, ty, hcf, hk, hlw, hfi, hty⟩ := rx_look_f hff
    obtain ⟨fs, hg, hkl, rfl⟩ := rx_pf_eq hh2
    have hin2 := hcf.2.2.1
    have hcl := hcf.1
    have hpd := hcf.2.2.2.1
    have hnm := hcf.2.2.2.2.1
    have hC := hcf.2.2.2.2.2.2.2.2 f.2.1 hk
    obtain ⟨h1, hP, hS, h4, h5, h6⟩ := hp
    have hnf : narrow (ty f.2.1) (rx_v b z q.1) = rx_v b z q.1 ∧ fits (ty f.2.1) (rx_v b z q.1) = true := by
      have hokv := hok.1
      rcases hty with ⟨ht, hkd⟩ | ⟨ht, hkd⟩ | ⟨ht, hkd⟩
      · rw [hkd] at hokv
        rw [ht]
        cases hq1 : q.1 with
        | int x => exact ⟨rfl, rfl⟩
        | _ => rw [hq1] at hokv; cases hokv
      · rw [hkd] at hokv
        rw [ht]
        cases hq1 : q.1 with
        | int x =>
          rw [hq1] at hokv
          have hx01 : x = 0 ∨ x = 1 := by simpa [rx_okf] using hokv
          rcases hx01 with rfl | rfl
          · exact ⟨(by decide +kernel : narrow FieldType.boolean (.int 0) = .int 0), (by decide +kernel : fits FieldType.boolean (.int 0) = true)⟩
          · exact ⟨(by decide +kernel : narrow FieldType.boolean (.int 1) = .int 1), (by decide +kernel : fits FieldType.boolean (.int 1) = true)⟩
        | _ => rw [hq1] at hokv; cases hokv
      · rw [hkd] at hokv
        cases hq1 : q.1 with
        | ref x =>
          cases hty2 : ty f.2.1 <;> rw [hty2] at ht <;> first | (cases ht; done) | exact ⟨rfl, rfl⟩
        | _ => rw [hq1] at hokv; cases hokv
    have hset : ∀ (H1 : Heap) (locs1 : List Loc), va_P D vwCl ((rx_w b z ca h).set q.2.1 (z + q.2.1, .inr (f.1, (fs.map (rx_v b z)).set f.2.1 (rx_v b z q.1)))) H1 → va_S (fun q : Nat => z ≤ q) s.heap H1 locs1 → W p l e R s m args below meth cod H1 locs1 cells slots Q (F0 m (pc + 3) ls (q.2.2.map (rx_v b z))) := by
      intro H1 locs1 hP1 hS1
      refine k H1 locs1 ls cells slots ⟨?_, ?_, hS1, h4, h5, h6⟩
      · rw [h1]; simp
      · have e9 : (fs.map (rx_v b z)).set f.2.1 (rx_v b z q.1) = (fs.set f.2.1 q.1).map (rx_v b z) := by rw [List.map_set]
        rw [e9] at hP1
        have e8 := rx_w_set (b := b) (z := z) (ca := ca) (h := h) (k := q.2.1) (e := .inr (f.1, fs.set f.2.1 q.1))
        rw [← e8]
        exact hP1
    have hsame : ∀ x9, s.fieldFound? (T f.2.1).1 (T f.2.1).2.1 (T f.2.1).2.2.1 = some x9 → s.fieldFound? C (T f.2.1).2.1 (T f.2.1).2.2.1 = some x9 := fun x9 h9 => by rw [hC] at h9; exact h9
    by_cases hfin : (T f.2.1).2.2.2 = true
    · have hf1 := hfi.mp hfin
      have hini : rx_ini i = 1 ∧ f.1 = rx_ow i := by
        rcases hok.2 with h0 | h0
        · rw [hf1] at h0; cases h0
        · exact h0
      have hCown : C = rx_on (rx_ow i) := by rw [hcf.2.1, hini.2]
      exact va_putF (D := D) (ci := f.1) (C := C) (T := T) (N := N) hx hb hts hin2 ty hpd hnm hown hCx.1 hP (rx_w_D b z ca h) hS q.2.1 (rx_w_get hg) hcl f.2.1 hk (hts _ hlw) hsame hfin (hin hini.1) (by rw [hC]; exact hCown) (hpd _ hk) hnf.1 hnf.2 (by rw [List.length_map]; exact hkl) hd (fun H1 locs1 hP1 _ hS1 => hset H1 locs1 hP1 hS1)
    · exact va_put (D := D) (ci := f.1) (C := C) (T := T) (N := N) hx hb hts hin2 ty hpd hnm hown hCx.1 hP (rx_w_D b z ca h) hS q.2.1 (rx_w_get hg) hcl f.2.1 hk (hts _ hlw) hsame (by simpa using hfin) (hpd _ hk) hnf.1 hnf.2 (by rw [List.length_map]; exact hkl) hd (fun H1 locs1 hP1 _ hS1 => hset H1 locs1 hP1 hS1)
  · cases hs
theorem rx_n_iaload  (E : rx_En D ca b z sc i p s m args meth cod R C0 S0) (hd : decode (rx_cd i) pc = .ok (.iaload, 1)) (hs : rx_ins sc (.iaload) i pc lv st h bc bs = some (.inl c2)) (k : rx_Go D ca b z p l e R s m args below meth cod C0 S0 Q c2) : rx_Go D ca b z p l e R s m args below meth cod C0 S0 Q (i, pc, lv, st, h, bc, bs) := by
  obtain ⟨hx, hb, hml, hr, hlk, hown, hts, hin, hCx, hz, hf, hlo, hc0, hs0⟩ := E
  obtain ⟨q, hq, hs9⟩ := Option.bind_eq_some_iff.mp hs
  clear hs; have hs := hs9; clear hs9
  rcases rx_pa_eq hq with ⟨k9, hk9, rfl⟩ | ⟨k9, hk9, rfl⟩
  · rw [hk9] at hs
    obtain ⟨x, hxx, hs9⟩ := Option.bind_eq_some_iff.mp hs
    cases hs9
    intro H locs ls cells slots hp
    obtain ⟨n, f, hg, hi, rfl⟩ := rx_ald_eq hxx
    exact va_iald (D := D) hx hb hCx.1 hp.2.1 k9 0 (rx_w_get hg) rfl hi hd (k H locs ls cells slots hp)
  · rw [hk9] at hs
    obtain ⟨x, hxx, hs9⟩ := Option.bind_eq_some_iff.mp hs
    cases hs9
    intro H locs ls cells slots hp
    obtain ⟨hi, rfl⟩ := rx_sld_eq hxx
    have hX := hCx.2.2.1
    have hbz := hCx.2.2.2
    exact va_sld hx hb hX (Nat.lt_of_lt_of_le hbz hz) (Nat.not_le.mpr hbz) hp.2.2.1 hi hd (k H locs ls cells slots hp)
theorem rx_n_baload  (E : rx_En D ca b z sc i p s m args meth cod R C0 S0) (hd : decode (rx_cd i) pc = .ok (.baload, 1)) (hs : rx_ins sc (.baload) i pc lv st h bc bs = some (.inl c2)) (k : rx_Go D ca b z p l e R s m args below meth cod C0 S0 Q c2) : rx_Go D ca b z p l e R s m args below meth cod C0 S0 Q (i, pc, lv, st, h, bc, bs) := by
  obtain ⟨hx, hb, hml, hr, hlk, hown, hts, hin, hCx, hz, hf, hlo, hc0, hs0⟩ := E
  obtain ⟨q, hq, hs9⟩ := Option.bind_eq_some_iff.mp hs
  clear hs; have hs := hs9; clear hs9
  rcases rx_pa_eq hq with ⟨k9, hk9, rfl⟩ | ⟨k9, hk9, rfl⟩
  · rw [hk9] at hs
    obtain ⟨x, hxx, hs9⟩ := Option.bind_eq_some_iff.mp hs
    cases hs9
    intro H locs ls cells slots hp
    obtain ⟨n, f, hg, hi, rfl⟩ := rx_ald_eq hxx
    exact va_zald (D := D) hx hb hCx.1 hp.2.1 k9 1 (rx_w_get hg) rfl hi hd (k H locs ls cells slots hp)
  · rw [hk9] at hs
    cases hs
theorem rx_n_iastore  (E : rx_En D ca b z sc i p s m args meth cod R C0 S0) (hd : decode (rx_cd i) pc = .ok (.iastore, 1)) (hs : rx_ins sc (.iastore) i pc lv st h bc bs = some (.inl c2)) (k : rx_Go D ca b z p l e R s m args below meth cod C0 S0 Q c2) : rx_Go D ca b z p l e R s m args below meth cod C0 S0 Q (i, pc, lv, st, h, bc, bs) := by
  obtain ⟨hx, hb, hml, hr, hlk, hown, hts, hin, hCx, hz, hf, hlo, hc0, hs0⟩ := E
  obtain ⟨q, hq, hs9⟩ := Option.bind_eq_some_iff.mp hs
  clear hs; have hs := hs9; clear hs9
  obtain ⟨h2, hh2, hs9⟩ := Option.bind_eq_some_iff.mp hs
  clear hs; have hs := hs9; clear hs9
  obtain rfl := rx_ps_eq hq
  cases hs
  intro H locs ls cells slots hp
  obtain ⟨n, f, hg, hi, rfl⟩ := rx_ast_eq hh2
  obtain ⟨h1, hP, hS, h4, h5, h6⟩ := hp
  refine va_iast (D := D) hx hb hCx.1 hP (rx_w_D b z ca h) hS q.2.2.1 0 (rx_w_get hg) rfl hi hd (fun H1 locs1 hP1 _ hS1 => ?_)
  refine k H1 locs1 ls cells slots ⟨by rw [h1]; simp, ?_, hS1, h4, h5, h6⟩
  have e8 := rx_w_set (b := b) (z := z) (ca := ca) (h := h) (k := q.2.2.1) (e := .inl (0, n, .inl (upd f q.2.1.toNatClampNeg (rx_nar 0 q.1))))
  rw [← e8]
  exact hP1
theorem rx_n_bastore  (E : rx_En D ca b z sc i p s m args meth cod R C0 S0) (hd : decode (rx_cd i) pc = .ok (.bastore, 1)) (hs : rx_ins sc (.bastore) i pc lv st h bc bs = some (.inl c2)) (k : rx_Go D ca b z p l e R s m args below meth cod C0 S0 Q c2) : rx_Go D ca b z p l e R s m args below meth cod C0 S0 Q (i, pc, lv, st, h, bc, bs) := by
  obtain ⟨hx, hb, hml, hr, hlk, hown, hts, hin, hCx, hz, hf, hlo, hc0, hs0⟩ := E
  obtain ⟨q, hq, hs9⟩ := Option.bind_eq_some_iff.mp hs
  clear hs; have hs := hs9; clear hs9
  obtain ⟨h2, hh2, hs9⟩ := Option.bind_eq_some_iff.mp hs
  clear hs; have hs := hs9; clear hs9
  obtain rfl := rx_ps_eq hq
  cases hs
  intro H locs ls cells slots hp
  obtain ⟨n, f, hg, hi, rfl⟩ := rx_ast_eq hh2
  obtain ⟨h1, hP, hS, h4, h5, h6⟩ := hp
  refine va_zast (D := D) hx hb hCx.1 hP (rx_w_D b z ca h) hS q.2.2.1 1 (rx_w_get hg) rfl hi hd (fun H1 locs1 hP1 _ hS1 => ?_)
  refine k H1 locs1 ls cells slots ⟨by rw [h1]; simp, ?_, hS1, h4, h5, h6⟩
  have e8 := rx_w_set (b := b) (z := z) (ca := ca) (h := h) (k := q.2.2.1) (e := .inl (1, n, .inl (upd f q.2.1.toNatClampNeg (rx_nar 1 q.1))))
  rw [← e8]
  exact hP1
theorem rx_n_aaload  (E : rx_En D ca b z sc i p s m args meth cod R C0 S0) (hd : decode (rx_cd i) pc = .ok (.aaload, 1)) (hs : rx_ins sc (.aaload) i pc lv st h bc bs = some (.inl c2)) (k : rx_Go D ca b z p l e R s m args below meth cod C0 S0 Q c2) : rx_Go D ca b z p l e R s m args below meth cod C0 S0 Q (i, pc, lv, st, h, bc, bs) := by
  obtain ⟨hx, hb, hml, hr, hlk, hown, hts, hin, hCx, hz, hf, hlo, hc0, hs0⟩ := E
  obtain ⟨q, hq, hs9⟩ := Option.bind_eq_some_iff.mp hs
  clear hs; have hs := hs9; clear hs9
  rcases rx_pa_eq hq with ⟨k9, hk9, rfl⟩ | ⟨k9, hk9, rfl⟩
  · rw [hk9] at hs
    obtain ⟨x, hxx, hs9⟩ := Option.bind_eq_some_iff.mp hs
    cases hs9
    intro H locs ls cells slots hp
    obtain ⟨n, f, hg, hi, hfx⟩ := rx_qld_eq hxx
    have hlt : q.1.toNatClampNeg < n := Nat.not_le.mp fun q9 => hi (Or.inr q9)
    have hcell := hp.2.1 _ _ (rx_w_get hg)
    have harr := (hCx.1.2 2 _ (show (rx_tys ca)[2]? = some (ca 2, .array .int) from rfl)).1 n (fun j => va_rf ((f j).map (fun q => z + q)))
    refine W.aald (v := .ref (z + x)) (ty := .array .int) hx hb hcell harr rfl (fun q9 => by cases q9) (by show ¬ (q.1 < 0 ∨ (arrV _ _ _).slots.size ≤ _); rw [arrV_size]; exact hi) ?_ rfl rfl hd (k H locs ls cells slots hp)
    show (arrV _ _ _).slots[_]? = _
    rw [arrV_read _ _ hlt]
    show some (va_rf ((f q.1.toNatClampNeg).map (fun q => z + q))) = _
    rw [hfx]
    rfl
  · rw [hk9] at hs
    cases hs
theorem rx_n_arraylength  (E : rx_En D ca b z sc i p s m args meth cod R C0 S0) (hd : decode (rx_cd i) pc = .ok (.arraylength, 1)) (hs : rx_ins sc (.arraylength) i pc lv st h bc bs = some (.inl c2)) (k : rx_Go D ca b z p l e R s m args below meth cod C0 S0 Q c2) : rx_Go D ca b z p l e R s m args below meth cod C0 S0 Q (i, pc, lv, st, h, bc, bs) := by
  obtain ⟨hx, hb, hml, hr, hlk, hown, hts, hin, hCx, hz, hf, hlo, hc0, hs0⟩ := E
  obtain ⟨q, hq, hs9⟩ := Option.bind_eq_some_iff.mp hs
  clear hs; have hs := hs9; clear hs9
  rcases rx_pq_eq hq with ⟨k9, hk9, rfl⟩ | ⟨k9, hk9, rfl⟩
  · rw [hk9] at hs
    obtain ⟨n, hn, hs9⟩ := Option.bind_eq_some_iff.mp hs
    cases hs9
    intro H locs ls cells slots hp
    obtain ⟨t, f, ht, hg⟩ := rx_gl_eq hn
    rcases ht with rfl | rfl
    · exact va_alen (D := D) hx hb hCx.1 hp.2.1 k9 0 (rx_w_get hg) rfl rfl hd (k H locs ls cells slots hp)
    · exact va_alen (D := D) hx hb hCx.1 hp.2.1 k9 1 (rx_w_get hg) rfl rfl hd (k H locs ls cells slots hp)
  · rw [hk9] at hs
    cases hs
    intro H locs ls cells slots hp
    have hX := hCx.2.2.1
    have hbz := hCx.2.2.2
    exact va_slen hx hb hX (Nat.lt_of_lt_of_le hbz hz) (Nat.not_le.mpr hbz) hp.2.2.1 hd (k H locs ls cells slots hp)
theorem rx_n_new {idx : Nat} (E : rx_En D ca b z sc i p s m args meth cod R C0 S0) (hd : decode (rx_cd i) pc = .ok (.new idx, 3)) (hs : rx_ins sc (.new idx) i pc lv st h bc bs = some (.inl c2)) (k : rx_Go D ca b z p l e R s m args below meth cod C0 S0 Q c2) : rx_Go D ca b z p l e R s m args below meth cod C0 S0 Q (i, pc, lv, st, h, bc, bs) := by
  obtain ⟨hx, hb, hml, hr, hlk, hown, hts, hin, hCx, hz, hf, hlo, hc0, hs0⟩ := E
  obtain ⟨ci, hci, hs9⟩ := Option.bind_eq_some_iff.mp hs
  clear hs; have hs := hs9; clear hs9
  split at hs
  · rename_i hbud
    cases hs
    intro H locs ls cells slots hp T hT X
    have hp : rx_Pt D ca b z s i lv h bc bs C0 S0 H locs ls cells slots := hp
    have hsz : H.size = z + h.length := rx_size hz hp hT X
    have hm := rx_look hci
    have hlt : ci < 10 := of_decide_eq_true (List.all_eq_true.mp rx_nlall _ hm)
    obtain ⟨C, T9, N, ty, hcl, hC, hin2, hpd, hnm, hinst, hlen, hdf, -⟩ := rx_cf ci hlt
    have hcw := hts _ (rx_nlws _ hm)
    have hini := hts _ (rx_ow_w ci (by omega))
    unfold rx_nwd at hcw
    rw [← hC] at hcw hini
    have hKn : u_Kn s C T9 N (D.1 ci) (D.2 ci) := hCx.1.1 ci _ hcl
    have hfc : s.vm.findClass C = some (D.1 ci) := hKn.2.1
    obtain ⟨h1, hP, hS, h4, h5, h6⟩ := hp
    have hdl : ∀ v ∈ rx_df.getD ci [], rx_v b z v = v := rx_df_plain ci hlt b z
    generalize rx_df.getD ci [] = df at *
    rw [hlen] at hbud
    have hc9 : cells + 1 ≤ R.cells := by omega
    have hs9 : slots + N ≤ R.slots := by omega
    have key : W p l e R s m args below meth cod H locs cells slots Q (F0 m pc ls (st.map (rx_v b z))) := by
     refine W.newcK (g := F0 m pc ls (st.map (rx_v b z))) hx hb hown hcw (hts _ hinst) hini rfl hd hc9 hs9 hfc hsz (fun H1 kC hkC e1 z1 o1 => ?_)
     have hres : rx_Pt D ca b z s i lv (h ++ [.inr (ci, df)]) (bc - 1) (bs - df.length) C0 S0 H1 locs ls (cells + 1) (slots + N) := by
      refine ⟨?_, ?_, ?_, h4, by omega, by rw [hlen]; omega⟩
      · rw [List.length_append]
        simp only [List.length_singleton]
        omega
      · have hk9 : ∀ (k : Nat) (x : Nat × va_E), (rx_w b z ca h)[k]? = some x → H1[x.1]? = H[x.1]? := fun k x hx9 => o1 x.1 (by rw [← hsz]; exact (hP k x hx9).lt)
        rw [rx_w_app]
        refine (hP.kept hk9).app (fun k x hx9 => ?_)
        have hz9 : k < 1 := (List.getElem?_eq_some_iff.mp hx9).1
        rw [show k = 0 by omega] at hx9
        cases hx9
        refine ⟨_, hcl, ?_⟩
        have hbn := u_born ty hts hin2 hKn hkC e1 hpd
        refine hbn.to (fun j hj => ?_)
        rw [hdf j hj, List.map_congr_left hdl, List.map_id']
      · exact ⟨Nat.le_trans hS.1 (by omega), fun x h9 h10 => (o1 x (by have := hS.1; omega)).trans (hS.2.1 x h9 h10), hS.2.2⟩
     exact k H1 locs ls (cells + 1) (slots + N) hres
    exact key T hT X
  · cases hs
theorem rx_n_newarray {at_ : ArrayType} (E : rx_En D ca b z sc i p s m args meth cod R C0 S0) (hd : decode (rx_cd i) pc = .ok (.newarray at_, 2)) (hs : rx_ins sc (.newarray at_) i pc lv st h bc bs = some (.inl c2)) (k : rx_Go D ca b z p l e R s m args below meth cod C0 S0 Q c2) : rx_Go D ca b z p l e R s m args below meth cod C0 S0 Q (i, pc, lv, st, h, bc, bs) := by
  obtain ⟨hx, hb, hml, hr, hlk, hown, hts, hin, hCx, hz, hf, hlo, hc0, hs0⟩ := E
  obtain ⟨t, ht, hs9⟩ := Option.bind_eq_some_iff.mp hs
  clear hs; have hs := hs9; clear hs9
  obtain ⟨q, hq, hs9⟩ := Option.bind_eq_some_iff.mp hs
  clear hs; have hs := hs9; clear hs9
  obtain rfl := rx_p1_eq hq
  split at hs
  · rename_i hbud
    cases hs
    intro H locs ls cells slots hp T hT X
    have hp : rx_Pt D ca b z s i lv h bc bs C0 S0 H locs ls cells slots := hp
    have hsz : H.size = z + h.length := rx_size hz hp hT X
    obtain ⟨h1, hP, hS, h4, h5, h6⟩ := hp
    have hn0 : ¬ q.1 < 0 := by
      rw [Int32.lt_iff_toInt_lt]
      have := hbud.1
      simp only [Int32.toInt_zero]
      omega
    have hle : q.1.toNatClampNeg ≤ 10000 := by
      have h9 := hbud.2.1
      show q.1.toInt.toNat ≤ 10000
      omega
    obtain ⟨ty, hty, htt, hdv, hac, hcb, hra⟩ : ∃ ty, newarray.typeOf at_ = ty ∧ (rx_tys ca)[t]? = some (ca t, ty) ∧ defaultValue ty = .int 0 ∧ Cond.arrayClass ty ∈ rx_ws ∧ componentBytes ty ≤ 4 ∧ (va_RA s (ca t) ty → s.vm.findClass ("[" ++ ty.toString) = some (ca t)) := by
      cases at_ <;> first | (cases ht; done) | skip
      · cases ht; exact ⟨_, rfl, rfl, rfl, rx_acZ, by decide, fun h => h⟩
      · cases ht; exact ⟨_, rfl, rfl, rfl, rx_acI, by decide, fun h => h⟩
    have hra := hra (hCx.1.2 t _ htt).2
    subst hty
    have hby : q.1.toNatClampNeg * componentBytes (newarray.typeOf at_) ≤ 536870912 := Nat.le_trans (Nat.mul_le_mul hle hcb) (by decide)
    have hc9 : cells + 1 ≤ R.cells := by omega
    have hs9 : slots + q.1.toNatClampNeg ≤ R.slots := by omega
    have key : W p l e R s m args below meth cod H locs cells slots Q (F0 m pc ls (.int q.1 :: q.2.map (rx_v b z))) := by
     refine va_newaK (g := F0 m pc ls (.int q.1 :: q.2.map (rx_v b z))) hx hb (hts _ hac) rfl hd rfl hn0 rfl hby hc9 hs9 hsz (fun H1 cA e1 z1 o1 hAr hNm => ?_)
     have hcA : cA = ca t := Option.some.inj (hNm.symm.trans hra)
     subst hcA
     have hres : rx_Pt D ca b z s i lv (h ++ [.inl (t, q.1.toNatClampNeg, .inl (fun _ => 0))]) (bc - 1) (bs - q.1.toNatClampNeg) C0 S0 H1 locs ls (cells + 1) (slots + q.1.toNatClampNeg) := by
      refine ⟨?_, ?_, ?_, h4, by omega, by omega⟩
      · rw [List.length_append]
        simp only [List.length_singleton]
        omega
      · have hk9 : ∀ (k : Nat) (x : Nat × va_E), (rx_w b z ca h)[k]? = some x → H1[x.1]? = H[x.1]? := fun k x hx9 => o1 x.1 (by rw [← hsz]; exact (hP k x hx9).lt)
        rw [rx_w_app]
        refine (hP.kept hk9).app (fun k x hx9 => ?_)
        have hz9 : k < 1 := (List.getElem?_eq_some_iff.mp hx9).1
        rw [show k = 0 by omega] at hx9
        cases hx9
        show H1[z + h.length]? = some (vp_cell _ _)
        rw [e1, hdv]
        rfl
      · exact ⟨Nat.le_trans hS.1 (by omega), fun x h9 h10 => (o1 x (by have := hS.1; omega)).trans (hS.2.1 x h9 h10), hS.2.2⟩
     exact k H1 locs ls (cells + 1) (slots + q.1.toNatClampNeg) hres
    exact key T hT X
  · cases hs
end RXH
