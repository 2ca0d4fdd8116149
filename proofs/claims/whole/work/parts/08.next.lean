/-! each instruction of the machine of positions is the machine's -/
section RXN
variable {D : va_G} {ca : Nat → ClassId} {b z : Nat} {sc : rx_S} {i pc : Nat} {p : Program} {l : Launch} {e : Env} {R : Room} {s : State} {m : MethodId} {args : Array Value} {below : List Frame} {meth : Method} {cod : Code} {C0 S0 : Nat} {Q : State → Prop} {lv : rx_L} {st : List Value} {h : rx_H} {bc bs : Nat} {c2 : rx_C}
theorem rx_n_iconst {n : Int} (E : rx_En D ca b z sc i p s m args meth cod R C0 S0) (hd : decode (rx_cd i) pc = .ok (.iconst n, 1)) (hs : rx_ins sc (.iconst n) i pc lv st h bc bs = some (.inl c2)) (k : rx_Go D ca b z p l e R s m args below meth cod C0 S0 Q c2) : rx_Go D ca b z p l e R s m args below meth cod C0 S0 Q (i, pc, lv, st, h, bc, bs) := by
  obtain ⟨hx, hb, hml, hr, hlk, hown, hts, hin, hCx, hz, hf, hlo, hc0, hs0⟩ := E
  cases hs
  intro H locs ls cells slots hp
  exact lv_iconst hx hb hd rfl (k H locs ls cells slots hp)
theorem rx_n_bipush {n : Int} (E : rx_En D ca b z sc i p s m args meth cod R C0 S0) (hd : decode (rx_cd i) pc = .ok (.bipush n, 2)) (hs : rx_ins sc (.bipush n) i pc lv st h bc bs = some (.inl c2)) (k : rx_Go D ca b z p l e R s m args below meth cod C0 S0 Q c2) : rx_Go D ca b z p l e R s m args below meth cod C0 S0 Q (i, pc, lv, st, h, bc, bs) := by
  obtain ⟨hx, hb, hml, hr, hlk, hown, hts, hin, hCx, hz, hf, hlo, hc0, hs0⟩ := E
  cases hs
  intro H locs ls cells slots hp
  exact lv_bipush hx hb hd rfl (k H locs ls cells slots hp)
theorem rx_n_sipush {n : Int} (E : rx_En D ca b z sc i p s m args meth cod R C0 S0) (hd : decode (rx_cd i) pc = .ok (.sipush n, 3)) (hs : rx_ins sc (.sipush n) i pc lv st h bc bs = some (.inl c2)) (k : rx_Go D ca b z p l e R s m args below meth cod C0 S0 Q c2) : rx_Go D ca b z p l e R s m args below meth cod C0 S0 Q (i, pc, lv, st, h, bc, bs) := by
  obtain ⟨hx, hb, hml, hr, hlk, hown, hts, hin, hCx, hz, hf, hlo, hc0, hs0⟩ := E
  cases hs
  intro H locs ls cells slots hp
  exact lv_sipush hx hb hd rfl (k H locs ls cells slots hp)
theorem rx_n_ldc {idx : Nat} (E : rx_En D ca b z sc i p s m args meth cod R C0 S0) (hd : decode (rx_cd i) pc = .ok (.ldc idx, 2)) (hs : rx_ins sc (.ldc idx) i pc lv st h bc bs = some (.inl c2)) (k : rx_Go D ca b z p l e R s m args below meth cod C0 S0 Q c2) : rx_Go D ca b z p l e R s m args below meth cod C0 S0 Q (i, pc, lv, st, h, bc, bs) := by
  obtain ⟨hx, hb, hml, hr, hlk, hown, hts, hin, hCx, hz, hf, hlo, hc0, hs0⟩ := E
  obtain ⟨v, hv, hs⟩ := Option.bind_eq_some_iff.mp hs
  cases hs
  intro H locs ls cells slots hp
  exact lv_ldc hx hb hown (hts _ (rx_kws _ (rx_look hv))) hd (k H locs ls cells slots hp)
theorem rx_n_ldc2_w {idx : Nat} (E : rx_En D ca b z sc i p s m args meth cod R C0 S0) (hd : decode (rx_cd i) pc = .ok (.ldc2_w idx, 3)) (hs : rx_ins sc (.ldc2_w idx) i pc lv st h bc bs = some (.inl c2)) (k : rx_Go D ca b z p l e R s m args below meth cod C0 S0 Q c2) : rx_Go D ca b z p l e R s m args below meth cod C0 S0 Q (i, pc, lv, st, h, bc, bs) := by
  obtain ⟨hx, hb, hml, hr, hlk, hown, hts, hin, hCx, hz, hf, hlo, hc0, hs0⟩ := E
  obtain ⟨v, hv, hs⟩ := Option.bind_eq_some_iff.mp hs
  cases hs
  intro H locs ls cells slots hp
  exact lv_ldc2 hx hb hown (hts _ (rx_k2ws _ (rx_look hv))) hd (k H locs ls cells slots hp)
theorem rx_n_iload_n {n : Fin 4} (E : rx_En D ca b z sc i p s m args meth cod R C0 S0) (hd : decode (rx_cd i) pc = .ok (.iload_n n, 1)) (hs : rx_ins sc (.iload_n n) i pc lv st h bc bs = some (.inl c2)) (k : rx_Go D ca b z p l e R s m args below meth cod C0 S0 Q c2) : rx_Go D ca b z p l e R s m args below meth cod C0 S0 Q (i, pc, lv, st, h, bc, bs) := by
  obtain ⟨hx, hb, hml, hr, hlk, hown, hts, hin, hCx, hz, hf, hlo, hc0, hs0⟩ := E
  have hs : (match lv[(n : Nat)]? with
    | some (some (.int x)) => rx_nx i (pc + 1) lv (.int x :: st) h bc bs
    | _ => none) = some (.inl c2) := hs
  split at hs
  · rename_i x hl
    cases hs
    intro H locs ls cells slots hp
    exact lv_iload_n hx hb hd rfl (hp.2.2.2.1.2.2 _ _ hl).2 (k H locs ls cells slots hp)
  · cases hs
theorem rx_n_iload {n : Nat} (E : rx_En D ca b z sc i p s m args meth cod R C0 S0) (hd : decode (rx_cd i) pc = .ok (.iload n, 2)) (hs : rx_ins sc (.iload n) i pc lv st h bc bs = some (.inl c2)) (k : rx_Go D ca b z p l e R s m args below meth cod C0 S0 Q c2) : rx_Go D ca b z p l e R s m args below meth cod C0 S0 Q (i, pc, lv, st, h, bc, bs) := by
  obtain ⟨hx, hb, hml, hr, hlk, hown, hts, hin, hCx, hz, hf, hlo, hc0, hs0⟩ := E
  have hs : (match lv[n]? with
    | some (some (.int x)) => rx_nx i (pc + 2) lv (.int x :: st) h bc bs
    | _ => none) = some (.inl c2) := hs
  split at hs
  · rename_i x hl
    cases hs
    intro H locs ls cells slots hp
    exact lv_iload hx hb hd (hp.2.2.2.1.2.2 _ _ hl).2 (k H locs ls cells slots hp)
  · cases hs
theorem rx_n_aload_n {n : Fin 4} (E : rx_En D ca b z sc i p s m args meth cod R C0 S0) (hd : decode (rx_cd i) pc = .ok (.aload_n n, 1)) (hs : rx_ins sc (.aload_n n) i pc lv st h bc bs = some (.inl c2)) (k : rx_Go D ca b z p l e R s m args below meth cod C0 S0 Q c2) : rx_Go D ca b z p l e R s m args below meth cod C0 S0 Q (i, pc, lv, st, h, bc, bs) := by
  obtain ⟨hx, hb, hml, hr, hlk, hown, hts, hin, hCx, hz, hf, hlo, hc0, hs0⟩ := E
  have hs : (match lv[(n : Nat)]? with
    | some (some v) => if rx_isr v = true then rx_nx i (pc + 1) lv (v :: st) h bc bs else none
    | _ => none) = some (.inl c2) := hs
  split at hs
  · rename_i v hl
    split at hs
    · rename_i hv
      cases hs
      intro H locs ls cells slots hp
      have hg := (hp.2.2.2.1.2.2 _ _ hl).2
      have kk := k H locs ls cells slots hp
      cases v with
      | ref q => exact lv_aload_n hx hb hd rfl hg kk
      | retAddr q => exact lv_aload_n hx hb hd rfl hg kk
      | _ => cases hv
    · cases hs
  · cases hs
theorem rx_n_aload {n : Nat} (E : rx_En D ca b z sc i p s m args meth cod R C0 S0) (hd : decode (rx_cd i) pc = .ok (.aload n, 2)) (hs : rx_ins sc (.aload n) i pc lv st h bc bs = some (.inl c2)) (k : rx_Go D ca b z p l e R s m args below meth cod C0 S0 Q c2) : rx_Go D ca b z p l e R s m args below meth cod C0 S0 Q (i, pc, lv, st, h, bc, bs) := by
  obtain ⟨hx, hb, hml, hr, hlk, hown, hts, hin, hCx, hz, hf, hlo, hc0, hs0⟩ := E
  have hs : (match lv[n]? with
    | some (some v) => if rx_isr v = true then rx_nx i (pc + 2) lv (v :: st) h bc bs else none
    | _ => none) = some (.inl c2) := hs
  split at hs
  · rename_i v hl
    split at hs
    · rename_i hv
      cases hs
      intro H locs ls cells slots hp
      have hg := (hp.2.2.2.1.2.2 _ _ hl).2
      have kk := k H locs ls cells slots hp
      cases v with
      | ref q => exact lv_aload hx hb hd hg kk
      | retAddr q => exact lv_aload hx hb hd hg kk
      | _ => cases hv
    · cases hs
  · cases hs
theorem rx_n_istore_n {n : Fin 4} (E : rx_En D ca b z sc i p s m args meth cod R C0 S0) (hd : decode (rx_cd i) pc = .ok (.istore_n n, 1)) (hs : rx_ins sc (.istore_n n) i pc lv st h bc bs = some (.inl c2)) (k : rx_Go D ca b z p l e R s m args below meth cod C0 S0 Q c2) : rx_Go D ca b z p l e R s m args below meth cod C0 S0 Q (i, pc, lv, st, h, bc, bs) := by
  obtain ⟨hx, hb, hml, hr, hlk, hown, hts, hin, hCx, hz, hf, hlo, hc0, hs0⟩ := E
  obtain ⟨q, hq, hs9⟩ := Option.bind_eq_some_iff.mp hs
  clear hs
  have hs := hs9; clear hs9
  obtain rfl := rx_p1_eq hq
  split at hs
  · rename_i hn
    cases hs
    intro H locs ls cells slots hp
    obtain ⟨h1, h2, h3, h4, h5⟩ := hp
    exact lv_istore_n hx hb hd rfl h4.lv hn rfl (fun ls' h' => k H locs ls' cells slots ⟨h1, h2, h3, h4.put (v := .int q.1) rfl h', h5⟩)
  · cases hs
theorem rx_n_istore {n : Nat} (E : rx_En D ca b z sc i p s m args meth cod R C0 S0) (hd : decode (rx_cd i) pc = .ok (.istore n, 2)) (hs : rx_ins sc (.istore n) i pc lv st h bc bs = some (.inl c2)) (k : rx_Go D ca b z p l e R s m args below meth cod C0 S0 Q c2) : rx_Go D ca b z p l e R s m args below meth cod C0 S0 Q (i, pc, lv, st, h, bc, bs) := by
  obtain ⟨hx, hb, hml, hr, hlk, hown, hts, hin, hCx, hz, hf, hlo, hc0, hs0⟩ := E
  obtain ⟨q, hq, hs9⟩ := Option.bind_eq_some_iff.mp hs
  clear hs
  have hs := hs9; clear hs9
  obtain rfl := rx_p1_eq hq
  split at hs
  · rename_i hn
    cases hs
    intro H locs ls cells slots hp
    obtain ⟨h1, h2, h3, h4, h5⟩ := hp
    exact lv_istore hx hb hd h4.lv hn rfl (fun ls' h' => k H locs ls' cells slots ⟨h1, h2, h3, h4.put (v := .int q.1) rfl h', h5⟩)
  · cases hs
theorem rx_n_astore_n {n : Fin 4} (E : rx_En D ca b z sc i p s m args meth cod R C0 S0) (hd : decode (rx_cd i) pc = .ok (.astore_n n, 1)) (hs : rx_ins sc (.astore_n n) i pc lv st h bc bs = some (.inl c2)) (k : rx_Go D ca b z p l e R s m args below meth cod C0 S0 Q c2) : rx_Go D ca b z p l e R s m args below meth cod C0 S0 Q (i, pc, lv, st, h, bc, bs) := by
  obtain ⟨hx, hb, hml, hr, hlk, hown, hts, hin, hCx, hz, hf, hlo, hc0, hs0⟩ := E
  obtain ⟨q, hq, hs9⟩ := Option.bind_eq_some_iff.mp hs
  clear hs
  have hs := hs9; clear hs9
  obtain rfl := rx_pr_eq hq
  split at hs
  · rename_i hn
    cases hs
    intro H locs ls cells slots hp
    obtain ⟨h1, h2, h3, h4, h5⟩ := hp
    exact lv_astore_n hx hb hd rfl h4.lv hn rfl (fun ls' h' => k H locs ls' cells slots ⟨h1, h2, h3, h4.put (v := .ref q.1) rfl h', h5⟩)
  · cases hs
theorem rx_n_astore {n : Nat} (E : rx_En D ca b z sc i p s m args meth cod R C0 S0) (hd : decode (rx_cd i) pc = .ok (.astore n, 2)) (hs : rx_ins sc (.astore n) i pc lv st h bc bs = some (.inl c2)) (k : rx_Go D ca b z p l e R s m args below meth cod C0 S0 Q c2) : rx_Go D ca b z p l e R s m args below meth cod C0 S0 Q (i, pc, lv, st, h, bc, bs) := by
  obtain ⟨hx, hb, hml, hr, hlk, hown, hts, hin, hCx, hz, hf, hlo, hc0, hs0⟩ := E
  obtain ⟨q, hq, hs9⟩ := Option.bind_eq_some_iff.mp hs
  clear hs
  have hs := hs9; clear hs9
  obtain rfl := rx_pr_eq hq
  split at hs
  · rename_i hn
    cases hs
    intro H locs ls cells slots hp
    obtain ⟨h1, h2, h3, h4, h5⟩ := hp
    exact lv_astore hx hb hd h4.lv hn rfl (fun ls' h' => k H locs ls' cells slots ⟨h1, h2, h3, h4.put (v := .ref q.1) rfl h', h5⟩)
  · cases hs
theorem rx_n_iinc {n : Nat} {d : Int} (E : rx_En D ca b z sc i p s m args meth cod R C0 S0) (hd : decode (rx_cd i) pc = .ok (.iinc n d, 3)) (hs : rx_ins sc (.iinc n d) i pc lv st h bc bs = some (.inl c2)) (k : rx_Go D ca b z p l e R s m args below meth cod C0 S0 Q c2) : rx_Go D ca b z p l e R s m args below meth cod C0 S0 Q (i, pc, lv, st, h, bc, bs) := by
  obtain ⟨hx, hb, hml, hr, hlk, hown, hts, hin, hCx, hz, hf, hlo, hc0, hs0⟩ := E
  have hs : (match lv[n]? with
    | some (some (.int x)) => if n < rx_ml i then rx_nx i (pc + 3) (lv.set n (some (.int (x + Int32.ofInt d)))) st h bc bs else none
    | _ => none) = some (.inl c2) := hs
  split at hs
  · rename_i x hl
    split at hs
    · rename_i hn
      cases hs
      intro H locs ls cells slots hp
      obtain ⟨h1, h2, h3, h4, h5⟩ := hp
      have hm : (n, Value.int x) ∈ rx_al b z lv := rx_al_in.mpr ⟨.int x, hl, rfl⟩
      obtain ⟨j, hj⟩ := List.getElem?_of_mem hm
      exact lv_iinc hx hb hd h4.lv hj rfl hn rfl (fun ls' h' => k H locs ls' cells slots ⟨h1, h2, h3, h4.put (v := .int (x + Int32.ofInt d)) rfl h', h5⟩)
    · cases hs
  · cases hs
theorem rx_n_iadd  (E : rx_En D ca b z sc i p s m args meth cod R C0 S0) (hd : decode (rx_cd i) pc = .ok (.iadd, 1)) (hs : rx_ins sc (.iadd) i pc lv st h bc bs = some (.inl c2)) (k : rx_Go D ca b z p l e R s m args below meth cod C0 S0 Q c2) : rx_Go D ca b z p l e R s m args below meth cod C0 S0 Q (i, pc, lv, st, h, bc, bs) := by
  obtain ⟨hx, hb, hml, hr, hlk, hown, hts, hin, hCx, hz, hf, hlo, hc0, hs0⟩ := E
  obtain ⟨q, hq, hs9⟩ := Option.bind_eq_some_iff.mp hs
  clear hs
  have hs := hs9; clear hs9
  obtain rfl := rx_p2_eq hq
  cases hs
  intro H locs ls cells slots hp
  exact lv_iadd hx hb hd (k H locs ls cells slots hp)
theorem rx_n_isub  (E : rx_En D ca b z sc i p s m args meth cod R C0 S0) (hd : decode (rx_cd i) pc = .ok (.isub, 1)) (hs : rx_ins sc (.isub) i pc lv st h bc bs = some (.inl c2)) (k : rx_Go D ca b z p l e R s m args below meth cod C0 S0 Q c2) : rx_Go D ca b z p l e R s m args below meth cod C0 S0 Q (i, pc, lv, st, h, bc, bs) := by
  obtain ⟨hx, hb, hml, hr, hlk, hown, hts, hin, hCx, hz, hf, hlo, hc0, hs0⟩ := E
  obtain ⟨q, hq, hs9⟩ := Option.bind_eq_some_iff.mp hs
  clear hs
  have hs := hs9; clear hs9
  obtain rfl := rx_p2_eq hq
  cases hs
  intro H locs ls cells slots hp
  exact lv_isub hx hb hd (k H locs ls cells slots hp)
theorem rx_n_imul  (E : rx_En D ca b z sc i p s m args meth cod R C0 S0) (hd : decode (rx_cd i) pc = .ok (.imul, 1)) (hs : rx_ins sc (.imul) i pc lv st h bc bs = some (.inl c2)) (k : rx_Go D ca b z p l e R s m args below meth cod C0 S0 Q c2) : rx_Go D ca b z p l e R s m args below meth cod C0 S0 Q (i, pc, lv, st, h, bc, bs) := by
  obtain ⟨hx, hb, hml, hr, hlk, hown, hts, hin, hCx, hz, hf, hlo, hc0, hs0⟩ := E
  obtain ⟨q, hq, hs9⟩ := Option.bind_eq_some_iff.mp hs
  clear hs
  have hs := hs9; clear hs9
  obtain rfl := rx_p2_eq hq
  cases hs
  intro H locs ls cells slots hp
  exact lv_imul hx hb hd (k H locs ls cells slots hp)
theorem rx_n_iand  (E : rx_En D ca b z sc i p s m args meth cod R C0 S0) (hd : decode (rx_cd i) pc = .ok (.iand, 1)) (hs : rx_ins sc (.iand) i pc lv st h bc bs = some (.inl c2)) (k : rx_Go D ca b z p l e R s m args below meth cod C0 S0 Q c2) : rx_Go D ca b z p l e R s m args below meth cod C0 S0 Q (i, pc, lv, st, h, bc, bs) := by
  obtain ⟨hx, hb, hml, hr, hlk, hown, hts, hin, hCx, hz, hf, hlo, hc0, hs0⟩ := E
  obtain ⟨q, hq, hs9⟩ := Option.bind_eq_some_iff.mp hs
  clear hs
  have hs := hs9; clear hs9
  obtain rfl := rx_p2_eq hq
  cases hs
  intro H locs ls cells slots hp
  exact lv_iand hx hb hd (k H locs ls cells slots hp)
theorem rx_n_ior  (E : rx_En D ca b z sc i p s m args meth cod R C0 S0) (hd : decode (rx_cd i) pc = .ok (.ior, 1)) (hs : rx_ins sc (.ior) i pc lv st h bc bs = some (.inl c2)) (k : rx_Go D ca b z p l e R s m args below meth cod C0 S0 Q c2) : rx_Go D ca b z p l e R s m args below meth cod C0 S0 Q (i, pc, lv, st, h, bc, bs) := by
  obtain ⟨hx, hb, hml, hr, hlk, hown, hts, hin, hCx, hz, hf, hlo, hc0, hs0⟩ := E
  obtain ⟨q, hq, hs9⟩ := Option.bind_eq_some_iff.mp hs
  clear hs
  have hs := hs9; clear hs9
  obtain rfl := rx_p2_eq hq
  cases hs
  intro H locs ls cells slots hp
  exact lv_ior hx hb hd (k H locs ls cells slots hp)
theorem rx_n_ixor  (E : rx_En D ca b z sc i p s m args meth cod R C0 S0) (hd : decode (rx_cd i) pc = .ok (.ixor, 1)) (hs : rx_ins sc (.ixor) i pc lv st h bc bs = some (.inl c2)) (k : rx_Go D ca b z p l e R s m args below meth cod C0 S0 Q c2) : rx_Go D ca b z p l e R s m args below meth cod C0 S0 Q (i, pc, lv, st, h, bc, bs) := by
  obtain ⟨hx, hb, hml, hr, hlk, hown, hts, hin, hCx, hz, hf, hlo, hc0, hs0⟩ := E
  obtain ⟨q, hq, hs9⟩ := Option.bind_eq_some_iff.mp hs
  clear hs
  have hs := hs9; clear hs9
  obtain rfl := rx_p2_eq hq
  cases hs
  intro H locs ls cells slots hp
  exact lv_ixor hx hb hd (k H locs ls cells slots hp)
theorem rx_n_ishr  (E : rx_En D ca b z sc i p s m args meth cod R C0 S0) (hd : decode (rx_cd i) pc = .ok (.ishr, 1)) (hs : rx_ins sc (.ishr) i pc lv st h bc bs = some (.inl c2)) (k : rx_Go D ca b z p l e R s m args below meth cod C0 S0 Q c2) : rx_Go D ca b z p l e R s m args below meth cod C0 S0 Q (i, pc, lv, st, h, bc, bs) := by
  obtain ⟨hx, hb, hml, hr, hlk, hown, hts, hin, hCx, hz, hf, hlo, hc0, hs0⟩ := E
  obtain ⟨q, hq, hs9⟩ := Option.bind_eq_some_iff.mp hs
  clear hs
  have hs := hs9; clear hs9
  obtain rfl := rx_p2_eq hq
  cases hs
  intro H locs ls cells slots hp
  exact lv_ishr hx hb hd (k H locs ls cells slots hp)
theorem rx_n_irem  (E : rx_En D ca b z sc i p s m args meth cod R C0 S0) (hd : decode (rx_cd i) pc = .ok (.irem, 1)) (hs : rx_ins sc (.irem) i pc lv st h bc bs = some (.inl c2)) (k : rx_Go D ca b z p l e R s m args below meth cod C0 S0 Q c2) : rx_Go D ca b z p l e R s m args below meth cod C0 S0 Q (i, pc, lv, st, h, bc, bs) := by
  obtain ⟨hx, hb, hml, hr, hlk, hown, hts, hin, hCx, hz, hf, hlo, hc0, hs0⟩ := E
  obtain ⟨q, hq, hs9⟩ := Option.bind_eq_some_iff.mp hs
  clear hs
  have hs := hs9; clear hs9
  obtain rfl := rx_p2_eq hq
  split at hs
  · cases hs
  · rename_i hne
    cases hs
    intro H locs ls cells slots hp
    exact lv_irem hx hb hd hne (k H locs ls cells slots hp)
theorem rx_n_i2l  (E : rx_En D ca b z sc i p s m args meth cod R C0 S0) (hd : decode (rx_cd i) pc = .ok (.i2l, 1)) (hs : rx_ins sc (.i2l) i pc lv st h bc bs = some (.inl c2)) (k : rx_Go D ca b z p l e R s m args below meth cod C0 S0 Q c2) : rx_Go D ca b z p l e R s m args below meth cod C0 S0 Q (i, pc, lv, st, h, bc, bs) := by
  obtain ⟨hx, hb, hml, hr, hlk, hown, hts, hin, hCx, hz, hf, hlo, hc0, hs0⟩ := E
  obtain ⟨q, hq, hs9⟩ := Option.bind_eq_some_iff.mp hs
  clear hs
  have hs := hs9; clear hs9
  obtain rfl := rx_p1_eq hq
  cases hs
  intro H locs ls cells slots hp
  exact lv_i2l hx hb hd rfl (k H locs ls cells slots hp)
theorem rx_n_ladd  (E : rx_En D ca b z sc i p s m args meth cod R C0 S0) (hd : decode (rx_cd i) pc = .ok (.ladd, 1)) (hs : rx_ins sc (.ladd) i pc lv st h bc bs = some (.inl c2)) (k : rx_Go D ca b z p l e R s m args below meth cod C0 S0 Q c2) : rx_Go D ca b z p l e R s m args below meth cod C0 S0 Q (i, pc, lv, st, h, bc, bs) := by
  obtain ⟨hx, hb, hml, hr, hlk, hown, hts, hin, hCx, hz, hf, hlo, hc0, hs0⟩ := E
  obtain ⟨q, hq, hs9⟩ := Option.bind_eq_some_iff.mp hs
  clear hs
  have hs := hs9; clear hs9
  obtain rfl := rx_pl_eq hq
  cases hs
  intro H locs ls cells slots hp
  exact lv_ladd hx hb hd (k H locs ls cells slots hp)
theorem rx_n_lcmp  (E : rx_En D ca b z sc i p s m args meth cod R C0 S0) (hd : decode (rx_cd i) pc = .ok (.lcmp, 1)) (hs : rx_ins sc (.lcmp) i pc lv st h bc bs = some (.inl c2)) (k : rx_Go D ca b z p l e R s m args below meth cod C0 S0 Q c2) : rx_Go D ca b z p l e R s m args below meth cod C0 S0 Q (i, pc, lv, st, h, bc, bs) := by
  obtain ⟨hx, hb, hml, hr, hlk, hown, hts, hin, hCx, hz, hf, hlo, hc0, hs0⟩ := E
  obtain ⟨q, hq, hs9⟩ := Option.bind_eq_some_iff.mp hs
  clear hs
  have hs := hs9; clear hs9
  obtain rfl := rx_pl_eq hq
  cases hs
  intro H locs ls cells slots hp
  exact W.lcmp hx hb hd (k H locs ls cells slots hp)
theorem rx_n_dup  (E : rx_En D ca b z sc i p s m args meth cod R C0 S0) (hd : decode (rx_cd i) pc = .ok (.dup, 1)) (hs : rx_ins sc (.dup) i pc lv st h bc bs = some (.inl c2)) (k : rx_Go D ca b z p l e R s m args below meth cod C0 S0 Q c2) : rx_Go D ca b z p l e R s m args below meth cod C0 S0 Q (i, pc, lv, st, h, bc, bs) := by
  obtain ⟨hx, hb, hml, hr, hlk, hown, hts, hin, hCx, hz, hf, hlo, hc0, hs0⟩ := E
  obtain ⟨q, hq, hs9⟩ := Option.bind_eq_some_iff.mp hs
  clear hs
  have hs := hs9; clear hs9
  obtain ⟨rfl, hc⟩ := rx_pw_eq hq
  cases hs
  intro H locs ls cells slots hp
  exact lv_dup hx hb hd (by rw [rx_v_cat]; exact hc) (k H locs ls cells slots hp)
theorem rx_n_pop  (E : rx_En D ca b z sc i p s m args meth cod R C0 S0) (hd : decode (rx_cd i) pc = .ok (.pop, 1)) (hs : rx_ins sc (.pop) i pc lv st h bc bs = some (.inl c2)) (k : rx_Go D ca b z p l e R s m args below meth cod C0 S0 Q c2) : rx_Go D ca b z p l e R s m args below meth cod C0 S0 Q (i, pc, lv, st, h, bc, bs) := by
  obtain ⟨hx, hb, hml, hr, hlk, hown, hts, hin, hCx, hz, hf, hlo, hc0, hs0⟩ := E
  obtain ⟨q, hq, hs9⟩ := Option.bind_eq_some_iff.mp hs
  clear hs
  have hs := hs9; clear hs9
  obtain ⟨rfl, hc⟩ := rx_pw_eq hq
  cases hs
  intro H locs ls cells slots hp
  exact lv_pop hx hb hd (by rw [rx_v_cat]; exact hc) (k H locs ls cells slots hp)
theorem rx_n_dup2  (E : rx_En D ca b z sc i p s m args meth cod R C0 S0) (hd : decode (rx_cd i) pc = .ok (.dup2, 1)) (hs : rx_ins sc (.dup2) i pc lv st h bc bs = some (.inl c2)) (k : rx_Go D ca b z p l e R s m args below meth cod C0 S0 Q c2) : rx_Go D ca b z p l e R s m args below meth cod C0 S0 Q (i, pc, lv, st, h, bc, bs) := by
  obtain ⟨hx, hb, hml, hr, hlk, hown, hts, hin, hCx, hz, hf, hlo, hc0, hs0⟩ := E
  obtain ⟨q, hq, hs9⟩ := Option.bind_eq_some_iff.mp hs
  clear hs
  have hs := hs9; clear hs9
  obtain ⟨rfl, hc, hc2⟩ := rx_pw2_eq hq
  cases hs
  intro H locs ls cells slots hp
  exact lv_dup2_11 hx hb hd (by rw [rx_v_cat]; exact hc) (by rw [rx_v_cat]; exact hc2) (k H locs ls cells slots hp)
theorem rx_n_goto {off : Int} (E : rx_En D ca b z sc i p s m args meth cod R C0 S0) (hd : decode (rx_cd i) pc = .ok (.goto off, 3)) (hs : rx_ins sc (.goto off) i pc lv st h bc bs = some (.inl c2)) (k : rx_Go D ca b z p l e R s m args below meth cod C0 S0 Q c2) : rx_Go D ca b z p l e R s m args below meth cod C0 S0 Q (i, pc, lv, st, h, bc, bs) := by
  obtain ⟨hx, hb, hml, hr, hlk, hown, hts, hin, hCx, hz, hf, hlo, hc0, hs0⟩ := E
  obtain ⟨t, ht, hs9⟩ := Option.bind_eq_some_iff.mp hs
  clear hs
  have hs := hs9; clear hs9
  cases hs
  intro H locs ls cells slots hp
  exact lv_goto hx hb hd (rx_tgt_eq ht) (k H locs ls cells slots hp)
theorem rx_n_ifCond {c : Jvm.ClassFile.Cond} {off : Int} (E : rx_En D ca b z sc i p s m args meth cod R C0 S0) (hd : decode (rx_cd i) pc = .ok (.ifCond c off, 3)) (hs : rx_ins sc (.ifCond c off) i pc lv st h bc bs = some (.inl c2)) (k : rx_Go D ca b z p l e R s m args below meth cod C0 S0 Q c2) : rx_Go D ca b z p l e R s m args below meth cod C0 S0 Q (i, pc, lv, st, h, bc, bs) := by
  obtain ⟨hx, hb, hml, hr, hlk, hown, hts, hin, hCx, hz, hf, hlo, hc0, hs0⟩ := E
  obtain ⟨t, ht, hs9⟩ := Option.bind_eq_some_iff.mp hs
  clear hs
  have hs := hs9; clear hs9
  obtain ⟨q, hq, hs9⟩ := Option.bind_eq_some_iff.mp hs
  clear hs
  have hs := hs9; clear hs9
  obtain rfl := rx_p1_eq hq
  have ht := rx_tgt_eq ht
  split at hs
  · rename_i hc
    cases hs
    intro H locs ls cells slots hp
    have kk := k H locs ls cells slots hp
    cases c
    · exact lv_if_eq hx hb hd ht (fun _ => kk) (fun n => absurd (of_decide_eq_true hc) n)
    · exact lv_if_ne hx hb hd ht (fun _ => kk) (fun n => absurd n (of_decide_eq_true hc))
    · exact lv_if_lt hx hb hd ht (fun _ => kk) (fun n => absurd (of_decide_eq_true hc) n)
    · exact lv_if_ge hx hb hd ht (fun _ => kk) (fun n => absurd (of_decide_eq_true hc) n)
    · exact lv_if_gt hx hb hd ht (fun _ => kk) (fun n => absurd (of_decide_eq_true hc) n)
    · exact lv_if_le hx hb hd ht (fun _ => kk) (fun n => absurd (of_decide_eq_true hc) n)
  · rename_i hc
    cases hs
    intro H locs ls cells slots hp
    have kk := k H locs ls cells slots hp
    cases c
    · exact lv_if_eq hx hb hd ht (fun y => absurd (decide_eq_true y) hc) (fun _ => kk)
    · exact lv_if_ne hx hb hd ht (fun y => absurd (decide_eq_true y) hc) (fun _ => kk)
    · exact lv_if_lt hx hb hd ht (fun y => absurd (decide_eq_true y) hc) (fun _ => kk)
    · exact lv_if_ge hx hb hd ht (fun y => absurd (decide_eq_true y) hc) (fun _ => kk)
    · exact lv_if_gt hx hb hd ht (fun y => absurd (decide_eq_true y) hc) (fun _ => kk)
    · exact lv_if_le hx hb hd ht (fun y => absurd (decide_eq_true y) hc) (fun _ => kk)
theorem rx_n_if_icmp {c : Jvm.ClassFile.Cond} {off : Int} (E : rx_En D ca b z sc i p s m args meth cod R C0 S0) (hd : decode (rx_cd i) pc = .ok (.if_icmp c off, 3)) (hs : rx_ins sc (.if_icmp c off) i pc lv st h bc bs = some (.inl c2)) (k : rx_Go D ca b z p l e R s m args below meth cod C0 S0 Q c2) : rx_Go D ca b z p l e R s m args below meth cod C0 S0 Q (i, pc, lv, st, h, bc, bs) := by
  obtain ⟨hx, hb, hml, hr, hlk, hown, hts, hin, hCx, hz, hf, hlo, hc0, hs0⟩ := E
  obtain ⟨t, ht, hs9⟩ := Option.bind_eq_some_iff.mp hs
  clear hs
  have hs := hs9; clear hs9
  obtain ⟨q, hq, hs9⟩ := Option.bind_eq_some_iff.mp hs
  clear hs
  have hs := hs9; clear hs9
  obtain rfl := rx_p2_eq hq
  have ht := rx_tgt_eq ht
  split at hs
  · rename_i hc
    cases hs
    intro H locs ls cells slots hp
    have kk := k H locs ls cells slots hp
    cases c
    · exact lv_icmp_eq hx hb hd ht (fun _ => kk) (fun n => absurd (of_decide_eq_true hc) n)
    · exact lv_icmp_ne hx hb hd ht (fun _ => kk) (fun n => absurd n (of_decide_eq_true hc))
    · exact lv_icmp_lt hx hb hd ht (fun _ => kk) (fun n => absurd (of_decide_eq_true hc) n)
    · exact lv_icmp_ge hx hb hd ht (fun _ => kk) (fun n => absurd (of_decide_eq_true hc) n)
    · exact lv_icmp_gt hx hb hd ht (fun _ => kk) (fun n => absurd (of_decide_eq_true hc) n)
    · exact lv_icmp_le hx hb hd ht (fun _ => kk) (fun n => absurd (of_decide_eq_true hc) n)
  · rename_i hc
    cases hs
    intro H locs ls cells slots hp
    have kk := k H locs ls cells slots hp
    cases c
    · exact lv_icmp_eq hx hb hd ht (fun y => absurd (decide_eq_true y) hc) (fun _ => kk)
    · exact lv_icmp_ne hx hb hd ht (fun y => absurd (decide_eq_true y) hc) (fun _ => kk)
    · exact lv_icmp_lt hx hb hd ht (fun y => absurd (decide_eq_true y) hc) (fun _ => kk)
    · exact lv_icmp_ge hx hb hd ht (fun y => absurd (decide_eq_true y) hc) (fun _ => kk)
    · exact lv_icmp_gt hx hb hd ht (fun y => absurd (decide_eq_true y) hc) (fun _ => kk)
    · exact lv_icmp_le hx hb hd ht (fun y => absurd (decide_eq_true y) hc) (fun _ => kk)
theorem rx_n_tableswitch {d lo hi : Int} {offs : Array Int} {ln : Nat} (E : rx_En D ca b z sc i p s m args meth cod R C0 S0) (hd : decode (rx_cd i) pc = .ok (.tableswitch d lo hi offs, ln)) (hs : rx_ins sc (.tableswitch d lo hi offs) i pc lv st h bc bs = some (.inl c2)) (k : rx_Go D ca b z p l e R s m args below meth cod C0 S0 Q c2) : rx_Go D ca b z p l e R s m args below meth cod C0 S0 Q (i, pc, lv, st, h, bc, bs) := by
  obtain ⟨hx, hb, hml, hr, hlk, hown, hts, hin, hCx, hz, hf, hlo, hc0, hs0⟩ := E
  obtain ⟨q, hq, hs9⟩ := Option.bind_eq_some_iff.mp hs
  clear hs
  have hs := hs9; clear hs9
  obtain rfl := rx_p1_eq hq
  split at hs
  · rename_i hh
    obtain ⟨t, ht, hs9⟩ := Option.bind_eq_some_iff.mp hs
    clear hs
    have hs := hs9; clear hs9
    cases hs
    intro H locs ls cells slots hp
    have kk := k H locs ls cells slots hp
    have ht := rx_tgt_eq ht
    rcases rx_tsw_eq offs.toList lo d q.1.toInt with ⟨h1, h2⟩ | ⟨h1, h2, h3⟩
    · rw [h2] at ht
      exact lv_tableOut hx hb hd (by omega) ht kk
    · exact lv_tableIn hx hb hd (by omega) (by omega) (by rw [← Array.getElem?_toList]; exact h3) ht kk
  · cases hs
theorem rx_n_lookupswitch {d : Int} {ps : Array (Int × Int)} {ln : Nat} (E : rx_En D ca b z sc i p s m args meth cod R C0 S0) (hd : decode (rx_cd i) pc = .ok (.lookupswitch d ps, ln)) (hs : rx_ins sc (.lookupswitch d ps) i pc lv st h bc bs = some (.inl c2)) (k : rx_Go D ca b z p l e R s m args below meth cod C0 S0 Q c2) : rx_Go D ca b z p l e R s m args below meth cod C0 S0 Q (i, pc, lv, st, h, bc, bs) := by
  obtain ⟨hx, hb, hml, hr, hlk, hown, hts, hin, hCx, hz, hf, hlo, hc0, hs0⟩ := E
  obtain ⟨q, hq, hs9⟩ := Option.bind_eq_some_iff.mp hs
  clear hs
  have hs := hs9; clear hs9
  obtain rfl := rx_p1_eq hq
  split at hs
  · rename_i hh
    obtain ⟨t, ht, hs9⟩ := Option.bind_eq_some_iff.mp hs
    clear hs
    have hs := hs9; clear hs9
    cases hs
    intro H locs ls cells slots hp
    exact lv_lookup hx hb hd hh rfl (rx_tgt_eq ht) (k H locs ls cells slots hp)
  · cases hs
end RXN
