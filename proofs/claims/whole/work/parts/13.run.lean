/-! EVERY RUN of the machine of positions is a run of the machine -/
section RXR
variable {D : va_G} {ca : Nat → ClassId} {b z : Nat} {sc : rx_S} {i pc : Nat} {p : Program} {l : Launch} {e : Env} {R : Room} {s : State} {m : MethodId} {args : Array Value} {below : List Frame} {meth : Method} {cod : Code} {C0 S0 : Nat} {Q : State → Prop} {lv : rx_L} {st : List Value} {h : rx_H} {bc bs : Nat} {c2 : rx_C}
theorem rx_cal_cases {kd0 : Nat → Bool} {idx : Nat} {o : rx_C ⊕ (rx_O ⊕ (rx_C × (rx_O → Option rx_C)))} (hs : rx_cal kd0 i pc lv st h bc bs idx = some o) : ∃ j kd, rx_mll.lookup (rx_ow i, idx) = some (j, kd) ∧ kd0 kd = true ∧
    ((kd = 4 ∧ ∃ q r, st = .ref q :: r ∧ 1 ≤ rx_fr i ∧ 20 ≤ rx_lo i ∧ (r.map fun v => v.category).sum ≤ 8 ∧ o = .inl (i, pc + 3, lv, r, h, bc, bs)) ∨
     (¬ kd = 4 ∧ ∃ As rest, rx_pop (rx_na j) st = some (As, rest) ∧ rx_chk i h j kd As rest bc bs = true ∧ o = .inr (.inr ((j, 0, As.map some ++ List.replicate (rx_ml j - rx_na j) none, [], h, rx_mc j, rx_ms j), fun r => some (i, pc + 3, lv, r.1.toList ++ rest, r.2, bc - rx_mc j, bs - rx_ms j))))) := by
  unfold rx_cal at hs
  split at hs
  · cases hs
  · rename_i j kd hm
    split at hs
    · rename_i hk
      refine ⟨j, kd, hm, hk, ?_⟩
      split at hs
      · rename_i h4
        refine Or.inl ⟨h4, ?_⟩
        split at hs
        · rename_i q r
          split at hs
          · rename_i hh
            exact ⟨q, r, rfl, hh.1, hh.2.1, hh.2.2, (Option.some.inj hs).symm⟩
          · cases hs
        · cases hs
      · rename_i h4
        refine Or.inr ⟨h4, ?_⟩
        split at hs
        · cases hs
        · rename_i As rest hpop
          split at hs
          · rename_i hck
            exact ⟨As, rest, hpop, hck, (Option.some.inj hs).symm⟩
          · cases hs
    · cases hs
theorem rx_next {ins : Instr} {ln : Nat} (E : rx_En D ca b z sc i p s m args meth cod R C0 S0) (hd : decode (rx_cd i) pc = .ok (ins, ln)) (hl : ln = rx_len ins ln) (hs : rx_ins sc ins i pc lv st h bc bs = some (.inl c2)) (k : rx_Go D ca b z p l e R s m args below meth cod C0 S0 Q c2) : rx_Go D ca b z p l e R s m args below meth cod C0 S0 Q (i, pc, lv, st, h, bc, bs) := by
  cases ins with
  | iconst n =>
    have hl : ln = 1 := hl
    subst hl
    exact rx_n_iconst E hd hs k
  | bipush n =>
    have hl : ln = 2 := hl
    subst hl
    exact rx_n_bipush E hd hs k
  | sipush n =>
    have hl : ln = 3 := hl
    subst hl
    exact rx_n_sipush E hd hs k
  | ldc n =>
    have hl : ln = 2 := hl
    subst hl
    exact rx_n_ldc E hd hs k
  | ldc2_w n =>
    have hl : ln = 3 := hl
    subst hl
    exact rx_n_ldc2_w E hd hs k
  | iload_n n =>
    have hl : ln = 1 := hl
    subst hl
    exact rx_n_iload_n E hd hs k
  | iload n =>
    have hl : ln = 2 := hl
    subst hl
    exact rx_n_iload E hd hs k
  | aload_n n =>
    have hl : ln = 1 := hl
    subst hl
    exact rx_n_aload_n E hd hs k
  | aload n =>
    have hl : ln = 2 := hl
    subst hl
    exact rx_n_aload E hd hs k
  | istore_n n =>
    have hl : ln = 1 := hl
    subst hl
    exact rx_n_istore_n E hd hs k
  | istore n =>
    have hl : ln = 2 := hl
    subst hl
    exact rx_n_istore E hd hs k
  | astore_n n =>
    have hl : ln = 1 := hl
    subst hl
    exact rx_n_astore_n E hd hs k
  | astore n =>
    have hl : ln = 2 := hl
    subst hl
    exact rx_n_astore E hd hs k
  | iinc n d =>
    have hl : ln = 3 := hl
    subst hl
    exact rx_n_iinc E hd hs k
  | iadd  =>
    have hl : ln = 1 := hl
    subst hl
    exact rx_n_iadd E hd hs k
  | isub  =>
    have hl : ln = 1 := hl
    subst hl
    exact rx_n_isub E hd hs k
  | imul  =>
    have hl : ln = 1 := hl
    subst hl
    exact rx_n_imul E hd hs k
  | iand  =>
    have hl : ln = 1 := hl
    subst hl
    exact rx_n_iand E hd hs k
  | ior  =>
    have hl : ln = 1 := hl
    subst hl
    exact rx_n_ior E hd hs k
  | ixor  =>
    have hl : ln = 1 := hl
    subst hl
    exact rx_n_ixor E hd hs k
  | ishr  =>
    have hl : ln = 1 := hl
    subst hl
    exact rx_n_ishr E hd hs k
  | irem  =>
    have hl : ln = 1 := hl
    subst hl
    exact rx_n_irem E hd hs k
  | i2l  =>
    have hl : ln = 1 := hl
    subst hl
    exact rx_n_i2l E hd hs k
  | ladd  =>
    have hl : ln = 1 := hl
    subst hl
    exact rx_n_ladd E hd hs k
  | lcmp  =>
    have hl : ln = 1 := hl
    subst hl
    exact rx_n_lcmp E hd hs k
  | dup  =>
    have hl : ln = 1 := hl
    subst hl
    exact rx_n_dup E hd hs k
  | pop  =>
    have hl : ln = 1 := hl
    subst hl
    exact rx_n_pop E hd hs k
  | dup2  =>
    have hl : ln = 1 := hl
    subst hl
    exact rx_n_dup2 E hd hs k
  | goto n =>
    have hl : ln = 3 := hl
    subst hl
    exact rx_n_goto E hd hs k
  | ifCond c n =>
    have hl : ln = 3 := hl
    subst hl
    exact rx_n_ifCond E hd hs k
  | if_icmp c n =>
    have hl : ln = 3 := hl
    subst hl
    exact rx_n_if_icmp E hd hs k
  | getfield n =>
    have hl : ln = 3 := hl
    subst hl
    exact rx_n_getfield E hd hs k
  | putfield n =>
    have hl : ln = 3 := hl
    subst hl
    exact rx_n_putfield E hd hs k
  | iaload  =>
    have hl : ln = 1 := hl
    subst hl
    exact rx_n_iaload E hd hs k
  | baload  =>
    have hl : ln = 1 := hl
    subst hl
    exact rx_n_baload E hd hs k
  | iastore  =>
    have hl : ln = 1 := hl
    subst hl
    exact rx_n_iastore E hd hs k
  | bastore  =>
    have hl : ln = 1 := hl
    subst hl
    exact rx_n_bastore E hd hs k
  | aaload  =>
    have hl : ln = 1 := hl
    subst hl
    exact rx_n_aaload E hd hs k
  | arraylength  =>
    have hl : ln = 1 := hl
    subst hl
    exact rx_n_arraylength E hd hs k
  | new n =>
    have hl : ln = 3 := hl
    subst hl
    exact rx_n_new E hd hs k
  | newarray n =>
    have hl : ln = 2 := hl
    subst hl
    exact rx_n_newarray E hd hs k
  | multianewarray n d =>
    have hl : ln = 4 := hl
    subst hl
    exact rx_n_mna E hd hs k
  | tableswitch d lo hi offs => exact rx_n_tableswitch E hd hs k
  | lookupswitch d ps => exact rx_n_lookupswitch E hd hs k
  | invokevirtual idx =>
    obtain ⟨j, kd, hm, hk, hc⟩ := rx_cal_cases hs
    rcases hc with ⟨h4, -⟩ | ⟨-, As, rest, -, -, ho⟩
    · rw [h4] at hk; cases hk
    · cases ho
  | invokestatic idx =>
    obtain ⟨j, kd, hm, hk, hc⟩ := rx_cal_cases hs
    rcases hc with ⟨h4, -⟩ | ⟨-, As, rest, -, -, ho⟩
    · rw [h4] at hk; cases hk
    · cases ho
  | invokespecial idx =>
    have hl : ln = 3 := hl
    subst hl
    obtain ⟨j, kd, hm, hk, hc⟩ := rx_cal_cases hs
    rcases hc with ⟨h4, q, r, rfl, hf1, hl1, hsum, ho⟩ | ⟨-, As, rest, -, -, ho⟩
    · cases ho
      obtain ⟨hx, hb, hml, hr, hlk, hown, hts, hin, hCx, hz, hf, hlo, hc0, hs0⟩ := E
      have hw := rx_mws _ (rx_look hm) (by show ¬ kd = 3; omega)
      unfold rx_mwd at hw
      dsimp only at hw
      rw [if_pos h4] at hw
      intro H locs ls cells slots hp
      have hsum2 : ((r.map (rx_v b z)).map fun v => v.category).sum ≤ 8 := by rw [rx_cat_sum]; exact hsum
      exact W.objInit (g := F0 m pc ls (.ref (z + q) :: r.map (rx_v b z))) hx hb hown (hts _ hw) (hts _ rx_ob1) (hts _ rx_ob2) rfl (by rw [hml]; exact hp.2.2.2.1.1) rfl hd (Nat.le_trans hf1 hf) (by show 2 * 0 + _ + 12 ≤ _; omega) (k H locs ls cells slots hp)
    · cases ho
  | ireturn =>
    obtain ⟨v, hv, hs9⟩ := Option.bind_eq_some_iff.mp hs
    split at hs9 <;> cases hs9
  | return_ =>
    obtain ⟨v, hv, hs9⟩ := Option.bind_eq_some_iff.mp hs
    split at hs9 <;> cases hs9
  | _ => cases hs
theorem rx_bindS {α : Type} {x : Option α} {f : α → rx_R} {o : rx_O ⊕ (rx_C × (rx_O → Option rx_C))} (h : x.bind f = some (.inr o)) : ∃ q, x = some q ∧ f q = some (.inr o) := Option.bind_eq_some_iff.mp h
/-- an instruction that doesn't go on is a return or a call -/
theorem rx_out {ins : Instr} {o : rx_O ⊕ (rx_C × (rx_O → Option rx_C))} (hs : rx_ins sc ins i pc lv st h bc bs = some (.inr o)) : (ins = .ireturn ∨ ins = .return_) ∨ ∃ idx, ins = .invokevirtual idx ∨ ins = .invokestatic idx ∨ ins = .invokespecial idx := by
  cases ins with
  | ireturn => exact Or.inl (Or.inl rfl)
  | return_ => exact Or.inl (Or.inr rfl)
  | invokevirtual idx => exact Or.inr ⟨idx, Or.inl rfl⟩
  | invokestatic idx => exact Or.inr ⟨idx, Or.inr (Or.inl rfl)⟩
  | invokespecial idx => exact Or.inr ⟨idx, Or.inr (Or.inr rfl)⟩
  | iconst n =>
    exfalso
    cases hs
  | bipush n =>
    exfalso
    cases hs
  | sipush n =>
    exfalso
    cases hs
  | ldc n =>
    exfalso
    obtain ⟨q, hq, hs⟩ := rx_bindS hs
    cases hs
  | ldc2_w n =>
    exfalso
    obtain ⟨q, hq, hs⟩ := rx_bindS hs
    cases hs
  | iadd  =>
    exfalso
    obtain ⟨q, hq, hs⟩ := rx_bindS hs
    cases hs
  | isub  =>
    exfalso
    obtain ⟨q, hq, hs⟩ := rx_bindS hs
    cases hs
  | imul  =>
    exfalso
    obtain ⟨q, hq, hs⟩ := rx_bindS hs
    cases hs
  | iand  =>
    exfalso
    obtain ⟨q, hq, hs⟩ := rx_bindS hs
    cases hs
  | ior  =>
    exfalso
    obtain ⟨q, hq, hs⟩ := rx_bindS hs
    cases hs
  | ixor  =>
    exfalso
    obtain ⟨q, hq, hs⟩ := rx_bindS hs
    cases hs
  | ishr  =>
    exfalso
    obtain ⟨q, hq, hs⟩ := rx_bindS hs
    cases hs
  | i2l  =>
    exfalso
    obtain ⟨q, hq, hs⟩ := rx_bindS hs
    cases hs
  | ladd  =>
    exfalso
    obtain ⟨q, hq, hs⟩ := rx_bindS hs
    cases hs
  | lcmp  =>
    exfalso
    obtain ⟨q, hq, hs⟩ := rx_bindS hs
    cases hs
  | dup  =>
    exfalso
    obtain ⟨q, hq, hs⟩ := rx_bindS hs
    cases hs
  | pop  =>
    exfalso
    obtain ⟨q, hq, hs⟩ := rx_bindS hs
    cases hs
  | dup2  =>
    exfalso
    obtain ⟨q, hq, hs⟩ := rx_bindS hs
    cases hs
  | goto n =>
    exfalso
    obtain ⟨q, hq, hs⟩ := rx_bindS hs
    cases hs
  | istore_n n =>
    exfalso
    obtain ⟨q, hq, hs⟩ := rx_bindS hs
    split at hs <;> cases hs
  | istore n =>
    exfalso
    obtain ⟨q, hq, hs⟩ := rx_bindS hs
    split at hs <;> cases hs
  | astore_n n =>
    exfalso
    obtain ⟨q, hq, hs⟩ := rx_bindS hs
    split at hs <;> cases hs
  | astore n =>
    exfalso
    obtain ⟨q, hq, hs⟩ := rx_bindS hs
    split at hs <;> cases hs
  | irem  =>
    exfalso
    obtain ⟨q, hq, hs⟩ := rx_bindS hs
    split at hs <;> cases hs
  | new n =>
    exfalso
    obtain ⟨q, hq, hs⟩ := rx_bindS hs
    split at hs <;> cases hs
  | iload_n n =>
    exfalso
    have hs : (match lv[(n : Nat)]? with
      | some (some (.int x)) => rx_nx i (pc + 1) lv (.int x :: st) h bc bs
      | _ => none) = some (.inr o) := hs
    split at hs <;> cases hs
  | iload n =>
    exfalso
    have hs : (match lv[n]? with
      | some (some (.int x)) => rx_nx i (pc + 2) lv (.int x :: st) h bc bs
      | _ => none) = some (.inr o) := hs
    split at hs <;> cases hs
  | aload_n n =>
    exfalso
    have hs : (match lv[(n : Nat)]? with
      | some (some v) => if rx_isr v = true then rx_nx i (pc + 1) lv (v :: st) h bc bs else none
      | _ => none) = some (.inr o) := hs
    split at hs
    · split at hs <;> cases hs
    · cases hs
  | aload n =>
    exfalso
    have hs : (match lv[n]? with
      | some (some v) => if rx_isr v = true then rx_nx i (pc + 2) lv (v :: st) h bc bs else none
      | _ => none) = some (.inr o) := hs
    split at hs
    · split at hs <;> cases hs
    · cases hs
  | iinc n d =>
    exfalso
    have hs : (match lv[n]? with
      | some (some (.int x)) => if n < rx_ml i then rx_nx i (pc + 3) (lv.set n (some (.int (x + Int32.ofInt d)))) st h bc bs else none
      | _ => none) = some (.inr o) := hs
    split at hs
    · split at hs <;> cases hs
    · cases hs
  | ifCond c n =>
    exfalso
    obtain ⟨q, hq, hs⟩ := rx_bindS hs
    obtain ⟨q2, hq2, hs⟩ := rx_bindS hs
    split at hs <;> cases hs
  | if_icmp c n =>
    exfalso
    obtain ⟨q, hq, hs⟩ := rx_bindS hs
    obtain ⟨q2, hq2, hs⟩ := rx_bindS hs
    split at hs <;> cases hs
  | tableswitch d lo hi offs =>
    exfalso
    obtain ⟨q, hq, hs⟩ := rx_bindS hs
    split at hs
    · obtain ⟨q2, hq2, hs⟩ := rx_bindS hs
      cases hs
    · cases hs
  | lookupswitch d ps =>
    exfalso
    obtain ⟨q, hq, hs⟩ := rx_bindS hs
    split at hs
    · obtain ⟨q2, hq2, hs⟩ := rx_bindS hs
      cases hs
    · cases hs
  | getfield n =>
    exfalso
    obtain ⟨q, hq, hs⟩ := rx_bindS hs
    obtain ⟨q2, hq2, hs⟩ := rx_bindS hs
    obtain ⟨q3, hq3, hs⟩ := rx_bindS hs
    cases hs
  | putfield n =>
    exfalso
    obtain ⟨q, hq, hs⟩ := rx_bindS hs
    obtain ⟨q2, hq2, hs⟩ := rx_bindS hs
    split at hs
    · obtain ⟨q3, hq3, hs⟩ := rx_bindS hs
      cases hs
    · cases hs
  | iaload  =>
    exfalso
    obtain ⟨q, hq, hs⟩ := rx_bindS hs
    split at hs
    · obtain ⟨q3, hq3, hs⟩ := rx_bindS hs
      cases hs
    · obtain ⟨q3, hq3, hs⟩ := rx_bindS hs
      cases hs
  | baload  =>
    exfalso
    obtain ⟨q, hq, hs⟩ := rx_bindS hs
    split at hs
    · obtain ⟨q3, hq3, hs⟩ := rx_bindS hs
      cases hs
    · cases hs
  | aaload  =>
    exfalso
    obtain ⟨q, hq, hs⟩ := rx_bindS hs
    split at hs
    · obtain ⟨q3, hq3, hs⟩ := rx_bindS hs
      cases hs
    · cases hs
  | iastore  =>
    exfalso
    obtain ⟨q, hq, hs⟩ := rx_bindS hs
    obtain ⟨q2, hq2, hs⟩ := rx_bindS hs
    cases hs
  | bastore  =>
    exfalso
    obtain ⟨q, hq, hs⟩ := rx_bindS hs
    obtain ⟨q2, hq2, hs⟩ := rx_bindS hs
    cases hs
  | arraylength  =>
    exfalso
    obtain ⟨q, hq, hs⟩ := rx_bindS hs
    split at hs
    · obtain ⟨q3, hq3, hs⟩ := rx_bindS hs
      cases hs
    · cases hs
  | newarray n =>
    exfalso
    obtain ⟨q, hq, hs⟩ := rx_bindS hs
    obtain ⟨q2, hq2, hs⟩ := rx_bindS hs
    split at hs <;> cases hs
  | multianewarray n d =>
    exfalso
    obtain ⟨q, hq, hs⟩ := rx_bindS hs
    split at hs <;> cases hs
  | _ => cases hs
end RXR
set_option maxHeartbeats 4000000 in
/-- THE SOUNDNESS: a run that answers r is a run of the machine that ends so -/
theorem rx_sound {l : Launch} {D : va_G} {ca : Nat → ClassId} {b z : Nat} {sc : rx_S} : ∀ (n : Nat) (c : rx_C) (r : rx_O), rx_run (rx_stp sc) n c = some r → ∀ (p : Program) (e : Env) (s : State) (m : MethodId) (args : Array Value) (below : List Frame) (meth : Method) (cod : Code) (R : Room) (C0 S0 : Nat) (Q : State → Prop), rx_En D ca b z sc c.1 p s m args meth cod R C0 S0 → rx_Ret D ca b z p l e R s m args below meth cod C0 S0 Q c.1 r → rx_Go D ca b z p l e R s m args below meth cod C0 S0 Q c := by
  intro n
  induction n with
  | zero => intro c r hrun; cases hrun
  | succ n ih =>
    intro c r hrun p e s m args below meth cod R C0 S0 Q E hRet
    obtain ⟨i, pc, lv, st, h, bc, bs⟩ := c
    unfold rx_run at hrun
    cases hst : rx_stp sc (i, pc, lv, st, h, bc, bs) with
    | none => rw [hst] at hrun; cases hrun
    | some o =>
      rw [hst] at hrun
      unfold rx_stp at hst
      dsimp only at hst
      split at hst
      · cases hst
      · rename_i q hdec
        obtain ⟨ins, ln⟩ := q
        split at hst
        · rename_i hl
          dsimp only at hl hst
          rcases o with c2 | r2 | ⟨cj, kf⟩
          · have hins : rx_ins sc ins i pc lv st h bc bs = some (.inl c2) ∧ c2.1 = i := by
              unfold rx_sel at hst
              split at hst
              · rename_i c3 h3
                split at hst
                · rename_i h4
                  cases hst
                  exact ⟨h3, h4⟩
                · cases hst
              · rename_i h3
                exact absurd hst (h3 c2)
            have k2 := ih c2 r hrun p e s m args below meth cod R C0 S0 Q (by rw [hins.2]; exact E) (by rw [hins.2]; exact hRet)
            exact rx_next E hdec hl hins.1 k2
          · have hins : rx_ins sc ins i pc lv st h bc bs = some (.inr (.inl r2)) := by
              unfold rx_sel at hst
              split at hst
              · split at hst <;> cases hst
              · exact hst
            cases hrun
            rcases rx_out hins with (rfl | rfl) | ⟨idx, rfl | rfl | rfl⟩
            · obtain ⟨v, hv, hs9⟩ := Option.bind_eq_some_iff.mp hins
              split at hs9
              · rename_i hvs
                cases hs9
                have hl : ln = 1 := hl
                subst hl
                intro H locs ls cells slots hp
                exact hRet pc H locs ls cells slots st bc (Or.inl ⟨hdec, hvs.1⟩) hv hvs.2 hp.2.2.2.2.1 (by have := hp.2.2.2.2.2; dsimp only at this; omega) hp.1 hp.2.1 hp.2.2.1
              · cases hs9
            · obtain ⟨v, hv, hs9⟩ := Option.bind_eq_some_iff.mp hins
              split at hs9
              · rename_i hvs
                cases hs9
                have hl : ln = 1 := hl
                subst hl
                intro H locs ls cells slots hp
                exact hRet pc H locs ls cells slots st bc (Or.inr ⟨hdec, hvs.1⟩) hv hvs.2 hp.2.2.2.2.1 (by have := hp.2.2.2.2.2; dsimp only at this; omega) hp.1 hp.2.1 hp.2.2.1
              · cases hs9
            all_goals
              obtain ⟨j, kd, hm, hk, hc⟩ := rx_cal_cases hins
              rcases hc with ⟨h4, q, r9, -, -, -, -, ho⟩ | ⟨-, As, rest, -, -, ho⟩ <;> cases ho
          · have hins : rx_ins sc ins i pc lv st h bc bs = some (.inr (.inr (cj, kf))) := by
              unfold rx_sel at hst
              split at hst
              · split at hst <;> cases hst
              · exact hst
            dsimp only at hrun
            cases hj9 : rx_run (rx_stp sc) n cj with
            | none => rw [hj9] at hrun; cases hrun
            | some rj =>
              rw [hj9] at hrun
              dsimp only at hrun
              cases hk9 : kf rj with
              | none => rw [hk9] at hrun; cases hrun
              | some c3 =>
                rw [hk9] at hrun
                have main : ∀ (idx : Nat) (kd0 : Nat → Bool), rx_cal kd0 i pc lv st h bc bs idx = some (.inr (.inr (cj, kf))) → (∀ kd, kd0 kd = true → ¬ kd = 4 → (kd = 0 ∧ ins = .invokevirtual idx) ∨ (kd = 1 ∧ ins = .invokestatic idx) ∨ ((kd = 2 ∨ kd = 3) ∧ ins = .invokespecial idx)) → ln = 3 → rx_Go D ca b z p l e R s m args below meth cod C0 S0 Q (i, pc, lv, st, h, bc, bs) := by
                  intro idx kd0 hcal hkd hln
                  subst hln
                  obtain ⟨j, kd, hm, hk, hc⟩ := rx_cal_cases hcal
                  rcases hc with ⟨h4, q, r9, -, -, -, -, ho⟩ | ⟨h4, As, rest, hpop, hck, ho⟩
                  · cases ho
                  · cases ho
                    cases hk9
                    have hj147 := (rx_mrow hm h4).1
                    have hM : Met l (rx_y j) (rx_cwd j :: rx_ws) (rx_rm j) (rx_Pc D ca b z sc As h) (rx_Qc D ca b z (rx_mc j) rj) (rx_mc j) (rx_ms j) (fun q => z ≤ q) := rx_met hj147 (rx_chk_eq hck).2.2.1 (rx_pop_eq hpop).2 (fun p2 e2 s2 m2 args2 below2 meth2 cod2 R2 C2 S2 Q2 E2 hR2 => ih _ rj hj9 p2 e2 s2 m2 args2 below2 meth2 cod2 R2 C2 S2 Q2 E2 hR2)
                    exact rx_callK E hdec hm h4 (hkd kd hk h4) hpop hck hM (ih _ r hrun p e s m args below meth cod R C0 S0 Q E hRet)
                rcases rx_out hins with (rfl | rfl) | ⟨idx, rfl | rfl | rfl⟩
                · obtain ⟨v, hv, hs9⟩ := Option.bind_eq_some_iff.mp hins
                  split at hs9 <;> cases hs9
                · obtain ⟨v, hv, hs9⟩ := Option.bind_eq_some_iff.mp hins
                  split at hs9 <;> cases hs9
                · exact main idx _ hins (fun kd hk _ => Or.inl ⟨by simpa using hk, rfl⟩) hl
                · exact main idx _ hins (fun kd hk _ => Or.inr (Or.inl ⟨by simpa using hk, rfl⟩)) hl
                · exact main idx _ hins (fun kd hk h4 => Or.inr (Or.inr ⟨by simp at hk; omega, rfl⟩)) hl
        · cases hst
