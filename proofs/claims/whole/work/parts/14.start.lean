theorem rx_ac_spec {ty : FieldType} {args : Array Value} {s : State} (h : (Cond.arrayClass ty).before args s = true) : ∃ (cA : ClassId) (kA : Class) (comp : ClassId), s.vm.findClass ("[" ++ ty.toString) = some cA ∧ s.vm.classes[cA]? = some kA ∧ kA.kind = .array comp ty := Cond.arrayClass_spec h
/-! THE CLAIM OUT OF ONE WALK OF THE LAW'S BODY. Your part is whole_start (and what it stands on); all else here is the same for every law, but numbers. -/
def R_law : String := "ZStreamsLaw"
def lw_P (b : Addr) (xs : List Int32) (args : Array Value) (s : State) : Prop := args = #[.ref b] ∧ s.IntsAt b xs ∧ xs.length ≤ 2561 ∧ (Jvm.Cond.and given_1 narrow_1).before args s = true
def lw_Q (_ : Array Value) (s : State) (o : Outcome) (t : State) : Prop := o = .returned (some (.int 1)) ∧ Framed s o t [] 600000 7302250
def lw_Z (below : List Frame) (a : Array Value) (s : State) : State → Prop := fun t => ∃ o, t.status = .running ∧ Ended t below o ∧ lw_Q a s o t
/-- the law's own end, with 1 on the stack, nothing written that was there before, its room as the claim has it -/
theorem lw_ret {p : Program} {l : Launch} {e : Env} {s : State} {m : MethodId} {below : List Frame} {meth : Method} {c : Code} {b : Nat} (hx : p.tables.exec = Jvm.exec) (hb : c.code = code) (hr : meth.sig.returnType = ret) (hlocks : meth.locks = false) {pc : Nat} {H : Heap} {ls : Array Slot} (hdg : decode code pc = .ok (.ireturn, 1)) : W p l e room_1 s m #[Value.ref b] below meth c H [] 600000 7302250 (lw_Z below #[Value.ref b] s) (F0 m pc ls [.int 1]) := by
  intro T hT X
  obtain ⟨fs, hret, hrun, hended, hW, hframe⟩ := X.leave (v := some (.int 1)) (hlocks := hlocks) (fun h => by rw [hr] at h; cases h)
  have hmeth' : T.vm.method? m = some meth := X.method'
  refine ⟨T.setFrames fs, ?_, .returned (some (.int 1)), hrun, hended, rfl, ⟨_, rfl⟩, hW, hframe⟩
  jvm_step X.here [X.here.top, hx, hb, hdg, hmeth', hr, ret, narrow_b1]
  (try refine ⟨rfl, ?_⟩); (try refine ⟨rfl, ?_⟩)
  first | (intro acts; rw [hret _ acts rfl rfl rfl]) | rw [hret _ _ rfl rfl rfl]
  exact Steps.refl _
/-- what holds at the law's entry: the machine, the code, the tables' words (any of lw_tbl by 'hts w (by decide +kernel)'), the script of L ints xs at the cell b, what the Statement gives of the start (any of its parts by flat_of_before) -/
def lw_At (p : Program) (s : State) (m : MethodId) (meth : Method) (c : Code) (b L : Nat) (xs : Nat → Int32) : Prop :=
  p.tables.exec = Jvm.exec ∧ c.code = code ∧ meth.sig.returnType = ret ∧ c.maxLocals = 4 ∧ s.vm.findClass R_law = some m.cls ∧ (∀ w ∈ lw_tbl, w.before #[Value.ref b] s = true) ∧ va_X b L xs s s.heap ∧ b < s.heap.size ∧ meth.locks = false ∧ (Jvm.Cond.and given_1 narrow_1).before #[Value.ref b] s = true
/-- the law's run on the machine of positions gives the law's walk -/
theorem rx_start (hlaw : ∀ sc : rx_S, sc.1 ≤ 2561 → ∃ (n : Nat) (h : rx_H), rx_run (rx_stp sc) n (147, 0, [some (.retAddr 0), none, none, none], [], [], 600000, 7302250) = some (some (.int 1), h)) {p : Program} {e : Env} {s : State} {m : MethodId} {below : List Frame} {meth : Method} {c : Code} (l : Launch) {b L : Nat} {xs : Nat → Int32} (hL : L ≤ 2561) (C0 : lw_At p s m meth c b L xs) : W p l e room_1 s m #[Value.ref b] below meth c s.heap [] 0 0 (lw_Z below #[Value.ref b] s) (entryFrame m ([Value.ref b] : List Value).toArray 4) := by
  obtain ⟨hx, hb, hr, hml, hown, hts0, hX, hbl, hlocks, hgv⟩ := id C0
  have hts : ∀ w ∈ rx_ws, w.before #[Value.ref b] s = true := fun w hw => hts0 w (List.mem_filter.mp hw).1
  obtain ⟨c0, iS0, hK0⟩ := u_known (C := RX0) (T := TX0) (N := 3) (n := 3) hts rx_cf0.2.2.1 (hts _ rx_cf0.2.2.2.2.2.1)
  obtain ⟨c1, iS1, hK1⟩ := u_known (C := RX1) (T := TX1) (N := 2) (n := 2) hts rx_cf1.2.2.1 (hts _ rx_cf1.2.2.2.2.2.1)
  obtain ⟨c2, iS2, hK2⟩ := u_known (C := RX2) (T := TX2) (N := 3) (n := 3) hts rx_cf2.2.2.1 (hts _ rx_cf2.2.2.2.2.2.1)
  obtain ⟨c3, iS3, hK3⟩ := u_known (C := RX3) (T := TX3) (N := 1) (n := 1) hts rx_cf3.2.2.1 (hts _ rx_cf3.2.2.2.2.2.1)
  obtain ⟨c4, iS4, hK4⟩ := u_known (C := RX4) (T := TX4) (N := 4) (n := 4) hts rx_cf4.2.2.1 (hts _ rx_cf4.2.2.2.2.2.1)
  obtain ⟨c5, iS5, hK5⟩ := u_known (C := RX5) (T := TX5) (N := 2) (n := 2) hts rx_cf5.2.2.1 (hts _ rx_cf5.2.2.2.2.2.1)
  obtain ⟨c6, iS6, hK6⟩ := u_known (C := RX6) (T := TX6) (N := 3) (n := 3) hts rx_cf6.2.2.1 (hts _ rx_cf6.2.2.2.2.2.1)
  obtain ⟨c7, iS7, hK7⟩ := u_known (C := RX7) (T := TX7) (N := 4) (n := 4) hts rx_cf7.2.2.1 (hts _ rx_cf7.2.2.2.2.2.1)
  obtain ⟨c8, iS8, hK8⟩ := u_known (C := RX8) (T := TX8) (N := 18) (n := 18) hts rx_cf8.2.2.1 (hts _ rx_cf8.2.2.2.2.2.1)
  obtain ⟨c9, iS9, hK9⟩ := u_known (C := RX9) (T := TX9) (N := 32) (n := 32) hts rx_cf9.2.2.1 (hts _ rx_cf9.2.2.2.2.2.1)
  obtain ⟨dC, dI, hKc⟩ : ∃ (dC : Nat → ClassId) (dI : Nat → Nat → Nat), ∀ (k : Nat) (q : vw_C), vwCl[k]? = some q → u_Kn s q.1 q.2.1 q.2.2 (dC k) (dI k) := by
    refine ⟨fun k => if k = 0 then c0 else if k = 1 then c1 else if k = 2 then c2 else if k = 3 then c3 else if k = 4 then c4 else if k = 5 then c5 else if k = 6 then c6 else if k = 7 then c7 else if k = 8 then c8 else c9, fun k => if k = 0 then iS0 else if k = 1 then iS1 else if k = 2 then iS2 else if k = 3 then iS3 else if k = 4 then iS4 else if k = 5 then iS5 else if k = 6 then iS6 else if k = 7 then iS7 else if k = 8 then iS8 else iS9, ?_⟩
    intro k q hq
    match k, hq with
    | 0, hq => cases hq; exact hK0
    | 1, hq => cases hq; exact hK1
    | 2, hq => cases hq; exact hK2
    | 3, hq => cases hq; exact hK3
    | 4, hq => cases hq; exact hK4
    | 5, hq => cases hq; exact hK5
    | 6, hq => cases hq; exact hK6
    | 7, hq => cases hq; exact hK7
    | 8, hq => cases hq; exact hK8
    | 9, hq => cases hq; exact hK9
    | k + 10, hq => simp [vwCl] at hq
  obtain ⟨cI, kI, pI, fI, gI, tI⟩ := rx_ac_spec (hts _ rx_acI)
  obtain ⟨cZ, kZ, pZ, fZ, gZ, tZ⟩ := rx_ac_spec (hts _ rx_acZ)
  have hao : (Cond.arrayOver (.array .int)).before #[] s = true := hts0 _ rx_ao_tb
  obtain ⟨compA, cA, kA, a1, a2, a3, a4, a5⟩ := arrayOverA_spec hao
  obtain ⟨ca, hca0, hca1, hca2⟩ : ∃ ca : Nat → ClassId, ca 0 = cI ∧ ca 1 = cZ ∧ ca 2 = cA := ⟨fun k => if k = 0 then cI else if k = 1 then cZ else cA, rfl, rfl, rfl⟩
  have hK : va_K (dC, dI) vwCl (rx_tys ca) s := by
    refine ⟨hKc, fun k q hq => ?_⟩
    match k, hq with
    | 0, hq => cases hq; rw [hca0]; exact ⟨fun n z => ⟨fun k h => (by cases h), kI, gI, pI, tI⟩, fI⟩
    | 1, hq => cases hq; rw [hca1]; exact ⟨fun n z => ⟨fun k h => (by cases h), kZ, gZ, pZ, tZ⟩, fZ⟩
    | 2, hq => cases hq; rw [hca2]; exact ⟨fun n z => ⟨fun k h => (by cases h), kA, a3, compA, a4⟩, a5⟩
    | k + 3, hq => simp [rx_tys] at hq
  have hN : rx_N s := ⟨fun w hw => by
    obtain ⟨q, hq⟩ := rx_nws_form w hw
    subst hq
    exact va_Nw.of rfl (hts0 _ (rx_nws_tb _ hw)), hao⟩
  have hCx : rx_Cx (dC, dI) ca b s.heap.size (L, xs) s := ⟨hK, hN, hX, hbl⟩
  have E : rx_En (dC, dI) ca b s.heap.size (L, xs) 147 p s m #[Value.ref b] meth c room_1 600000 7302250 := ⟨hx, hb, hml, hr, hlocks, hown, hts, (fun h => absurd h (by decide +kernel)), hCx, Nat.le_refl _, (by decide +kernel), (by decide +kernel), Nat.le_refl _, Nat.le_refl _⟩
  obtain ⟨n, h, hrun⟩ := hlaw (L, xs) hL
  have hRet : rx_Ret (dC, dI) ca b s.heap.size p l e room_1 s m #[Value.ref b] below meth c 600000 7302250 (lw_Z below #[Value.ref b] s) 147 (some (.int 1), h) := by
    intro pc H locs ls cells slots stk bc hde hst hbc hc hsl hcnt hP1 hS1
    have hst2 : stk = [.int 1] := by
      unfold rx_rets at hst
      split at hst
      · cases hst
      · rename_i x hrt; cases hrt
      · split at hst
        · cases hst; rfl
        · cases hst
      · cases hst
    subst hst2
    rcases hde with ⟨hd, -⟩ | ⟨-, hd⟩
    · refine va_forget (fun q hq => hS1.2.2 q hq) ?_
      refine W.widen (k := 600000) (n := 7302250) (by omega) hsl ?_
      exact lw_ret hx hb hr hlocks hd
    · cases hd
  have hgo := rx_sound n _ _ hrun p e s m #[Value.ref b] below meth c room_1 600000 7302250 (lw_Z below #[Value.ref b] s) E hRet
  rw [lg_entry_eq]
  have hl := rx_has_entry b s.heap.size (av := [.retAddr 0]) (n := 4) (fun v hv => by rw [List.mem_singleton.mp hv]; rfl) (by decide)
  exact hgo s.heap [] _ 0 0 ⟨rfl, fun k q h => by simp [rx_w] at h, va_S.rf, hl, rfl, Nat.le_refl _⟩
