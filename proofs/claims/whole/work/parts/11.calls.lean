/-! calls and returns -/
theorem rx_ao_moved {u U : State} (hvm : u.vm.Alike U.vm) (h : (Cond.arrayOver (.array .int)).before #[] u = true) : (Cond.arrayOver (.array .int)).before #[] U = true := by
  obtain ⟨comp, c, k, h1, h2, h3, h4, h5⟩ := arrayOverA_spec h
  obtain ⟨k', hk', he⟩ := hvm.2.2 _ _ h3
  have hi : (U.vm.classes.findIdx? fun (x : Class) => match x.kind with | .array component _ => component == comp | _ => false) = some c := by
    rw [hvm.findIdx?_eq _ (fun _ => rfl)]
    exact h2
  have hkind : k'.kind = .array comp (.array .int) := by rw [he]; exact h4
  have f1 : U.vm.findClass (FieldType.array .int).toString = some comp := by rw [hvm.findClass]; exact h1
  have f2 : U.vm.findClass ("[" ++ (FieldType.array .int).toString) = some c := by rw [hvm.findClass]; exact h5
  unfold Cond.before Cond.holds
  simp only [Cond.value]
  rw [f1, Option.bind_some]
  refine (congrArg (fun o : Option Nat => (o.bind (fun c => (U.vm.classes[c]?).map fun (k : Class) => match k.kind with | .array _ ty => decide (ty = FieldType.array .int) && decide (U.vm.findClass ("[" ++ (FieldType.array .int).toString) = some c) | _ => false) == some true)) hi).trans ?_
  simp [hk', hkind, f2]
theorem rx_nws_form : ∀ w ∈ rx_nws, ∃ q : (Nat × Nat) × (Nat × Nat), w = .methodLinkNest (rx_on q.1.1) q.1.2 (rx_y q.2.1) "ZStreams" := by
  intro w hw
  obtain ⟨q, hq, rfl⟩ := List.mem_map.mp hw
  have h3 : q.2.2 = 3 := by simpa using (List.mem_filter.mp hq).2
  refine ⟨q, ?_⟩
  unfold rx_mwd
  rw [if_neg (by rw [h3]; decide), if_pos h3]
theorem rx_N_warm {s U : State} (hW : s.WarmedH U.vm) (h : rx_N s) : rx_N U := by
  refine ⟨fun w hw => ?_, rx_ao_moved hW.alike h.2⟩
  have h1 := h.1 w hw
  obtain ⟨q, rfl⟩ := rx_nws_form w hw
  exact va_Nw.warmM hW h1
theorem rx_Cx_warm {D : va_G} {ca : Nat → ClassId} {b z : Nat} {sc : rx_S} {s U : State} {H : Heap} {locs : List Loc} (hC : rx_Cx D ca b z sc s) (hz : z ≤ s.heap.size) (hS : va_S (fun q : Nat => z ≤ q) s.heap H locs) (hU : U.heap = H) (hW : s.WarmedH U.vm) : rx_Cx D ca b z sc U := by
  obtain ⟨h1, h2, h3, h4⟩ := hC
  refine ⟨va_K.moved hW.alike h1, rx_N_warm hW h2, ?_, h4⟩
  have h5 := h3.moved hW.alike
  refine h5.kept ?_
  rw [hU]
  exact hS.2.1 b (Nat.lt_of_lt_of_le h4 hz) (Nat.not_le.mpr h4)
def rx_Pc (D : va_G) (ca : Nat → ClassId) (b z : Nat) (sc : rx_S) (av : List Value) (h : rx_H) : Array Value → State → Prop := fun v U => v = (av.map (rx_v b z)).toArray ∧ rx_Cx D ca b z sc U ∧ U.heap.size = z + h.length ∧ va_P D vwCl (rx_w b z ca h) U.heap
def rx_Qc (D : va_G) (ca : Nat → ClassId) (b z mc : Nat) (r : rx_O) : Array Value → State → Outcome → State → Prop := fun _ st oc t => oc = .returned (r.1.map (rx_v b z)) ∧ st.heap.size + mc = z + r.2.length ∧ va_P D vwCl (rx_w b z ca r.2) t.heap ∧ va_F (fun q : Nat => z ≤ q) st t
theorem rx_blind {D : va_G} {ca : Nat → ClassId} {b z : Nat} {sc : rx_S} {av : List Value} {h : rx_H} : FrameBlind (rx_Pc D ca b z sc av h) := by
  intro a U g mk hq
  obtain ⟨h1, ⟨h2, h3, h4, h5⟩, h6, h7⟩ := hq
  refine ⟨h1, ⟨va_K.moved (u := U) (U := U.calling g mk a) (Vm.Alike.refl U.vm) h2, ⟨fun w hw => ?_, rx_ao_moved (u := U) (U := U.calling g mk a) (Vm.Alike.refl U.vm) h3.2⟩, ?_, h5⟩, h6, h7⟩
  · have h8 := h3.1 w hw
    obtain ⟨q, rfl⟩ := rx_nws_form w hw
    exact va_Nw.same rfl rfl h8
  · exact va_X.moved (u := U) (U := U.calling g mk a) (Vm.Alike.refl U.vm) h4
def rx_rm (j : Nat) : Room := { frames := rx_fr j, cells := rx_mc j, slots := rx_ms j, locals := rx_lo j }
/-- what a method's end owes -/
def rx_Ret (D : va_G) (ca : Nat → ClassId) (b z : Nat) (p : Program) (l : Launch) (e : Env) (R : Room) (s : State) (m : MethodId) (args : Array Value) (below : List Frame) (meth : Method) (cod : Code) (C0 S0 : Nat) (Q : State → Prop) (i : Nat) (r : rx_O) : Prop :=
  ∀ (pc : Nat) (H : Heap) (locs : List Loc) (ls : Array Slot) (cells slots : Nat) (stk : List Value) (bc : Nat), ((decode (rx_cd i) pc = .ok (.ireturn, 1) ∧ r.1.isSome = true) ∨ (decode (rx_cd i) pc = .ok (.return_, 1) ∧ r.1.isSome = false)) → rx_rets i stk = some r.1 → (bc = 0 ∨ i = 147) → cells + bc = C0 → slots ≤ S0 → s.heap.size + cells = z + r.2.length → va_P D vwCl (rx_w b z ca r.2) H → va_S (fun q : Nat => z ≤ q) s.heap H locs → W p l e R s m args below meth cod H locs cells slots Q (F0 m pc ls (stk.map (rx_v b z)))
theorem rx_metW {l : Launch} {y : MethodName} {ws ws' : List Cond} {rm : Room} {Pc : Array Value → State → Prop} {Qc : Array Value → State → Outcome → State → Prop} {mc ms : Nat} {free : Addr → Prop} {cc : ByteArray} {maxL : Nat} {ret : Option FieldType}
    (hy : plainFor y = true) (hw : ws = Cond.code y cc maxL ret :: ws')
    (body : ∀ p e s m args below meth c s₁, BodyLoose p l y (headSpec ws rm) cc maxL ret e s m args below meth c s₁ → c.maxLocals = maxL → Pc args s →
      W p l e (headSpec ws rm).room s m args below meth c s.heap [] 0 0 (MQ below Qc args s mc ms free) (entryFrame m args maxL)) : Met l y ws rm Pc Qc mc ms free := by
  refine MetFree.of_bodySF (code := cc) (maxLocals := maxL) (ret := ret) hy ?_ ?_
  · intro args s m h hn
    obtain ⟨meth, c, h1, h2, h3, h4, h5, h6, -, -⟩ := Cond.code_spec hn (atoms_spec (ws := ws) h _ (by rw [hw]; exact List.mem_cons_self))
    exact ⟨meth, c, h1, h2, h3, h4, h5, h6⟩
  · intro p e s m args below meth c s₁ B hml hP _
    have hh0 : s₁.heap = s.heap := by rw [B.state]; rfl
    obtain ⟨t, a1, o, b1, b2, b3⟩ := body p e s m args below meth c s₁ B hml hP s₁ hh0 (Stand.of_body B)
    exact ⟨t, o, a1, b1, b2, ⟨b3.1, b3.2⟩⟩
theorem rx_jrow {j : Nat} (hj : j < 147) : (rx_y j).cls = rx_on (rx_ow j) ∧ rx_ow j < 12 ∧ (rx_y j).cls ≠ "java/lang/invoke/MethodHandle" ∧ (rx_y j).cls ≠ "java/lang/invoke/VarHandle" ∧ plainFor (rx_y j) = true ∧ rx_na j ≤ rx_ml j := by
  have h := List.all_eq_true.mp rx_jall j (List.mem_range.mpr hj)
  simp only [rx_jok, Bool.and_eq_true, beq_iff_eq, decide_eq_true_eq, bne_iff_ne] at h
  obtain ⟨⟨⟨⟨⟨h1, h2⟩, h3⟩, h4⟩, h5⟩, h6⟩ := h
  exact ⟨h1, h2, h3, h4, h5, h6⟩
theorem rx_ini_name : ∀ j, j < 147 → rx_ini j = 1 → (rx_y j).name = "<init>" := by
  have h : (List.range 147).all (fun j => rx_ini j != 1 || (rx_y j).name == "<init>") = true := by decide +kernel
  intro j hj hi
  have h2 := List.all_eq_true.mp h j (List.mem_range.mpr hj)
  simp only [Bool.or_eq_true, bne_iff_ne, beq_iff_eq] at h2
  exact h2.resolve_left (fun q => q hi)
/-- a method's contract, out of its run -/
theorem rx_met {l : Launch} {D : va_G} {ca : Nat → ClassId} {b z : Nat} {sc : rx_S} {j : Nat} {av : List Value} {h : rx_H} {r : rx_O} (hj : j < 147) (hav : ∀ v ∈ av, v.category = 1) (hlen : av.length = rx_na j)
    (hgo : ∀ (p : Program) (e : Env) (s : State) (m : MethodId) (args : Array Value) (below : List Frame) (meth : Method) (cod : Code) (R : Room) (C0 S0 : Nat) (Q : State → Prop), rx_En D ca b z sc j p s m args meth cod R C0 S0 → rx_Ret D ca b z p l e R s m args below meth cod C0 S0 Q j r → rx_Go D ca b z p l e R s m args below meth cod C0 S0 Q (j, 0, av.map some ++ List.replicate (rx_ml j - rx_na j) none, [], h, rx_mc j, rx_ms j)) :
    Met l (rx_y j) (rx_cwd j :: rx_ws) (rx_rm j) (rx_Pc D ca b z sc av h) (rx_Qc D ca b z (rx_mc j) r) (rx_mc j) (rx_ms j) (fun q => z ≤ q) := by
  obtain ⟨hcls, how, -, -, hpl, hna⟩ := rx_jrow hj
  refine rx_metW (cc := rx_cd j) (maxL := rx_ml j) (ret := rx_rt j) hpl rfl ?_
  intro p e s m args below meth c s₁ B hml hv
  obtain ⟨rfl, hCx, hsz, hP⟩ := hv
  have hx := B.exec
  have hb := B.bytes
  have hr := B.returns
  have hlk := B.notSynchronized
  have hts0 := atoms_spec (ws := rx_cwd j :: rx_ws) B.pre
  have hts : ∀ w ∈ rx_ws, w.before ((av.map (rx_v b z)).toArray) s = true := fun w hw => hts0 w (List.mem_cons_of_mem _ hw)
  have hown : s.vm.findClass (rx_on (rx_ow j)) = some m.cls := by rw [← hcls]; exact findClass_of_methodNamed B.named
  have hin : rx_ini j = 1 → meth.name = "<init>" := fun hi => by rw [(name_of_methodNamed B.named B.method).1]; exact rx_ini_name j hj hi
  have hz : z ≤ s.heap.size := by rw [hsz]; exact Nat.le_add_right _ _
  rw [lg_entry_eq]
  have hl := rx_has_entry b z (n := rx_ml j) hav (by rw [hlen]; exact hna)
  have E : rx_En D ca b z sc j p s m ((av.map (rx_v b z)).toArray) meth c (headSpec (rx_cwd j :: rx_ws) (rx_rm j)).room (rx_mc j) (rx_ms j) := ⟨hx, hb, hml, hr, hlk, hown, hts, hin, hCx, hz, Nat.le_refl _, Nat.le_refl _, Nat.le_refl _, Nat.le_refl _⟩
  have hRet : rx_Ret D ca b z p l e (headSpec (rx_cwd j :: rx_ws) (rx_rm j)).room s m ((av.map (rx_v b z)).toArray) below meth c (rx_mc j) (rx_ms j) (MQ below (rx_Qc D ca b z (rx_mc j) r) ((av.map (rx_v b z)).toArray) s (rx_mc j) (rx_ms j) (fun q => z ≤ q)) j r := by
    intro pc H locs ls cells slots stk bc hde hst hbc hc hsl hcnt hP1 hS1
    have hbc0 : bc = 0 := hbc.resolve_right (by omega)
    refine W.widen (k := rx_mc j) (n := rx_ms j) (by omega) hsl ?_
    have hcnt2 : s.heap.size + rx_mc j = z + r.2.length := by omega
    unfold rx_rets at hst
    split at hst
    · rename_i hrt
      rcases hde with ⟨hd, hs9⟩ | ⟨hd, hs9⟩
      · rw [← Option.some.inj hst] at hs9; cases hs9
      · exact W.vret hx hb (hr.trans hrt) (fun t ht hW => ⟨by rw [← Option.some.inj hst]; rfl, hcnt2, by rw [ht]; exact hP1, hS1.F ht⟩) hS1.2.2 hd
    · rename_i x hrt
      rcases hde with ⟨hd, hs9⟩ | ⟨hd, hs9⟩
      · exact W.iret hx hb (hr.trans hrt) (fun t ht hW => ⟨by rw [← Option.some.inj hst]; rfl, hcnt2, by rw [ht]; exact hP1, hS1.F ht⟩) hS1.2.2 hd
      · rw [← Option.some.inj hst] at hs9; cases hs9
    · rename_i x hrt
      split at hst
      · rename_i hx01
        rcases hde with ⟨hd, hs9⟩ | ⟨hd, hs9⟩
        · refine W.zret hx hb (hr.trans hrt) ?_ (fun t ht hW => ⟨by rw [← Option.some.inj hst]; rfl, hcnt2, by rw [ht]; exact hP1, hS1.F ht⟩) hS1.2.2 hd
          rcases hx01 with rfl | rfl <;> decide +kernel
        · rw [← Option.some.inj hst] at hs9; cases hs9
      · cases hst
    · cases hst
  exact hgo p e s m _ below meth c _ _ _ _ E hRet s.heap [] _ 0 0 ⟨by rw [hsz]; rfl, hP, va_S.rf, by rw [← hlen]; exact hl, Nat.zero_add _, Nat.le_of_eq (Nat.zero_add _)⟩
