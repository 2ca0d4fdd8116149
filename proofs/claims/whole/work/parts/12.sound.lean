/-! a call on the machine of positions is the machine's; and so is every run -/
section RXC
variable {D : va_G} {ca : Nat → ClassId} {b z : Nat} {sc : rx_S} {i pc : Nat} {p : Program} {l : Launch} {e : Env} {R : Room} {s : State} {m : MethodId} {args : Array Value} {below : List Frame} {meth : Method} {cod : Code} {C0 S0 : Nat} {Q : State → Prop} {lv : rx_L} {st : List Value} {h : rx_H} {bc bs : Nat}
theorem rx_v_toList (o : Option Value) (rest : List Value) : ((o.toList ++ rest).map (rx_v b z)) = (o.map (rx_v b z)).toList ++ rest.map (rx_v b z) := by
  cases o <;> rfl
/-- behind a call -/
theorem rx_after {j : Nat} {rest : List Value} {st0 : List Value} {a : Array Value} {rj : rx_O} {H : Heap} {locs : List Loc} {ls : Array Slot} {cells slots : Nat}
    (hr : va_Run p l e R s m args below meth cod H locs cells slots (rx_mc j) (rx_ms j) (F0 m pc ls st0) (rest.map (rx_v b z)) (rx_Qc D ca b z (rx_mc j) rj a) (fun q => z ≤ q))
    (hsz : H.size = z + h.length) (hp : rx_Pt D ca b z s i lv h bc bs C0 S0 H locs ls cells slots) (hmc : rx_mc j ≤ bc) (hms : rx_ms j ≤ bs)
    (k : rx_Go D ca b z p l e R s m args below meth cod C0 S0 Q (i, pc + 3, lv, rj.1.toList ++ rest, rj.2, bc - rx_mc j, bs - rx_ms j)) : W p l e R s m args below meth cod H locs cells slots Q (F0 m pc ls st0) := by
  intro T hT X
  obtain ⟨v, st₀, t, T', L, h0, X', hL, e1, e2, ⟨hv, hcnt, hP1, hF⟩, stp⟩ := hr T hT X
  obtain ⟨h1, hP, hS, h4, h5, h6⟩ := hp
  cases hv
  rw [h0] at hcnt
  have hz1 : H.size ≤ t.heap.size := by rw [← h0]; exact hF.1
  have hk1 : ∀ q : Nat, q < H.size → ¬ z ≤ q → t.heap[q]? = H[q]? := fun q hq hn => by rw [← h0]; exact hF.2 q (by rw [h0]; exact hq) hn
  have hS2 : va_S (fun q : Nat => z ≤ q) s.heap T'.heap (locs ++ L) := ⟨Nat.le_trans hS.1 (by rw [e1]; exact hz1), fun q q1 q2 => by rw [e1, hk1 q (Nat.lt_of_lt_of_le q1 hS.1) q2]; exact hS.2.1 q q1 q2, fun q hq => by
      rcases List.mem_append.mp hq with hh | hh
      · exact hS.2.2 q hh
      · exact hL q hh⟩
  obtain ⟨t2, a1, b1⟩ := k T'.heap (locs ++ L) ls (cells + rx_mc j) (slots + rx_ms j) ⟨by dsimp only; omega, by rw [e1]; exact hP1, hS2, h4, by dsimp only; omega, by dsimp only; omega⟩ T' rfl X'
  refine ⟨t2, stp t2 ?_, b1⟩
  have e9 := rx_v_toList (b := b) (z := z) rj.1 rest
  dsimp only at a1
  rw [e9] at a1
  exact a1
theorem rx_pop_eq {n : Nat} {st As rest : List Value} (h : rx_pop n st = some (As, rest)) : st = As.reverse ++ rest ∧ As.length = n := by
  unfold rx_pop at h
  split at h
  · rename_i hn
    cases h
    refine ⟨?_, ?_⟩
    · rw [List.reverse_reverse, List.take_append_drop]
    · simp [Nat.min_eq_left hn]
  · cases h
theorem rx_rcv_eq {h : rx_H} {ci : Nat} {As : List Value} (e : rx_rcv h ci As = true) : ∃ q tl fs, As = .ref q :: tl ∧ h[q]? = some (.inr (ci, fs)) := by
  unfold rx_rcv at e
  split at e
  · rename_i q tl
    split at e
    · rename_i c fs hq
      have hc : c = ci := by simpa using e
      subst hc
      exact ⟨q, tl, fs, rfl, hq⟩
    · cases e
  · cases e
theorem rx_isref_eq {As : List Value} (e : rx_isref As = true) : ∃ q tl, As = .ref q :: tl := by
  unfold rx_isref at e
  split at e
  · exact ⟨_, _, rfl⟩
  · cases e
theorem rx_cat_sum (l : List Value) : ((l.map (rx_v b z)).map fun v => v.category).sum = (l.map fun v => v.category).sum := by
  rw [List.map_map]
  congr 1
  refine List.map_congr_left fun v _ => ?_
  exact rx_v_cat b z v
/-- what the checks of a call say -/
theorem rx_chk_eq {j kd : Nat} {As rest : List Value} (e : rx_chk i h j kd As rest bc bs = true) : rx_fr j + 1 ≤ rx_fr i ∧ 8 + (rx_ml j + 11) + rx_lo j ≤ rx_lo i ∧ (∀ v ∈ As, v.category = 1) ∧ (rest.map fun v => v.category).sum ≤ 8 ∧ rx_mc j ≤ bc ∧ rx_ms j ≤ bs ∧ (if kd = 0 then rx_rcv h (rx_ow j) As else if kd = 1 then true else rx_isref As) = true := by
  unfold rx_chk at e
  simp only [Bool.and_eq_true, decide_eq_true_eq] at e
  obtain ⟨⟨⟨⟨⟨⟨h1, h2⟩, h3⟩, h4⟩, h5⟩, h6⟩, h7⟩ := e
  refine ⟨h1, h2, fun v hv => ?_, h4, h5, h6, h7⟩
  have := List.all_eq_true.mp h3 v hv
  simpa using this
/-- the row of a call -/
theorem rx_mrow {idx j kd : Nat} (hm : rx_mll.lookup (rx_ow i, idx) = some (j, kd)) (h4 : ¬ kd = 4) : j < 147 ∧ (¬ kd = 3 → Cond.methodLink (rx_on (rx_ow i)) idx (rx_y j) ∈ rx_ws) ∧ (kd = 3 → Cond.methodLinkNest (rx_on (rx_ow i)) idx (rx_y j) "ZStreams" ∈ rx_nws) ∧
    (kd = 0 → j ∈ rx_vj ∧ (parseMethodDescriptor (rx_y j).desc).map (fun d => d.parameters.length + 1) = some (rx_na j)) ∧ (kd = 1 → j ∈ rx_sj ∧ (parseMethodDescriptor (rx_y j).desc).map (fun d => d.parameters.length) = some (rx_na j)) ∧
    (¬ kd = 0 → ¬ kd = 1 → j ∈ rx_ij ∧ (parseMethodDescriptor (rx_y j).desc).map (fun d => d.parameters.length + 1) = some (rx_na j) ∧ (rx_y j).name = "<init>" ∧ rx_rt j = none) := by
  have hmm := rx_look hm
  have hk := List.all_eq_true.mp rx_kall _ hmm
  unfold rx_kok2 at hk
  dsimp only at hk
  rw [if_neg h4] at hk
  simp only [Bool.and_eq_true, decide_eq_true_eq] at hk
  obtain ⟨hj, hk⟩ := hk
  refine ⟨hj, fun h3 => ?_, fun h3 => ?_, fun h0 => ?_, fun h1 => ?_, fun h0 h1 => ?_⟩
  · have hw := rx_mws _ hmm h3
    unfold rx_mwd at hw
    dsimp only at hw
    rw [if_neg h4, if_neg h3] at hw
    exact hw
  · have : rx_mwd ((rx_ow i, idx), (j, kd)) ∈ rx_nws := List.mem_map.mpr ⟨_, List.mem_filter.mpr ⟨hmm, by simpa using h3⟩, rfl⟩
    unfold rx_mwd at this
    dsimp only at this
    rw [if_neg h4, if_pos h3] at this
    exact this
  · rw [if_pos h0] at hk
    simpa using hk
  · rw [if_neg (by omega), if_pos h1] at hk
    simpa using hk
  · rw [if_neg h0, if_neg h1] at hk
    simp only [Bool.and_eq_true, decide_eq_true_eq, beq_iff_eq] at hk
    exact ⟨hk.1.1.1, hk.1.1.2, hk.1.2, hk.2⟩
theorem rx_GIj {j : Nat} (hj : j < 147) : GoodIn rx_ws (rx_cwd j :: rx_ws) := rx_GI (fun w hw => by
  rcases List.mem_cons.mp hw with rfl | hw
  · exact rx_cws j hj
  · exact hw)
theorem rx_PreS {H : Heap} {locs : List Loc} {ls : Array Slot} {cells slots : Nat} {As : List Value} (hCx : rx_Cx D ca b z sc s) (hz : z ≤ s.heap.size) (hp : rx_Pt D ca b z s i lv h bc bs C0 S0 H locs ls cells slots) (hsz : H.size = z + h.length) : PreS s H (rx_Pc D ca b z sc As h) (As.map (rx_v b z)) :=
  ⟨rx_blind, fun U hU hW => ⟨rfl, rx_Cx_warm hCx hz hp.2.2.1 hU hW, by rw [hU]; exact hsz, by rw [hU]; exact hp.2.1⟩⟩
/-- a call, by its kind -/
theorem rx_callK {idx j kd : Nat} {As rest : List Value} {ins : Instr} {rj : rx_O} (E : rx_En D ca b z sc i p s m args meth cod R C0 S0) (hd : decode (rx_cd i) pc = .ok (ins, 3)) (hm : rx_mll.lookup (rx_ow i, idx) = some (j, kd)) (h4 : ¬ kd = 4)
    (hins : (kd = 0 ∧ ins = .invokevirtual idx) ∨ (kd = 1 ∧ ins = .invokestatic idx) ∨ ((kd = 2 ∨ kd = 3) ∧ ins = .invokespecial idx)) (hpop : rx_pop (rx_na j) st = some (As, rest)) (hck : rx_chk i h j kd As rest bc bs = true)
    (hM : Met l (rx_y j) (rx_cwd j :: rx_ws) (rx_rm j) (rx_Pc D ca b z sc As h) (rx_Qc D ca b z (rx_mc j) rj) (rx_mc j) (rx_ms j) (fun q => z ≤ q))
    (k : rx_Go D ca b z p l e R s m args below meth cod C0 S0 Q (i, pc + 3, lv, rj.1.toList ++ rest, rj.2, bc - rx_mc j, bs - rx_ms j)) : rx_Go D ca b z p l e R s m args below meth cod C0 S0 Q (i, pc, lv, st, h, bc, bs) := by
  obtain ⟨hx, hb, hml, hr, hlk, hown, hts, hin, hCx, hz, hf, hlo, hc0, hs0⟩ := E
  obtain ⟨rfl, hlen⟩ := rx_pop_eq hpop
  obtain ⟨c1, c2, c3, c4, c5, c6, c7⟩ := rx_chk_eq hck
  obtain ⟨hj, hlk1, hlk3, hk0, hk1, hk2⟩ := rx_mrow hm h4
  obtain ⟨hcls, how, hy1, hy2, -, -⟩ := rx_jrow hj
  intro H locs ls cells slots hp T hT X
  have hp : rx_Pt D ca b z s i lv h bc bs C0 S0 H locs ls cells slots := hp
  have hsz : H.size = z + h.length := rx_size hz hp hT X
  have hini : (Cond.initialized (rx_y j).cls).before args s = true := by rw [hcls]; exact hts _ (rx_ow_w _ how)
  have hG := rx_GIj hj
  have hroom : (rx_rm j).frames + 1 ≤ R.frames ∧ 8 + (rx_ml j + 11) + (rx_rm j).locals ≤ R.locals := ⟨Nat.le_trans c1 hf, Nat.le_trans c2 hlo⟩
  have hfit : cells + rx_mc j ≤ R.cells ∧ slots + rx_ms j ≤ R.slots := by
    have h5 := hp.2.2.2.2.1
    have h6 := hp.2.2.2.2.2
    exact ⟨by omega, by omega⟩
  have hsum : ((rest.map (rx_v b z)).map fun v => v.category).sum ≤ 8 := by rw [rx_cat_sum]; exact c4
  have hls : ls.size = rx_ml i := hp.2.2.2.1.1
  have hpre := rx_PreS (As := As) hCx hz hp hsz
  have hstk : (As.reverse ++ rest).map (rx_v b z) = (As.map (rx_v b z)).reverse ++ rest.map (rx_v b z) := by rw [List.map_append, List.map_reverse]
  have key : W p l e R s m args below meth cod H locs cells slots Q (F0 m pc ls ((As.reverse ++ rest).map (rx_v b z))) := by
    rcases hins with ⟨rfl, rfl⟩ | ⟨rfl, rfl⟩ | ⟨hkd, rfl⟩
    · obtain ⟨hjv, hpar⟩ := hk0 rfl
      rw [if_pos rfl] at c7
      obtain ⟨q, tl, fs, rfl, hq⟩ := rx_rcv_eq c7
      have hci : rx_ow j < 10 := by
        have h9 := (hp.2.1 _ _ (rx_w_get hq))
        obtain ⟨r9, hr9, -⟩ := h9
        exact (List.getElem?_eq_some_iff.mp hr9).1
      obtain ⟨C, T9, N, ty, hcl, hC, -⟩ := rx_cf _ hci
      have hpar2 : (parseMethodDescriptor (rx_y j).desc).map (fun d => d.parameters.length) = some tl.length := by
        have hl9 : tl.length + 1 = rx_na j := by rw [← hlen]; rfl
        cases hpd : parseMethodDescriptor (rx_y j).desc with
        | none => rw [hpd] at hpar; cases hpar
        | some d =>
          rw [hpd] at hpar
          have : d.parameters.length + 1 = rx_na j := Option.some.inj hpar
          show some d.parameters.length = some tl.length
          congr 1
          omega
      have cb : CallB R s args (rx_on (rx_ow i)) idx (rx_y j) (rx_cd j) (rx_ml j) (rx_rt j) (rx_cwd j :: rx_ws) (rx_rm j) (rx_mc j) (rx_ms j) tl.length := callB_of tl.length hts hG rfl rfl rfl hini (hts _ (hlk1 (by decide))) ⟨hy1, hy2, hpar2⟩ hroom
      have hrecv := va_recv hCx.1 hp.2.1 hcl (rx_w_get hq)
      have hCy : C = (rx_y j).cls := by rw [hC, hcls]
      exact rx_after (va_runV (As := tl.map (rx_v b z)) (rest := rest.map (rx_v b z)) (C := (rx_y j).cls) ⟨hx, hb, hml, hown, hts⟩ hM ⟨cb, hts _ (rx_vw1 _ hjv), hts _ (rx_vw2 _ hjv)⟩ ⟨hpre.1, hCy ▸ hrecv, hpre.2⟩ rfl (by simp) hls (by show _ = _; rw [hstk]; simp [rx_v]) (lv_room hsum) hd hfit) hsz hp c5 c6 k
    · obtain ⟨hjs, hpar⟩ := hk1 rfl
      have cb : CallB R s args (rx_on (rx_ow i)) idx (rx_y j) (rx_cd j) (rx_ml j) (rx_rt j) (rx_cwd j :: rx_ws) (rx_rm j) (rx_mc j) (rx_ms j) As.length := callB_of As.length hts hG rfl rfl rfl hini (hts _ (hlk1 (by decide))) ⟨hy1, hy2, by rw [hlen]; exact hpar⟩ hroom
      exact rx_after (va_runS (As := As.map (rx_v b z)) (rest := rest.map (rx_v b z)) ⟨hx, hb, hml, hown, hts⟩ hM ⟨cb, hts _ (rx_sw _ hjs)⟩ hpre rfl (by simp) hls hstk (lv_room hsum) hd hfit) hsz hp c5 c6 k
    · obtain ⟨hji, hpar, hnm, hrt⟩ := hk2 (by omega) (by omega)
      rw [if_neg (by omega), if_neg (by omega)] at c7
      obtain ⟨q, tl, rfl⟩ := rx_isref_eq c7
      have hpar2 : (parseMethodDescriptor (rx_y j).desc).map (fun d => d.parameters.length) = some tl.length := by
        have hl9 : tl.length + 1 = rx_na j := by rw [← hlen]; rfl
        cases hpd : parseMethodDescriptor (rx_y j).desc with
        | none => rw [hpd] at hpar; cases hpar
        | some d =>
          rw [hpd] at hpar
          have : d.parameters.length + 1 = rx_na j := Option.some.inj hpar
          show some d.parameters.length = some tl.length
          congr 1
          omega
      rcases hkd with rfl | rfl
      · have cb : CallB R s args (rx_on (rx_ow i)) idx (rx_y j) (rx_cd j) (rx_ml j) none (rx_cwd j :: rx_ws) (rx_rm j) (rx_mc j) (rx_ms j) tl.length := callB_of tl.length hts hG (by unfold rx_cwd; rw [hrt]) rfl rfl hini (hts _ (hlk1 (by decide))) ⟨hy1, hy2, hpar2⟩ hroom
        exact rx_after (va_runI (b := z + q) (As := tl.map (rx_v b z)) (rest := rest.map (rx_v b z)) ⟨hx, hb, hml, hown, hts⟩ hM ⟨cb, hnm, hts _ (rx_iw _ hji)⟩ hpre rfl (by simp) hls (by show _ = _; rw [hstk]; simp [rx_v]) (lv_room hsum) hd hfit) hsz hp c5 c6 k
      · have hnw := hCx.2.1.1 _ (hlk3 rfl)
        have cn : va_CN R s args (rx_on (rx_ow i)) idx (rx_y j) "ZStreams" (rx_cd j) (rx_ml j) none (rx_cwd j :: rx_ws) (rx_rm j) (rx_mc j) (rx_ms j) tl.length := va_cnB tl.length hts hG (by unfold rx_cwd; rw [hrt]) rfl rfl hnw hini ⟨hy1, hy2, hpar2⟩ hroom
        exact rx_after (va_runIN (b := z + q) (As := tl.map (rx_v b z)) (rest := rest.map (rx_v b z)) ⟨hx, hb, hml, hown, hts⟩ hM ⟨cn, hnm, hts _ (rx_iw _ hji)⟩ hpre rfl (by simp) hls (by show _ = _; rw [hstk]; simp [rx_v]) (lv_room hsum) hd hfit) hsz hp c5 c6 k
  exact key T hT X
end RXC
