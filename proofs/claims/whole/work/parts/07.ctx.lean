/-! a point of the machine of positions on the machine -/
def rx_tys (ca : Nat → ClassId) : List (ClassId × FieldType) := [(ca 0, .int), (ca 1, .boolean), (ca 2, .array .int)]
def rx_N (U : State) : Prop := (∀ w ∈ rx_nws, va_Nw w U) ∧ (Cond.arrayOver (.array .int)).before #[] U = true
def rx_Cx (D : va_G) (ca : Nat → ClassId) (b z : Nat) (sc : rx_S) (U : State) : Prop := va_K D vwCl (rx_tys ca) U ∧ rx_N U ∧ va_X b sc.1 sc.2 U U.heap ∧ b < z
def rx_En (D : va_G) (ca : Nat → ClassId) (b z : Nat) (sc : rx_S) (i : Nat) (p : Program) (s : State) (m : MethodId) (args : Array Value) (meth : Method) (cod : Code) (R : Room) (C0 S0 : Nat) : Prop :=
  p.tables.exec = Jvm.exec ∧ cod.code = rx_cd i ∧ cod.maxLocals = rx_ml i ∧ meth.sig.returnType = rx_rt i ∧ meth.locks = false ∧ s.vm.findClass (rx_on (rx_ow i)) = some m.cls ∧ (∀ w ∈ rx_ws, w.before args s = true) ∧ (rx_ini i = 1 → meth.name = "<init>") ∧ rx_Cx D ca b z sc s ∧ z ≤ s.heap.size ∧ rx_fr i ≤ R.frames ∧ rx_lo i ≤ R.locals ∧ C0 ≤ R.cells ∧ S0 ≤ R.slots
def rx_Pt (D : va_G) (ca : Nat → ClassId) (b z : Nat) (s : State) (i : Nat) (lv : rx_L) (h : rx_H) (bc bs C0 S0 : Nat) (H : Heap) (locs : List Loc) (ls : Array Slot) (cells slots : Nat) : Prop :=
  s.heap.size + cells = z + h.length ∧ va_P D vwCl (rx_w b z ca h) H ∧ va_S (fun q : Nat => z ≤ q) s.heap H locs ∧ rx_has b z ls (rx_ml i) lv ∧ cells + bc = C0 ∧ slots + bs ≤ S0
def rx_Go (D : va_G) (ca : Nat → ClassId) (b z : Nat) (p : Program) (l : Launch) (e : Env) (R : Room) (s : State) (m : MethodId) (args : Array Value) (below : List Frame) (meth : Method) (cod : Code) (C0 S0 : Nat) (Q : State → Prop) (c : rx_C) : Prop :=
  ∀ (H : Heap) (locs : List Loc) (ls : Array Slot) (cells slots : Nat), rx_Pt D ca b z s c.1 c.2.2.1 c.2.2.2.2.1 c.2.2.2.2.2.1 c.2.2.2.2.2.2 C0 S0 H locs ls cells slots → W p l e R s m args below meth cod H locs cells slots Q (F0 m c.2.1 ls (c.2.2.2.1.map (rx_v b z)))
theorem rx_p1_eq {st : List Value} {q : Int32 × List Value} (h : rx_p1 st = some q) : st = .int q.1 :: q.2 := by
  unfold rx_p1 at h
  split at h <;> cases h
  rfl
theorem rx_p2_eq {st : List Value} {q : Int32 × Int32 × List Value} (h : rx_p2 st = some q) : st = .int q.2.1 :: .int q.1 :: q.2.2 := by
  unfold rx_p2 at h
  split at h <;> cases h
  rfl
theorem rx_pl_eq {st : List Value} {q : Int64 × Int64 × List Value} (h : rx_pl st = some q) : st = .long q.2.1 :: .long q.1 :: q.2.2 := by
  unfold rx_pl at h
  split at h <;> cases h
  rfl
theorem rx_pr_eq {st : List Value} {q : Nat × List Value} (h : rx_pr st = some q) : st = .ref q.1 :: q.2 := by
  unfold rx_pr at h
  split at h <;> cases h
  rfl
theorem rx_pv_eq {st : List Value} {q : Value × Nat × List Value} (h : rx_pv st = some q) : st = q.1 :: .ref q.2.1 :: q.2.2 := by
  unfold rx_pv at h
  split at h <;> cases h
  rfl
theorem rx_pa_eq {st : List Value} {q : Int32 × Option Nat × List Value} (h : rx_pa st = some q) : (∃ k, q.2.1 = some k ∧ st = .int q.1 :: .ref k :: q.2.2) ∨ (∃ k, q.2.1 = none ∧ st = .int q.1 :: .retAddr k :: q.2.2) := by
  unfold rx_pa at h
  split at h <;> cases h
  · exact Or.inl ⟨_, rfl, rfl⟩
  · exact Or.inr ⟨_, rfl, rfl⟩
theorem rx_ps_eq {st : List Value} {q : Int32 × Int32 × Nat × List Value} (h : rx_ps st = some q) : st = .int q.1 :: .int q.2.1 :: .ref q.2.2.1 :: q.2.2.2 := by
  unfold rx_ps at h
  split at h <;> cases h
  rfl
theorem rx_pq_eq {st : List Value} {q : Option Nat × List Value} (h : rx_pq st = some q) : (∃ k, q.1 = some k ∧ st = .ref k :: q.2) ∨ (∃ k, q.1 = none ∧ st = .retAddr k :: q.2) := by
  unfold rx_pq at h
  split at h <;> cases h
  · exact Or.inl ⟨_, rfl, rfl⟩
  · exact Or.inr ⟨_, rfl, rfl⟩
theorem rx_pw_eq {st : List Value} {q : Value × List Value} (h : rx_pw st = some q) : st = q.1 :: q.2 ∧ q.1.category = 1 := by
  unfold rx_pw at h
  split at h
  · split at h
    · rename_i hc
      cases h
      exact ⟨rfl, hc⟩
    · cases h
  · cases h
theorem rx_pw2_eq {st : List Value} {q : Value × Value × List Value} (h : rx_pw2 st = some q) : st = q.1 :: q.2.1 :: q.2.2 ∧ q.1.category = 1 ∧ q.2.1.category = 1 := by
  unfold rx_pw2 at h
  split at h
  · split at h
    · rename_i hc
      cases h
      exact ⟨rfl, hc.1, hc.2⟩
    · cases h
  · cases h
theorem rx_tgt_eq {pc : Nat} {off : Int} {t : Nat} (h : rx_tgt pc off = some t) : (pc : Int) + off = (t : Int) := by
  unfold rx_tgt at h
  split at h
  · cases h
    omega
  · cases h
theorem rx_gf_eq {h : rx_H} {q ci k : Nat} {v : Value} (e : rx_gf h q ci k = some v) : ∃ fs, h[q]? = some (.inr (ci, fs)) ∧ fs[k]? = some v := by
  unfold rx_gf at e
  split at e
  · split at e
    · rename_i hq hc
      subst hc
      exact ⟨_, hq, e⟩
    · cases e
  · cases e
theorem rx_pf_eq {h h2 : rx_H} {q ci k : Nat} {v : Value} (e : rx_pf h q ci k v = some h2) : ∃ fs, h[q]? = some (.inr (ci, fs)) ∧ k < fs.length ∧ h2 = h.set q (.inr (ci, fs.set k v)) := by
  unfold rx_pf at e
  split at e
  · split at e
    · rename_i hq hc
      subst hc
      split at e
      · rename_i hk
        cases e
        exact ⟨_, hq, hk, rfl⟩
      · cases e
    · cases e
  · cases e
theorem rx_ga_eq {h : rx_H} {q t : Nat} {r : Nat × (Nat → Int32)} (e : rx_ga h q t = some r) : h[q]? = some (.inl (t, r.1, .inl r.2)) := by
  unfold rx_ga at e
  split at e
  · split at e
    · rename_i hq hc
      subst hc
      cases e
      exact hq
    · cases e
  · cases e
theorem rx_gq_eq {h : rx_H} {q : Nat} {r : Nat × (Nat → Option Nat)} (e : rx_gq h q = some r) : h[q]? = some (.inl (2, r.1, .inr (.inr (.inr (.inr r.2))))) := by
  unfold rx_gq at e
  split at e
  · split at e
    · rename_i hq hc
      subst hc
      cases e
      exact hq
    · cases e
  · cases e
theorem rx_gl_eq {h : rx_H} {q n : Nat} (e : rx_gl h q = some n) : ∃ t f, (t = 0 ∨ t = 1) ∧ h[q]? = some (.inl (t, n, .inl f)) := by
  unfold rx_gl at e
  split at e
  · split at e
    · rename_i hq hc
      cases e
      exact ⟨_, _, hc, hq⟩
    · cases e
  · cases e
theorem rx_ald_eq {h : rx_H} {q t : Nat} {i x : Int32} (e : rx_ald h q t i = some x) : ∃ n f, h[q]? = some (.inl (t, n, .inl f)) ∧ vp_in i n ∧ x = f i.toNatClampNeg := by
  unfold rx_ald at e
  split at e
  · rename_i n f hg
    split at e
    · rename_i hi
      cases e
      exact ⟨n, f, rx_ga_eq hg, vp_in_iff.mpr hi, rfl⟩
    · cases e
  · cases e
theorem rx_ast_eq {h h2 : rx_H} {q t : Nat} {i x : Int32} (e : rx_ast h q t i x = some h2) : ∃ n f, h[q]? = some (.inl (t, n, .inl f)) ∧ vp_in i n ∧ h2 = h.set q (.inl (t, n, .inl (upd f i.toNatClampNeg (rx_nar t x)))) := by
  unfold rx_ast at e
  split at e
  · rename_i n f hg
    split at e
    · rename_i hi
      cases e
      exact ⟨n, f, rx_ga_eq hg, vp_in_iff.mpr hi, rfl⟩
    · cases e
  · cases e
theorem rx_qld_eq {h : rx_H} {q : Nat} {i : Int32} {x : Nat} (e : rx_qld h q i = some x) : ∃ n f, h[q]? = some (.inl (2, n, .inr (.inr (.inr (.inr f))))) ∧ vp_in i n ∧ f i.toNatClampNeg = some x := by
  unfold rx_qld at e
  split at e
  · rename_i n f hg
    split at e
    · rename_i hi
      exact ⟨n, f, rx_gq_eq hg, vp_in_iff.mpr hi, e⟩
    · cases e
  · cases e
theorem rx_sld_eq {sc : rx_S} {i x : Int32} (e : rx_sld sc i = some x) : vp_in i sc.1 ∧ x = sc.2 i.toNatClampNeg := by
  unfold rx_sld at e
  split at e
  · rename_i hi
    cases e
    exact ⟨vp_in_iff.mpr hi, rfl⟩
  · cases e
theorem rx_tsw_eq : ∀ (offs : List Int) (lo d x : Int), ((x < lo ∨ lo + (offs.length : Int) ≤ x) ∧ rx_tsw offs lo d x = d) ∨ (lo ≤ x ∧ x < lo + (offs.length : Int) ∧ offs[(x - lo).toNat]? = some (rx_tsw offs lo d x))
  | [], lo, d, x => Or.inl ⟨by simp only [List.length_nil]; omega, rfl⟩
  | o :: os, lo, d, x => by
    unfold rx_tsw
    by_cases h : x = lo
    · rw [if_pos h]
      subst h
      refine Or.inr ⟨Int.le_refl _, by simp only [List.length_cons]; omega, ?_⟩
      rw [show (x - x).toNat = 0 by omega]
      rfl
    · rw [if_neg h]
      rcases rx_tsw_eq os (lo + 1) d x with ⟨h1, h2⟩ | ⟨h1, h2, h3⟩
      · refine Or.inl ⟨?_, h2⟩
        simp only [List.length_cons]
        omega
      · refine Or.inr ⟨by omega, by simp only [List.length_cons]; omega, ?_⟩
        rw [show (x - lo).toNat = (x - (lo + 1)).toNat + 1 by omega, List.getElem?_cons_succ]
        exact h3
theorem rx_look_f {i idx : Nat} {f : Nat × Nat × Nat × Nat} (h : rx_fl.lookup (rx_ow i, idx) = some f) : ∃ C T N ty, rx_CF f.1 C T N ty ∧ f.2.1 < N ∧ Cond.fieldLink (rx_on (rx_ow i)) idx C (T f.2.1).2.1 (T f.2.1).2.2.1 ∈ rx_ws ∧ ((T f.2.1).2.2.2 = true ↔ f.2.2.2 = 1) ∧ ((ty f.2.1 = .int ∧ f.2.2.1 = 0) ∨ (ty f.2.1 = .boolean ∧ f.2.2.1 = 1) ∨ ((ty f.2.1).isReference = true ∧ f.2.2.1 = 2)) := by
  have hm := rx_look h
  have hw := rx_fws _ hm
  have hk := List.all_eq_true.mp rx_fall _ hm
  obtain ⟨ci, k, kd, fin⟩ := f
  unfold rx_fok2 at hk
  split at hk
  · rename_i C0 T N hc
    simp only [Bool.and_eq_true, decide_eq_true_eq, beq_iff_eq] at hk
    obtain ⟨⟨⟨h1, h2⟩, h3⟩, h4⟩ := hk
    obtain ⟨C, T', N', ty, hcf⟩ := rx_cf ci h1
    have he := hcf.1
    dsimp only at hc
    rw [hc] at he
    cases he
    refine ⟨C0, T, N, ty, hcf, h2, ?_, ?_, ?_⟩
    · have hn := hcf.2.1
      unfold rx_fwd at hw
      dsimp only at hw
      rw [← hn] at hw
      have hgd : vwCl.getD ci ("", fun _ => ("", "", "", false), 0) = (C0, T, N) := by
        rw [List.getD_eq_getElem?_getD, hc]
        rfl
      rw [hgd] at hw
      exact hw
    · dsimp only at h3 ⊢
      rw [h3]
      simp
    · have hp := hcf.2.2.2.1 k h2
      dsimp only at h4 ⊢
      rw [hp] at h4
      cases ht : ty k <;> rw [ht] at h4 <;> simp_all [FieldType.isReference]
  · cases hk
/-- the heap has just the cells that are counted -/
theorem rx_size {D : va_G} {ca : Nat → ClassId} {b z : Nat} {p : Program} {l : Launch} {e : Env} {R : Room} {s : State} {m : MethodId} {args : Array Value} {below : List Frame} {meth : Method} {cod : Code} {i : Nat} {lv : rx_L} {h : rx_H} {bc bs C0 S0 : Nat} {H : Heap} {locs : List Loc} {ls : Array Slot} {cells slots : Nat} {T : State} (hz : z ≤ s.heap.size) (hp : rx_Pt D ca b z s i lv h bc bs C0 S0 H locs ls cells slots) (hT : T.heap = H) (X : Stand p l e R s m args below meth cod T locs cells slots) : H.size = z + h.length := by
  obtain ⟨h1, h2, h3, -⟩ := hp
  have hu := X.heapSize
  rw [hT] at hu
  have hl : z + h.length ≤ H.size := by
    by_cases h0 : h.length = 0
    · rw [h0]
      exact Nat.le_trans hz h3.1
    · have hk : (h.length - 1) < h.length := by omega
      obtain ⟨e9, he⟩ : ∃ e9, h[h.length - 1]? = some e9 := ⟨_, List.getElem?_eq_getElem hk⟩
      have hlt : z + (h.length - 1) < H.size := (h2 _ _ (rx_w_get he)).lt
      omega
  omega
