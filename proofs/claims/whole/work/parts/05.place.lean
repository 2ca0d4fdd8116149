/-! places and cells: what a value, a cell, the locals of the machine of positions are on the machine -/
def rx_v (b z : Nat) : Value → Value
  | .ref k => .ref (z + k)
  | .retAddr _ => .ref b
  | v => v
theorem rx_v_cat (b z : Nat) (v : Value) : (rx_v b z v).category = v.category := by cases v <;> rfl
def rx_e (b z : Nat) (ca : Nat → ClassId) : va_E → va_E
  | .inl (t, n, .inr (.inr (.inr (.inr f)))) => .inl (ca t, n, .inr (.inr (.inr (.inr (fun j => (f j).map (fun q => z + q))))))
  | .inl (t, n, .inl f) => .inl (ca t, n, .inl f)
  | .inl (t, n, .inr (.inl f)) => .inl (ca t, n, .inr (.inl f))
  | .inl (t, n, .inr (.inr (.inl f))) => .inl (ca t, n, .inr (.inr (.inl f)))
  | .inl (t, n, .inr (.inr (.inr (.inl f)))) => .inl (ca t, n, .inr (.inr (.inr (.inl f))))
  | .inr (ci, fs) => .inr (ci, fs.map (rx_v b z))
def rx_w (b z : Nat) (ca : Nat → ClassId) (h : rx_H) : va_W := h.mapIdx (fun k e => (z + k, rx_e b z ca e))
theorem rx_w_len (b z : Nat) (ca : Nat → ClassId) (h : rx_H) : (rx_w b z ca h).length = h.length := by simp [rx_w]
theorem rx_w_get {b z : Nat} {ca : Nat → ClassId} {h : rx_H} {k : Nat} {e : va_E} (hk : h[k]? = some e) : (rx_w b z ca h)[k]? = some (z + k, rx_e b z ca e) := by
  simp [rx_w, hk]
theorem rx_w_of {b z : Nat} {ca : Nat → ClassId} {h : rx_H} {k : Nat} {q : Nat × va_E} (hk : (rx_w b z ca h)[k]? = some q) : ∃ e, h[k]? = some e ∧ q = (z + k, rx_e b z ca e) := by
  unfold rx_w at hk
  rw [List.getElem?_mapIdx] at hk
  cases he : h[k]? with
  | none => rw [he] at hk; cases hk
  | some e => rw [he] at hk; exact ⟨e, rfl, (Option.some.inj hk).symm⟩
theorem rx_w_set {b z : Nat} {ca : Nat → ClassId} {h : rx_H} {k : Nat} {e : va_E} : (rx_w b z ca h).set k (z + k, rx_e b z ca e) = rx_w b z ca (h.set k e) := by
  refine List.ext_getElem? fun j => ?_
  simp only [rx_w, List.getElem?_set, List.getElem?_mapIdx, List.length_mapIdx]
  by_cases hj : k = j
  · subst hj
    by_cases hl : k < h.length <;> simp [hl]
  · simp [hj]
theorem rx_w_app {b z : Nat} {ca : Nat → ClassId} {h : rx_H} {e : va_E} : rx_w b z ca (h ++ [e]) = rx_w b z ca h ++ [(z + h.length, rx_e b z ca e)] := by
  simp [rx_w, List.mapIdx_append]
theorem rx_w_D (b z : Nat) (ca : Nat → ClassId) (h : rx_H) : va_D (fun q : Nat => z ≤ q) (rx_w b z ca h) := by
  refine ⟨fun i j p q hp hq hpq => ?_, fun k q hk => ?_⟩
  · obtain ⟨e1, -, rfl⟩ := rx_w_of hp
    obtain ⟨e2, -, rfl⟩ := rx_w_of hq
    have h9 : z + i = z + j := hpq
    omega
  · obtain ⟨e1, -, rfl⟩ := rx_w_of hk
    exact Nat.le_add_right z k
/-- the locals -/
def rx_has (b z : Nat) (ls : Array Slot) (nL : Nat) (lv : rx_L) : Prop := ls.size = nL ∧ lv_wf ls ∧ ∀ (i : Nat) (v : Value), lv[i]? = some (some v) → v.category = 1 ∧ ls[i]? = some (.val (rx_v b z v))
def rx_al (b z : Nat) (lv : rx_L) : List (Nat × Value) := (List.range lv.length).filterMap (fun j => match lv[j]? with | some (some w) => some (j, rx_v b z w) | _ => none)
theorem rx_al_in {b z : Nat} {lv : rx_L} {q : Nat × Value} : q ∈ rx_al b z lv ↔ ∃ w, lv[q.1]? = some (some w) ∧ q.2 = rx_v b z w := by
  obtain ⟨j, x⟩ := q
  unfold rx_al
  rw [List.mem_filterMap]
  constructor
  · rintro ⟨i, -, hi⟩
    cases hl : lv[i]? with
    | none => rw [hl] at hi; cases hi
    | some o =>
      cases o with
      | none => rw [hl] at hi; cases hi
      | some w =>
        rw [hl] at hi
        cases hi
        exact ⟨w, hl, rfl⟩
  · rintro ⟨w, h1, h2⟩
    dsimp only at h1 h2
    refine ⟨j, List.mem_range.mpr (List.getElem?_eq_some_iff.mp h1).1, ?_⟩
    rw [h1]
    subst h2
    rfl
theorem rx_has.lv {b z : Nat} {ls : Array Slot} {nL : Nat} {lv : rx_L} (h : rx_has b z ls nL lv) : lv_has ls nL (rx_al b z lv) := by
  refine ⟨h.1, h.2.1, fun q hq => ?_⟩
  obtain ⟨w, h1, h2⟩ := rx_al_in.mp hq
  rw [h2]
  exact (h.2.2 _ _ h1).2
theorem rx_has.put {b z : Nat} {ls ls' : Array Slot} {nL : Nat} {lv : rx_L} (h : rx_has b z ls nL lv) {i : Nat} {v : Value} (hc : v.category = 1)
    (h' : lv_has ls' nL ((i, rx_v b z v) :: (rx_al b z lv).filter (fun q => !(q.1 == i) && !(q.1 + 1 == i && q.2.category == 2)))) : rx_has b z ls' nL (lv.set i (some v)) := by
  refine ⟨h'.1, h'.2.1, fun j w hj => ?_⟩
  rw [List.getElem?_set] at hj
  by_cases hij : i = j
  · subst hij
    rw [if_pos rfl] at hj
    by_cases hl : i < lv.length
    · rw [if_pos hl] at hj
      cases hj
      exact ⟨hc, h'.2.2 _ List.mem_cons_self⟩
    · rw [if_neg hl] at hj
      cases hj
  · rw [if_neg hij] at hj
    obtain ⟨hw, -⟩ := h.2.2 j w hj
    refine ⟨hw, h'.2.2 (j, rx_v b z w) (List.mem_cons_of_mem _ (List.mem_filter.mpr ⟨rx_al_in.mpr ⟨w, hj, rfl⟩, ?_⟩))⟩
    have h1 : (rx_v b z w).category = 1 := by rw [rx_v_cat]; exact hw
    have h2 : ¬ j = i := fun q => hij q.symm
    simp [h1, h2]
theorem rx_sl {vs : List Value} (h : ∀ v ∈ vs, v.category = 1) : lg_sl vs = vs.map Slot.val := by
  induction vs with
  | nil => rfl
  | cons v t ih =>
    have h1 := h v List.mem_cons_self
    have h2 := ih fun w hw => h w (List.mem_cons_of_mem _ hw)
    unfold lg_sl at h2 ⊢
    rw [List.flatMap_cons, h2]
    simp [h1]
/-- a method's entry -/
theorem rx_has_entry (b z : Nat) {av : List Value} {n : Nat} (hc : ∀ v ∈ av, v.category = 1) (hn : av.length ≤ n) : rx_has b z ((lg_sl (av.map (rx_v b z)) ++ List.replicate (n - (lg_sl (av.map (rx_v b z))).length) Slot.unset).toArray) n (av.map some ++ List.replicate (n - av.length) none) := by
  have hs : lg_sl (av.map (rx_v b z)) = (av.map (rx_v b z)).map Slot.val := rx_sl fun v hv => by
    obtain ⟨w, hw, rfl⟩ := List.mem_map.mp hv
    rw [rx_v_cat]
    exact hc w hw
  have h0 := lv_entry (av.map (rx_v b z)) (n := n) (by rw [hs]; simpa using hn)
  refine ⟨h0.1, h0.2.1, fun i v hi => ?_⟩
  rw [List.getElem?_append] at hi
  by_cases hl : i < av.length
  · rw [if_pos (by simpa using hl), List.getElem?_map] at hi
    have hv : av[i]? = some v := by
      cases ha : av[i]? with
      | none => rw [ha] at hi; cases hi
      | some w => rw [ha] at hi; cases hi; rfl
    refine ⟨hc v (List.mem_of_getElem? hv), ?_⟩
    obtain ⟨h9, he⟩ := List.getElem?_eq_some_iff.mp hv
    rw [hs]
    simp [List.getElem?_append, hl, he]
  · rw [if_neg (by simpa using hl)] at hi
    rw [List.getElem?_replicate] at hi
    split at hi <;> cases hi
