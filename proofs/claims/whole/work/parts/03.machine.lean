/-! THE MACHINE OF POSITIONS: the methods' own bytecode over a list of cells (a reference is a place in the list; the script is .retAddr), as a function: no state, no tables of the machine. Its soundness over the machine stands in the next part. -/
abbrev rx_H : Type := List va_E
abbrev rx_L : Type := List (Option Value)
abbrev rx_C : Type := Nat × Nat × rx_L × List Value × rx_H × Nat × Nat
abbrev rx_O : Type := Option Value × rx_H
abbrev rx_S : Type := Nat × (Nat → Int32)
abbrev rx_R : Type := Option (rx_C ⊕ (rx_O ⊕ (rx_C × (rx_O → Option rx_C))))
/-- the fuelled run of a one-step function -/
def rx_run (stp : rx_C → rx_R) : Nat → rx_C → Option rx_O
  | 0, _ => none
  | n + 1, c => match stp c with
    | none => none
    | some (.inl c2) => rx_run stp n c2
    | some (.inr (.inl r)) => some r
    | some (.inr (.inr (cj, k))) => match rx_run stp n cj with
      | none => none
      | some r => match k r with
        | none => none
        | some c2 => rx_run stp n c2
theorem rx_mono1 {stp : rx_C → rx_R} : ∀ (n : Nat) (c : rx_C) (r : rx_O), rx_run stp n c = some r → rx_run stp (n + 1) c = some r
  | 0, _, _, h => by cases h
  | n + 1, c, r, h => by
    unfold rx_run at h ⊢
    cases hs : stp c with
    | none => rw [hs] at h; cases h
    | some q =>
      rw [hs] at h
      rcases q with c2 | r2 | ⟨cj, k⟩
      · exact rx_mono1 n c2 r h
      · exact h
      · dsimp only at h ⊢
        cases hj : rx_run stp n cj with
        | none => rw [hj] at h; cases h
        | some rj =>
          rw [hj] at h
          rw [rx_mono1 n cj rj hj]
          dsimp only at h ⊢
          cases hk : k rj with
          | none => rw [hk] at h; cases h
          | some c2 => rw [hk] at h; exact rx_mono1 n c2 r h
theorem rx_mono {stp : rx_C → rx_R} {n m : Nat} {c : rx_C} {r : rx_O} (hnm : n ≤ m) (h : rx_run stp n c = some r) : rx_run stp m c = some r := by
  induction hnm with
  | refl => exact h
  | step _ ih => exact rx_mono1 _ _ _ ih
theorem rx_det {stp : rx_C → rx_R} {n m : Nat} {c : rx_C} {r q : rx_O} (h : rx_run stp n c = some r) (h2 : rx_run stp m c = some q) : r = q := by
  have a := rx_mono (Nat.le_max_left n m) h
  have b := rx_mono (Nat.le_max_right n m) h2
  exact Option.some.inj (a.symm.trans b)
/-- the value of a point: what its run answers, if it ends -/
noncomputable def rx_lim (stp : rx_C → rx_R) (c : rx_C) : Option rx_O := by
  classical
  exact if h : ∃ (r : rx_O) (n : Nat), rx_run stp n c = some r then some h.choose else none
theorem rx_lim_of {stp : rx_C → rx_R} {n : Nat} {c : rx_C} {r : rx_O} (h : rx_run stp n c = some r) : rx_lim stp c = some r := by
  have hx : ∃ (r : rx_O) (n : Nat), rx_run stp n c = some r := ⟨r, n, h⟩
  unfold rx_lim
  rw [dif_pos hx]
  obtain ⟨m, hm⟩ := hx.choose_spec
  rw [rx_det hm h]
theorem rx_lim_to {stp : rx_C → rx_R} {c : rx_C} {r : rx_O} (h : rx_lim stp c = some r) : ∃ n, rx_run stp n c = some r := by
  unfold rx_lim at h
  by_cases hx : ∃ (r : rx_O) (n : Nat), rx_run stp n c = some r
  · rw [dif_pos hx] at h
    obtain ⟨m, hm⟩ := hx.choose_spec
    exact ⟨m, by rw [hm, ← h]⟩
  · rw [dif_neg hx] at h
    cases h
theorem rx_lim_ext {stp : rx_C → rx_R} {c : rx_C} {o : Option rx_O} (h : ∀ r, (∃ n, rx_run stp n c = some r) ↔ o = some r) : rx_lim stp c = o := by
  cases o with
  | some r => exact rx_lim_of ((h r).mpr rfl).choose_spec
  | none =>
    cases hl : rx_lim stp c with
    | none => rfl
    | some r => exact absurd ((h r).mp (rx_lim_to hl)) (by simp)
theorem rx_lim_next {stp : rx_C → rx_R} {c c2 : rx_C} (h : stp c = some (.inl c2)) : rx_lim stp c = rx_lim stp c2 := by
  refine rx_lim_ext fun r => ⟨fun ⟨n, hn⟩ => ?_, fun hr => ?_⟩
  · cases n with
    | zero => cases hn
    | succ n =>
      unfold rx_run at hn
      rw [h] at hn
      exact rx_lim_of hn
  · obtain ⟨n, hn⟩ := rx_lim_to hr
    refine ⟨n + 1, ?_⟩
    unfold rx_run
    rw [h]
    exact hn
theorem rx_lim_ret {stp : rx_C → rx_R} {c : rx_C} {r : rx_O} (h : stp c = some (.inr (.inl r))) : rx_lim stp c = some r := by
  refine rx_lim_of (n := 1) ?_
  unfold rx_run
  rw [h]
theorem rx_lim_stuck {stp : rx_C → rx_R} {c : rx_C} (h : stp c = none) : rx_lim stp c = none := by
  refine rx_lim_ext fun r => ⟨fun ⟨n, hn⟩ => ?_, fun hr => by cases hr⟩
  cases n with
  | zero => cases hn
  | succ n =>
    unfold rx_run at hn
    rw [h] at hn
    cases hn
theorem rx_lim_call {stp : rx_C → rx_R} {c cj : rx_C} {k : rx_O → Option rx_C} (h : stp c = some (.inr (.inr (cj, k)))) : rx_lim stp c = (rx_lim stp cj).bind (fun r => (k r).bind (rx_lim stp)) := by
  refine rx_lim_ext fun r => ⟨fun ⟨n, hn⟩ => ?_, fun hr => ?_⟩
  · cases n with
    | zero => cases hn
    | succ n =>
      unfold rx_run at hn
      rw [h] at hn
      dsimp only at hn
      cases hj : rx_run stp n cj with
      | none => rw [hj] at hn; cases hn
      | some rj =>
        rw [hj] at hn
        dsimp only at hn
        rw [rx_lim_of hj, Option.bind_some]
        cases hk : k rj with
        | none => rw [hk] at hn; cases hn
        | some c2 =>
          rw [hk] at hn
          rw [Option.bind_some]
          exact rx_lim_of hn
  · obtain ⟨rj, hj, h2⟩ := Option.bind_eq_some_iff.mp hr
    obtain ⟨c2, hk, h3⟩ := Option.bind_eq_some_iff.mp h2
    obtain ⟨n, hn⟩ := rx_lim_to hj
    obtain ⟨m, hm⟩ := rx_lim_to h3
    refine ⟨max n m + 1, ?_⟩
    unfold rx_run
    rw [h]
    dsimp only
    rw [rx_mono (Nat.le_max_left n m) hn]
    dsimp only
    rw [hk]
    exact rx_mono (Nat.le_max_right n m) hm
