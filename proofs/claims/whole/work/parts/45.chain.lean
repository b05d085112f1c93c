/-! the numbers of an item, one after another -/
def cm (l : Nat → Nat) : Nat → Nat → Option (List Nat × Nat)
  | 0, j => some ([], j)
  | f + 1, j => match mo l j with
    | none => none
    | some (x, j') => match cm l f j' with
      | none => none
      | some (xs, k) => some (x :: xs, k)
theorem rn_succ (l : Nat → Nat) (f i : Nat) {x j : Nat} (h : nm l i = some (x, j)) : rn l (f + 1) i = if l j = 59 then some ([x], j + 1) else if l j = 44 then (match rn l f (j + 1) with
    | none => none
    | some (xs, k) => some (x :: xs, k)) else none := by
  show (match nm l i with
    | none => none
    | some (x, j) => if l j = 59 then some ([x], j + 1) else if l j = 44 then (match rn l f (j + 1) with
      | none => none
      | some (xs, k) => some (x :: xs, k)) else none) = _
  rw [h]
theorem rn_none (l : Nat → Nat) (f i : Nat) (h : nm l i = none) : rn l f i = none := by
  cases f with
  | zero => rfl
  | succ f =>
    show (match nm l i with
      | none => none
      | some (x, j) => if l j = 59 then some ([x], j + 1) else if l j = 44 then (match rn l f (j + 1) with
        | none => none
        | some (xs, k) => some (x :: xs, k)) else none) = none
    rw [h]
theorem cmo_succ (l : Nat → Nat) (f j : Nat) {x j' : Nat} (h : mo l j = some (x, j')) : cm l (f + 1) j = (match cm l f j' with
    | none => none
    | some (xs, k) => some (x :: xs, k)) := by
  show (match mo l j with
    | none => none
    | some (x, j') => match cm l f j' with
      | none => none
      | some (xs, k) => some (x :: xs, k)) = _
  rw [h]
theorem cmo_none (l : Nat → Nat) (f j : Nat) (h : mo l j = none) : cm l (f + 1) j = none := by
  show (match mo l j with
    | none => none
    | some (x, j') => match cm l f j' with
      | none => none
      | some (xs, k) => some (x :: xs, k)) = none
  rw [h]
theorem mo44 {l : Nat → Nat} {j : Nat} (h : l j = 44) : mo l j = nm l (j + 1) := if_pos h
theorem mo_no {l : Nat → Nat} {j : Nat} (h : ¬ l j = 44) : mo l j = none := if_neg h
/-- what is read at once is what is read one after another -/
theorem rn_cm (l : Nat → Nat) : ∀ (m f i : Nat), m ≤ f → ∀ xs k, rn l (f + 1) i = some (xs, k) → xs.length = m + 1 → ∃ x j0 ys j, nm l i = some (x, j0) ∧ cm l m j0 = some (ys, j) ∧ l j = 59 ∧ xs = x :: ys ∧ k = j + 1 := by
  intro m
  induction m with
  | zero =>
    intro f i _ xs k h hl
    cases hn : nm l i with
    | none =>
      rw [rn_none l _ i hn] at h
      exact absurd h (by simp)
    | some y =>
      obtain ⟨x, j⟩ := y
      rw [rn_succ l f i hn] at h
      by_cases q : l j = 59
      · rw [if_pos q] at h
        obtain ⟨z1, z2⟩ := Prod.mk.inj (Option.some.inj h)
        exact ⟨x, j, [], j, rfl, rfl, q, z1.symm, z2.symm⟩
      · rw [if_neg q] at h
        by_cases q2 : l j = 44
        · rw [if_pos q2] at h
          cases hr : rn l f (j + 1) with
          | none =>
            rw [hr] at h
            exact absurd h (by simp)
          | some y =>
            obtain ⟨ys, k'⟩ := y
            rw [hr] at h
            obtain ⟨z1, z2⟩ := Prod.mk.inj (Option.some.inj h)
            rw [← z1] at hl
            have hl : ys.length + 1 = 0 + 1 := hl
            cases f with
            | zero => exact absurd hr (by unfold rn; simp)
            | succ f =>
              exfalso
              have e : ys = [] := List.length_eq_zero_iff.mp (by omega)
              subst e
              cases hn2 : nm l (j + 1) with
              | none =>
                rw [rn_none l _ _ hn2] at hr
                exact absurd hr (by simp)
              | some y =>
                obtain ⟨x2, j2⟩ := y
                rw [rn_succ l f _ hn2] at hr
                by_cases w : l j2 = 59
                · rw [if_pos w] at hr
                  exact absurd (Prod.mk.inj (Option.some.inj hr)).1 (by simp)
                · rw [if_neg w] at hr
                  by_cases w2 : l j2 = 44
                  · rw [if_pos w2] at hr
                    cases hr2 : rn l f (j2 + 1) with
                    | none =>
                      rw [hr2] at hr
                      exact absurd hr (by simp)
                    | some y =>
                      rw [hr2] at hr
                      exact absurd (Prod.mk.inj (Option.some.inj hr)).1 (by simp)
                  · rw [if_neg w2] at hr
                    exact absurd hr (by simp)
        · rw [if_neg q2] at h
          exact absurd h (by simp)
  | succ m ih =>
    intro f i hf xs k h hl
    obtain ⟨f, rfl⟩ : ∃ g, f = g + 1 := ⟨f - 1, by omega⟩
    cases hn : nm l i with
    | none =>
      rw [rn_none l _ i hn] at h
      exact absurd h (by simp)
    | some y =>
      obtain ⟨x, j⟩ := y
      rw [rn_succ l _ i hn] at h
      by_cases q : l j = 59
      · rw [if_pos q] at h
        obtain ⟨z1, z2⟩ := Prod.mk.inj (Option.some.inj h)
        rw [← z1] at hl
        have hl : 1 = m + 1 + 1 := hl
        omega
      · rw [if_neg q] at h
        by_cases q2 : l j = 44
        · rw [if_pos q2] at h
          cases hr : rn l (f + 1) (j + 1) with
          | none =>
            rw [hr] at h
            exact absurd h (by simp)
          | some y =>
            obtain ⟨ys, k'⟩ := y
            rw [hr] at h
            obtain ⟨z1, z2⟩ := Prod.mk.inj (Option.some.inj h)
            rw [← z1] at hl
            have hl : ys.length + 1 = m + 1 + 1 := hl
            obtain ⟨x2, j2, zs, j3, p1, p2, p3, p4, p5⟩ := ih f (j + 1) (by omega) ys k' hr (by omega)
            refine ⟨x, j, ys, j3, rfl, ?_, p3, z1.symm, by rw [← z2, p5]⟩
            rw [cmo_succ l m j (by rw [mo44 q2]; exact p1), p2, p4]
        · rw [if_neg q2] at h
          exact absurd h (by simp)
theorem cm_rn (l : Nat → Nat) : ∀ (m f i : Nat), m ≤ f → ∀ x j0 ys j, nm l i = some (x, j0) → cm l m j0 = some (ys, j) → l j = 59 → rn l (f + 1) i = some (x :: ys, j + 1) ∧ ys.length = m := by
  intro m
  induction m with
  | zero =>
    intro f i _ x j0 ys j h1 h2 h3
    obtain ⟨z1, z2⟩ := Prod.mk.inj (Option.some.inj h2)
    subst z1
    subst z2
    rw [rn_succ l f i h1, if_pos h3]
    exact ⟨rfl, rfl⟩
  | succ m ih =>
    intro f i hf x j0 ys j h1 h2 h3
    obtain ⟨f, rfl⟩ : ∃ g, f = g + 1 := ⟨f - 1, by omega⟩
    by_cases q : l j0 = 44
    · cases hn : nm l (j0 + 1) with
      | none =>
        rw [cmo_none l m j0 (by rw [mo44 q]; exact hn)] at h2
        exact absurd h2 (by simp)
      | some y =>
        obtain ⟨x2, j2⟩ := y
        rw [cmo_succ l m j0 (by rw [mo44 q]; exact hn)] at h2
        cases hc : cm l m j2 with
        | none =>
          rw [hc] at h2
          exact absurd h2 (by simp)
        | some y =>
          obtain ⟨zs, k⟩ := y
          rw [hc] at h2
          obtain ⟨z1, z2⟩ := Prod.mk.inj (Option.some.inj h2)
          subst z1
          subst z2
          obtain ⟨e1, e2⟩ := ih f (j0 + 1) (by omega) x2 j2 zs k hn hc h3
          rw [rn_succ l _ i h1, if_neg (by omega), if_pos q, e1]
          exact ⟨rfl, by show zs.length + 1 = m + 1; omega⟩
    · rw [cmo_none l m j0 (mo_no q)] at h2
      exact absurd h2 (by simp)
