theorem cm_inv {l : Nat → Nat} {m j k : Nat} {ys : List Nat} (h : cm l (m + 1) j = some (ys, k)) : ∃ x j1 zs, mo l j = some (x, j1) ∧ cm l m j1 = some (zs, k) ∧ ys = x :: zs := by
  cases hm : mo l j with
  | none =>
    rw [cmo_none l m j hm] at h
    exact absurd h (by simp)
  | some y =>
    obtain ⟨x, j1⟩ := y
    rw [cmo_succ l m j hm] at h
    cases hc : cm l m j1 with
    | none =>
      rw [hc] at h
      exact absurd h (by simp)
    | some y =>
      obtain ⟨zs, k'⟩ := y
      rw [hc] at h
      obtain ⟨z1, z2⟩ := Prod.mk.inj (Option.some.inj h)
      subst z2
      exact ⟨x, j1, zs, rfl, hc, z1.symm⟩
theorem cm_zero {l : Nat → Nat} {j k : Nat} {ys : List Nat} (h : cm l 0 j = some (ys, k)) : ys = [] ∧ k = j := by
  obtain ⟨z1, z2⟩ := Prod.mk.inj (Option.some.inj h)
  exact ⟨z1.symm, z2.symm⟩
theorem q_gch1 {l : Nat → Nat} {i k : Nat} {xs : List Nat} (h : rn l 5 i = some (xs, k)) (h5 : xs.length = 5) : ∃ j, gch l i (fun t => xs.getD t 0) j ∧ l j = 59 ∧ k = j + 1 := by
  obtain ⟨x0, j0, ys, j, e1, e2, e3, e4, e5⟩ := rn_cm l 4 4 i (Nat.le_refl _) xs k h h5
  obtain ⟨x1, j1, y1, m1, c1, rfl⟩ := cm_inv e2
  obtain ⟨x2, j2, y2, m2, c2, rfl⟩ := cm_inv c1
  obtain ⟨x3, j3, y3, m3, c3, rfl⟩ := cm_inv c2
  obtain ⟨x4, j4, y4, m4, c4, rfl⟩ := cm_inv c3
  obtain ⟨rfl, rfl⟩ := cm_zero c4
  subst e4
  exact ⟨j, ⟨j0, j1, j2, j3, e1, m1, m2, m3, m4⟩, e3, e5⟩
theorem q_gch2 {l : Nat → Nat} {i j : Nat} {x : Nat → Nat} (h : gch l i x j) (h59 : l j = 59) : ∃ xs, rn l 5 i = some (xs, j + 1) ∧ xs.length = 5 ∧ ∀ t, t < 5 → xs.getD t 0 = x t := by
  obtain ⟨j0, j1, j2, j3, e0, e1, e2, e3, e4⟩ := h
  have c0 : cm l 0 j = some ([], j) := rfl
  have c1 : cm l 1 j3 = some ([x 4], j) := by rw [cmo_succ l 0 j3 e4, c0]
  have c2 : cm l 2 j2 = some ([x 3, x 4], j) := by rw [cmo_succ l 1 j2 e3, c1]
  have c3 : cm l 3 j1 = some ([x 2, x 3, x 4], j) := by rw [cmo_succ l 2 j1 e2, c2]
  have c4 : cm l 4 j0 = some ([x 1, x 2, x 3, x 4], j) := by rw [cmo_succ l 3 j0 e1, c3]
  obtain ⟨r1, -⟩ := cm_rn l 4 4 i (Nat.le_refl _) (x 0) j0 _ j e0 c4 h59
  refine ⟨_, r1, rfl, fun t ht => ?_⟩
  rcases (show t = 0 ∨ t = 1 ∨ t = 2 ∨ t = 3 ∨ t = 4 by omega) with rfl | rfl | rfl | rfl | rfl <;> rfl
theorem q_fch1 {l : Nat → Nat} {i k : Nat} {xs : List Nat} (h : rn l 5 i = some (xs, k)) (h3 : xs.length = 3) : ∃ j, fch l i (fun t => xs.getD t 0) j ∧ l j = 59 ∧ k = j + 1 := by
  obtain ⟨x0, j0, ys, j, e1, e2, e3, e4, e5⟩ := rn_cm l 2 4 i (by decide) xs k h h3
  obtain ⟨x1, j1, y1, m1, c1, rfl⟩ := cm_inv e2
  obtain ⟨x2, j2, y2, m2, c2, rfl⟩ := cm_inv c1
  obtain ⟨rfl, rfl⟩ := cm_zero c2
  subst e4
  exact ⟨j, ⟨j0, j1, e1, m1, m2⟩, e3, e5⟩
theorem q_fch2 {l : Nat → Nat} {i j : Nat} {x : Nat → Nat} (h : fch l i x j) (h59 : l j = 59) : ∃ xs, rn l 5 i = some (xs, j + 1) ∧ xs.length = 3 ∧ ∀ t, t < 3 → xs.getD t 0 = x t := by
  obtain ⟨j0, j1, e0, e1, e2⟩ := h
  have c0 : cm l 0 j = some ([], j) := rfl
  have c1 : cm l 1 j1 = some ([x 2], j) := by rw [cmo_succ l 0 j1 e2, c0]
  have c2 : cm l 2 j0 = some ([x 1, x 2], j) := by rw [cmo_succ l 1 j0 e1, c1]
  obtain ⟨r1, -⟩ := cm_rn l 2 4 i (by decide) (x 0) j0 _ j e0 c2 h59
  refine ⟨_, r1, rfl, fun t ht => ?_⟩
  rcases (show t = 0 ∨ t = 1 ∨ t = 2 by omega) with rfl | rfl | rfl <;> rfl
