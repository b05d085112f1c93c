/-- this program lays what it read -/
theorem q_startL : ∀ (k v : Nat) (A : hM) (n : Nat), v + k = 7 → k < n → ∃ A1 : hM, X2_start_l12 26 4 n (nI v) A = X2_start_b66 26 4 A1 ∧ (∀ g, v ≤ g → g < 7 → A1 27 g = 0 ∧ A1 28 g = (if A 6 g = 99 then 1000000 else A 6 g) ∧ A1 29 g = 0) ∧ (∀ a, ¬ (27 ≤ a ∧ a ≤ 29) → A1 a = A a) ∧ (∀ a g, g < v → A1 a g = A a g) := by
  intro k
  induction k with
  | zero =>
    intro v A n hv hn
    obtain ⟨n, rfl⟩ : ∃ j, n = j + 1 := ⟨n - 1, by omega⟩
    obtain rfl : v = 7 := by omega
    have c1 : (7 : Int32) ≤ nI 7 := by decide
    refine ⟨A, ?_, fun g h1 h2 => absurd h1 (by omega), fun _ _ => rfl, fun _ _ _ => rfl⟩
    show X2_start_h12 26 4 _ (nI 7) A = _
    unfold X2_start_h12
    rw [if_pos c1]
  | succ k ih =>
    intro v A n hv hn
    obtain ⟨n, rfl⟩ : ∃ j, n = j + 1 := ⟨n - 1, by omega⟩
    have c1 : ¬ (7 : Int32) ≤ nI v := nI_ge (b := 7) (by omega) (by decide)
    have x7 : hx (nI v) 7 = true := q_hx (by omega) (by decide)
    have i7 : (nI v).toNatClampNeg = v := nI_clamp (by omega)
    obtain ⟨A1, e1, e2, e3, e4⟩ := ih (v + 1) (hu (hu (hu A 27 v 0) 28 v (if A 6 v = 99 then 1000000 else A 6 v)) 29 v 0) n (by omega) (by omega)
    have hst : X2_start_l12 26 4 (n + 1) (nI v) A = X2_start_l12 26 4 n (nI (v + 1)) (hu (hu (hu A 27 v 0) 28 v (if A 6 v = 99 then 1000000 else A 6 v)) 29 v 0) := by
      have r1 : ∀ (I : hM) j w i, hu I 27 j w 6 i = I 6 i := fun I j w i => q_ha I j w i (by decide)
      show X2_start_h12 26 4 (X2_start_l12 26 4 n) (nI v) A = _
      by_cases p : A 6 v = 99
      · rw [if_pos p]
        simp only [X2_start_h12, X2_start_b52, Nat.reduceAdd, c1, x7, i7, r1, p, gd_t, nI_1, ↓reduceIte]
      · rw [if_neg p]
        simp only [X2_start_h12, X2_start_b52, Nat.reduceAdd, c1, x7, i7, r1, p, gd_t, nI_1, ↓reduceIte]
    have hCg : ∀ a g, g ≠ v → hu (hu (hu A 27 v 0) 28 v (if A 6 v = 99 then 1000000 else A 6 v)) 29 v 0 a g = A a g := fun a g hg => by
      have one : ∀ (I : hM) b w, hu I b v w a g = I a g := fun I b w => by
        by_cases z : a = b
        · subst z
          exact q_hi _ _ hg
        · exact q_ha _ _ _ _ z
      rw [one, one, one]
    refine ⟨A1, hst.trans e1, fun g h1 h2 => ?_, fun a h1 => ?_, fun a g hg => ?_⟩
    · by_cases hgv : g = v
      · subst hgv
        rw [e4 27 g (by omega), e4 28 g (by omega), e4 29 g (by omega)]
        refine ⟨?_, ?_, q_hu _ _ _ _⟩
        · rw [q_ha _ _ _ _ (by decide), q_ha _ _ _ _ (by decide), q_hu]
        · rw [q_ha _ _ _ _ (by decide), q_hu]
      · obtain ⟨f1, f2, f3⟩ := e2 g (by omega) h2
        rw [hCg _ _ hgv] at f2
        exact ⟨f1, f2, f3⟩
    · rw [e3 a h1, q_hr _ _ _ (by omega), q_hr _ _ _ (by omega), q_hr _ _ _ (by omega)]
    · rw [e4 a g (by omega), hCg _ _ (by omega)]
theorem q_start (A : hM) : ∃ A1 : hM, X2_start 26 4 A = some (0, A1) ∧ A1 26 0 = 0 ∧ A1 26 1 = 0 ∧ (∀ g, g < 7 → A1 27 g = 0 ∧ A1 28 g = (if A 6 g = 99 then 1000000 else A 6 g) ∧ A1 29 g = 0) ∧ (∀ l, l < 4 → A1 30 l = A 13 l) ∧ (∀ a, ¬ (26 ≤ a ∧ a ≤ 30) → A1 a = A a) := by
  obtain ⟨A1, e1, e2, e3, -⟩ := q_startL 7 0 (hu (hu A 26 0 0) 26 1 0) hF (by decide) (show 7 < 1024 by decide)
  rw [nI_0] at e1
  have h26 := e3 26 (by decide)
  refine ⟨hcp A1 30 (va_cpy (A1 13) (A1 30) 0 0 4), ?_, ?_, ?_, fun g hg => ?_, fun l hl => ?_, fun a ha => ?_⟩
  · unfold X2_start
    exact e1.trans rfl
  · rw [hcp_ne _ _ _ _ (by decide), h26, q_hi _ _ (by decide), q_hu]
  · rw [hcp_ne _ _ _ _ (by decide), h26, q_hu]
  · obtain ⟨f1, f2, f3⟩ := e2 g (Nat.zero_le _) hg
    rw [hcp_ne _ _ _ _ (by decide), hcp_ne _ _ _ _ (by decide), hcp_ne _ _ _ _ (by decide), f1, f2, f3, q_ha _ _ _ _ (by decide), q_ha _ _ _ _ (by decide)]
    exact ⟨rfl, rfl, rfl⟩
  · rw [q_cp _ _ _ _ l hl, e3 13 (by decide), q_ha _ _ _ _ (by decide), q_ha _ _ _ _ (by decide)]
  · rw [hcp_ne _ _ _ _ (by omega), e3 a (by omega), q_hr _ _ _ (by omega), q_hr _ _ _ (by omega)]
