theorem q_set2 : ∀ (k v : Nat) (B : hM) (n : Nat), v + k = 6 → k < n → ∃ B1 : hM, X5_settles_l145 n (nI v) B = X5_settles_l195 hF 0 B1 ∧ (∀ g, v ≤ g → g < 6 → B1 98 g = B 108 g ∧ B1 99 g = B 109 g ∧ B1 100 g = B 110 g) ∧ (∀ a, ¬ (98 ≤ a ∧ a ≤ 100) → B1 a = B a) ∧ (∀ a g, g < v → B1 a g = B a g) := by
  intro k
  induction k with
  | zero =>
    intro v B n hv hn
    obtain ⟨n, rfl⟩ : ∃ j, n = j + 1 := ⟨n - 1, by omega⟩
    obtain rfl : v = 6 := by omega
    have c1 : (6 : Int32) ≤ nI 6 := by decide
    refine ⟨B, ?_, fun g h1 h2 => absurd h1 (by omega), fun _ _ => rfl, fun _ _ _ => rfl⟩
    show X5_settles_h145 _ (nI 6) B = _
    unfold X5_settles_h145
    rw [if_pos c1]
  | succ k ih =>
    intro v B n hv hn
    obtain ⟨n, rfl⟩ : ∃ j, n = j + 1 := ⟨n - 1, by omega⟩
    have c1 : ¬ (6 : Int32) ≤ nI v := nI_ge (b := 6) (by omega) (by decide)
    have x6 : hx (nI v) 6 = true := q_hx (by omega) (by decide)
    have i6 : (nI v).toNatClampNeg = v := nI_clamp (by omega)
    have r : ∀ a b : Nat, a ≠ b → ∀ (I : hM) j w i, hu I b j w a i = I a i := fun a b h I j w i => q_ha I j w i h
    obtain ⟨B1, e1, e2, e3, e4⟩ := ih (v + 1) (hu (hu (hu B 98 v (B 108 v)) 99 v (B 109 v)) 100 v (B 110 v)) n (by omega) (by omega)
    have hst : X5_settles_l145 (n + 1) (nI v) B = X5_settles_l145 n (nI (v + 1)) (hu (hu (hu B 98 v (B 108 v)) 99 v (B 109 v)) 100 v (B 110 v)) := by
      have r1 := r 109 98 (by decide)
      have r2 := r 110 98 (by decide)
      have r3 := r 110 99 (by decide)
      show X5_settles_h145 (X5_settles_l145 n) (nI v) B = _
      simp only [X5_settles_h145, c1, x6, i6, r1, r2, r3, gd_t, nI_1, ↓reduceIte]
    have hCg : ∀ a g, g ≠ v → hu (hu (hu B 98 v (B 108 v)) 99 v (B 109 v)) 100 v (B 110 v) a g = B a g := fun a g hg => by
      have one : ∀ (I : hM) b w, hu I b v w a g = I a g := fun I b w => by
        by_cases z : a = b
        · subst z
          exact q_hi _ _ hg
        · exact q_ha _ _ _ _ z
      rw [one, one, one]
    refine ⟨B1, hst.trans e1, fun g h1 h2 => ?_, fun a h1 => ?_, fun a g hg => ?_⟩
    · by_cases hgv : g = v
      · subst hgv
        rw [e4 98 g (by omega), e4 99 g (by omega), e4 100 g (by omega)]
        refine ⟨?_, ?_, q_hu _ _ _ _⟩
        · rw [r 98 100 (by decide), r 98 99 (by decide), q_hu]
        · rw [r 99 100 (by decide), q_hu]
      · obtain ⟨f1, f2, f3⟩ := e2 g (by omega) h2
        rw [hCg _ _ hgv] at f1 f2 f3
        exact ⟨f1, f2, f3⟩
    · rw [e3 a h1, q_hr _ _ _ (by omega), q_hr _ _ _ (by omega), q_hr _ _ _ (by omega)]
    · rw [e4 a g (by omega), hCg _ _ (by omega)]
theorem q_set3 : ∀ (k v : Nat) (B : hM) (n : Nat), v + k = 4 → k < n → ∃ B1 : hM, X5_settles_l195 n (nI v) B = X5_settles_b257 B1 ∧ (∀ g, v ≤ g → g < 4 → B1 101 g = B 111 g ∧ B1 102 g = B 112 g ∧ B1 113 (14 + g) = if B 92 10 ≤ nI g then 0 else B 111 g) ∧ (∀ a, a ≠ 101 → a ≠ 102 → a ≠ 113 → B1 a = B a) ∧ (∀ a g, a ≠ 113 → g < v → B1 a g = B a g) ∧ (∀ j, ¬ (14 + v ≤ j ∧ j < 18) → B1 113 j = B 113 j) := by
  intro k
  induction k with
  | zero =>
    intro v B n hv hn
    obtain ⟨n, rfl⟩ : ∃ j, n = j + 1 := ⟨n - 1, by omega⟩
    obtain rfl : v = 4 := by omega
    have c1 : (4 : Int32) ≤ nI 4 := by decide
    refine ⟨B, ?_, fun g h1 h2 => absurd h1 (by omega), fun _ _ _ _ => rfl, fun _ _ _ _ => rfl, fun _ _ => rfl⟩
    show X5_settles_h195 _ (nI 4) B = _
    unfold X5_settles_h195
    rw [if_pos c1]
  | succ k ih =>
    intro v B n hv hn
    obtain ⟨n, rfl⟩ : ∃ j, n = j + 1 := ⟨n - 1, by omega⟩
    have c1 : ¬ (4 : Int32) ≤ nI v := nI_ge (b := 4) (by omega) (by decide)
    have x4 : hx (nI v) 4 = true := q_hx (by omega) (by decide)
    have i4 : (nI v).toNatClampNeg = v := nI_clamp (by omega)
    obtain ⟨s14, s14x⟩ := q_14g (g := v) (by omega)
    have r : ∀ a b : Nat, a ≠ b → ∀ (I : hM) j w i, hu I b j w a i = I a i := fun a b h I j w i => q_ha I j w i h
    obtain ⟨B1, e1, e2, e3, e4, e5⟩ := ih (v + 1) (hu (hu (hu B 101 v (B 111 v)) 102 v (B 112 v)) 113 (14 + v) (if B 92 10 ≤ nI v then 0 else B 111 v)) n (by omega) (by omega)
    have hst : X5_settles_l195 (n + 1) (nI v) B = X5_settles_l195 n (nI (v + 1)) (hu (hu (hu B 101 v (B 111 v)) 102 v (B 112 v)) 113 (14 + v) (if B 92 10 ≤ nI v then 0 else B 111 v)) := by
      have r1 := r 112 101 (by decide)
      have r2 := r 92 101 (by decide)
      have r3 := r 92 102 (by decide)
      have r4 := r 101 102 (by decide)
      show X5_settles_h195 (X5_settles_l195 n) (nI v) B = _
      by_cases p : B 92 10 ≤ nI v
      · rw [if_pos p]
        simp only [X5_settles_h195, c1, x4, i4, s14, s14x, r1, r2, r3, r4, p, q_hu, gd_t, nI_1, ↓reduceIte]
      · rw [if_neg p]
        simp only [X5_settles_h195, c1, x4, i4, s14, s14x, r1, r2, r3, r4, p, q_hu, gd_t, nI_1, ↓reduceIte]
    have hCg : ∀ a g, a ≠ 113 → g ≠ v → hu (hu (hu B 101 v (B 111 v)) 102 v (B 112 v)) 113 (14 + v) (if B 92 10 ≤ nI v then 0 else B 111 v) a g = B a g := fun a g ha hg => by
      have one : ∀ (I : hM) b w, hu I b v w a g = I a g := fun I b w => by
        by_cases z : a = b
        · subst z
          exact q_hi _ _ hg
        · exact q_ha _ _ _ _ z
      rw [q_ha _ _ _ _ ha, one, one]
    refine ⟨B1, hst.trans e1, fun g h1 h2 => ?_, fun a h1 h2 h3 => ?_, fun a g ha hg => ?_, fun j hj => ?_⟩
    · by_cases hgv : g = v
      · subst hgv
        rw [e4 101 g (by decide) (by omega), e4 102 g (by decide) (by omega), e5 (14 + g) (by omega), q_hu]
        refine ⟨?_, ?_, rfl⟩
        · rw [r 101 113 (by decide), r 101 102 (by decide), q_hu]
        · rw [r 102 113 (by decide), q_hu]
      · obtain ⟨f1, f2, f3⟩ := e2 g (by omega) h2
        rw [hCg _ _ (by decide) hgv] at f1 f2 f3
        rw [r 92 113 (by decide), r 92 102 (by decide), r 92 101 (by decide)] at f3
        exact ⟨f1, f2, f3⟩
    · rw [e3 a h1 h2 h3, q_hr _ _ _ h3, q_hr _ _ _ h2, q_hr _ _ _ h1]
    · rw [e4 a g ha (by omega), hCg _ _ ha (by omega)]
    · rw [e5 j (by omega), q_hi _ _ (by omega), q_ha _ _ _ _ (by decide), q_ha _ _ _ _ (by decide)]
