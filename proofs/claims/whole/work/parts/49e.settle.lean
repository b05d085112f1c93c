/-! the model lays what it read -/
theorem q_set1 : ∀ (k v : Nat) (B : hM) (n : Nat), v + k = 7 → k < n → ∃ B1 : hM, X5_settles_l26 n (nI v) B = X5_settles_l145 hF 0 B1 ∧ (∀ g, v ≤ g → g < 7 → B1 93 g = B 103 g ∧ B1 94 g = B 104 g ∧ B1 95 g = B 105 g ∧ B1 96 g = B 106 g ∧ B1 97 g = B 107 g ∧ B1 113 g = 0 ∧ B1 113 (7 + g) = if B 92 0 ≤ nI g ∨ B 104 g = 99 then -1 else B 104 g) ∧ (∀ a, ¬ (93 ≤ a ∧ a ≤ 97) → a ≠ 113 → B1 a = B a) ∧ (∀ a g, g < v → B1 a g = B a g) ∧ (∀ j, 14 ≤ j → B1 113 j = B 113 j) ∧ (∀ g, g < v → B1 113 (7 + g) = B 113 (7 + g)) := by
  intro k
  induction k with
  | zero =>
    intro v B n hv hn
    obtain ⟨n, rfl⟩ : ∃ j, n = j + 1 := ⟨n - 1, by omega⟩
    obtain rfl : v = 7 := by omega
    have c1 : (7 : Int32) ≤ nI 7 := by decide
    refine ⟨B, ?_, fun g h1 h2 => absurd h1 (by omega), fun _ _ _ => rfl, fun _ _ _ => rfl, fun _ _ => rfl, fun _ _ => rfl⟩
    show X5_settles_h26 _ (nI 7) B = _
    unfold X5_settles_h26
    rw [if_pos c1]
  | succ k ih =>
    intro v B n hv hn
    obtain ⟨n, rfl⟩ : ∃ j, n = j + 1 := ⟨n - 1, by omega⟩
    have c1 : ¬ (7 : Int32) ≤ nI v := nI_ge (b := 7) (by omega) (by decide)
    have x7 : hx (nI v) 7 = true := q_hx (by omega) (by decide)
    have x240 : hx (nI v) 240 = true := q_hx (by omega) (by decide)
    have i7 : (nI v).toNatClampNeg = v := nI_clamp (by omega)
    obtain ⟨s7, s7x⟩ := q_7g (g := v) (by omega)
    obtain ⟨C, hC⟩ : ∃ C, C = hu (hu (hu (hu (hu (hu B 93 v (B 103 v)) 94 v (B 104 v)) 95 v (B 105 v)) 96 v (B 106 v)) 97 v (B 107 v)) 113 v 0 := ⟨_, rfl⟩
    obtain ⟨B1, e1, e2, e3, e4, e5, e6⟩ := ih (v + 1) (hu C 113 (7 + v) (if B 92 0 ≤ nI v ∨ B 104 v = 99 then -1 else B 104 v)) n (by omega) (by omega)
    have r : ∀ a b : Nat, a ≠ b → ∀ (I : hM) j w i, hu I b j w a i = I a i := fun a b h I j w i => q_ha I j w i h
    have hst : X5_settles_l26 (n + 1) (nI v) B = X5_settles_l26 n (nI (v + 1)) (hu C 113 (7 + v) (if B 92 0 ≤ nI v ∨ B 104 v = 99 then -1 else B 104 v)) := by
      have r1 := r 104 93 (by decide)
      have r2 := r 105 93 (by decide)
      have r3 := r 105 94 (by decide)
      have r4 := r 106 93 (by decide)
      have r5 := r 106 94 (by decide)
      have r6 := r 106 95 (by decide)
      have r7 := r 107 93 (by decide)
      have r8 := r 107 94 (by decide)
      have r9 := r 107 95 (by decide)
      have ra := r 107 96 (by decide)
      have rb := r 94 95 (by decide)
      have rc := r 94 96 (by decide)
      have rd := r 94 97 (by decide)
      have re := r 94 113 (by decide)
      show X5_settles_h26 (X5_settles_l26 n) (nI v) B = _
      rw [hC]
      have z1 := r 92 93 (by decide)
      have z2 := r 92 94 (by decide)
      have z3 := r 92 95 (by decide)
      have z4 := r 92 96 (by decide)
      have z5 := r 92 97 (by decide)
      have z6 := r 92 113 (by decide)
      by_cases p : B 92 0 ≤ nI v
      · rw [if_pos (Or.inl p)]
        simp only [X5_settles_h26, X5_settles_b126, c1, x7, x240, i7, s7, s7x, r1, r2, r3, r4, r5, r6, r7, r8, r9, ra, rb, rc, rd, re, z1, z2, z3, z4, z5, z6, q_hu, p, gd_t, nI_1, ↓reduceIte]
      · by_cases q : B 104 v = 99
        · rw [if_pos (Or.inr q)]
          simp only [X5_settles_h26, X5_settles_b126, c1, x7, x240, i7, s7, s7x, r1, r2, r3, r4, r5, r6, r7, r8, r9, ra, rb, rc, rd, re, z1, z2, z3, z4, z5, z6, q_hu, p, q, gd_t, nI_1, ↓reduceIte]
        · rw [if_neg (fun y => y.elim p q)]
          simp only [X5_settles_h26, X5_settles_b126, c1, x7, x240, i7, s7, s7x, r1, r2, r3, r4, r5, r6, r7, r8, r9, ra, rb, rc, rd, re, z1, z2, z3, z4, z5, z6, q_hu, p, q, gd_t, nI_1, ↓reduceIte]
    have hCo : ∀ a, ¬ (93 ≤ a ∧ a ≤ 97) → a ≠ 113 → C a = B a := fun a h1 h2 => by
      rw [hC, q_hr _ _ _ h2, q_hr _ _ _ (by omega), q_hr _ _ _ (by omega), q_hr _ _ _ (by omega), q_hr _ _ _ (by omega), q_hr _ _ _ (by omega)]
    have hCg : ∀ a g, g ≠ v → C a g = B a g := fun a g hg => by
      have one : ∀ (I : hM) b w, hu I b v w a g = I a g := fun I b w => by
        by_cases z : a = b
        · subst z
          exact q_hi _ _ hg
        · exact q_ha _ _ _ _ z
      rw [hC, one, one, one, one, one, one]
    refine ⟨B1, hst.trans e1, fun g h1 h2 => ?_, fun a h1 h2 => ?_, fun a g hg => ?_, fun j hj => ?_, fun g hg => ?_⟩
    · by_cases hgv : g = v
      · subst hgv
        rw [e4 93 g (by omega), e4 94 g (by omega), e4 95 g (by omega), e4 96 g (by omega), e4 97 g (by omega), e4 113 g (by omega), e6 g (by omega), q_hu, q_ha _ _ _ _ (by decide), q_ha _ _ _ _ (by decide), q_ha _ _ _ _ (by decide), q_ha _ _ _ _ (by decide), q_ha _ _ _ _ (by decide), q_hi _ _ (by omega), hC]
        refine ⟨?_, ?_, ?_, ?_, ?_, q_hu _ _ _ _, rfl⟩
        · rw [r 93 113 (by decide), r 93 97 (by decide), r 93 96 (by decide), r 93 95 (by decide), r 93 94 (by decide), q_hu]
        · rw [r 94 113 (by decide), r 94 97 (by decide), r 94 96 (by decide), r 94 95 (by decide), q_hu]
        · rw [r 95 113 (by decide), r 95 97 (by decide), r 95 96 (by decide), q_hu]
        · rw [r 96 113 (by decide), r 96 97 (by decide), q_hu]
        · rw [r 97 113 (by decide), q_hu]
      · obtain ⟨f1, f2, f3, f4, f5, f6, f7⟩ := e2 g (by omega) h2
        have o : ∀ a, a ≠ 113 → hu C 113 (7 + v) (if B 92 0 ≤ nI v ∨ B 104 v = 99 then -1 else B 104 v) a g = B a g := fun a ha => by rw [q_ha _ _ _ _ ha, hCg a g hgv]
        rw [o 103 (by decide)] at f1
        rw [o 104 (by decide)] at f2 f7
        rw [q_ha _ _ _ _ (show 92 ≠ 113 by decide), hCo 92 (by omega) (by decide)] at f7
        rw [o 105 (by decide)] at f3
        rw [o 106 (by decide)] at f4
        rw [o 107 (by decide)] at f5
        exact ⟨f1, f2, f3, f4, f5, f6, f7⟩
    · rw [e3 a h1 h2, q_hr _ _ _ h2, hCo a h1 h2]
    · rw [e4 a g (by omega)]
      by_cases z : a = 113
      · subst z
        rw [q_hi _ _ (by omega), hCg _ _ (by omega)]
      · rw [q_ha _ _ _ _ z, hCg _ _ (by omega)]
    · rw [e5 j hj, q_hi _ _ (by omega), hCg _ _ (by omega)]
    · rw [e6 g (by omega), q_hi _ _ (by omega), hCg _ _ (by omega)]
