/-- what was read, in both -/
def Dw (A B : hM) (d N F L : Nat) : Prop := (N ≤ 7 ∧ F ≤ 6 ∧ L ≤ 4) ∧ (A d 0 = nI N ∧ B 92 13 = nI N) ∧ (A d 1 = nI F ∧ B 92 19 = nI F) ∧ (A d 2 = nI L ∧ B 92 23 = nI L) ∧
  (∀ g, g < N → ∃ k b i w m, k < 4 ∧ (b ≤ 60 ∨ b = 99) ∧ i ≤ 20 ∧ w ≤ 5 ∧ (1 ≤ m ∧ m ≤ 40) ∧ (A (d + 1) g = nI k ∧ B 103 g = nI k) ∧ (A (d + 2) g = nI b ∧ B 104 g = nI b) ∧ (A (d + 3) g = nI i ∧ B 105 g = nI i) ∧ (A (d + 4) g = nI w ∧ B 106 g = nI w) ∧ (A (d + 5) g = nI m ∧ B 107 g = nI m)) ∧
  (∀ j, j < F → ∃ a b e, a < N ∧ b < N ∧ e ≤ 20 ∧ (A (d + 6) j = nI a ∧ B 108 j = nI a) ∧ (A (d + 7) j = nI b ∧ B 109 j = nI b) ∧ (A (d + 8) j = nI e ∧ B 110 j = nI e)) ∧
  (∀ l, l < L → ∃ p r, p ≤ 9 ∧ r < 16 ∧ (A (d + 9) l = nI p ∧ B 111 l = nI p) ∧ (A (d + 10) l = nI r ∧ B 112 l = nI r))
/-- the model's laying, whole -/
theorem q_settles (B : hM) : ∃ B1 : hM, X5_settles B = some (0, B1) ∧ (B1 92 0 = B 92 13 ∧ B1 92 6 = B 92 19 ∧ B1 92 10 = B 92 23) ∧ (∀ g, g < 7 → B1 93 g = B 103 g ∧ B1 94 g = B 104 g ∧ B1 95 g = B 105 g ∧ B1 96 g = B 106 g ∧ B1 97 g = B 107 g ∧ B1 113 g = 0 ∧ B1 113 (7 + g) = if B 92 13 ≤ nI g ∨ B 104 g = 99 then -1 else B 104 g) ∧ (∀ j, j < 6 → B1 98 j = B 108 j ∧ B1 99 j = B 109 j ∧ B1 100 j = B 110 j) ∧ (∀ l, l < 4 → B1 101 l = B 111 l ∧ B1 102 l = B 112 l ∧ B1 113 (14 + l) = if B 92 23 ≤ nI l then 0 else B 111 l) ∧ B1 113 18 = 0 ∧ B1 113 19 = 0 ∧ (∀ a, ¬ (93 ≤ a ∧ a ≤ 102) → a ≠ 92 → a ≠ 113 → B1 a = B a) ∧ (∀ i, i ≠ 0 → i ≠ 6 → i ≠ 10 → B1 92 i = B 92 i) ∧ (∀ j, 20 ≤ j → B1 113 j = B 113 j) := by
  obtain ⟨C, hC⟩ : ∃ C, C = hu (hu (hu B 92 0 (B 92 13)) 92 6 (B 92 19)) 92 10 (B 92 23) := ⟨_, rfl⟩
  have hu0 : X5_settles B = X5_settles_l26 hF 0 C := by
    unfold X5_settles
    rw [q_hi _ _ (show 19 ≠ 0 by decide), q_hi _ _ (show 23 ≠ 6 by decide), q_hi _ _ (show 23 ≠ 0 by decide), hC]
  have hCo : ∀ a, a ≠ 92 → C a = B a := fun a ha => by rw [hC, q_hr _ _ _ ha, q_hr _ _ _ ha, q_hr _ _ _ ha]
  have c0 : C 92 0 = B 92 13 := by rw [hC, q_hi _ _ (by decide), q_hi _ _ (by decide), q_hu]
  have c6 : C 92 6 = B 92 19 := by rw [hC, q_hi _ _ (by decide), q_hu]
  have c10 : C 92 10 = B 92 23 := by rw [hC, q_hu]
  have ci : ∀ i, i ≠ 0 → i ≠ 6 → i ≠ 10 → C 92 i = B 92 i := fun i h1 h2 h3 => by rw [hC, q_hi _ _ h3, q_hi _ _ h2, q_hi _ _ h1]
  obtain ⟨D, d1, d2, d3, d4, d5, d6⟩ := q_set1 7 0 C hF (by decide) (show 7 < 1024 by decide)
  obtain ⟨E, e1, e2, e3, e4⟩ := q_set2 6 0 D hF (by decide) (show 6 < 1024 by decide)
  obtain ⟨G, g1, g2, g3, g4, g5⟩ := q_set3 4 0 E hF (by decide) (show 4 < 1024 by decide)
  rw [nI_0] at d1 e1 g1
  have i18 : (18 : Int32).toNatClampNeg = 18 := by decide
  have x18 : hx 18 240 = true := by decide
  have i19 : (19 : Int32).toNatClampNeg = 19 := by decide
  have x19 : hx 19 240 = true := by decide
  have o : ∀ a, a ≠ 113 → hu (hu G 113 18 0) 113 19 0 a = G a := fun a ha => by rw [q_hr _ _ _ ha, q_hr _ _ _ ha]
  have s : ∀ j, j ≠ 18 → j ≠ 19 → hu (hu G 113 18 0) 113 19 0 113 j = G 113 j := fun j h1 h2 => by rw [q_hi _ _ h2, q_hi _ _ h1]
  have G92 : G 92 = C 92 := by rw [g3 92 (by decide) (by decide) (by decide), e3 92 (by decide), d3 92 (by decide) (by decide)]
  have E113 : E 113 = D 113 := e3 113 (by decide)
  refine ⟨hu (hu G 113 18 0) 113 19 0, ?_, ⟨by rw [o 92 (by decide), G92]; exact c0, by rw [o 92 (by decide), G92]; exact c6, by rw [o 92 (by decide), G92]; exact c10⟩, fun g hg => ?_, fun j hj => ?_, fun l hl => ?_, ?_, q_hu _ _ _ _, fun a h1 h2 h3 => ?_, fun i h1 h2 h3 => ?_, fun j hj => ?_⟩
  · rw [hu0, d1, e1, g1]
    unfold X5_settles_b257
    rw [x18, gd_t, x19, gd_t, i18, i19]
  · obtain ⟨f1, f2, f3, f4, f5, f6, f7⟩ := d2 g (Nat.zero_le _) hg
    have k : ∀ a, 93 ≤ a → a ≤ 97 → hu (hu G 113 18 0) 113 19 0 a = D a := fun a h1 h2 => by rw [o a (by omega), g3 a (by omega) (by omega) (by omega), e3 a (by omega)]
    rw [k 93 (by decide) (by decide), k 94 (by decide) (by decide), k 95 (by decide) (by decide), k 96 (by decide) (by decide), k 97 (by decide) (by decide), s g (by omega) (by omega), s (7 + g) (by omega) (by omega), g5 g (by omega), g5 (7 + g) (by omega), E113, f1, f2, f3, f4, f5, f6, f7, hCo 103 (by decide), hCo 104 (by decide), hCo 105 (by decide), hCo 106 (by decide), hCo 107 (by decide), c0]
    exact ⟨rfl, rfl, rfl, rfl, rfl, rfl, rfl⟩
  · obtain ⟨f1, f2, f3⟩ := e2 j (Nat.zero_le _) hj
    have k : ∀ a, 98 ≤ a → a ≤ 100 → hu (hu G 113 18 0) 113 19 0 a = E a := fun a h1 h2 => by rw [o a (by omega), g3 a (by omega) (by omega) (by omega)]
    rw [k 98 (by decide) (by decide), k 99 (by decide) (by decide), k 100 (by decide) (by decide), f1, f2, f3, d3 108 (by decide) (by decide), d3 109 (by decide) (by decide), d3 110 (by decide) (by decide), hCo 108 (by decide), hCo 109 (by decide), hCo 110 (by decide)]
    exact ⟨rfl, rfl, rfl⟩
  · obtain ⟨f1, f2, f3⟩ := g2 l (Nat.zero_le _) hl
    rw [o 101 (by decide), o 102 (by decide), s (14 + l) (by omega) (by omega), f1, f2, f3, e3 111 (by decide), e3 112 (by decide), e3 92 (by decide), d3 111 (by decide) (by decide), d3 112 (by decide) (by decide), d3 92 (by decide) (by decide), hCo 111 (by decide), hCo 112 (by decide), c10]
    exact ⟨rfl, rfl, rfl⟩
  · rw [q_hi _ _ (by decide), q_hu]
  · rw [o a h3, g3 a (by omega) (by omega) h3, e3 a (by omega), d3 a (by omega) h3, hCo a h2]
  · rw [o 92 (by decide), G92, ci i h1 h2 h3]
  · rw [s j (by omega) (by omega), g5 j (by omega), E113, d5 j (by omega), hCo 113 (by decide)]
