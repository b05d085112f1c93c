theorem gch_det {l : Nat → Nat} {i j j' : Nat} {x x' : Nat → Nat} (h : gch l i x j) (h' : gch l i x' j') : j = j' ∧ ∀ t, t < 5 → x t = x' t := by
  obtain ⟨a0, a1, a2, a3, e0, e1, e2, e3, e4⟩ := h
  obtain ⟨b0, b1, b2, b3, f0, f1, f2, f3, f4⟩ := h'
  rw [e0] at f0
  obtain ⟨z0, rfl⟩ := Prod.mk.inj (Option.some.inj f0)
  rw [e1] at f1
  obtain ⟨z1, rfl⟩ := Prod.mk.inj (Option.some.inj f1)
  rw [e2] at f2
  obtain ⟨z2, rfl⟩ := Prod.mk.inj (Option.some.inj f2)
  rw [e3] at f3
  obtain ⟨z3, rfl⟩ := Prod.mk.inj (Option.some.inj f3)
  rw [e4] at f4
  obtain ⟨z4, rfl⟩ := Prod.mk.inj (Option.some.inj f4)
  refine ⟨rfl, fun t ht => ?_⟩
  rcases (show t = 0 ∨ t = 1 ∨ t = 2 ∨ t = 3 ∨ t = 4 by omega) with rfl | rfl | rfl | rfl | rfl
  · exact z0
  · exact z1
  · exact z2
  · exact z3
  · exact z4
/-- the model's reading of a going-on -/
theorem q_goingM {B : hM} {T : Nat} {c : Nat → Nat} {n : Nat} (h : Tm B T c) {i : Nat} (hi : i < 60000) (ha : B 92 31 = nI i) (hw : B 92 33 = 0) (hn : B 92 13 = nI n) (hn7 : n ≤ 7) :
    (∃ x j B', gch (lt T c) i x j ∧ okG n x ∧ j ≤ i + 14 ∧ Fm B B' ∧ B' 92 31 = nI j ∧ B' 92 33 = 0 ∧ X5_goingItem B = ob (X5_comes (nI (x 0)) (nI (x 1)) (nI (x 2)) (nI (x 3)) (nI (x 4)) B') (fun _ Ia17 => some (0, Ia17))) ∨
    ((¬ ∃ x j, gch (lt T c) i x j ∧ okG n x) ∧ wrong (X5_goingItem B) B) := by
  by_cases h7 : n = 7
  · have e7 : B 92 13 = 7 := by rw [hn, h7]; rfl
    refine Or.inr ⟨fun ⟨x, j, _, z⟩ => absurd z.1 (by omega), ?_⟩
    have hb := (q_b35W (B := hu B 92 33 1) 0 (q_hu _ _ _ _)).mono (Fm.wr B 1)
    unfold X5_goingItem X5_goingItem_b15
    rw [if_pos e7, q_g1, q_hu, if_neg n10]
    exact hb
  · have e7 : ¬ B 92 13 = 7 := by
      rw [hn]
      exact fun z => h7 ((nI_eq (b := 7) (by omega) (by decide)).mp z)
    have n0 : Fm B (hu B 92 33 0) := Fm.wr B 0
    have h0 := Fm.tm h n0
    have a0 : hu B 92 33 0 92 31 = nI i := by rw [q_hi _ _ (by decide)]; exact ha
    unfold X5_goingItem X5_goingItem_b15
    rw [if_neg e7, q_g0, q_hu, if_pos rfl]
    rcases q_numN 0 3 (by decide) h0 (show i < 80000 by omega) a0 (q_hu _ _ _ _) with ⟨x0, j0, B1, p1, -, p2, p3, p4, p5, p6, p7⟩ | ⟨p1, v, B1, p2, p3, p4⟩
    · have p4 : X5_number 0 3 (hu B 92 33 0) = some (nI x0, B1) := p4
      rw [p4, ob_s]
      unfold X5_goingItem_b35
      have h1 := Fm.tm h0 p5
      rcases q_moreN 0 99 (by decide) h1 (show j0 < 80000 by omega) p6 p7 with ⟨x1, j1, B2, q1, -, q2, q3, q4, q5, q6, q7⟩ | ⟨q1, v, B2, q2, q3, q4⟩
      · have q4 : X5_more 0 99 B1 = some (nI x1, B2) := q4
        have h2 := Fm.tm h1 q5
        have f2 := (n0.tr p5).tr q5
        rw [q4, ob_s, q7, if_pos rfl]
        have good : (x1 ≤ 60 ∨ x1 = 99) → (∃ x j B', gch (lt T c) i x j ∧ okG n x ∧ j ≤ i + 14 ∧ Fm B B' ∧ B' 92 31 = nI j ∧ B' 92 33 = 0 ∧ X5_goingItem_b69 (nI x0) (nI x1) 0 B2 = ob (X5_comes (nI (x 0)) (nI (x 1)) (nI (x 2)) (nI (x 3)) (nI (x 4)) B') (fun _ Ia17 => some (0, Ia17))) ∨ ((¬ ∃ x j, gch (lt T c) i x j ∧ okG n x) ∧ wrong (X5_goingItem_b69 (nI x0) (nI x1) 0 B2) B) := by
          intro hx1
          rcases q_b69 (n := n) (nI x0) (nI x1) h2 (show j1 < 70000 by omega) q6 with ⟨x2, x3, x4, j2, j3, j4, B3, s1, s2, s3, s4, s5, s6, s7, s8, s9, s10, s11⟩ | ⟨s1, s2⟩
          · exact Or.inl ⟨fun t => [x0, x1, x2, x3, x4].getD t 0, j4, B3, ⟨j0, j1, j2, j3, p1, q1, s1, s2, s3⟩, ⟨by omega, by show x0 < 4; omega, hx1, s4, s5, s6.1, s6.2⟩, by omega, f2.tr s8, s9, s10, s11⟩
          · refine Or.inr ⟨?_, s2.mono f2⟩
            rintro ⟨x, j, ⟨k0, k1, k2, k3, g0, g1, g2, g3, g4⟩, _, o0, o1, o2, o3, o4, o5⟩
            rw [p1] at g0
            obtain ⟨z0, rfl⟩ := Prod.mk.inj (Option.some.inj g0)
            rw [q1] at g1
            obtain ⟨z1, rfl⟩ := Prod.mk.inj (Option.some.inj g1)
            exact s1 ⟨x 2, x 3, x 4, k2, k3, j, g2, g3, g4, o2, o3, o4, o5⟩
        by_cases r1 : x1 ≤ 60
        · rw [if_pos (show nI x1 ≤ 60 from nI_le (b := 60) r1 (by decide))]
          exact good (Or.inl r1)
        · rw [if_neg (show ¬ nI x1 ≤ 60 from nI_ge (a := 60) (by omega) (by omega))]
          by_cases r2 : 99 ≤ x1
          · rw [if_pos (show 99 ≤ nI x1 from nI_le (a := 99) r2 (by omega))]
            exact good (Or.inr (by omega))
          · rw [if_neg (show ¬ 99 ≤ nI x1 from nI_ge (b := 99) (by omega) (by decide))]
            refine Or.inr ⟨?_, (q_b69W _ _).mono f2⟩
            rintro ⟨x, j, ⟨k0, k1, k2, k3, g0, g1, g2, g3, g4⟩, _, o0, o1, o2, o3, o4, o5⟩
            rw [p1] at g0
            obtain ⟨z0, rfl⟩ := Prod.mk.inj (Option.some.inj g0)
            rw [q1] at g1
            obtain ⟨z1, rfl⟩ := Prod.mk.inj (Option.some.inj g1)
            omega
      · have q2 : X5_more 0 99 B1 = some (v, B2) := q2
        rw [q2, ob_s, q4, if_neg n10]
        refine Or.inr ⟨?_, (q_b69W _ _).mono ((n0.tr p5).tr q3)⟩
        rintro ⟨x, j, ⟨k0, k1, k2, k3, g0, g1, g2, g3, g4⟩, _, o0, o1, o2, o3, o4, o5⟩
        rw [p1] at g0
        obtain ⟨z0, rfl⟩ := Prod.mk.inj (Option.some.inj g0)
        exact q1 (x 1) k1 g1 ⟨Nat.zero_le _, by omega⟩
    · have p2 : X5_number 0 3 (hu B 92 33 0) = some (v, B1) := p2
      rw [p2, ob_s]
      refine Or.inr ⟨?_, (q_b35W _ p4).mono (n0.tr p3)⟩
      rintro ⟨x, j, ⟨k0, k1, k2, k3, g0, g1, g2, g3, g4⟩, _, o0, o1, o2, o3, o4, o5⟩
      exact p1 (x 0) k0 g0 ⟨Nat.zero_le _, by omega⟩
/-- and what it puts down -/
def newG (B : hM) (n : Nat) (x : Nat → Nat) : hM := hu (hu (hu (hu (hu (hu B 103 n (nI (x 0))) 104 n (nI (x 1))) 105 n (nI (x 2))) 106 n (nI (x 3))) 107 n (nI (x 4))) 92 13 (nI (n + 1))
theorem q_comes {B : hM} {n : Nat} {x : Nat → Nat} (hn : B 92 13 = nI n) (hn7 : n < 7) : X5_comes (nI (x 0)) (nI (x 1)) (nI (x 2)) (nI (x 3)) (nI (x 4)) B = some (0, newG B n x) := by
  have inn : (nI n).toNatClampNeg = n := nI_clamp (by omega)
  have xn : hx (nI n) 7 = true := q_hx (by omega) (by decide)
  have r : ∀ k, 103 ≤ k → ∀ (I : hM) j v i, hu I k j v 92 i = I 92 i := fun k hk I j v i => q_ha I j v i (by omega)
  have r3 := r 103 (by decide)
  have r4 := r 104 (by decide)
  have r5 := r 105 (by decide)
  have r6 := r 106 (by decide)
  have r7 := r 107 (by decide)
  unfold X5_comes newG
  simp only [hn, inn, xn, r3, r4, r5, r6, r7, gd_t, nI_1]
