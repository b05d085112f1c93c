/-! adding what was read, here -/
def addG (A : hM) (d n : Nat) (x : Nat → Nat) : hM := hu (hu (hu (hu (hu (hu A (d + 1) n (nI (x 0))) (d + 2) n (nI (x 1))) (d + 3) n (nI (x 2))) (d + 4) n (nI (x 3))) (d + 5) n (nI (x 4))) d 0 (nI (n + 1))
def okG (n : Nat) (x : Nat → Nat) : Prop := n < 7 ∧ x 0 < 4 ∧ (x 1 ≤ 60 ∨ x 1 = 99) ∧ x 2 ≤ 20 ∧ x 3 ≤ 5 ∧ 1 ≤ x 4 ∧ x 4 ≤ 40
theorem q_ix5 : ((0 : Int32).toNatClampNeg = 0 ∧ hx 0 5 = true) ∧ ((1 : Int32).toNatClampNeg = 1 ∧ hx 1 5 = true) ∧ ((2 : Int32).toNatClampNeg = 2 ∧ hx 2 5 = true) ∧ ((3 : Int32).toNatClampNeg = 3 ∧ hx 3 5 = true) ∧ ((4 : Int32).toNatClampNeg = 4 ∧ hx 4 5 = true) := by decide +kernel
theorem q_addG {A : hM} {d n : Nat} {x : Nat → Nat} (hd : d = 4 ∨ d = 15) (hn : n ≤ 7) (h0 : A d 0 = nI n) (hx5 : ∀ t, t < 5 → x t ≤ 99 ∧ A 3 t = nI (x t)) : (okG n x → X0_addGoing d 3 A = some (1, addG A d n x)) ∧ (¬ okG n x → X0_addGoing d 3 A = some (0, A)) := by
  obtain ⟨⟨i0, w0⟩, ⟨i1, w1⟩, ⟨i2, w2⟩, ⟨i3, w3⟩, ⟨i4, w4⟩⟩ := q_ix5
  obtain ⟨l0, e0⟩ := hx5 0 (by decide)
  obtain ⟨l1, e1⟩ := hx5 1 (by decide)
  obtain ⟨l2, e2⟩ := hx5 2 (by decide)
  obtain ⟨l3, e3⟩ := hx5 3 (by decide)
  obtain ⟨l4, e4⟩ := hx5 4 (by decide)
  have c55 : (5 : Int32) ≤ nI 5 := by decide
  have bad : ∀ t, X0_addGoing d 3 A = X0_addGoing_b38 d 3 t A → (4 ≤ x 0 ∨ t = 0 ∨ 20 < x 2 ∨ 5 < x 3 ∨ x 4 < 1 ∨ 40 < x 4) → X0_addGoing d 3 A = some (0, A) := by
    intro t e h
    rw [e]
    unfold X0_addGoing_b38
    rw [w0, gd_t, i0, e0]
    by_cases q0 : 4 ≤ x 0
    · rw [if_pos (show (4 : Int32) ≤ nI (x 0) from nI_le (a := 4) q0 (by omega)), q_g0]
    · rw [if_neg (show ¬ (4 : Int32) ≤ nI (x 0) from nI_ge (b := 4) (by omega) (by decide))]
      by_cases qt : t = 0
      · rw [if_pos qt, q_g0]
      · have h2 : 4 ≤ x 0 ∨ 20 < x 2 ∨ 5 < x 3 ∨ x 4 < 1 ∨ 40 < x 4 := by
          rcases h with h | h | h
          · exact Or.inl h
          · exact absurd h qt
          · exact Or.inr h
        rw [if_neg qt, w2, gd_t, i2, e2]
        by_cases q2 : 20 < x 2
        · rw [if_pos (show (20 : Int32) < nI (x 2) from nI_lt (a := 20) q2 (by omega)), q_g0]
        · rw [if_neg (show ¬ (20 : Int32) < nI (x 2) from nI_nlt (a := 20) (by omega) (by decide)), w3, gd_t, i3, e3]
          by_cases q3 : x 3 ≤ 5
          · rw [if_pos (show nI (x 3) ≤ 5 from nI_le (b := 5) q3 (by decide)), w4, gd_t, i4, e4]
            by_cases q4 : x 4 < 1
            · rw [if_pos (show nI (x 4) < 1 from nI_lt (b := 1) q4 (by decide)), q_g0]
            · rw [if_neg (show ¬ nI (x 4) < 1 from nI_nlt (b := 1) (by omega) (by omega)), gd_t, if_neg (show ¬ nI (x 4) ≤ 40 from nI_ge (a := 40) (by omega) (by omega)), q_g0]
          · rw [if_neg (show ¬ nI (x 3) ≤ 5 from nI_ge (a := 5) (by omega) (by omega)), q_g0]
  by_cases hn7 : n = 7
  · have c1 : (7 : Int32) ≤ nI n := by rw [hn7]; decide
    refine ⟨fun z => absurd z.1 (by omega), fun _ => ?_⟩
    unfold X0_addGoing
    rw [h0, if_pos c1, q_g0]
  · have c1 : ¬ (7 : Int32) ≤ nI n := nI_ge (b := 7) (by omega) (by decide)
    have e : X0_addGoing d 3 A = X0_addGoing_b38 d 3 (if x 1 ≤ 60 ∨ x 1 = 99 then 1 else 0) A := by
      unfold X0_addGoing
      rw [h0, if_neg c1, if_pos c55, w1, gd_t, i1, e1]
      by_cases q1 : x 1 ≤ 60
      · rw [if_pos (show nI (x 1) ≤ 60 from nI_le (b := 60) q1 (by decide)), if_pos (Or.inl q1)]
      · rw [if_neg (show ¬ nI (x 1) ≤ 60 from nI_ge (a := 60) (by omega) (by omega)), gd_t]
        by_cases q2 : x 1 = 99
        · have z : nI (x 1) = 99 := by rw [q2]; rfl
          rw [if_pos z, if_pos (Or.inr q2)]
        · have z : ¬ nI (x 1) = 99 := fun z => q2 ((nI_eq (b := 99) (by omega) (by decide)).mp z)
          rw [if_neg z, if_neg (by omega)]
    refine ⟨fun ok => ?_, fun nok => ?_⟩
    · obtain ⟨_, o0, o1, o2, o3, o4, o5⟩ := ok
      rw [e, if_pos o1]
      have r : ∀ k, 1 ≤ k → k ≤ 5 → ∀ (I : hM) j v i, hu I (d + k) j v d i = I d i := fun k _ _ I j v i => q_ha I j v i (by omega)
      have r1 := r 1 (by decide) (by decide)
      have r2 := r 2 (by decide) (by decide)
      have r3 := r 3 (by decide) (by decide)
      have r4 := r 4 (by decide) (by decide)
      have r5 := r 5 (by decide) (by decide)
      have s : ∀ k, 1 ≤ k → k ≤ 5 → ∀ (I : hM) j v i, hu I (d + k) j v 3 i = I 3 i := fun k _ _ I j v i => q_ha I j v i (by omega)
      have s1 := s 1 (by decide) (by decide)
      have s2 := s 2 (by decide) (by decide)
      have s3 := s 3 (by decide) (by decide)
      have s4 := s 4 (by decide) (by decide)
      have c0 : ¬ (4 : Int32) ≤ nI (x 0) := nI_ge (b := 4) (by omega) (by decide)
      have c2 : ¬ (20 : Int32) < nI (x 2) := nI_nlt (a := 20) (by omega) (by decide)
      have c3 : nI (x 3) ≤ 5 := nI_le (b := 5) o3 (by decide)
      have c4 : ¬ nI (x 4) < 1 := nI_nlt (b := 1) (by omega) (by omega)
      have c5 : nI (x 4) ≤ 40 := nI_le (b := 40) o5 (by decide)
      have inn : (nI n).toNatClampNeg = n := nI_clamp (by omega)
      have xn : hx (nI n) 7 = true := q_hx (by omega) (by decide)
      unfold X0_addGoing_b38 addG
      simp only [i0, i1, i2, i3, i4, w0, w1, w2, w3, w4, e0, e1, e2, e3, e4, c0, c2, c3, c4, c5, n10, h0, inn, xn, r1, r2, r3, r4, r5, s1, s2, s3, s4, q_g1, q_g1b, gd_t, nI_1, ↓reduceIte]
    · refine bad _ e ?_
      by_cases q1 : x 1 ≤ 60 ∨ x 1 = 99
      · unfold okG at nok
        by_cases z0 : 4 ≤ x 0
        · exact Or.inl z0
        · by_cases z2 : 20 < x 2
          · exact Or.inr (Or.inr (Or.inl z2))
          · by_cases z3 : 5 < x 3
            · exact Or.inr (Or.inr (Or.inr (Or.inl z3)))
            · by_cases z4 : x 4 < 1
              · exact Or.inr (Or.inr (Or.inr (Or.inr (Or.inl z4))))
              · by_cases z5 : 40 < x 4
                · exact Or.inr (Or.inr (Or.inr (Or.inr (Or.inr z5))))
                · exact absurd ⟨by omega, by omega, q1, by omega, by omega, by omega, by omega⟩ nok
      · rw [if_neg q1]
        exact Or.inr (Or.inl rfl)
def addF (A : hM) (d n : Nat) (x : Nat → Nat) : hM := hu (hu (hu (hu A (d + 6) n (nI (x 0))) (d + 7) n (nI (x 1))) (d + 8) n (nI (x 2))) d 1 (nI (n + 1))
def okF (N n : Nat) (x : Nat → Nat) : Prop := n < 6 ∧ x 0 < N ∧ x 1 < N ∧ ¬ x 0 = x 1 ∧ x 2 ≤ 20
theorem q_addF {A : hM} {d n N : Nat} {x : Nat → Nat} (hd : d = 4 ∨ d = 15) (hn : n ≤ 6) (hN : N ≤ 7) (hN0 : A d 0 = nI N) (h0 : A d 1 = nI n) (hx5 : ∀ t, t < 3 → x t ≤ 99 ∧ A 3 t = nI (x t)) : (okF N n x → X0_addFollowing d 3 A = some (1, addF A d n x)) ∧ (¬ okF N n x → X0_addFollowing d 3 A = some (0, A)) := by
  obtain ⟨⟨i0, w0⟩, ⟨i1, w1⟩, ⟨i2, w2⟩, -, -⟩ := q_ix5
  obtain ⟨l0, e0⟩ := hx5 0 (by decide)
  obtain ⟨l1, e1⟩ := hx5 1 (by decide)
  obtain ⟨l2, e2⟩ := hx5 2 (by decide)
  have c35 : (3 : Int32) ≤ nI 5 := by decide
  by_cases hn6 : n = 6
  · have c1 : (6 : Int32) ≤ nI n := by rw [hn6]; decide
    refine ⟨fun z => absurd z.1 (by omega), fun _ => ?_⟩
    unfold X0_addFollowing
    rw [h0, if_pos c1, q_g0]
  · have c1 : ¬ (6 : Int32) ≤ nI n := nI_ge (b := 6) (by omega) (by decide)
    by_cases q0 : N ≤ x 0
    · refine ⟨fun z => absurd z.2.1 (by omega), fun _ => ?_⟩
      unfold X0_addFollowing
      rw [h0, if_neg c1, if_pos c35, w0, gd_t, i0, e0, hN0, if_pos (nI_le q0 (by omega)), q_g0]
    · have d0 : ¬ nI N ≤ nI (x 0) := nI_ge (by omega) (by omega)
      by_cases q1 : N ≤ x 1
      · refine ⟨fun z => absurd z.2.2.1 (by omega), fun _ => ?_⟩
        unfold X0_addFollowing
        rw [h0, if_neg c1, if_pos c35, w0, gd_t, i0, e0, hN0, if_neg d0, w1, gd_t, i1, e1, if_pos (nI_le q1 (by omega)), q_g0]
      · have d1 : ¬ nI N ≤ nI (x 1) := nI_ge (by omega) (by omega)
        by_cases q2 : x 0 = x 1
        · have d2 : nI (x 0) = nI (x 1) := by rw [q2]
          refine ⟨fun z => absurd q2 z.2.2.2.1, fun _ => ?_⟩
          unfold X0_addFollowing
          rw [h0, if_neg c1, if_pos c35, w0, gd_t, i0, e0, hN0, if_neg d0, w1, gd_t, i1, e1, if_neg d1, gd_t, gd_t, if_pos d2, q_g0]
        · have d2 : ¬ nI (x 0) = nI (x 1) := fun z => q2 ((nI_eq (by omega) (by omega)).mp z)
          by_cases q3 : x 2 ≤ 20
          · refine ⟨fun _ => ?_, fun z => absurd ⟨by omega, by omega, by omega, q2, q3⟩ z⟩
            have d3 : nI (x 2) ≤ 20 := nI_le (b := 20) q3 (by decide)
            have r : ∀ k, 6 ≤ k → k ≤ 8 → ∀ (I : hM) j v i, hu I (d + k) j v d i = I d i := fun k _ _ I j v i => q_ha I j v i (by omega)
            have r1 := r 6 (by decide) (by decide)
            have r2 := r 7 (by decide) (by decide)
            have r3 := r 8 (by decide) (by decide)
            have s : ∀ k, 6 ≤ k → k ≤ 8 → ∀ (I : hM) j v i, hu I (d + k) j v 3 i = I 3 i := fun k _ _ I j v i => q_ha I j v i (by omega)
            have s1 := s 6 (by decide) (by decide)
            have s2 := s 7 (by decide) (by decide)
            have inn : (nI n).toNatClampNeg = n := nI_clamp (by omega)
            have xn : hx (nI n) 6 = true := q_hx (by omega) (by decide)
            unfold X0_addFollowing addF
            simp only [c1, c35, n10, i0, i1, i2, w0, w1, w2, e0, e1, e2, hN0, h0, d0, d1, d2, d3, inn, xn, r1, r2, r3, s1, s2, q_g1, q_g1b, gd_t, nI_1, ↓reduceIte]
          · have d3 : ¬ nI (x 2) ≤ 20 := nI_ge (a := 20) (by omega) (by omega)
            refine ⟨fun z => absurd z.2.2.2.2 q3, fun _ => ?_⟩
            unfold X0_addFollowing
            rw [h0, if_neg c1, if_pos c35, w0, gd_t, i0, e0, hN0, if_neg d0, w1, gd_t, i1, e1, if_neg d1, gd_t, gd_t, if_neg d2, w2, gd_t, i2, e2, if_neg d3, q_g0]
