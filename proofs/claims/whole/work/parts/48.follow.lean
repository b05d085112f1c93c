theorem q_ltN {x N : Nat} (hx : x ≤ 99) (hN : N ≤ 7) : ((0 : Int32) ≤ nI x ∧ nI x ≤ nI N - 1) ↔ x < N := by
  have e : (nI N - 1).toInt = (N : Int) - 1 := pk_sub_toInt (a := N) (b := 1) (by omega) (by decide)
  have e2 : nI x ≤ nI N - 1 ↔ x < N := by
    rw [q_le, e, nI_toInt (by omega)]
    omega
  exact ⟨fun z => e2.mp z.2, fun z => ⟨nI_pos' (by omega), e2.mpr z⟩⟩
/-- the three of a following -/
def fch (l : Nat → Nat) (i : Nat) (x : Nat → Nat) (j : Nat) : Prop := ∃ j0 j1, nm l i = some (x 0, j0) ∧ mo l j0 = some (x 1, j1) ∧ mo l j1 = some (x 2, j)
theorem mo_le {l : Nat → Nat} {i x j : Nat} (h : mo l i = some (x, j)) : x ≤ 99 ∧ j ≤ i + 3 ∧ i < j := by
  unfold mo at h
  by_cases q : l i = 44
  · rw [if_pos q] at h
    obtain ⟨b1, b2, b3, -⟩ := nm_le h
    exact ⟨b1, by omega, by omega⟩
  · rw [if_neg q] at h
    exact absurd h (by simp)
theorem q_b71W {B : hM} (v1 v2 : Int32) : wrong (X5_followItem_b71 v1 v2 1 B) B := by
  obtain ⟨B1, a1, a2, a3⟩ := q_moreW (lo := 0) (hi := 20) (B := hu B 92 33 1) (q_hu _ _ _ _)
  refine ⟨B1, ?_, (Fm.wr B 1).tr a2, a3⟩
  unfold X5_followItem_b71
  rw [q_g1, a1, ob_s, a3, if_neg n10]
theorem q_b40W {B : hM} (t : Int32) (hw : B 92 33 = 1) : wrong (X5_followItem_b40 t B) B := by
  obtain ⟨B1, a1, a2, a3⟩ := q_moreW (lo := 0) (hi := B 92 13 - 1) hw
  unfold X5_followItem_b40
  rw [a1, ob_s, a3, if_neg n10]
  exact (q_b71W _ _).mono a2
/-- the model's reading of a following -/
theorem q_followM {B : hM} {T : Nat} {c : Nat → Nat} {N n : Nat} (h : Tm B T c) {i : Nat} (hi : i < 60000) (ha : B 92 31 = nI i) (hN : B 92 13 = nI N) (hN7 : N ≤ 7) (hn : B 92 19 = nI n) (hn6 : n ≤ 6) :
    (∃ x j B', fch (lt T c) i x j ∧ okF N n x ∧ j ≤ i + 14 ∧ Fm B B' ∧ B' 92 31 = nI j ∧ B' 92 33 = 0 ∧ X5_followItem B = ob (X5_follow (nI (x 0)) (nI (x 1)) (nI (x 2)) B') (fun _ Ia11 => some (0, Ia11))) ∨
    ((¬ ∃ x j, fch (lt T c) i x j ∧ okF N n x) ∧ wrong (X5_followItem B) B) := by
  by_cases h6 : n = 6
  · have e6 : B 92 19 = 6 := by rw [hn, h6]; rfl
    refine Or.inr ⟨fun ⟨x, j, _, z⟩ => absurd z.1 (by omega), ?_⟩
    have hb := (q_b40W (B := hu B 92 33 1) 0 (q_hu _ _ _ _)).mono (Fm.wr B 1)
    unfold X5_followItem X5_followItem_b15
    rw [if_pos e6, q_g1, q_hu, if_neg n10]
    exact hb
  · have e6 : ¬ B 92 19 = 6 := by
      rw [hn]
      exact fun z => h6 ((nI_eq (b := 6) (by omega) (by decide)).mp z)
    have n0 : Fm B (hu B 92 33 0) := Fm.wr B 0
    have h0 := Fm.tm h n0
    have a0 : hu B 92 33 0 92 31 = nI i := by rw [q_hi _ _ (by decide)]; exact ha
    unfold X5_followItem X5_followItem_b15
    rw [if_neg e6, q_g0, q_hu, if_pos rfl, q_hi _ _ (show 13 ≠ 33 by decide), hN]
    rcases q_num (lo := 0) (hi := nI N - 1) h0 (show i < 90000 by omega) a0 (q_hu _ _ _ _) with ⟨x0, j0, B1, p1, p2, p4, p5, p6, p7⟩ | ⟨p1, v, B1, p2, p3, p4⟩
    · obtain ⟨b1, b2, b3, -⟩ := nm_le p1
      have p2 := (q_ltN b1 hN7).mp p2
      rw [p4, ob_s]
      unfold X5_followItem_b40
      have h1 := Fm.tm h0 p5
      have hN1 : B1 92 13 = nI N := by rw [p5.2 13 (by decide) (by decide), n0.2 13 (by decide) (by decide)]; exact hN
      rw [hN1]
      rcases q_more (lo := 0) (hi := nI N - 1) h1 (show j0 < 80000 by omega) p6 p7 with ⟨x1, j1, B2, q1, q2, q4, q5, q6, q7⟩ | ⟨q1, v, B2, q2, q3, q4⟩
      · obtain ⟨c1, c2, c3⟩ := mo_le q1
        have q2 := (q_ltN c1 hN7).mp q2
        have h2 := Fm.tm h1 q5
        have f2 := (n0.tr p5).tr q5
        rw [q4, ob_s, q7, if_pos rfl]
        by_cases r1 : x0 = x1
        · rw [if_pos (show nI x0 = nI x1 by rw [r1])]
          refine Or.inr ⟨?_, (q_b71W _ _).mono f2⟩
          rintro ⟨x, j, ⟨k0, k1, g0, g1, g2⟩, _, o0, o1, o2, o3⟩
          rw [p1] at g0
          obtain ⟨z0, rfl⟩ := Prod.mk.inj (Option.some.inj g0)
          rw [q1] at g1
          obtain ⟨z1, rfl⟩ := Prod.mk.inj (Option.some.inj g1)
          exact o2 (by omega)
        · rw [if_neg (show ¬ nI x0 = nI x1 from fun z => r1 ((nI_eq (by omega) (by omega)).mp z))]
          unfold X5_followItem_b71
          rw [q_g0]
          have n2 : Fm B2 (hu B2 92 33 0) := Fm.wr B2 0
          have h3 := Fm.tm h2 n2
          rcases q_moreN 0 20 (by decide) h3 (show j1 < 80000 by omega) (by rw [q_hi _ _ (by decide)]; exact q6) (q_hu _ _ _ _) with ⟨x2, j2, B3, s1, -, s2, s3, s4, s5, s6, s7⟩ | ⟨s1, v, B3, s2, s3, s4⟩
          · have s4 : X5_more 0 20 (hu B2 92 33 0) = some (nI x2, B3) := s4
            rw [s4, ob_s, s7, if_pos rfl]
            exact Or.inl ⟨fun t => [x0, x1, x2].getD t 0, j2, B3, ⟨j0, j1, p1, q1, s1⟩, ⟨by omega, p2, q2, r1, s2⟩, by omega, (f2.tr n2).tr s5, s6, s7, rfl⟩
          · have s2 : X5_more 0 20 (hu B2 92 33 0) = some (v, B3) := s2
            rw [s2, ob_s, s4, if_neg n10]
            refine Or.inr ⟨?_, B3, rfl, (f2.tr n2).tr s3, s4⟩
            rintro ⟨x, j, ⟨k0, k1, g0, g1, g2⟩, _, o0, o1, o2, o3⟩
            rw [p1] at g0
            obtain ⟨z0, rfl⟩ := Prod.mk.inj (Option.some.inj g0)
            rw [q1] at g1
            obtain ⟨z1, rfl⟩ := Prod.mk.inj (Option.some.inj g1)
            exact s1 (x 2) j g2 ⟨Nat.zero_le _, o3⟩
      · rw [q2, ob_s, q4, if_neg n10]
        refine Or.inr ⟨?_, (q_b71W _ _).mono ((n0.tr p5).tr q3)⟩
        rintro ⟨x, j, ⟨k0, k1, g0, g1, g2⟩, _, o0, o1, o2, o3⟩
        rw [p1] at g0
        obtain ⟨z0, rfl⟩ := Prod.mk.inj (Option.some.inj g0)
        exact q1 (x 1) k1 g1 ((q_ltN (mo_le g1).1 hN7).mpr o1)
    · rw [p2, ob_s]
      refine Or.inr ⟨?_, (q_b40W _ p4).mono (n0.tr p3)⟩
      rintro ⟨x, j, ⟨k0, k1, g0, g1, g2⟩, _, o0, o1, o2, o3⟩
      exact p1 (x 0) k0 g0 ((q_ltN (nm_le g0).1 hN7).mpr o0)
def newF (B : hM) (n : Nat) (x : Nat → Nat) : hM := hu (hu (hu (hu B 108 n (nI (x 0))) 109 n (nI (x 1))) 110 n (nI (x 2))) 92 19 (nI (n + 1))
theorem q_follow {B : hM} {n : Nat} {x : Nat → Nat} (hn : B 92 19 = nI n) (hn6 : n < 6) : X5_follow (nI (x 0)) (nI (x 1)) (nI (x 2)) B = some (0, newF B n x) := by
  have inn : (nI n).toNatClampNeg = n := nI_clamp (by omega)
  have xn : hx (nI n) 6 = true := q_hx (by omega) (by decide)
  have r : ∀ k, 103 ≤ k → ∀ (I : hM) j v i, hu I k j v 92 i = I 92 i := fun k hk I j v i => q_ha I j v i (by omega)
  have r8 := r 108 (by decide)
  have r9 := r 109 (by decide)
  have r10 := r 110 (by decide)
  unfold X5_follow newF
  simp only [hn, inn, xn, r8, r9, r10, gd_t, nI_1]
