/-- a number of a range, or wrong -/
theorem q_moreN {B : hM} {T : Nat} {c : Nat → Nat} (lo hi : Nat) (hlh : lo ≤ 100 ∧ hi ≤ 100) (h : Tm B T c) {i : Nat} (hi' : i < 80000) (ha : B 92 31 = nI i) (hw : B 92 33 = 0) :
    (∃ x j B', mo (lt T c) i = some (x, j) ∧ lo ≤ x ∧ x ≤ hi ∧ j ≤ i + 3 ∧ X5_more (nI lo) (nI hi) B = some (nI x, B') ∧ Fm B B' ∧ B' 92 31 = nI j ∧ B' 92 33 = 0) ∨
    ((∀ x j, mo (lt T c) i = some (x, j) → ¬ (lo ≤ x ∧ x ≤ hi)) ∧ ∃ v B', X5_more (nI lo) (nI hi) B = some (v, B') ∧ Fm B B' ∧ B' 92 33 = 1) := by
  have bd : ∀ x j, mo (lt T c) i = some (x, j) → x ≤ 99 ∧ j ≤ i + 3 := by
    intro x j hm
    unfold mo at hm
    by_cases q : lt T c i = 44
    · rw [if_pos q] at hm
      obtain ⟨b1, b2, b3, -⟩ := nm_le hm
      exact ⟨b1, by omega⟩
    · rw [if_neg q] at hm
      exact absurd hm (by simp)
  rcases q_more (lo := nI lo) (hi := nI hi) h hi' ha hw with ⟨x, j, B', n1, ⟨n2, n2'⟩, n3, n4, n5, n6⟩ | ⟨n1, v, B', n2, n3, n4⟩
  · obtain ⟨b1, b2⟩ := bd x j n1
    exact Or.inl ⟨x, j, B', n1, (nI_leI (by omega) (by omega)).mp n2, (nI_leI (by omega) (by omega)).mp n2', b2, n3, n4, n5, n6⟩
  · refine Or.inr ⟨fun x j hm z => n1 x j hm ⟨nI_le z.1 ?_, nI_le z.2 (by omega)⟩, v, B', n2, n3, n4⟩
    obtain ⟨b1, b2⟩ := bd x j hm
    omega
theorem q_numN {B : hM} {T : Nat} {c : Nat → Nat} (lo hi : Nat) (hlh : lo ≤ 100 ∧ hi ≤ 100) (h : Tm B T c) {i : Nat} (hi' : i < 80000) (ha : B 92 31 = nI i) (hw : B 92 33 = 0) :
    (∃ x j B', nm (lt T c) i = some (x, j) ∧ lo ≤ x ∧ x ≤ hi ∧ j ≤ i + 2 ∧ X5_number (nI lo) (nI hi) B = some (nI x, B') ∧ Fm B B' ∧ B' 92 31 = nI j ∧ B' 92 33 = 0) ∨
    ((∀ x j, nm (lt T c) i = some (x, j) → ¬ (lo ≤ x ∧ x ≤ hi)) ∧ ∃ v B', X5_number (nI lo) (nI hi) B = some (v, B') ∧ Fm B B' ∧ B' 92 33 = 1) := by
  rcases q_num (lo := nI lo) (hi := nI hi) h (by omega) ha hw with ⟨x, j, B', n1, ⟨n2, n2'⟩, n3, n4, n5, n6⟩ | ⟨n1, v, B', n2, n3, n4⟩
  · obtain ⟨b1, b2, b3, -⟩ := nm_le n1
    exact Or.inl ⟨x, j, B', n1, (nI_leI (by omega) (by omega)).mp n2, (nI_leI (by omega) (by omega)).mp n2', b3, n3, n4, n5, n6⟩
  · refine Or.inr ⟨fun x j hm z => n1 x j hm ⟨nI_le z.1 ?_, nI_le z.2 (by omega)⟩, v, B', n2, n3, n4⟩
    obtain ⟨b1, b2, b3, -⟩ := nm_le hm
    omega
/-- the five of a going-on -/
def gch (l : Nat → Nat) (i : Nat) (x : Nat → Nat) (j : Nat) : Prop := ∃ j0 j1 j2 j3, nm l i = some (x 0, j0) ∧ mo l j0 = some (x 1, j1) ∧ mo l j1 = some (x 2, j2) ∧ mo l j2 = some (x 3, j3) ∧ mo l j3 = some (x 4, j)
def wrong (r : Option (Int32 × hM)) (B : hM) : Prop := ∃ B', r = some (0, B') ∧ Fm B B' ∧ B' 92 33 = 1
theorem q_b69W {B : hM} (v1 v2 : Int32) : wrong (X5_goingItem_b69 v1 v2 1 B) B := by
  have n0 : Fm B (hu B 92 33 1) := Fm.wr B 1
  obtain ⟨B1, a1, a2, a3⟩ := q_moreW (lo := 0) (hi := 20) (B := hu B 92 33 1) (q_hu _ _ _ _)
  obtain ⟨B2, b1, b2, b3⟩ := q_moreW (lo := 0) (hi := 5) a3
  obtain ⟨B3, c1, c2, c3⟩ := q_moreW (lo := 1) (hi := 40) b3
  refine ⟨B3, ?_, ((n0.tr a2).tr b2).tr c2, c3⟩
  unfold X5_goingItem_b69
  rw [q_g1, a1, ob_s, b1, ob_s, c1, ob_s, c3, if_neg n10]
theorem wrong.mono {r : Option (Int32 × hM)} {B B' : hM} (h : wrong r B') (hF : Fm B B') : wrong r B := by
  obtain ⟨B2, h1, h2, h3⟩ := h
  exact ⟨B2, h1, hF.tr h2, h3⟩
theorem q_b35W {B : hM} (t : Int32) (hw : B 92 33 = 1) : wrong (X5_goingItem_b35 t B) B := by
  obtain ⟨B1, a1, a2, a3⟩ := q_moreW (lo := 0) (hi := 99) hw
  have h := (q_b69W (B := B1) t 0).mono a2
  unfold X5_goingItem_b35
  rw [a1, ob_s, a3, if_neg n10]
  exact h
theorem q_b69 {B : hM} {T : Nat} {c : Nat → Nat} {n : Nat} (v1 v2 : Int32) (h : Tm B T c) {i : Nat} (hi : i < 70000) (ha : B 92 31 = nI i) :
    (∃ x2 x3 x4 j2 j3 j4 B', mo (lt T c) i = some (x2, j2) ∧ mo (lt T c) j2 = some (x3, j3) ∧ mo (lt T c) j3 = some (x4, j4) ∧ x2 ≤ 20 ∧ x3 ≤ 5 ∧ (1 ≤ x4 ∧ x4 ≤ 40) ∧ j4 ≤ i + 9 ∧ Fm B B' ∧ B' 92 31 = nI j4 ∧ B' 92 33 = 0 ∧ X5_goingItem_b69 v1 v2 0 B = ob (X5_comes v1 v2 (nI x2) (nI x3) (nI x4) B') (fun _ Ia17 => some (0, Ia17))) ∨
    ((¬ ∃ x2 x3 x4 j2 j3 j4, mo (lt T c) i = some (x2, j2) ∧ mo (lt T c) j2 = some (x3, j3) ∧ mo (lt T c) j3 = some (x4, j4) ∧ x2 ≤ 20 ∧ x3 ≤ 5 ∧ (1 ≤ x4 ∧ x4 ≤ 40)) ∧ wrong (X5_goingItem_b69 v1 v2 0 B) B) := by
  have n0 : Fm B (hu B 92 33 0) := Fm.wr B 0
  have h0 := Fm.tm h n0
  have a0 : hu B 92 33 0 92 31 = nI i := by rw [q_hi _ _ (by decide)]; exact ha
  unfold X5_goingItem_b69
  rw [q_g0]
  rcases q_moreN 0 20 (by decide) h0 (show i < 80000 by omega) a0 (q_hu _ _ _ _) with ⟨x2, j2, B1, p1, -, p2, p3, p4, p5, p6, p7⟩ | ⟨p1, v, B1, p2, p3, p4⟩
  · have p4 : X5_more 0 20 (hu B 92 33 0) = some (nI x2, B1) := p4
    rw [p4, ob_s]
    rcases q_moreN 0 5 (by decide) (Fm.tm h0 p5) (show j2 < 80000 by omega) p6 p7 with ⟨x3, j3, B2, q1, -, q2, q3, q4, q5, q6, q7⟩ | ⟨q1, v, B2, q2, q3, q4⟩
    · have q4 : X5_more 0 5 B1 = some (nI x3, B2) := q4
      rw [q4, ob_s]
      rcases q_moreN 1 40 (by decide) (Fm.tm (Fm.tm h0 p5) q5) (show j3 < 80000 by omega) q6 q7 with ⟨x4, j4, B3, s1, s0, s2, s3, s4, s5, s6, s7⟩ | ⟨s1, v, B3, s2, s3, s4⟩
      · have s4 : X5_more 1 40 B2 = some (nI x4, B3) := s4
        rw [s4, ob_s, s7, if_pos rfl]
        exact Or.inl ⟨x2, x3, x4, j2, j3, j4, B3, p1, q1, s1, p2, q2, ⟨s0, s2⟩, by omega, ((n0.tr p5).tr q5).tr s5, s6, s7, rfl⟩
      · have s2 : X5_more 1 40 B2 = some (v, B3) := s2
        rw [s2, ob_s, s4, if_neg n10]
        refine Or.inr ⟨?_, B3, rfl, ((n0.tr p5).tr q5).tr s3, s4⟩
        rintro ⟨y2, y3, y4, k2, k3, k4, e1, e2, e3, e4, e5, e6⟩
        rw [p1] at e1
        obtain ⟨rfl, rfl⟩ := Prod.mk.inj (Option.some.inj e1)
        rw [q1] at e2
        obtain ⟨rfl, rfl⟩ := Prod.mk.inj (Option.some.inj e2)
        exact s1 y4 k4 e3 e6
    · have q2 : X5_more 0 5 B1 = some (v, B2) := q2
      obtain ⟨B3, c1, c2, c3⟩ := q_moreW (lo := 1) (hi := 40) q4
      rw [q2, ob_s, c1, ob_s, c3, if_neg n10]
      refine Or.inr ⟨?_, B3, rfl, ((n0.tr p5).tr q3).tr c2, c3⟩
      rintro ⟨y2, y3, y4, k2, k3, k4, e1, e2, e3, e4, e5, e6⟩
      rw [p1] at e1
      obtain ⟨rfl, rfl⟩ := Prod.mk.inj (Option.some.inj e1)
      exact q1 y3 k3 e2 ⟨Nat.zero_le _, e5⟩
  · have p2 : X5_more 0 20 (hu B 92 33 0) = some (v, B1) := p2
    obtain ⟨B2, b1, b2, b3⟩ := q_moreW (lo := 0) (hi := 5) p4
    obtain ⟨B3, c1, c2, c3⟩ := q_moreW (lo := 1) (hi := 40) b3
    rw [p2, ob_s, b1, ob_s, c1, ob_s, c3, if_neg n10]
    refine Or.inr ⟨?_, B3, rfl, ((n0.tr p3).tr b2).tr c2, c3⟩
    rintro ⟨y2, y3, y4, k2, k3, k4, e1, e2, e3, e4, e5, e6⟩
    exact p1 y2 k2 e1 ⟨Nat.zero_le _, e4⟩
