theorem ll_lt {l : Nat → Nat} : ∀ (f j M R j' : Nat), M < 16 → ll l f j M = some (R, j') → R < 16 := by
  intro f
  induction f with
  | zero => intro j M R j' _ h; exact absurd h (by unfold ll; simp)
  | succ f ih =>
    intro j M R j' hM h
    have h : (if l j = 44 then (match mo l j with
      | none => none
      | some (x, j') => if x ≤ 3 ∧ ¬ M.testBit x = true then ll l f j' (M ||| 2 ^ x) else none) else some (M, j)) = some (R, j') := h
    by_cases q : l j = 44
    · rw [if_pos q] at h
      cases hm : mo l j with
      | none =>
        rw [hm] at h
        exact absurd h (by simp)
      | some y =>
        obtain ⟨x, j1⟩ := y
        rw [hm] at h
        have h : (if x ≤ 3 ∧ ¬ M.testBit x = true then ll l f j1 (M ||| 2 ^ x) else none) = some (R, j') := h
        by_cases q2 : x ≤ 3 ∧ ¬ M.testBit x = true
        · rw [if_pos q2] at h
          exact ih j1 _ R j' (or_lt16 hM (by omega)) h
        · rw [if_neg q2] at h
          exact absurd h (by simp)
    · rw [if_neg q] at h
      obtain ⟨z1, z2⟩ := Prod.mk.inj (Option.some.inj h)
      omega
/-- the pins and the reach of a lady -/
def lch (l : Nat → Nat) (i p M j : Nat) : Prop := ∃ j0 x1 j1, nm l i = some (p, j0) ∧ mo l j0 = some (x1, j1) ∧ x1 ≤ 3 ∧ ll l 4 j1 (2 ^ x1) = some (M, j)
theorem q_pc1 : ∀ x, x < 4 → pc (2 ^ x) = 1 ∧ 2 ^ x < 16 := by decide +kernel
/-- the model's reading of a lady -/
theorem q_ladyM {B : hM} {T : Nat} {c : Nat → Nat} {n : Nat} (h : Tm B T c) {i : Nat} (hi : i < 40000) (ha : B 92 31 = nI i) (hn : B 92 23 = nI n) (hn4 : n ≤ 4) :
    (∃ p M j B', lch (lt T c) i p M j ∧ (n < 4 ∧ p ≤ 9) ∧ M < 16 ∧ j ≤ i + 20 ∧ Fm B B' ∧ B' 92 31 = nI j ∧ B' 92 33 = 0 ∧ X5_ladyItem B = X5_ladyItem_b101 (nI p) (nI M) B') ∨
    ((¬ ∃ p M j, lch (lt T c) i p M j ∧ (n < 4 ∧ p ≤ 9)) ∧ wrong (X5_ladyItem B) B) := by
  have b35W : ∀ (t : Int32) (B1 : hM), B1 92 33 = 1 → wrong (X5_ladyItem_b35 t B1) B1 := by
    intro t B1 hw
    obtain ⟨B2, a1, a2, a3⟩ := q_moreW (lo := 0) (hi := 3) hw
    refine ⟨B2, ?_, a2, a3⟩
    unfold X5_ladyItem_b35
    rw [a1, ob_s]
    exact q_ladyW _ _ 1023 a3
  by_cases h4 : n = 4
  · have e4 : B 92 23 = 4 := by rw [hn, h4]; rfl
    refine Or.inr ⟨fun ⟨p, M, j, _, z⟩ => absurd z.1 (by omega), ?_⟩
    have hb := (b35W 0 (hu B 92 33 1) (q_hu _ _ _ _)).mono (Fm.wr B 1)
    unfold X5_ladyItem X5_ladyItem_b14
    rw [if_pos e4, q_g1, q_hu, if_neg n10]
    exact hb
  · have e4 : ¬ B 92 23 = 4 := by
      rw [hn]
      exact fun z => h4 ((nI_eq (b := 4) (by omega) (by decide)).mp z)
    have n0 : Fm B (hu B 92 33 0) := Fm.wr B 0
    have h0 := Fm.tm h n0
    have a0 : hu B 92 33 0 92 31 = nI i := by rw [q_hi _ _ (by decide)]; exact ha
    unfold X5_ladyItem X5_ladyItem_b14
    rw [if_neg e4, q_g0, q_hu, if_pos rfl]
    rcases q_numN 0 9 (by decide) h0 (show i < 80000 by omega) a0 (q_hu _ _ _ _) with ⟨p, j0, B1, p1, -, p2, p3, p4, p5, p6, p7⟩ | ⟨p1, v, B1, p2, p3, p4⟩
    · have p4 : X5_number 0 9 (hu B 92 33 0) = some (nI p, B1) := p4
      rw [p4, ob_s]
      have h1 := Fm.tm h0 p5
      have f1 := n0.tr p5
      rcases q_moreN 0 3 (by decide) h1 (show j0 < 80000 by omega) p6 p7 with ⟨x1, j1, B2, q1, -, q2, q3, q4, q5, q6, q7⟩ | ⟨q1, v, B2, q2, q3, q4⟩
      · have q4 : X5_more 0 3 B1 = some (nI x1, B2) := q4
        have h2 := Fm.tm h1 q5
        have f2 := f1.tr q5
        obtain ⟨c1, c2⟩ := q_pc1 x1 (by omega)
        have e35 : X5_ladyItem_b35 (nI p) B1 = X5_ladyItem_l45 hF (nI p) (nI (2 ^ x1)) B2 := by
          unfold X5_ladyItem_b35
          rw [q4, ob_s, q_bits3 x1 (by omega)]
        rw [e35]
        rcases q_ladyL (nI p) 4 (2 ^ x1) j1 hF B2 c2 (by omega) (show 4 < 1024 by decide) (by omega) h2 q6 q7 with ⟨R, j', B', s1, s2, s3, s4, s5, s6⟩ | ⟨s1, s2⟩
        · exact Or.inl ⟨p, R, j', B', ⟨j0, x1, j1, p1, q1, q2, s1⟩, ⟨by omega, p2⟩, ll_lt _ _ _ _ _ c2 s1, by omega, f2.tr s4, s5, s6, s3⟩
        · refine Or.inr ⟨?_, s2.mono f2⟩
          rintro ⟨p', M, j, ⟨k0, x1', k1, g0, g1, g2, g3⟩, _⟩
          rw [p1] at g0
          obtain ⟨z0, rfl⟩ := Prod.mk.inj (Option.some.inj g0)
          rw [q1] at g1
          obtain ⟨rfl, rfl⟩ := Prod.mk.inj (Option.some.inj g1)
          rw [s1] at g3
          exact absurd g3 (by simp)
      · have q2 : X5_more 0 3 B1 = some (v, B2) := q2
        have e35 : X5_ladyItem_b35 (nI p) B1 = some (0, B2) := by
          unfold X5_ladyItem_b35
          rw [q2, ob_s]
          exact q_ladyW _ _ 1023 q4
        rw [e35]
        refine Or.inr ⟨?_, B2, rfl, f1.tr q3, q4⟩
        rintro ⟨p', M, j, ⟨k0, x1', k1, g0, g1, g2, g3⟩, _⟩
        rw [p1] at g0
        obtain ⟨z0, rfl⟩ := Prod.mk.inj (Option.some.inj g0)
        exact q1 x1' k1 g1 ⟨Nat.zero_le _, g2⟩
    · have p2 : X5_number 0 9 (hu B 92 33 0) = some (v, B1) := p2
      rw [p2, ob_s]
      refine Or.inr ⟨?_, (b35W _ _ p4).mono (n0.tr p3)⟩
      rintro ⟨p', M, j, ⟨k0, x1', k1, g0, g1, g2, g3⟩, z⟩
      exact p1 p' k0 g0 ⟨Nat.zero_le _, z.2⟩
def newL (B : hM) (n p M : Nat) : hM := hu (hu (hu B 111 n (nI p)) 112 n (nI M)) 92 23 (nI (n + 1))
theorem q_b101 {B : hM} {n p M : Nat} (hw : B 92 33 = 0) (hn : B 92 23 = nI n) (hn4 : n < 4) : X5_ladyItem_b101 (nI p) (nI M) B = some (0, newL B n p M) := by
  have inn : (nI n).toNatClampNeg = n := nI_clamp (by omega)
  have xn : hx (nI n) 4 = true := q_hx (by omega) (by decide)
  have r : ∀ k, 103 ≤ k → ∀ (I : hM) j v i, hu I k j v 92 i = I 92 i := fun k hk I j v i => q_ha I j v i (by omega)
  have r1 := r 111 (by decide)
  have r2 := r 112 (by decide)
  unfold X5_ladyItem_b101 newL
  rw [if_pos hw]
  simp only [hn, inn, xn, r1, r2, gd_t, nI_1]
