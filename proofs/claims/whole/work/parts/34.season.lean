theorem q_gn {x : Int32} (h : ¬ x = 0) (k : Option (Int32 × hM)) : gd (decide (¬ x = 0)) k = k := by
  rw [decide_eq_true h, gd_t]
theorem Sd.pin {A B : hM} {p s N L m x l k : Nat} (h : Sd A B p s N L m x) (hN : N ≤ 7) (hL : L ≤ 4) (hl : l < L) (hk : k ≤ 9) : Sd (hu A (p + 4) l (nI k)) (hu B 113 (s + 14 + l) (nI k)) p s N L m x := by
  obtain ⟨⟨a1, a2⟩, a3, a4, a5, a6⟩ := h
  refine ⟨⟨?_, ?_⟩, ?_, ?_, fun g hg => (a5 g hg).keep ?_ ?_ ?_ ?_ ?_, fun l' hl' => ?_⟩
  · rw [q_ha _ _ _ _ (by omega)]
    exact a1
  · rw [q_hi _ _ (by omega)]
    exact a2
  · rw [q_ha _ _ _ _ (by omega), q_hi _ _ (by omega)]
    exact a3
  · rw [q_ha _ _ _ _ (by omega)]
    exact a4
  · rw [q_ha _ _ _ _ (by omega)]
  · rw [q_ha _ _ _ _ (by omega)]
  · rw [q_ha _ _ _ _ (by omega)]
  · rw [q_hi _ _ (by omega)]
  · rw [q_hi _ _ (by omega)]
  · by_cases hll : l' = l
    · subst hll
      exact ⟨k, hk, q_hu _ _ _ _, q_hu _ _ _ _⟩
    · rw [q_hi _ _ hll, q_hi _ _ (by omega)]
      exact a6 l' hl'
theorem Fr.pin {A B : hM} {p s l : Nat} {v v' : Int32} (hl : l < 4) : Fr A (hu A (p + 4) l v) B (hu B 113 (s + 14 + l) v') p s :=
  ⟨fun a ha => q_hr _ _ _ (by omega), fun a h1 _ => q_hr _ _ _ h1, fun i _ => q_ha _ _ _ _ (by decide), fun j hj => q_hi _ _ (by omega)⟩
/-- she pins one -/
theorem q_pinBy {p s N F L m x l g k : Nat} {A B : hM} (hp : p = 26 ∨ p = 31) (hs : s ≤ 220) (hm : m ≤ 3000) (hE : Ev A B N F L) (hS : Sd A B p s N L m x) (hab : Ab B x N) (hl : l < L) (hg : g < N) (hon : A (p + 1) g = 1) (hk : k < 9) (hA : A (p + 4) l = nI (k + 1)) : ∃ A1 B1 : hM, X2_pinBy p 4 (nI l) (nI g) A = some (0, A1) ∧ X5_ends (nI s) (nI g) 3 (nI m) (hu B 113 (s + 14 + l) (nI k)) = some (0, B1) ∧ Sd A1 B1 p s N L m x ∧ Fr A A1 B B1 p s ∧ A1 (p + 4) l = nI k ∧ B1 113 (s + 14 + l) = nI k := by
  have hb := hE.1
  have x4 : hx (nI l) 4 = true := q_hx (by omega) (by decide)
  have i4 : (nI l).toNatClampNeg = l := nI_clamp (by omega)
  have f1 : Fr A (hu A (p + 4) l (nI k)) B (hu B 113 (s + 14 + l) (nI k)) p s := Fr.pin (by omega)
  obtain ⟨A1, B1, g1, g2, g3, g4, g5, g6, -⟩ := q_pinned hp hs hm (hE.fr hp f1) (hS.pin (k := k) (by omega) (by omega) hl (by omega)) (hab.fr f1) hg (by rw [q_ha _ _ _ _ (by omega)]; exact hon)
  refine ⟨A1, B1, ?_, g2, g3, f1.tr g4, ?_, ?_⟩
  · simp only [X2_pinBy, x4, i4, hA, nI_pred, g1, gd_t, ob_s]
  · rw [g5 _ (by omega) (by omega), q_hu]
  · rw [g6 _ (by omega), q_hu]
/-- she lends one -/
theorem q_lend {p s N L m x l l2 k k2 : Nat} {A B : hM} (hN : N ≤ 7) (hL : L ≤ 4) (hS : Sd A B p s N L m x) (hl : l < L) (hl2 : l2 < L) (hll : ¬ l = l2) (hk : k < 9) (hk2 : k2 < 9) (hA : A (p + 4) l = nI (k + 1)) (hA2 : A (p + 4) l2 = nI k2) (hB2 : B 113 (s + 14 + l2) = nI k2) : X2_lendPin p (nI l) (nI l2) A = some (0, hu (hu A (p + 4) l (nI k)) (p + 4) l2 (nI (k2 + 1))) ∧ Sd (hu (hu A (p + 4) l (nI k)) (p + 4) l2 (nI (k2 + 1))) (hu (hu B 113 (s + 14 + l) (nI k)) 113 (s + 14 + l2) (nI (k2 + 1))) p s N L m x ∧ Fr A (hu (hu A (p + 4) l (nI k)) (p + 4) l2 (nI (k2 + 1))) B (hu (hu B 113 (s + 14 + l) (nI k)) 113 (s + 14 + l2) (nI (k2 + 1))) p s := by
  have x4 : hx (nI l) 4 = true := q_hx (by omega) (by decide)
  have i4 : (nI l).toNatClampNeg = l := nI_clamp (by omega)
  have x42 : hx (nI l2) 4 = true := q_hx (by omega) (by decide)
  have i42 : (nI l2).toNatClampNeg = l2 := nI_clamp (by omega)
  have r : hu A (p + 4) l (nI k) (p + 4) l2 = nI k2 := by rw [q_hi _ _ (fun z => hll z.symm)]; exact hA2
  refine ⟨?_, (hS.pin hN hL hl (by omega)).pin hN hL hl2 (by omega), (Fr.pin (by omega)).tr (Fr.pin (by omega))⟩
  simp only [X2_lendPin, x4, i4, x42, i42, hA, nI_pred, r, nI_1, gd_t]
/-- what the draw has them do -/
theorem q_does {s N F L m x d : Nat} {A B : hM} (hs : s ≤ 220) (hm : m ≤ 3000) (hE : Ev A B N F L) (hS : Sd A B 31 s N L m x) (hab : Ab B x N) (hL : 1 ≤ L) (hd : d < 65536) : ∃ A1 B1 : hM, X4_actInTrial (nI d) A = some (0, A1) ∧ X5_does (nI s) (nI d) B = some (0, B1) ∧ Sd A1 B1 31 s N L m x ∧ Fr A A1 B B1 31 s := by
  have hb := hE.1
  have eN := hE.2.1.1
  have fN := hE.2.1.2
  have eL := hE.2.2.2.1.1
  have fL := hE.2.2.2.1.2
  have g8 : ∀ k, gd (decide (¬ (8 : Int32) = 0)) k = k := q_gn (by decide)
  have g64 : ∀ k, gd (decide (¬ (64 : Int32) = 0)) k = k := q_gn (by decide)
  have gN : ∀ k, gd (decide (¬ nI N = 0)) k = k := q_gn (nI_ne0 (by omega) (by omega))
  have gL : ∀ k, gd (decide (¬ nI L = 0)) k = k := q_gn (nI_ne0 (by omega) (by omega))
  have cL : ¬ nI L < 1 := nI_nlt (b := 1) (by omega) (by omega)
  have cN : 1 ≤ nI N := nI_le (a := 1) (by omega) (by omega)
  have h8 : nI d / 8 = nI (d / 8) := pk_div (d := 8) (by omega) (by decide) (by decide)
  have h64 : nI d / 64 = nI (d / 64) := pk_div (d := 64) (by omega) (by decide) (by decide)
  have hk : nI d - nI (d / 8) * 8 = nI (d % 8) := by
    rw [show (8 : Int32) = nI 8 from rfl, pk_mul, pk_sub (by omega)]
    congr 1
    omega
  have rem : ∀ a M : Nat, a < 65536 → 1 ≤ M → M < 10 → nI a / nI M = nI (a / M) ∧ nI a - nI (a / M) * nI M = nI (a % M) := by
    intro a M h1 h2 h3
    have e := pk_div (a := a) (d := M) (by omega) (by omega) (by omega)
    have e2 := pk_rem (a := a) (d := M) (by omega) (by omega) (by omega)
    rw [e] at e2
    exact ⟨e, e2⟩
  obtain ⟨r1, r2⟩ := rem (d / 8) L (by omega) hL (by omega)
  obtain ⟨r3, r4⟩ := rem (d / 64) L (by omega) hL (by omega)
  obtain ⟨r5, r6⟩ := rem (d / 64) N (by omega) (by omega) (by omega)
  have hl : d / 8 % L < L := Nat.mod_lt _ hL
  have hl2 : d / 64 % L < L := Nat.mod_lt _ hL
  have hg : d / 64 % N < N := Nat.mod_lt _ (by omega)
  generalize d / 8 % L = l at r2 hl
  generalize d / 64 % L = l2 at r4 hl2
  generalize d / 64 % N = g at r6 hg
  have x4 : hx (nI l) 4 = true := q_hx (by omega) (by decide)
  have i4 : (nI l).toNatClampNeg = l := nI_clamp (by omega)
  have x42 : hx (nI l2) 4 = true := q_hx (by omega) (by decide)
  have i42 : (nI l2).toNatClampNeg = l2 := nI_clamp (by omega)
  obtain ⟨t14, t14x⟩ := q_s14 (s := s) (g := l) hs (by omega)
  obtain ⟨u14, u14x⟩ := q_s14 (s := s) (g := l2) hs (by omega)
  obtain ⟨s18, s18x⟩ := q_s18 (s := s) hs
  by_cases q : d % 8 ≤ 1
  · have c1 : ¬ 1 < nI (d % 8) := nI_nlt (a := 1) q (by decide)
    have c2 : ¬ 2 ≤ nI (d % 8) := nI_ge (b := 2) (by omega) (by decide)
    have c3 : ¬ nI (d % 8) = 2 := fun z => absurd ((nI_eq (b := 2) (by omega) (by decide)).mp z) (by omega)
    rcases q_canPin hs hE hS hl hg with ⟨e1, e2⟩ | ⟨e1, e2, e3, k, hk9, p1, p2⟩
    · refine ⟨A, B, ?_, ?_, hS, Fr.rf⟩
      · simp only [X4_actInTrial, X4_actInTrial_b96, ↓g8, ↓g64, eN, eL, gN, gL, cL, cN, h8, h64, hk, r1, r2, r3, r4, r5, r6, c1, c3, e1, ob_s, ↓reduceIte]
      · simp only [X5_does, X5_does_b82, ↓g8, ↓g64, fN, fL, gN, gL, h8, h64, hk, r1, r2, r3, r4, r5, r6, c2, c3, e2, ob_s, ↓reduceIte]
    · obtain ⟨A1, B1, g1, g2, g3, g4, -⟩ := q_pinBy (p := 31) (Or.inr rfl) hs hm hE hS hab hl hg e3 hk9 p1
      have r92 : hu B 113 (s + 14 + l) (nI k) 92 0 = nI N := by rw [q_ha _ _ _ _ (by decide)]; exact fN
      have r18 : hu B 113 (s + 14 + l) (nI k) 113 (s + 18) = nI m := by rw [q_hi _ _ (by omega)]; exact hS.1.2
      refine ⟨A1, B1, ?_, ?_, g3, g4⟩
      · simp only [X4_actInTrial, X4_actInTrial_b96, ↓g8, ↓g64, eN, eL, gN, gL, cL, cN, h8, h64, hk, r1, r2, r3, r4, r5, r6, c1, c3, e1, n10, g1, ob_s, ↓reduceIte]
      · simp only [X5_does, X5_does_b82, ↓g8, ↓g64, fN, fL, gN, gL, h8, h64, hk, r1, r2, r3, r4, r5, r6, c2, c3, e2, n10, t14, t14x, p2, nI_pred, r92, s18, s18x, r18, g2, gd_t, ob_s, ↓reduceIte]
  · have c1 : 1 < nI (d % 8) := nI_lt (a := 1) (by omega) (by omega)
    have c2 : 2 ≤ nI (d % 8) := nI_le (a := 2) (by omega) (by omega)
    by_cases q2 : d % 8 = 2
    · have c3 : nI (d % 8) = 2 := by rw [q2]; rfl
      have z22 : (2 : Int32) = 2 := rfl
      obtain ⟨k, hk9, p1, p2⟩ := hS.2.2.2.2 l hl
      obtain ⟨k2, hk92, p3, p4⟩ := hS.2.2.2.2 l2 hl2
      have p1 : A 35 l = nI k := p1
      have p3 : A 35 l2 = nI k2 := p3
      have idl : hu B 113 (s + 14 + l) (nI k) = B := by rw [← p2, hu_id]
      have idl2 : hu B 113 (s + 14 + l2) (nI k2) = B := by rw [← p4, hu_id]
      have same : (X4_actInTrial (nI d) A = some (0, A)) → (X5_does (nI s) (nI d) B = X5_does_b141 (nI s) (nI l) (nI l2) 0 B) → ∃ A1 B1 : hM, X4_actInTrial (nI d) A = some (0, A1) ∧ X5_does (nI s) (nI d) B = some (0, B1) ∧ Sd A1 B1 31 s N L m x ∧ Fr A A1 B B1 31 s := by
        intro e1 e2
        refine ⟨A, B, e1, e2.trans ?_, hS, Fr.rf⟩
        simp only [X5_does_b141, X5_does_b165, t14, t14x, u14, u14x, p2, p4, idl, idl2, Int32.sub_zero, Int32.add_zero, gd_t, ↓reduceIte]
      by_cases hll : l = l2
      · subst hll
        refine same ?_ ?_
        · simp only [X4_actInTrial, X4_actInTrial_b96, ↓g8, ↓g64, eN, eL, gN, gL, cL, cN, h8, h64, hk, r1, r2, r3, r4, r5, r6, c1, c3, ↓reduceIte]
          rfl
        · simp only [X5_does, X5_does_b82, ↓g8, ↓g64, fN, fL, gN, gL, h8, h64, hk, r1, r2, r3, r4, r5, r6, c2, c3, ↓reduceIte]
          rfl
      · have c4 : ¬ nI l = nI l2 := fun z => hll ((nI_eq (by omega) (by omega)).mp z)
        by_cases k0 : k = 0
        · subst k0
          have z : nI 0 ≤ 0 := by decide
          refine same ?_ ?_
          · simp only [X4_actInTrial, X4_actInTrial_b96, ↓g8, ↓g64, eN, eL, gN, gL, cL, cN, h8, h64, hk, r1, r2, r3, r4, r5, r6, c1, c3, c4, x4, i4, p1, z, gd_t, ↓reduceIte]
            rfl
          · simp only [X5_does, X5_does_b82, ↓g8, ↓g64, fN, fL, gN, gL, h8, h64, hk, r1, r2, r3, r4, r5, r6, c2, c3, c4, t14, t14x, p2, z, gd_t, ↓reduceIte]
            rfl
        · obtain ⟨k, rfl⟩ : ∃ j, k = j + 1 := ⟨k - 1, by omega⟩
          have z : ¬ nI (k + 1) ≤ 0 := nI_nle (by omega) (by omega)
          by_cases k9 : k2 = 9
          · subst k9
            have z9 : 9 ≤ nI 9 := by decide
            refine same ?_ ?_
            · simp only [X4_actInTrial, X4_actInTrial_b96, ↓g8, ↓g64, eN, eL, gN, gL, cL, cN, h8, h64, hk, r1, r2, r3, r4, r5, r6, c1, c3, c4, x4, i4, x42, i42, p1, p3, z, z9, gd_t, ↓reduceIte]
              rfl
            · simp only [X5_does, X5_does_b82, ↓g8, ↓g64, fN, fL, gN, gL, h8, h64, hk, r1, r2, r3, r4, r5, r6, c2, c3, c4, t14, t14x, u14, u14x, p2, p4, z, z9, gd_t, ↓reduceIte]
              rfl
          · have z9 : ¬ 9 ≤ nI k2 := nI_ge (b := 9) (by omega) (by decide)
            obtain ⟨w1, w2, w3⟩ := q_lend (p := 31) (by omega) (by omega) hS hl hl2 hll (show k < 9 by omega) (show k2 < 9 by omega) p1 p3 p4
            have rr : hu B 113 (s + 14 + l) (nI k) 113 (s + 14 + l2) = nI k2 := by rw [q_hi _ _ (by omega)]; exact p4
            refine ⟨_, _, ?_, ?_, w2, w3⟩
            · simp only [X4_actInTrial, X4_actInTrial_b96, ↓g8, ↓g64, eN, eL, gN, gL, cL, cN, h8, h64, hk, r1, r2, r3, r4, r5, r6, c1, c3, c4, x4, i4, x42, i42, p1, p3, z, z9, w1, gd_t, ob_s, ↓reduceIte]
              rfl
            · simp only [X5_does, X5_does_b82, X5_does_b141, X5_does_b165, ↓g8, ↓g64, fN, fL, gN, gL, h8, h64, hk, r1, r2, r3, r4, r5, r6, c2, c3, c4, t14, t14x, u14, u14x, p2, p4, z, z9, n10, nI_pred, nI_1, rr, gd_t, ↓reduceIte]
              rfl
    · have c3 : ¬ nI (d % 8) = 2 := fun z => absurd ((nI_eq (b := 2) (by omega) (by decide)).mp z) q2
      refine ⟨A, B, ?_, ?_, hS, Fr.rf⟩
      · simp only [X4_actInTrial, X4_actInTrial_b96, ↓g8, ↓g64, eN, eL, gN, gL, cL, cN, h8, h64, hk, r1, r2, r3, r4, r5, r6, c1, c3, ↓reduceIte]
      · simp only [X5_does, X5_does_b82, ↓g8, ↓g64, fN, fL, gN, gL, h8, h64, hk, r1, r2, r3, r4, r5, r6, c2, c3, ↓reduceIte]
