/-! the whole reading of both; the fault; laying -/
theorem q_reads {T : Nat} {c : Nat → Nat} {d : Nat} (hd : d = 4 ∨ d = 15) : ∀ (m i t n1 n2 : Nat) (A B : hM) (N F L : Nat), T ≤ i + m → i ≤ T → t ≤ i → m < n1 → m + 1 < n2 → Tt A T c → Tm B T c → B 92 31 = nI i → B 92 33 = 0 → Dw A B d N F L →
    ∃ A' B', Fc d A A' ∧ Fb B B' ∧ ((∃ N' F' L', X3_readInto_l8 1 d n1 (nI i) (nI t) A = some (-4, A') ∧ X5_reads_l14 n2 B = some (1, B') ∧ Dw A' B' d N' F' L') ∨ (∃ i', i' < 200 ∧ X3_readInto_l8 1 d n1 (nI i) (nI t) A = some (nI i', A') ∧ X5_reads_l14 n2 B = some (0, B') ∧ B' 92 32 = nI i')) := by
  have base : ∀ (i t n1 n2 : Nat) (A B : hM) (N F L : Nat), i = T → t ≤ i → Tt A T c → Tm B T c → B 92 31 = nI i → B 92 33 = 0 → Dw A B d N F L →
      ∃ A' B', Fc d A A' ∧ Fb B B' ∧ ((∃ N' F' L', X3_readInto_l8 1 d (n1 + 1) (nI i) (nI t) A = some (-4, A') ∧ X5_reads_l14 (n2 + 1) B = some (1, B') ∧ Dw A' B' d N' F' L') ∨ (∃ i', i' < 200 ∧ X3_readInto_l8 1 d (n1 + 1) (nI i) (nI t) A = some (nI i', A') ∧ X5_reads_l14 (n2 + 1) B = some (0, B') ∧ B' 92 32 = nI i')) := by
    intro i t n1 n2 A B N F L hi hti hA hB ha hw hD
    have hT := hA.1
    have c1 : nI T ≤ nI i := nI_le (by omega) (by omega)
    refine ⟨A, B, Fc.rf, Fb.rf, Or.inl ⟨N, F, L, ?_, ?_, hD⟩⟩
    · show X3_readInto_h8 1 d (X3_readInto_l8 1 d n1) (nI i) (nI t) A = _
      unfold X3_readInto_h8
      rw [hA.2.1]
      by_cases z : (200 : Int32) ≤ nI t
      · rw [if_pos z]
      · rw [if_neg z, if_pos c1]
    · show X5_reads_h14 (X5_reads_l14 n2) B = _
      unfold X5_reads_h14 X5_reads_b98
      rw [hB.2.1, ha, if_pos c1, if_pos hw, q_g1]
  intro m
  induction m with
  | zero =>
    intro i t n1 n2 A B N F L h1 h2 h3 h4 h5 hA hB ha hw hD
    obtain ⟨n1, rfl⟩ : ∃ j, n1 = j + 1 := ⟨n1 - 1, by omega⟩
    obtain ⟨n2, rfl⟩ : ∃ j, n2 = j + 1 := ⟨n2 - 1, by omega⟩
    exact base i t n1 n2 A B N F L (by omega) h3 hA hB ha hw hD
  | succ m ih =>
    intro i t n1 n2 A B N F L h1 h2 h3 h4 h5 hA hB ha hw hD
    obtain ⟨n1, rfl⟩ : ∃ j, n1 = j + 1 := ⟨n1 - 1, by omega⟩
    obtain ⟨n2, rfl⟩ : ∃ j, n2 = j + 1 := ⟨n2 - 1, by omega⟩
    have hT := hA.1
    by_cases hi : i < T
    · obtain ⟨A1, B1, f1, f2, e2, q⟩ := q_turn hd hA hB hi (show t < 200 by omega) ha hw hD
      have el : X5_reads_l14 (n2 + 1) B = X5_reads_l14 n2 B1 := e2 (X5_reads_l14 n2)
      rcases q with ⟨k, N', F', L', k1, k2, e1, hD1, ha1, hw1⟩ | ⟨e1, hw1, h32⟩
      · have ec : X3_readInto_l8 1 d (n1 + 1) (nI i) (nI t) A = X3_readInto_l8 1 d n1 (nI k) (nI (t + 1)) A1 := e1 (X3_readInto_l8 1 d n1)
        obtain ⟨A2, B2, g1, g2, g3⟩ := ih k (t + 1) n1 n2 A1 B1 N' F' L' (by omega) k2 (by omega) (by omega) (by omega) (f1.tt hd hA) (f2.tm hB) ha1 hw1 hD1
        rw [el, ec]
        exact ⟨A2, B2, f1.tr g1, f2.tr g2, g3⟩
      · have ec : X3_readInto_l8 1 d (n1 + 1) (nI i) (nI t) A = some (nI i, A1) := e1 (X3_readInto_l8 1 d n1)
        obtain ⟨n2, rfl⟩ : ∃ j, n2 = j + 1 := ⟨n2 - 1, by omega⟩
        refine ⟨A1, B1, f1, f2, Or.inr ⟨i, by omega, ec, el.trans ?_, h32⟩⟩
        show X5_reads_h14 (X5_reads_l14 n2) B1 = _
        unfold X5_reads_h14 X5_reads_b98
        by_cases z : B1 92 29 ≤ B1 92 31
        · rw [if_pos z, hw1, if_neg n10, q_g0]
        · rw [if_neg z, hw1, if_neg n10, if_neg n10, q_g0]
    · exact base i t n1 n2 A B N F L (by omega) h3 hA hB ha hw hD
theorem Dw.zero {A B : hM} {d : Nat} : Dw (hu (hu (hu A d 0 0) d 1 0) d 2 0) (hu (hu (hu B 92 13 0) 92 19 0) 92 23 0) d 0 0 0 := by
  refine ⟨⟨by decide, by decide, by decide⟩, ⟨?_, ?_⟩, ⟨?_, ?_⟩, ⟨?_, ?_⟩, fun g hg => absurd hg (by omega), fun g hg => absurd hg (by omega), fun g hg => absurd hg (by omega)⟩
  · rw [q_hi _ _ (by decide), q_hi _ _ (by decide), q_hu, nI_0]
  · rw [q_hi _ _ (by decide), q_hi _ _ (by decide), q_hu, nI_0]
  · rw [q_hi _ _ (by decide), q_hu, nI_0]
  · rw [q_hi _ _ (by decide), q_hu, nI_0]
  · rw [q_hu, nI_0]
  · rw [q_hu, nI_0]
theorem q_zeroC {A : hM} {d : Nat} (hd : d = 4 ∨ d = 15) : Fc d A (hu (hu (hu A d 0 0) d 1 0) d 2 0) :=
  ⟨fun a _ _ h3 => by rw [q_hr _ _ _ (by omega), q_hr _ _ _ (by omega), q_hr _ _ _ (by omega)], fun i _ => by rw [q_ha _ _ _ _ (by omega), q_ha _ _ _ _ (by omega), q_ha _ _ _ _ (by omega)]⟩
theorem q_zeroM {B : hM} : Fb B (hu (hu (hu (hu (hu B 92 13 0) 92 19 0) 92 23 0) 92 31 0) 92 33 0) :=
  ⟨fun a h1 _ => by rw [q_hr _ _ _ h1, q_hr _ _ _ h1, q_hr _ _ _ h1, q_hr _ _ _ h1, q_hr _ _ _ h1], fun i h1 h2 h3 h4 h5 h6 => by rw [q_hi _ _ h6, q_hi _ _ h4, q_hi _ _ h3, q_hi _ _ h2, q_hi _ _ h1]⟩
theorem q_readBoth {A B : hM} {T : Nat} {c : Nat → Nat} {d : Nat} (hd : d = 4 ∨ d = 15) (hA : Tt A T c) (hB : Tm B T c) :
    ∃ A' B', Fc d A A' ∧ Fb B B' ∧ ((∃ N F L, X3_readInto 1 d A = some (-4, A') ∧ X5_reads B = some (1, B') ∧ Dw A' B' d N F L) ∨ (∃ i', i' < 200 ∧ X3_readInto 1 d A = some (nI i', A') ∧ X5_reads B = some (0, B') ∧ B' 92 32 = nI i')) := by
  have hT := hA.1
  have w33 : hu (hu (hu (hu (hu B 92 13 0) 92 19 0) 92 23 0) 92 31 0) 92 33 0 92 33 = 0 := q_hu _ _ _ _
  have w31 : hu (hu (hu (hu (hu B 92 13 0) 92 19 0) 92 23 0) 92 31 0) 92 33 0 92 31 = nI 0 := by rw [q_hi _ _ (by decide), q_hu, nI_0]
  have hD : Dw (hu (hu (hu A d 0 0) d 1 0) d 2 0) (hu (hu (hu (hu (hu B 92 13 0) 92 19 0) 92 23 0) 92 31 0) 92 33 0) d 0 0 0 := Dw.zero.keep (fun _ _ _ => rfl) (by rw [q_hi _ _ (by decide), q_hi _ _ (by decide)]) (by rw [q_hi _ _ (by decide), q_hi _ _ (by decide)]) (by rw [q_hi _ _ (by decide), q_hi _ _ (by decide)]) (fun a _ _ => by rw [q_hr _ _ _ (by omega), q_hr _ _ _ (by omega)])
  obtain ⟨A1, B1, f1, f2, q⟩ := q_reads hd T 0 0 hF hF _ _ 0 0 0 (by omega) (by omega) (Nat.le_refl _) (show T < 1024 by omega) (show T + 1 < 1024 by omega) ((q_zeroC hd).tt hd hA) (q_zeroM.tm hB) w31 w33 hD
  rw [nI_0] at q
  have e1 : X3_readInto 1 d A = X3_readInto_l8 1 d hF 0 0 (hu (hu (hu A d 0 0) d 1 0) d 2 0) := by
    unfold X3_readInto X0_clear
    rw [ob_s]
  have e2 : X5_reads B = X5_reads_l14 hF (hu (hu (hu (hu (hu B 92 13 0) 92 19 0) 92 23 0) 92 31 0) 92 33 0) := by
    unfold X5_reads X5_clears
    rw [ob_s, q_g0]
  rw [e1, e2]
  exact ⟨A1, B1, (q_zeroC hd).tr f1, q_zeroM.tr f2, q⟩
theorem Inv.read {A B A' B' : hM} (h : Inv A B) (hA : Fc 15 A A') (hB : Fb B B') : Inv A' B' := by
  obtain ⟨N, F, L, m, hE, hm, hS, hx, hT, hNo, hU, hK⟩ := h
  have hb := hE.1
  have kA : ∀ a, a ≠ 1 → a ≠ 3 → ¬ (15 ≤ a ∧ a ≤ 25) → A' a = A a := fun a h1 h2 h3 => hA.1 a h1 h2 (by omega)
  have kB : ∀ a, a ≠ 92 → ¬ (103 ≤ a ∧ a ≤ 112) → B' a = B a := hB.1
  have k92 : ∀ i, i ≠ 13 → i ≠ 19 → i ≠ 23 → i ≠ 31 → i ≠ 32 → i ≠ 33 → B' 92 i = B 92 i := hB.2
  have k113 : B' 113 = B 113 := kB 113 (by decide) (by decide)
  have k9 : ∀ i, i < 13 ∨ (23 < i ∧ i < 31) ∨ 33 < i → B' 92 i = B 92 i := fun i hi => k92 i (by omega) (by omega) (by omega) (by omega) (by omega) (by omega)
  refine ⟨N, F, L, m, hE.keep (fun a _ _ => kA a (by omega) (by omega) (by omega)) (k9 0 (by decide)) (k9 6 (by decide)) (k9 10 (by decide)) (fun a _ _ => kB a (by omega) (by omega)), hm, hS.keep (by omega) (by omega) (fun a _ _ => kA a (by omega) (by omega) (by omega)) (fun j _ _ => by rw [k113]), by rw [k9 37 (by decide)]; exact hx, hT.keep (hA.2 1 (by decide)) (kA 2 (by decide) (by decide) (by decide)) (k9 29 (by decide)) (kB 114 (by decide) (by decide)), hNo.keep (by rw [kA 0 (by decide) (by decide) (by decide)]) (kA 90 (by decide) (by decide) (by decide)) (kA 91 (by decide) (by decide) (by decide)) (k9 34 (by decide)) (kB 115 (by decide) (by decide)) (kB 116 (by decide) (by decide)), hU.keep (by omega) (by omega) (fun a _ _ => kA a (by omega) (by omega) (by omega)) (k9 27 (by decide)) (fun j _ _ => by rw [k113]), hK.keep (by omega) (by omega) (fun a _ _ => kA a (by omega) (by omega) (by omega)) (k9 28 (by decide)) (fun j _ _ => by rw [k113])⟩
theorem op_fault : Op X4_fault X5_fault := by
  intro A B hI
  obtain ⟨N0, F0, L0, m0, -, -, -, -, hTx, -⟩ := id hI
  obtain ⟨T, c, hA, hB⟩ := hTx.tt
  obtain ⟨A1, B1, f1, f2, q⟩ := q_readBoth (d := 15) (Or.inr rfl) hA hB
  have oA : ∀ a, 92 ≤ a → A1 a = A a := fun a ha => f1.1 a (by omega) (by omega) (by omega)
  have oB : ∀ a, a < 92 → B1 a = B a := fun a ha => f2.1 a (by omega) (by omega)
  rcases q with ⟨N, F, L, r1, r2, -⟩ | ⟨i', hi', r1, r2, r3⟩
  · refine ⟨-4, A1, B1, ?_, ?_, hI.read f1 f2, oA, oB⟩
    · unfold X4_fault
      rw [r1, ob_s]
    · unfold X5_fault
      rw [r2, ob_s, if_neg n10]
  · refine ⟨nI i', A1, B1, ?_, ?_, hI.read f1 f2, oA, oB⟩
    · unfold X4_fault
      rw [r1, ob_s]
    · unfold X5_fault
      rw [r2, ob_s, if_pos rfl, r3]
theorem op_lay : Op X4_lay X5_lay := by
  intro A B hI
  obtain ⟨N0, F0, L0, m0, hE0, hm0, hS0, hx, hTx, hNo, hU, hK⟩ := id hI
  obtain ⟨T, c, hA, hB⟩ := hTx.tt
  obtain ⟨A1, B1, f1, f2, q⟩ := q_readBoth (d := 15) (Or.inr rfl) hA hB
  have oA : ∀ a, 92 ≤ a → A1 a = A a := fun a ha => f1.1 a (by omega) (by omega) (by omega)
  have oB : ∀ a, a < 92 → B1 a = B a := fun a ha => f2.1 a (by omega) (by omega)
  rcases q with ⟨N, F, L, r1, r2, hD⟩ | ⟨i', hi', r1, r2, r3⟩
  · have d1 : A1 15 0 = nI N := hD.2.1.1
    have d2 : B1 92 13 = nI N := hD.2.1.2
    have hN7 : N ≤ 7 := hD.1.1
    by_cases h0 : N = 0
    · refine ⟨-2, A1, B1, ?_, ?_, hI.read f1 f2, oA, oB⟩
      · unfold X4_lay
        rw [r1, ob_s, if_pos rfl, d1, h0, if_pos nI_0]
      · unfold X5_lay
        rw [r2, ob_s, if_neg n10, d2, h0, if_pos nI_0]
    · have hA1 : Tt A1 T c := f1.tt (Or.inr rfl) hA
      have z0 : ¬ nI N = 0 := nI_ne0 (by omega) (by omega)
      obtain ⟨A2, B2, g1, g2, q⟩ := q_readBoth (d := 4) (Or.inl rfl) hA1 hB
      rcases q with ⟨N2, F2, L2, s1, s2, hD2⟩ | ⟨i', hi', s1, s2, s3⟩
      · rw [r2] at s2
        obtain ⟨-, e⟩ := Prod.mk.inj (Option.some.inj s2)
        subst e
        have hN2 : N2 ≤ 7 := hD2.1.1
        have e2 : nI N = nI N2 := by rw [← d2]; exact hD2.2.1.2
        have e3 : N = N2 := (nI_eq (by omega) (by omega)).mp e2
        obtain ⟨A3, B3, t1, t2, hE, hS, tA, tB, tB2, tB3⟩ := q_lays hD2 (by omega)
        obtain ⟨A4, hA4⟩ : ∃ A4, A4 = hu (hu (hu A3 36 1 0) 78 1 0) 0 9 0 := ⟨_, rfl⟩
        obtain ⟨B4, hB4⟩ : ∃ B4, B4 = hu (hu (hu B3 92 27 0) 92 28 0) 92 34 0 := ⟨_, rfl⟩
        have uA : ∀ a, a ≠ 36 → a ≠ 78 → a ≠ 0 → A4 a = A3 a := fun a h1 h2 h3 => by rw [hA4, q_hr _ _ _ h3, q_hr _ _ _ h2, q_hr _ _ _ h1]
        have uB : ∀ a, a ≠ 92 → B4 a = B3 a := fun a h1 => by rw [hB4, q_hr _ _ _ h1, q_hr _ _ _ h1, q_hr _ _ _ h1]
        have uB2 : ∀ i, i ≠ 27 → i ≠ 28 → i ≠ 34 → B4 92 i = B3 92 i := fun i h1 h2 h3 => by rw [hB4, q_hi _ _ h3, q_hi _ _ h2, q_hi _ _ h1]
        -- what stays from the beginning
        have vA : ∀ a, 31 ≤ a ∨ a = 2 → a ≠ 36 → a ≠ 78 → A4 a = A a := fun a h1 h2 h3 => by rw [uA a h2 h3 (by omega), tA a (by omega), g1.1 a (by omega) (by omega) (by omega), f1.1 a (by omega) (by omega) (by omega)]
        have vB : ∀ a, a < 92 ∨ 113 < a → B4 a = B a := fun a h1 => by rw [uB a (by omega), tB a (by omega) (by omega) (by omega), f2.1 a (by omega) (by omega)]
        have vB2 : ∀ i, i = 29 ∨ i = 37 → B4 92 i = B 92 i := fun i h1 => by rw [uB2 i (by omega) (by omega) (by omega), tB2 i (by omega) (by omega) (by omega), f2.2 i (by omega) (by omega) (by omega) (by omega) (by omega) (by omega)]
        have e4 : A4 4 0 = nI N2 := by rw [uA 4 (by decide) (by decide) (by decide)]; exact hE.2.1.1
        have e5 : B4 92 0 = nI N2 := by rw [uB2 0 (by decide) (by decide) (by decide)]; exact hE.2.1.2
        have hb := hE.1
        refine ⟨nI N2, A4, B4, ?_, ?_, ⟨N2, F2, L2, 0, hE.keep (fun a _ _ => uA a (by omega) (by omega) (by omega)) (uB2 0 (by decide) (by decide) (by decide)) (uB2 6 (by decide) (by decide) (by decide)) (uB2 10 (by decide) (by decide) (by decide)) (fun a _ _ => uB a (by omega)), by decide, hS.keep (by omega) (by omega) (fun a _ _ => uA a (by omega) (by omega) (by omega)) (fun j _ _ => by rw [uB 113 (by decide)]), by rw [vB2 37 (Or.inr rfl)]; exact hx, hTx.keep ?_ (vA 2 (Or.inr rfl) (by decide) (by decide)) (vB2 29 (Or.inl rfl)) (vB 114 (by decide)), ⟨0, by decide, ?_, ?_, fun i hi => absurd hi (by omega)⟩, ?_, ?_⟩, fun a ha => vA a (by omega) (by omega) (by omega), fun a ha => vB a (Or.inl ha)⟩
        · unfold X4_lay
          rw [r1, ob_s, if_pos rfl, d1, if_neg z0, s1, ob_s, t1, ob_s, ← hA4, e4]
        · unfold X5_lay
          rw [r2, ob_s, if_neg n10, d2, if_neg z0, t2, ob_s, ← hB4, e5]
        · rw [uA 1 (by decide) (by decide) (by decide), tA 1 (by decide), g1.2 1 (by decide), f1.2 1 (by decide)]
        · rw [hA4, q_hu, nI_0]
        · rw [hB4, q_hu, nI_0]
        · obtain ⟨U, u1, u2, u3, r, w1, w2, w3⟩ := hU
          refine ⟨0, by decide, ?_, ?_, r, fun i hi => ?_, w2, fun i hi => absurd hi (by omega)⟩
          · rw [hA4, q_ha _ _ _ _ (by decide), q_ha _ _ _ _ (by decide), q_hu, nI_0]
          · rw [hB4, q_hi _ _ (by decide), q_hi _ _ (by decide), q_hu, nI_0]
          · rw [vA 37 (by decide) (by decide) (by decide)]
            exact w1 i hi
        · obtain ⟨V, v1, v2, v3, w1, w2⟩ := hK
          refine ⟨0, by decide, ?_, ?_, fun i hi => ?_, fun i hi => absurd hi (by omega)⟩
          · rw [hA4, q_ha _ _ _ _ (by decide), q_hu, nI_0]
          · rw [hB4, q_hi _ _ (by decide), q_hu, nI_0]
          · rw [vA 79 (by decide) (by decide) (by decide)]
            exact w1 i hi
      · rw [r2] at s2
        exact absurd (Prod.mk.inj (Option.some.inj s2)).1 n10
  · have z : ¬ nI i' = (-4 : Int32) := nI_nm4 (by omega)
    refine ⟨-2, A1, B1, ?_, ?_, hI.read f1 f2, oA, oB⟩
    · unfold X4_lay
      rw [r1, ob_s, if_neg z]
    · unfold X5_lay
      rw [r2, ob_s, if_pos rfl]
