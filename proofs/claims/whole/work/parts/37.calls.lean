theorem Iv.ab {A B : hM} {N F L m : Nat} (h : Iv A B N F L m) : Ab B N N := ⟨fun z => absurd z (by omega), fun _ => h.2.2.2.1⟩
theorem op_pass (v : Int32) : Op (X4_pass v) (X5_pass v) := Op.iv (by
  intro A B N F L m hI
  rcases q_r1 v 24 24 24 q_24.1 q_24.2 (by decide) with ⟨h, e⟩ | ⟨h0, h, e⟩ | ⟨c, hc1, hc, rfl, d0, d1, e⟩
  · refine ⟨-1, A, B, ?_, ?_, hI.inv, Sp.rf⟩
    · unfold X4_pass
      rw [if_pos h]
    · unfold X5_pass
      rw [e, ob_s, if_pos rfl]
  · have h2 : ¬ v ≤ 24 := by
      rw [q_lt] at h
      rw [q_le]
      omega
    refine ⟨-1, A, B, ?_, ?_, hI.inv, Sp.rf⟩
    · unfold X4_pass
      rw [if_neg h0, if_neg h2]
    · unfold X5_pass
      rw [e, ob_s, if_pos rfl]
  · have d2 : nI c ≤ 24 := nI_le (b := 24) hc (by decide)
    have a0 : A 26 0 = nI m := hI.2.2.1.1.1
    have b0 : B 113 18 = nI m := hI.2.2.1.1.2
    have i18 : (18 : Int32).toNatClampNeg = 18 := by decide
    have x18 : hx 18 240 = true := by decide
    have i19 : (19 : Int32).toNatClampNeg = 19 := by decide
    have x19 : hx 19 240 = true := by decide
    have hm := hI.2.1
    by_cases q : m + c ≤ 999
    · have q1 : nI (m + c) ≤ 999 := nI_le (b := 999) q (by decide)
      obtain ⟨A1, B1, p1, p2, p3, p4, p5, p6⟩ := q_put hI
      obtain ⟨A2, B2, g1, g2, g3, g4⟩ := q_goBy (s := 0) (F := F) (n := c) (Or.inl rfl) (by decide) (by omega) (show m + c ≤ 2900 by omega) p3.1 p3.2.2.1 p3.ab
      rw [nI_0] at g2
      have k : A2 26 1 = B2 113 19 := g3.2.1
      refine ⟨A2 26 1 + 10000, A2, B2, ?_, ?_, (p3.st g4 g3 q).inv, p4.tr (g4.sp (Or.inl rfl))⟩
      · unfold X4_pass
        rw [if_neg d0, if_pos d2, a0, nI_add, if_pos q1, p1, ob_s, g1, ob_s]
      · unfold X5_pass
        rw [e, ob_s, if_neg n10, x18, gd_t, i18, b0, nI_add, if_pos q1, p2, ob_s, g2, ob_s, x19, gd_t, i19, k]
    · have q1 : ¬ nI (m + c) ≤ 999 := nI_ge (b := m + c) (a := 999) (by omega) (by omega)
      refine ⟨-2, A, B, ?_, ?_, hI.inv, Sp.rf⟩
      · unfold X4_pass
        rw [if_neg d0, if_pos d2, a0, nI_add, if_neg q1]
      · unfold X5_pass
        rw [e, ob_s, if_neg n10, x18, gd_t, i18, b0, nI_add, if_neg q1])
theorem op_pin (v w : Int32) : Op (X4_pin v w) (X5_pin v w) := Op.iv (by
  intro A B N F L m hI
  have hE := hI.1
  have hS := hI.2.2.1
  have hb := hE.1
  have no : (v < 0 ∨ nI L ≤ v) → ∃ r A' B', X4_pin v w A = some (r, A') ∧ X5_pin v w B = some (r, B') ∧ Inv A' B' ∧ Sp A A' B B' := by
    intro h
    obtain ⟨e1, e2⟩ := q_lout hb.2.2 hE.2.2.2.1.1 hE.2.2.2.1.2 h
    exact ⟨-1, A, B, by simp only [X4_pin, e1, ob_s, ↓reduceIte], by simp only [X5_pin, e2, ob_s, ↓reduceIte], hI.inv, Sp.rf⟩
  rcases pk_ix v (n := L) (by omega) with h | h | ⟨l, hl, rfl⟩
  · exact no (Or.inl h)
  · exact no (Or.inr h)
  · obtain ⟨e1, e2⟩ := q_lin hb.2.2 hE.2.2.2.1.1 hE.2.2.2.1.2 hl
    have no2 : (w < 0 ∨ nI N ≤ w) → ∃ r A' B', X4_pin (nI l) w A = some (r, A') ∧ X5_pin (nI l) w B = some (r, B') ∧ Inv A' B' ∧ Sp A A' B B' := by
      intro h
      obtain ⟨f1, f2⟩ := q_gout hb.1 hE.2.1.1 hE.2.1.2 h
      exact ⟨-1, A, B, by simp only [X4_pin, e1, f1, n10, ob_s, ↓reduceIte], by simp only [X5_pin, e2, f2, n10, ob_s, ↓reduceIte], hI.inv, Sp.rf⟩
    rcases pk_ix w (n := N) (by omega) with h | h | ⟨g, hg, rfl⟩
    · exact no2 (Or.inl h)
    · exact no2 (Or.inr h)
    · obtain ⟨f1, f2⟩ := q_gin hb.1 hE.2.1.1 hE.2.1.2 hg
      rcases q_canPin (s := 0) (by decide) hE hS hl hg with ⟨c1, c2⟩ | ⟨c1, c2, hon, k, hk, k1, k2⟩
      · rw [nI_0] at c2
        exact ⟨-2, A, B, by simp only [X4_pin, e1, f1, c1, n10, ob_s, ↓reduceIte], by simp only [X5_pin, e2, f2, c2, n10, ob_s, ↓reduceIte], hI.inv, Sp.rf⟩
      · rw [nI_0] at c2
        have hm := hI.2.1
        obtain ⟨A1, B1, p1, p2, p3, p4, p5, p6⟩ := q_put hI
        have k1' : A1 (26 + 4) l = nI (k + 1) := by rw [p5 (26 + 4) (by decide)]; exact k1
        have hon' : A1 (26 + 1) g = 1 := by rw [p5 (26 + 1) (by decide)]; exact hon
        obtain ⟨A2, B2, g1, g2, g3, g4, g5, g6⟩ := q_pinBy (s := 0) (Or.inl rfl) (by decide) (by omega) p3.1 p3.2.2.1 p3.ab hl hg hon' hk k1'
        rw [show 0 + 14 + l = 14 + l by omega] at g2 g6 k2
        rw [nI_0] at g2
        have x4 : hx (nI l) 4 = true := q_hx (by omega) (by decide)
        have i4 : (nI l).toNatClampNeg = l := nI_clamp (by omega)
        obtain ⟨t14, t14x⟩ := q_14g (g := l) (by omega)
        have i18 : (18 : Int32).toNatClampNeg = 18 := by decide
        have x18 : hx 18 240 = true := by decide
        have k2' : B1 113 (14 + l) = nI (k + 1) := by rw [p6 _ (by omega)]; exact k2
        have r18 : hu B1 113 (14 + l) (nI k) 113 18 = nI m := by rw [q_hi _ _ (by omega)]; exact p3.2.2.1.1.2
        have g5 : A2 30 l = nI k := g5
        refine ⟨nI k, A2, B2, ?_, ?_, (p3.st g4 g3 (by omega)).inv, p4.tr (g4.sp (Or.inl rfl))⟩
        · simp only [X4_pin, e1, f1, c1, n10, p1, g1, x4, i4, g5, gd_t, ob_s, ↓reduceIte]
        · simp only [X5_pin, e2, f2, c2, n10, p2, t14, t14x, k2', nI_pred, i18, x18, r18, g2, g6, gd_t, ob_s, ↓reduceIte])
theorem op_lend (v w : Int32) : Op (X4_lend v w) (X5_lend v w) := Op.iv (by
  intro A B N F L m hI
  have hE := hI.1
  have hS := hI.2.2.1
  have hb := hE.1
  have no : (v < 0 ∨ nI L ≤ v) → ∃ r A' B', X4_lend v w A = some (r, A') ∧ X5_lend v w B = some (r, B') ∧ Inv A' B' ∧ Sp A A' B B' := by
    intro h
    obtain ⟨e1, e2⟩ := q_lout hb.2.2 hE.2.2.2.1.1 hE.2.2.2.1.2 h
    exact ⟨-1, A, B, by simp only [X4_lend, e1, ob_s, ↓reduceIte], by simp only [X5_lend, e2, ob_s, ↓reduceIte], hI.inv, Sp.rf⟩
  rcases pk_ix v (n := L) (by omega) with h | h | ⟨l, hl, rfl⟩
  · exact no (Or.inl h)
  · exact no (Or.inr h)
  · obtain ⟨e1, e2⟩ := q_lin hb.2.2 hE.2.2.2.1.1 hE.2.2.2.1.2 hl
    have no2 : (w < 0 ∨ nI L ≤ w) → ∃ r A' B', X4_lend (nI l) w A = some (r, A') ∧ X5_lend (nI l) w B = some (r, B') ∧ Inv A' B' ∧ Sp A A' B B' := by
      intro h
      obtain ⟨f1, f2⟩ := q_lout hb.2.2 hE.2.2.2.1.1 hE.2.2.2.1.2 h
      exact ⟨-1, A, B, by simp only [X4_lend, e1, f1, n10, ob_s, ↓reduceIte], by simp only [X5_lend, e2, f2, n10, ob_s, ↓reduceIte], hI.inv, Sp.rf⟩
    rcases pk_ix w (n := L) (by omega) with h | h | ⟨l2, hl2, rfl⟩
    · exact no2 (Or.inl h)
    · exact no2 (Or.inr h)
    · obtain ⟨f1, f2⟩ := q_lin hb.2.2 hE.2.2.2.1.1 hE.2.2.2.1.2 hl2
      by_cases hll : l = l2
      · subst hll
        exact ⟨-1, A, B, by simp only [X4_lend, e1, n10, ob_s, ↓reduceIte], by simp only [X5_lend, e2, n10, ob_s, ↓reduceIte], hI.inv, Sp.rf⟩
      · have c4 : ¬ nI l = nI l2 := fun z => hll ((nI_eq (by omega) (by omega)).mp z)
        obtain ⟨k, hk9, p1, p2⟩ := hS.2.2.2.2 l hl
        obtain ⟨k2, hk92, p3, p4⟩ := hS.2.2.2.2 l2 hl2
        rw [show 0 + 14 + l = 14 + l by omega] at p2
        rw [show 0 + 14 + l2 = 14 + l2 by omega] at p4
        have p1 : A 30 l = nI k := p1
        have p3 : A 30 l2 = nI k2 := p3
        have x4 : hx (nI l) 4 = true := q_hx (by omega) (by decide)
        have i4 : (nI l).toNatClampNeg = l := nI_clamp (by omega)
        have x42 : hx (nI l2) 4 = true := q_hx (by omega) (by decide)
        have i42 : (nI l2).toNatClampNeg = l2 := nI_clamp (by omega)
        obtain ⟨t14, t14x⟩ := q_14g (g := l) (by omega)
        obtain ⟨u14, u14x⟩ := q_14g (g := l2) (by omega)
        by_cases k0 : k = 0
        · subst k0
          have z : ¬ 1 ≤ nI 0 := by decide
          have z2 : nI 0 = 0 := nI_0
          refine ⟨-2, A, B, ?_, ?_, hI.inv, Sp.rf⟩
          · simp only [X4_lend, e1, f1, c4, n10, x4, i4, p1, z, gd_t, ob_s, ↓reduceIte]
          · simp only [X5_lend, e2, f2, c4, n10, t14, t14x, p2, z2, gd_t, ob_s, ↓reduceIte]
        · obtain ⟨k, rfl⟩ : ∃ j, k = j + 1 := ⟨k - 1, by omega⟩
          have z : 1 ≤ nI (k + 1) := nI_le (a := 1) (by omega) (by omega)
          have z2 : ¬ nI (k + 1) = 0 := nI_ne0 (by omega) (by omega)
          by_cases k9 : k2 = 9
          · subst k9
            have z9 : ¬ nI 9 < 9 := by decide
            have z92 : nI 9 = 9 := rfl
            refine ⟨-3, A, B, ?_, ?_, hI.inv, Sp.rf⟩
            · simp only [X4_lend, e1, f1, c4, n10, x4, i4, x42, i42, p1, p3, z, z9, gd_t, ob_s, ↓reduceIte]
            · simp only [X5_lend, e2, f2, c4, n10, t14, t14x, u14, u14x, p2, p4, z2, z92, gd_t, ob_s, ↓reduceIte]
          · have z9 : nI k2 < 9 := nI_lt (b := 9) (by omega) (by decide)
            have z92 : ¬ nI k2 = 9 := fun z => k9 ((nI_eq (b := 9) (by omega) (by decide)).mp z)
            obtain ⟨A1, B1, q1, q2, q3, q4, q5, q6⟩ := q_put hI
            have a1 : A1 (26 + 4) l = nI (k + 1) := by rw [q5 (26 + 4) (by decide)]; exact p1
            have a2 : A1 (26 + 4) l2 = nI k2 := by rw [q5 (26 + 4) (by decide)]; exact p3
            have b1 : B1 113 (14 + l) = nI (k + 1) := by rw [q6 _ (by omega)]; exact p2
            have b2 : B1 113 (0 + 14 + l2) = nI k2 := by rw [q6 _ (by omega), show 0 + 14 + l2 = 14 + l2 by omega]; exact p4
            obtain ⟨w1, w2, w3⟩ := q_lend (p := 26) (s := 0) (by omega) (by omega) q3.2.2.1 hl hl2 hll (show k < 9 by omega) (show k2 < 9 by omega) a1 a2 b2
            rw [show 0 + 14 + l = 14 + l by omega, show 0 + 14 + l2 = 14 + l2 by omega] at w2 w3
            have rr : hu B1 113 (14 + l) (nI k) 113 (14 + l2) = nI k2 := by rw [q_hi _ _ (by omega), show 14 + l2 = 0 + 14 + l2 by omega]; exact b2
            have w1 : X2_lendPin 26 (nI l) (nI l2) A1 = some (0, hu (hu A1 30 l (nI k)) 30 l2 (nI (k2 + 1))) := w1
            refine ⟨nI (k2 + 1), _, _, ?_, ?_, (q3.st w3 w2 hI.2.1).inv, q4.tr (w3.sp (Or.inl rfl))⟩
            · simp only [X4_lend, e1, f1, c4, n10, x4, i4, x42, i42, p1, p3, z, z9, q1, w1, q_hu, gd_t, ob_s, ↓reduceIte]
            · simp only [X5_lend, e2, f2, c4, n10, t14, t14x, u14, u14x, p2, p4, z2, z92, q2, b1, nI_pred, rr, nI_1, q_hu, gd_t, ob_s, ↓reduceIte])
/-- fewer are known -/
theorem Iv.held {A B : hM} {N F L m U U' : Nat} (h : Iv A B N F L m) (hA : A 36 1 = nI U) (hU8 : U ≤ 8) (hU' : U' ≤ U) : Iv (hu A 36 1 (nI U')) (hu B 92 27 (nI U')) N F L m := by
  obtain ⟨hE, hm, hS, hx0, hT, hNo, hU, hK⟩ := h
  have hb := hE.1
  obtain ⟨W, u1, u2, u3, r, r1, r2, r3⟩ := hU
  have hUU : W = U := by
    rw [u2] at hA
    exact (nI_eq (by omega) (by omega)).mp hA
  have hA2 : ∀ a, a ≠ 36 → hu A 36 1 (nI U') a = A a := fun a h1 => q_hr _ _ _ h1
  have hBo : ∀ a, a ≠ 92 → hu B 92 27 (nI U') a = B a := fun a h1 => q_hr _ _ _ h1
  have hB92 : ∀ i, i ≠ 27 → hu B 92 27 (nI U') 92 i = B 92 i := fun i hi => q_hi _ _ hi
  have h113 : ∀ j, hu B 92 27 (nI U') 113 j = B 113 j := fun j => q_ha _ _ _ _ (by decide)
  refine ⟨hE.keep (fun a _ _ => hA2 a (by omega)) (hB92 0 (by decide)) (hB92 6 (by decide)) (hB92 10 (by decide)) (fun a _ _ => hBo a (by omega)), hm, hS.keep (by omega) (by omega) (fun a _ _ => hA2 a (by omega)) (fun j _ _ => h113 j), by rw [hB92 37 (by decide)]; exact hx0, hT.keep (by rw [hA2 1 (by decide)]) (hA2 2 (by decide)) (hB92 29 (by decide)) (hBo 114 (by decide)), hNo.keep (by rw [hA2 0 (by decide)]) (hA2 90 (by decide)) (hA2 91 (by decide)) (hB92 34 (by decide)) (hBo 115 (by decide)) (hBo 116 (by decide)), ⟨U', by omega, q_hu _ _ _ _, q_hu _ _ _ _, r, by rw [hA2 37 (by decide)]; exact r1, r2, fun i hi => ?_⟩, hK.keep (by omega) (by omega) (fun a _ _ => hA2 a (by omega)) (hB92 28 (by decide)) (fun j _ _ => h113 j)⟩
  obtain ⟨mm, hmm, hs⟩ := r3 i (by omega)
  obtain ⟨-, j', hj', hr'⟩ := r1 i (by omega)
  exact ⟨mm, hmm, hs.keep (by omega) (by omega) (fun a _ _ => hA2 a (by omega)) (fun j _ _ => h113 j)⟩
/-- fewer are kept -/
theorem Iv.kept {A B : hM} {N F L m V V' : Nat} (h : Iv A B N F L m) (hA : A 78 1 = nI V) (hV2 : V ≤ 2) (hV' : V' ≤ V) : Iv (hu A 78 1 (nI V')) (hu B 92 28 (nI V')) N F L m := by
  obtain ⟨hE, hm, hS, hx0, hT, hNo, hU, hK⟩ := h
  have hb := hE.1
  obtain ⟨W, u1, u2, u3, r1, r3⟩ := hK
  have hUU : W = V := by
    rw [u2] at hA
    exact (nI_eq (by omega) (by omega)).mp hA
  have hA2 : ∀ a, a ≠ 78 → hu A 78 1 (nI V') a = A a := fun a h1 => q_hr _ _ _ h1
  have hBo : ∀ a, a ≠ 92 → hu B 92 28 (nI V') a = B a := fun a h1 => q_hr _ _ _ h1
  have hB92 : ∀ i, i ≠ 28 → hu B 92 28 (nI V') 92 i = B 92 i := fun i hi => q_hi _ _ hi
  have h113 : ∀ j, hu B 92 28 (nI V') 113 j = B 113 j := fun j => q_ha _ _ _ _ (by decide)
  refine ⟨hE.keep (fun a _ _ => hA2 a (by omega)) (hB92 0 (by decide)) (hB92 6 (by decide)) (hB92 10 (by decide)) (fun a _ _ => hBo a (by omega)), hm, hS.keep (by omega) (by omega) (fun a _ _ => hA2 a (by omega)) (fun j _ _ => h113 j), by rw [hB92 37 (by decide)]; exact hx0, hT.keep (by rw [hA2 1 (by decide)]) (hA2 2 (by decide)) (hB92 29 (by decide)) (hBo 114 (by decide)), hNo.keep (by rw [hA2 0 (by decide)]) (hA2 90 (by decide)) (hA2 91 (by decide)) (hB92 34 (by decide)) (hBo 115 (by decide)) (hBo 116 (by decide)), hU.keep (by omega) (by omega) (fun a _ _ => hA2 a (by omega)) (hB92 27 (by decide)) (fun j _ _ => h113 j), ⟨V', by omega, q_hu _ _ _ _, q_hu _ _ _ _, by rw [hA2 79 (by decide)]; exact r1, fun i hi => ?_⟩⟩
  obtain ⟨mm, hmm, hs⟩ := r3 i (by omega)
  exact ⟨mm, hmm, hs.keep (by omega) (by omega) (fun a _ _ => hA2 a (by omega)) (fun j _ _ => h113 j)⟩
theorem op_undo : Op X4_undo X5_undo := Op.iv (by
  intro A B N F L m hI
  obtain ⟨U, u1, u2, u3, r, r1, r2, r3⟩ := hI.2.2.2.2.2.2.1
  have hb := hI.1.1
  by_cases h0 : U = 0
  · subst h0
    have z1 : nI 0 < 1 := by decide
    refine ⟨-2, A, B, ?_, ?_, hI.inv, Sp.rf⟩
    · unfold X4_undo X1_takeInto
      rw [u2, if_pos z1, q_g0, ob_s, if_pos rfl]
    · unfold X5_undo
      rw [u3, if_pos nI_0]
  · obtain ⟨U, rfl⟩ : ∃ j, U = j + 1 := ⟨U - 1, by omega⟩
    have z1 : ¬ nI (U + 1) < 1 := nI_nlt (b := 1) (by omega) (by omega)
    have z2 : nI (U + 1) ≤ nI 8 := nI_le (by omega) (by omega)
    have z3 : ¬ nI (U + 1) = 0 := nI_ne0 (by omega) (by omega)
    obtain ⟨e1, j, hj, hr⟩ := r1 U (by omega)
    obtain ⟨mm, hmm, hs⟩ := r3 U (by omega)
    have hI0 := hI.held (U' := U) u2 (by omega) (by omega)
    have iU : (nI U).toNatClampNeg = U := nI_clamp (by omega)
    have iR : (nI (r U)).toNatClampNeg = r U := nI_clamp (by omega)
    have hst1 : hst (r U) = true := by rw [hr]; exact q_hst.1 j hj
    have gx : (hx (nI U) 8 && decide (¬ nI (r U) < 0)) = true := by
      have z : ¬ nI (r U) < 0 := nI_pos (by omega)
      rw [q_hx (by omega) (by decide), decide_eq_true z]
      rfl
    obtain ⟨A1, a1, a2, a3, a4, a5, a6⟩ := q_copyC 26 (r U) (hu A 36 1 (nI U)) (by omega)
    obtain ⟨B1, b1, b2, b3, b4⟩ := q_copies (b := (U + 1) * 20) (t := 0) (by omega) (by decide) (by omega) B
    rw [nI_0] at b1
    have em : nI (U + 1) * 20 = nI ((U + 1) * 20) := pk_mul (U + 1) 20
    have er : hu A 36 1 (nI U) (36 + 1) U = nI (r U) := by rw [q_ha _ _ _ _ (by decide)]; exact e1
    have hF1 : Fr (hu A 36 1 (nI U)) A1 (hu B 92 27 (nI U)) (hu B1 92 27 (nI U)) 26 0 := by
      refine ⟨a6, fun a h1 h2 => ?_, fun i hi => ?_, fun q hq => ?_⟩
      · rw [q_hr _ _ _ h2, q_hr _ _ _ h2, b4 a h1]
      · by_cases h27 : i = 27
        · subst h27
          rw [q_hu, q_hu]
        · rw [q_hi _ _ h27, q_hi _ _ h27, b4 92 (by decide)]
      · rw [q_ha _ _ _ _ (by decide), q_ha _ _ _ _ (by decide), b3 q (by omega)]
    have hS1 : Sd A1 (hu B1 92 27 (nI U)) 26 0 N L mm N := by
      refine hs.to (by omega) (by omega) ?_ ?_ (fun g hg => ?_) (fun l hl => ?_) (fun q hq => ?_)
      · rw [a2, q_hr _ _ _ (by omega)]
      · rw [a3, q_hr _ _ _ (by omega)]
      · obtain ⟨y1, y2, y3⟩ := a4 g hg
        rw [y1, y2, y3, q_hr _ _ _ (by omega), q_hr _ _ _ (by omega), q_hr _ _ _ (by omega)]
        exact ⟨rfl, rfl, rfl⟩
      · rw [a5 l hl, q_hr _ _ _ (by omega)]
      · rw [q_ha _ _ _ _ (by decide), b2 q hq, show (U + 1) * 20 + q = 20 * (U + 1) + q by omega]
    refine ⟨nI U, A1, hu B1 92 27 (nI U), ?_, ?_, (hI0.st hF1 hS1 hmm).inv, ⟨fun a ha => ?_, fun a ha => ?_⟩⟩
    · unfold X4_undo X1_takeInto
      rw [u2, if_neg z1, if_pos z2, nI_pred, q_hu, iU, er, gx, gd_t, iR, hst1, gd_t, a1, ob_s, q_g1, ob_s, if_neg n10, a6 36 (by decide), q_hu]
    · unfold X5_undo
      rw [u3, if_neg z3, em, b1, ob_s, b4 92 (by decide), u3, nI_pred, q_hu]
    · rw [a6 a (by omega), q_hr _ _ _ (by omega)]
    · rw [q_hr _ _ _ (by omega), b4 a (by omega)])
theorem op_keep : Op X4_keep X5_keep := Op.iv (by
  intro A B N F L m hI
  obtain ⟨hE, hm, hS, hx0, hT, hNo, hU, hK⟩ := hI
  have hI : Iv A B N F L m := ⟨hE, hm, hS, hx0, hT, hNo, hU, hK⟩
  obtain ⟨V, u1, u2, u3, r1, r3⟩ := hK
  have hb := hE.1
  by_cases h2 : V = 2
  · subst h2
    have z1 : ¬ nI 2 < 2 := by decide
    have z2 : nI 2 = 2 := rfl
    refine ⟨-3, A, B, ?_, ?_, hI.inv, Sp.rf⟩
    · unfold X4_keep
      rw [u2, if_neg z1]
    · unfold X5_keep
      rw [u3, if_pos z2]
  · have z1 : nI V < 2 := nI_lt (b := 2) (by omega) (by decide)
    have z12 : nI V < nI 2 := z1
    have z2 : ¬ nI V = 2 := fun z => h2 ((nI_eq (b := 2) (by omega) (by decide)).mp z)
    have e1 := r1 V (by omega)
    have iU : (nI V).toNatClampNeg = V := nI_clamp (by omega)
    have iR : (nI (80 + 5 * V)).toNatClampNeg = 80 + 5 * V := nI_clamp (by omega)
    have hst1 : hst (80 + 5 * V) = true := by
      rcases (show V = 0 ∨ V = 1 by omega) with rfl | rfl
      · exact q_hst.2.1
      · exact q_hst.2.2
    have gx : (hx (nI V) 2 && decide (¬ nI (80 + 5 * V) < 0)) = true := by
      have z : ¬ nI (80 + 5 * V) < 0 := nI_pos (by omega)
      rw [q_hx (by omega) (by decide), decide_eq_true z]
      rfl
    obtain ⟨A1, a1, a2, a3, a4, a5, a6⟩ := q_copyC (80 + 5 * V) 26 A (by omega)
    obtain ⟨B1, b1, b2, b3, b4⟩ := q_copies (b := 0) (t := (9 + V) * 20) (by decide) (by omega) (by omega) B
    rw [nI_0] at b1
    have em : (9 + nI V) * 20 = nI ((9 + V) * 20) := by
      rw [show (9 : Int32) = nI 9 from rfl, nI_add]
      exact pk_mul (9 + V) 20
    have e1 : A (78 + 1) V = nI (80 + 5 * V) := e1
    have hA2 : ∀ a, a ≠ 78 → ¬ (80 + 5 * V ≤ a ∧ a ≤ 80 + 5 * V + 4) → hu A1 78 1 (nI (V + 1)) a = A a := fun a h1 h2 => by rw [q_hr _ _ _ h1, a6 a h2]
    have hB92 : ∀ i, i ≠ 28 → hu B1 92 28 (nI (V + 1)) 92 i = B 92 i := fun i hi => by rw [q_hi _ _ hi, b4 92 (by decide)]
    have hBo : ∀ a, a ≠ 113 → a ≠ 92 → hu B1 92 28 (nI (V + 1)) a = B a := fun a h1 h2 => by rw [q_hr _ _ _ h2, b4 a h1]
    have hB113 : ∀ i, ¬ ((9 + V) * 20 ≤ i ∧ i < (9 + V) * 20 + 20) → hu B1 92 28 (nI (V + 1)) 113 i = B 113 i := fun i hi => by rw [q_ha _ _ _ _ (by decide), b3 i hi]
    refine ⟨nI (V + 1), hu A1 78 1 (nI (V + 1)), hu B1 92 28 (nI (V + 1)), ?_, ?_, Iv.inv (N := N) (F := F) (L := L) (m := m) ⟨?_, hm, ?_, ?_, ?_, ?_, ?_, ?_⟩, ⟨fun a ha => hA2 a (by omega) (by omega), fun a ha => hBo a (by omega) (by omega)⟩⟩
    · unfold X4_keep X1_put X1_put_b16
      rw [u2, if_pos z1, if_pos z12, iU, e1, gx, gd_t, iR, hst1, gd_t, a1, ob_s, ob_s, a6 78 (by omega), u2, nI_1, q_hu]
    · unfold X5_keep
      rw [u3, if_neg z2, em, b1, ob_s, b4 92 (by decide), u3, nI_1, q_hu]
    · exact hE.keep (fun a _ _ => hA2 a (by omega) (by omega)) (hB92 0 (by decide)) (hB92 6 (by decide)) (hB92 10 (by decide)) (fun a _ _ => hBo a (by omega) (by omega))
    · exact hS.keep (by omega) (by omega) (fun a _ _ => hA2 a (by omega) (by omega)) (fun i _ _ => hB113 i (by omega))
    · rw [hB92 37 (by decide)]
      exact hx0
    · exact hT.keep (by rw [hA2 1 (by decide) (by omega)]) (hA2 2 (by decide) (by omega)) (hB92 29 (by decide)) (hBo 114 (by decide) (by decide))
    · exact hNo.keep (by rw [hA2 0 (by decide) (by omega)]) (hA2 90 (by decide) (by omega)) (hA2 91 (by decide) (by omega)) (hB92 34 (by decide)) (hBo 115 (by decide) (by decide)) (hBo 116 (by decide) (by decide))
    · exact hU.keep (by omega) (by omega) (fun a _ _ => hA2 a (by omega) (by omega)) (hB92 27 (by decide)) (fun q _ _ => hB113 q (by omega))
    · refine ⟨V + 1, by omega, q_hu _ _ _ _, q_hu _ _ _ _, ?_, fun i hi => ?_⟩
      · rw [hA2 79 (by decide) (by omega)]
        exact r1
      · by_cases hiV : i = V
        · subst hiV
          refine ⟨m, hm, hS.to (by omega) (by omega) ?_ ?_ (fun g hg => ?_) (fun l hl => ?_) (fun q hq => ?_)⟩
          · rw [q_hr _ _ _ (by omega)]
            exact a2
          · rw [q_hr _ _ _ (by omega)]
            exact a3
          · rw [q_hr _ _ _ (by omega), q_hr _ _ _ (by omega), q_hr _ _ _ (by omega)]
            exact a4 g hg
          · rw [q_hr _ _ _ (by omega)]
            exact a5 l hl
          · rw [q_ha _ _ _ _ (by decide), show 20 * (9 + i) + q = (9 + i) * 20 + q by omega]
            exact b2 q hq
        · obtain ⟨mm, hmm, hs⟩ := r3 i (by omega)
          exact ⟨mm, hmm, hs.keep (by omega) (by omega) (fun a h1 h2 => hA2 a (by omega) (by omega)) (fun q h1 h2 => hB113 q (by omega))⟩)
theorem op_back : Op X4_back X5_back := Op.iv (by
  intro A B N F L m hI
  obtain ⟨V, u1, u2, u3, r1, r3⟩ := hI.2.2.2.2.2.2.2
  have hb := hI.1.1
  by_cases h0 : V = 0
  · subst h0
    have z1 : nI 0 < 1 := by decide
    refine ⟨-2, A, B, ?_, ?_, hI.inv, Sp.rf⟩
    · unfold X4_back X1_takeInto
      rw [u2, if_pos z1, q_g0, ob_s, if_pos rfl]
    · unfold X5_back
      rw [u3, if_pos nI_0]
  · obtain ⟨V, rfl⟩ : ∃ j, V = j + 1 := ⟨V - 1, by omega⟩
    have z1 : ¬ nI (V + 1) < 1 := nI_nlt (b := 1) (by omega) (by omega)
    have z2 : nI (V + 1) ≤ nI 2 := nI_le (by omega) (by omega)
    have z3 : ¬ nI (V + 1) = 0 := nI_ne0 (by omega) (by omega)
    have e1 := r1 V (by omega)
    obtain ⟨mm, hmm, hs⟩ := r3 V (by omega)
    have hI0 := hI.kept (V' := V) u2 (by omega) (by omega)
    have iU : (nI V).toNatClampNeg = V := nI_clamp (by omega)
    have iR : (nI (80 + 5 * V)).toNatClampNeg = 80 + 5 * V := nI_clamp (by omega)
    have hst1 : hst (80 + 5 * V) = true := by
      rcases (show V = 0 ∨ V = 1 by omega) with rfl | rfl
      · exact q_hst.2.1
      · exact q_hst.2.2
    have gx : (hx (nI V) 2 && decide (¬ nI (80 + 5 * V) < 0)) = true := by
      have z : ¬ nI (80 + 5 * V) < 0 := nI_pos (by omega)
      rw [q_hx (by omega) (by decide), decide_eq_true z]
      rfl
    obtain ⟨A1, a1, a2, a3, a4, a5, a6⟩ := q_copyC 26 (80 + 5 * V) (hu A 78 1 (nI V)) (by omega)
    obtain ⟨B1, b1, b2, b3, b4⟩ := q_copies (b := (9 + V) * 20) (t := 0) (by omega) (by decide) (by omega) (hu B 92 28 (nI V))
    rw [nI_0] at b1
    have em : (9 + nI V) * 20 = nI ((9 + V) * 20) := by
      rw [show (9 : Int32) = nI 9 from rfl, nI_add]
      exact pk_mul (9 + V) 20
    have er : hu A 78 1 (nI V) (78 + 1) V = nI (80 + 5 * V) := by rw [q_ha _ _ _ _ (by decide)]; exact e1
    have hF1 : Fr (hu A 78 1 (nI V)) A1 (hu B 92 28 (nI V)) B1 26 0 := ⟨a6, fun a h1 h2 => b4 a h1, fun i hi => by rw [b4 92 (by decide)], fun q hq => b3 q (by omega)⟩
    have hS1 : Sd A1 B1 26 0 N L mm N := by
      refine hs.to (by omega) (by omega) ?_ ?_ (fun g hg => ?_) (fun l hl => ?_) (fun q hq => ?_)
      · rw [a2, q_hr _ _ _ (by omega)]
      · rw [a3, q_hr _ _ _ (by omega)]
      · obtain ⟨y1, y2, y3⟩ := a4 g hg
        rw [y1, y2, y3, q_hr _ _ _ (by omega), q_hr _ _ _ (by omega), q_hr _ _ _ (by omega)]
        exact ⟨rfl, rfl, rfl⟩
      · rw [a5 l hl, q_hr _ _ _ (by omega)]
      · rw [b2 q hq, q_ha _ _ _ _ (by decide), show (9 + V) * 20 + q = 20 * (9 + V) + q by omega]
    have hI1 := hI0.st hF1 hS1 hmm
    obtain ⟨U, w1, w2, -⟩ := hI1.2.2.2.2.2.2.1
    have hI2 := hI1.held (U' := 0) w2 w1 (Nat.zero_le _)
    rw [nI_0] at hI2
    refine ⟨nI V, hu A1 36 1 0, hu B1 92 27 0, ?_, ?_, hI2.inv, ⟨fun a ha => ?_, fun a ha => ?_⟩⟩
    · unfold X4_back X1_takeInto
      rw [u2, if_neg z1, if_pos z2, nI_pred, q_hu, iU, er, gx, gd_t, iR, hst1, gd_t, a1, ob_s, q_g1, ob_s, if_neg n10, q_ha _ _ _ _ (show 78 ≠ 36 by decide), a6 78 (by decide), q_hu]
    · unfold X5_back
      rw [u3, if_neg z3, nI_pred, q_hu, em, b1, ob_s, q_hi _ _ (show 28 ≠ 27 by decide), b4 92 (by decide), q_hu]
    · rw [q_hr _ _ _ (by omega), a6 a (by omega), q_hr _ _ _ (by omega)]
    · rw [q_hr _ _ _ (by omega), b4 a (by omega), q_hr _ _ _ (by omega)])
