theorem q_g0b (k : Option (Int32 × hM)) : gd (decide True || decide ((0 : Int32) = 1)) k = k := rfl
theorem q_g0c (k : Option (Int32 × hM)) : gd (decide True || decide False) k = k := rfl
theorem q_g1b (k : Option (Int32 × hM)) : gd (decide False || decide True) k = k := rfl
theorem q_g1c (k : Option (Int32 × hM)) : gd (decide ((1 : Int32) = 0) || decide True) k = k := rfl
theorem Inv.gen {A B A' B' : hM} (h : Inv A B) (hA : ∀ a, (4 ≤ a ∧ a ≤ 14) ∨ (26 ≤ a ∧ a ≤ 30) ∨ (36 ≤ a ∧ a ≤ 89) → A' a = A a) (hB : ∀ a, 93 ≤ a → a ≤ 102 → B' a = B a) (h113 : ∀ j, j < 220 → B' 113 j = B 113 j) (h92 : ∀ i, i ≠ 29 → i ≠ 34 → i ≠ 38 → i ≠ 31 → i ≠ 32 → i ≠ 33 → i ≠ 13 → i ≠ 19 → i ≠ 23 → B' 92 i = B 92 i) (hT : Tx A' B') (hNo : No A' B') : Inv A' B' := by
  obtain ⟨N, F, L, m, hE, hm, hS, hx, -, -, hU, hK⟩ := h
  have hb := hE.1
  refine ⟨N, F, L, m, hE.keep (fun a _ _ => hA a (by omega)) (h92 0 (by decide) (by decide) (by decide) (by decide) (by decide) (by decide) (by decide) (by decide) (by decide)) (h92 6 (by decide) (by decide) (by decide) (by decide) (by decide) (by decide) (by decide) (by decide) (by decide)) (h92 10 (by decide) (by decide) (by decide) (by decide) (by decide) (by decide) (by decide) (by decide) (by decide)) hB, hm, hS.keep (by omega) (by omega) (fun a _ _ => hA a (by omega)) (fun j _ _ => h113 j (by omega)), ?_, hT, hNo, hU.keep (by omega) (by omega) (fun a _ _ => hA a (by omega)) (h92 27 (by decide) (by decide) (by decide) (by decide) (by decide) (by decide) (by decide) (by decide) (by decide)) (fun j _ _ => h113 j (by omega)), hK.keep (by omega) (by omega) (fun a _ _ => hA a (by omega)) (h92 28 (by decide) (by decide) (by decide) (by decide) (by decide) (by decide) (by decide) (by decide) (by decide)) (fun j _ _ => h113 j (by omega))⟩
  rw [h92 37 (by decide) (by decide) (by decide) (by decide) (by decide) (by decide) (by decide) (by decide) (by decide)]
  exact hx
theorem Inv.T {A B : hM} (h : Inv A B) : Tx A B := by
  obtain ⟨N, F, L, m, hE, hm, hS, hx, hT, hNo, hU, hK⟩ := h
  exact hT
theorem Inv.No {A B : hM} (h : Inv A B) : No A B := by
  obtain ⟨N, F, L, m, hE, hm, hS, hx, hT, hNo, hU, hK⟩ := h
  exact hNo
theorem op_wipe : Op X4_wipe X5_wipe := by
  intro A B hI
  obtain ⟨T, t1, t2, t3, t4⟩ := hI.T
  refine ⟨nI T, hu A 1 1 0, hu B 92 29 0, by simp only [X4_wipe, t2], by simp only [X5_wipe, t3], ?_, fun a ha => q_hr _ _ _ (by omega), fun a ha => q_hr _ _ _ (by omega)⟩
  refine hI.gen (fun a ha => q_hr _ _ _ (by omega)) (fun a _ _ => q_hr _ _ _ (by omega)) (fun j _ => q_ha _ _ _ _ (by decide)) (fun i hi _ _ _ _ _ _ _ _ => q_hi _ _ hi) ⟨0, by decide, q_hu _ _ _ _, q_hu _ _ _ _, fun i hi => absurd hi (by omega)⟩ (hI.No.keep (q_ha _ _ _ _ (by decide)) (q_hr _ _ _ (by decide)) (q_hr _ _ _ (by decide)) (q_hi _ _ (by decide)) (q_hr _ _ _ (by decide)) (q_hr _ _ _ (by decide)))
theorem op_forget : Op X4_forget X5_forget := by
  intro A B hI
  obtain ⟨T, t1, t2, t3, t4⟩ := hI.No
  refine ⟨nI T, hu A 0 9 0, hu B 92 34 0, by simp only [X4_forget, t2], by simp only [X5_forget, t3], ?_, fun a ha => q_hr _ _ _ (by omega), fun a ha => q_hr _ _ _ (by omega)⟩
  refine hI.gen (fun a ha => q_hr _ _ _ (by omega)) (fun a _ _ => q_hr _ _ _ (by omega)) (fun j _ => q_ha _ _ _ _ (by decide)) (fun i _ hi _ _ _ _ _ _ _ => q_hi _ _ hi) (hI.T.keep (q_ha _ _ _ _ (by decide)) (q_hr _ _ _ (by decide)) (q_hi _ _ (by decide)) (q_hr _ _ _ (by decide))) ⟨0, by decide, q_hu _ _ _ _, q_hu _ _ _ _, fun i hi => absurd hi (by omega)⟩
theorem q_byte : ∀ c, c < 128 → vp_nar .byte (nI c).toInt8.toInt32 = nI c := by decide +kernel
theorem op_write (v : Int32) : Op (X4_write v) (X5_write v) := by
  intro A B hI
  obtain ⟨T, t1, t2, t3, t4⟩ := hI.T
  by_cases hv : (32 : Int32) ≤ v ∧ v ≤ 126
  · obtain ⟨c, c1, c2, rfl⟩ := q_nat (lo := 32) (hi := 126) hv.1 hv.2 (by decide) (by decide)
    have h1 : ¬ nI c < 32 := nI_nlt (b := 32) c1 (by omega)
    have h2 : nI c ≤ 126 := hv.2
    have e5 : X5_in (nI c).toInt64 32 126 B = some (1, B) := q_in1 (lo := 32) (hi := 126) (by decide) (by decide) hv B
    by_cases hT : T = 200
    · subst hT
      have h3 : ¬ (nI 200 : Int32) < 0 := by decide
      have h4 : ¬ (nI 200 : Int32) < 200 := by decide
      have h5 : (nI 200 : Int32) = 200 := rfl
      refine ⟨-3, A, B, ?_, ?_, hI, fun _ _ => rfl, fun _ _ => rfl⟩
      · simp only [X4_write, X3_append, h1, h2, t2, h3, h4, q_g0, q_g0b, ob_s, ↓reduceIte]
      · simp only [X5_write, e5, n10, t3, h5, ob_s, ↓reduceIte]
    · have h3 : ¬ nI T < 0 := nI_pos (by omega)
      have h4 : nI T < 200 := nI_lt (b := 200) (by omega) (by decide)
      have h5 : ¬ nI T = 200 := fun z => hT ((nI_eq (a := T) (b := 200) (by omega) (by decide)).mp z)
      have xT : hx (nI T) 200 = true := q_hx (by omega) (by decide)
      have iT : (nI T).toNatClampNeg = T := nI_clamp (by omega)
      have g1 : hu A 2 T (nI c) 1 1 = nI T := by
        rw [q_ha _ _ _ _ (by decide)]
        exact t2
      have g2 : hu B 114 T (nI c) 92 29 = nI T := by
        rw [q_ha _ _ _ _ (by decide)]
        exact t3
      have eb := q_byte c (by omega)
      refine ⟨nI (T + 1), hu (hu A 2 T (nI c)) 1 1 (nI (T + 1)), hu (hu B 114 T (nI c)) 92 29 (nI (T + 1)), ?_, ?_, ?_, fun a ha => ?_, fun a ha => ?_⟩
      · simp only [X4_write, X3_append, h1, h2, t2, h3, h4, xT, iT, Nat.reduceAdd, g1, q_g1, q_g1b, gd_t, ob_s, n10, nI_1, q_hu, ↓reduceIte]
      · simp only [X5_write, e5, n10, t3, h5, xT, iT, eb, g2, gd_t, ob_s, nI_1, q_hu, ↓reduceIte]
      · refine hI.gen (fun a ha => ?_) (fun a _ _ => ?_) (fun j _ => ?_) (fun i hi _ _ _ _ _ _ _ _ => ?_) ⟨T + 1, by omega, q_hu _ _ _ _, q_hu _ _ _ _, fun i hi => ?_⟩ (hI.No.keep ?_ ?_ ?_ ?_ ?_ ?_)
        · rw [q_hr _ _ _ (by omega), q_hr _ _ _ (by omega)]
        · rw [q_hr _ _ _ (by omega), q_hr _ _ _ (by omega)]
        · rw [q_ha _ _ _ _ (by decide), q_ha _ _ _ _ (by decide)]
        · rw [q_hi _ _ hi, q_ha _ _ _ _ (by decide)]
        · rw [q_ha (hu A 2 T (nI c)) _ _ _ (show 2 ≠ 1 by decide), q_ha (hu B 114 T (nI c)) _ _ _ (show 114 ≠ 92 by decide)]
          by_cases hiT : i = T
          · subst hiT
            exact ⟨c, c1, c2, q_hu _ _ _ _, q_hu _ _ _ _⟩
          · rw [q_hi _ _ hiT, q_hi _ _ hiT]
            exact t4 i (by omega)
        · rw [q_ha _ _ _ _ (by decide), q_ha _ _ _ _ (by decide)]
        · rw [q_hr _ _ _ (by decide), q_hr _ _ _ (by decide)]
        · rw [q_hr _ _ _ (by decide), q_hr _ _ _ (by decide)]
        · rw [q_hi _ _ (by decide), q_ha _ _ _ _ (by decide)]
        · rw [q_hr _ _ _ (by decide), q_hr _ _ _ (by decide)]
        · rw [q_hr _ _ _ (by decide), q_hr _ _ _ (by decide)]
      · rw [q_hr _ _ _ (by omega), q_hr _ _ _ (by omega)]
      · rw [q_hr _ _ _ (by omega), q_hr _ _ _ (by omega)]
  · have e5 : X5_in v.toInt64 32 126 B = some (0, B) := q_in0 (lo := 32) (hi := 126) (by decide) (by decide) hv B
    refine ⟨-1, A, B, ?_, ?_, hI, fun _ _ => rfl, fun _ _ => rfl⟩
    · by_cases h1 : v < 32
      · simp only [X4_write, h1, ↓reduceIte]
      · have h2 : ¬ v ≤ 126 := fun z => hv ⟨by rw [q_le]; rw [q_lt] at h1; omega, z⟩
        simp only [X4_write, h1, h2, ↓reduceIte]
    · simp only [X5_write, e5, ob_s, ↓reduceIte]
theorem op_note (v w : Int32) : Op (X4_note v w) (X5_note v w) := by
  intro A B hI
  obtain ⟨T, t1, t2, t3, t4⟩ := hI.No
  by_cases hv : (0 : Int32) ≤ v ∧ v ≤ 39
  · have e5 : X5_in v.toInt64 0 39 B = some (1, B) := q_in1 (lo := 0) (hi := 39) (by decide) (by decide) hv B
    have h1 : ¬ v < 0 := fun z => by
      have := hv.1
      rw [q_le] at this
      rw [q_lt] at z
      omega
    have h2 : ¬ 39 < v := fun z => by
      have := hv.2
      rw [q_le] at this
      rw [q_lt] at z
      omega
    by_cases hw : (-20 : Int32) ≤ w ∧ w ≤ 20
    · have e6 : X5_in w.toInt64 (-20) 20 B = some (1, B) := q_in1 (lo := -20) (hi := 20) (by decide) (by decide) hw B
      have h3 : ¬ w < -20 := fun z => by
        have := hw.1
        rw [q_le] at this
        rw [q_lt] at z
        omega
      have h4 : w ≤ 20 := hw.2
      by_cases hT : T = 8
      · subst hT
        have h5 : ¬ (nI 8 : Int32) < 8 := by decide
        have h6 : (nI 8 : Int32) = 8 := rfl
        refine ⟨-3, A, B, ?_, ?_, hI, fun _ _ => rfl, fun _ _ => rfl⟩
        · simp only [X4_note, h1, h2, h3, h4, t2, h5, ↓reduceIte]
        · simp only [X5_note, e5, e6, n10, t3, h6, ob_s, ↓reduceIte]
      · have h5 : nI T < 8 := nI_lt (b := 8) (by omega) (by decide)
        have h6 : ¬ nI T = 8 := fun z => hT ((nI_eq (a := T) (b := 8) (by omega) (by decide)).mp z)
        have xT : hx (nI T) 8 = true := q_hx (by omega) (by decide)
        have iT : (nI T).toNatClampNeg = T := nI_clamp (by omega)
        have g1 : hu A 90 T v 0 9 = nI T := by
          rw [q_ha _ _ _ _ (by decide)]
          exact t2
        have g2 : hu (hu A 90 T v) 91 T w 0 9 = nI T := by
          rw [q_ha _ _ _ _ (by decide)]
          exact g1
        have g3 : hu B 115 T v 92 34 = nI T := by
          rw [q_ha _ _ _ _ (by decide)]
          exact t3
        have g4 : hu (hu B 115 T v) 116 T w 92 34 = nI T := by
          rw [q_ha _ _ _ _ (by decide)]
          exact g3
        refine ⟨nI (T + 1), hu (hu (hu A 90 T v) 91 T w) 0 9 (nI (T + 1)), hu (hu (hu B 115 T v) 116 T w) 92 34 (nI (T + 1)), ?_, ?_, ?_, fun a ha => ?_, fun a ha => ?_⟩
        · simp only [X4_note, h1, h2, h3, h4, t2, h5, xT, iT, g1, g2, gd_t, nI_1, q_hu, ↓reduceIte]
        · simp only [X5_note, e5, e6, n10, t3, h6, xT, iT, g3, g4, gd_t, ob_s, nI_1, q_hu, ↓reduceIte]
        · refine hI.gen (fun a ha => ?_) (fun a _ _ => ?_) (fun j _ => ?_) (fun i _ hi _ _ _ _ _ _ _ => ?_) (hI.T.keep ?_ ?_ ?_ ?_) ⟨T + 1, by omega, q_hu _ _ _ _, q_hu _ _ _ _, fun i hi => ?_⟩
          · rw [q_hr _ _ _ (by omega), q_hr _ _ _ (by omega), q_hr _ _ _ (by omega)]
          · rw [q_hr _ _ _ (by omega), q_hr _ _ _ (by omega), q_hr _ _ _ (by omega)]
          · rw [q_ha _ _ _ _ (by decide), q_ha _ _ _ _ (by decide), q_ha _ _ _ _ (by decide)]
          · rw [q_hi _ _ hi, q_ha _ _ _ _ (by decide), q_ha _ _ _ _ (by decide)]
          · rw [q_ha _ _ _ _ (by decide), q_ha _ _ _ _ (by decide), q_ha _ _ _ _ (by decide)]
          · rw [q_hr _ _ _ (by decide), q_hr _ _ _ (by decide), q_hr _ _ _ (by decide)]
          · rw [q_hi _ _ (by decide), q_ha _ _ _ _ (by decide), q_ha _ _ _ _ (by decide)]
          · rw [q_hr _ _ _ (by decide), q_hr _ _ _ (by decide), q_hr _ _ _ (by decide)]
          · rw [q_ha (hu (hu A 90 T v) 91 T w) _ _ _ (show 90 ≠ 0 by decide), q_ha (hu A 90 T v) _ _ _ (show 90 ≠ 91 by decide), q_ha (hu (hu B 115 T v) 116 T w) _ _ _ (show 115 ≠ 92 by decide), q_ha (hu B 115 T v) _ _ _ (show 115 ≠ 116 by decide)]
            rw [q_ha (hu (hu A 90 T v) 91 T w) _ _ _ (show 91 ≠ 0 by decide), q_ha (hu (hu B 115 T v) 116 T w) _ _ _ (show 116 ≠ 92 by decide)]
            by_cases hiT : i = T
            · subst hiT
              exact ⟨by rw [q_hu, q_hu], by rw [q_hu, q_hu]⟩
            · rw [q_hi _ _ hiT, q_hi _ _ hiT, q_hi _ _ hiT, q_hi _ _ hiT, q_ha _ _ _ _ (show 91 ≠ 90 by decide), q_ha _ _ _ _ (show 116 ≠ 115 by decide)]
              exact t4 i (by omega)
        · rw [q_hr _ _ _ (by omega), q_hr _ _ _ (by omega), q_hr _ _ _ (by omega)]
        · rw [q_hr _ _ _ (by omega), q_hr _ _ _ (by omega), q_hr _ _ _ (by omega)]
    · have e6 : X5_in w.toInt64 (-20) 20 B = some (0, B) := q_in0 (lo := -20) (hi := 20) (by decide) (by decide) hw B
      refine ⟨-1, A, B, ?_, ?_, hI, fun _ _ => rfl, fun _ _ => rfl⟩
      · by_cases h3 : w < -20
        · simp only [X4_note, h1, h2, h3, ↓reduceIte]
        · have h4 : ¬ w ≤ 20 := fun z => hw ⟨by rw [q_le]; rw [q_lt] at h3; omega, z⟩
          simp only [X4_note, h1, h2, h3, h4, ↓reduceIte]
      · simp only [X5_note, e5, e6, n10, ob_s, ↓reduceIte]
  · have e5 : X5_in v.toInt64 0 39 B = some (0, B) := q_in0 (lo := 0) (hi := 39) (by decide) (by decide) hv B
    refine ⟨-1, A, B, ?_, ?_, hI, fun _ _ => rfl, fun _ _ => rfl⟩
    · by_cases h1 : v < 0
      · simp only [X4_note, h1, ↓reduceIte]
      · have h2 : 39 < v := by
          rw [q_lt]
          rw [q_lt] at h1
          have : ¬ v ≤ 39 := fun z => hv ⟨by rw [q_le]; omega, z⟩
          rw [q_le] at this
          omega
        simp only [X4_note, h1, h2, ↓reduceIte]
    · simp only [X5_note, e5, ob_s, ↓reduceIte]
