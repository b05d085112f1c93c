theorem q_do {f g k : hM → Option (Int32 × hM)} (hop : Op f g) {I : hM} (hI : Inv I I) (h : ∀ I2, Inv I2 I2 → ∃ I3, k I2 = some (1, I3)) : ∃ I3, ob (f I) (fun u Ia => ob (g Ia) (fun u' Ib => if u = u' then k Ib else some (0, Ib))) = some (1, I3) := by
  obtain ⟨r, I1, I2, e1, e2, hI2⟩ := hop.run hI
  obtain ⟨I3, e3⟩ := h I2 hI2
  exact ⟨I3, by rw [e1, ob_s, e2, ob_s, if_pos rfl, e3]⟩
theorem q_law (hfault : Op X4_fault X5_fault) (hlay : Op X4_lay X5_lay) {L : Nat} {xs : Nat → Int32} (hL : L ≤ 320) : ∀ (k v n : Nat) (I : hM), L < v + 5 * (k + 1) → v ≤ 400 → k < n → Inv I I → ∃ I3, law_l18 xs L n (nI v) I = some (1, I3) := by
  have base : ∀ (v n : Nat) (I : hM), L < v + 5 → v ≤ 400 → ∃ I3, law_l18 xs L (n + 1) (nI v) I = some (1, I3) := by
    intro v n I h hv
    have c0 : nI L - 5 < nI v := by
      have e : (nI L - 5).toInt = (L : Int) - 5 := pk_sub_toInt (a := L) (b := 5) (by omega) (by decide)
      rw [q_lt, e, nI_toInt (by omega)]
      omega
    refine ⟨I, ?_⟩
    show law_h18 xs L _ (nI v) I = _
    unfold law_h18
    rw [if_pos c0]
  intro k
  induction k with
  | zero =>
    intro v n I h hv hn hI
    obtain ⟨n, rfl⟩ : ∃ j, n = j + 1 := ⟨n - 1, by omega⟩
    exact base v n I (by omega) hv
  | succ k ih =>
    intro v n I h hv hn hI
    obtain ⟨n, rfl⟩ : ∃ j, n = j + 1 := ⟨n - 1, by omega⟩
    by_cases hb : L < v + 5
    · exact base v n I hb hv
    · have c0 : ¬ nI L - 5 < nI v := by
        have e : (nI L - 5).toInt = (L : Int) - 5 := pk_sub_toInt (a := L) (b := 5) (by omega) (by decide)
        rw [q_lt, e, nI_toInt (by omega)]
        omega
      have nx : ∀ I2, Inv I2 I2 → ∃ I3, law_l18 xs L n (nI (v + 5)) I2 = some (1, I3) := fun I2 hI2 => ih (v + 5) n I2 (by omega) (by omega) (by omega) hI2
      have a1 : nI v + 1 = nI (v + 1) := nI_add v 1
      have a2 : nI v + 2 = nI (v + 2) := nI_add v 2
      have a3 : nI v + 3 = nI (v + 3) := nI_add v 3
      have a4 : nI v + 4 = nI (v + 4) := nI_add v 4
      have a5 : nI v + 5 = nI (v + 5) := nI_add v 5
      have x0 : hx (nI v) L = true := q_hx (by omega) (by omega)
      have x1 : hx (nI (v + 1)) L = true := q_hx (by omega) (by omega)
      have x2 : hx (nI (v + 2)) L = true := q_hx (by omega) (by omega)
      have x3 : hx (nI (v + 3)) L = true := q_hx (by omega) (by omega)
      have x4 : hx (nI (v + 4)) L = true := q_hx (by omega) (by omega)
      show ∃ I3, law_h18 xs L (law_l18 xs L n) (nI v) I = some (1, I3)
      unfold law_h18
      rw [if_neg c0]
      simp only [a1, a2, a3, a4, a5, x0, x1, x2, x3, x4, gd_t]
      by_cases h0 : (xs (nI v).toNatClampNeg &&& 31) = 0
      · rw [if_pos h0]
        exact q_do (op_write _) hI nx
      by_cases h1 : (xs (nI v).toNatClampNeg &&& 31) = 1
      · rw [if_neg h0, if_pos h1]
        exact q_do op_wipe hI nx
      by_cases h2 : (xs (nI v).toNatClampNeg &&& 31) = 2
      · rw [if_neg h0, if_neg h1, if_pos h2]
        exact q_do hfault hI nx
      by_cases h3 : (xs (nI v).toNatClampNeg &&& 31) = 3
      · rw [if_neg h0, if_neg h1, if_neg h2, if_pos h3]
        exact q_do hlay hI nx
      by_cases h4 : (xs (nI v).toNatClampNeg &&& 31) = 4
      · rw [if_neg h0, if_neg h1, if_neg h2, if_neg h3, if_pos h4]
        exact q_do (op_going _ _) hI nx
      by_cases h5 : (xs (nI v).toNatClampNeg &&& 31) = 5
      · rw [if_neg h0, if_neg h1, if_neg h2, if_neg h3, if_neg h4, if_pos h5]
        exact q_do (op_lady _ _) hI nx
      by_cases h6 : (xs (nI v).toNatClampNeg &&& 31) = 6
      · rw [if_neg h0, if_neg h1, if_neg h2, if_neg h3, if_neg h4, if_neg h5, if_pos h6]
        exact q_do (op_pass _) hI nx
      by_cases h7 : (xs (nI v).toNatClampNeg &&& 31) = 7
      · rw [if_neg h0, if_neg h1, if_neg h2, if_neg h3, if_neg h4, if_neg h5, if_neg h6, if_pos h7]
        exact q_do (op_pin _ _) hI nx
      by_cases h8 : (xs (nI v).toNatClampNeg &&& 31) = 8
      · rw [if_neg h0, if_neg h1, if_neg h2, if_neg h3, if_neg h4, if_neg h5, if_neg h6, if_neg h7, if_pos h8]
        exact q_do (op_lend _ _) hI nx
      by_cases h9 : (xs (nI v).toNatClampNeg &&& 31) = 9
      · rw [if_neg h0, if_neg h1, if_neg h2, if_neg h3, if_neg h4, if_neg h5, if_neg h6, if_neg h7, if_neg h8, if_pos h9]
        exact q_do op_undo hI nx
      by_cases h10 : (xs (nI v).toNatClampNeg &&& 31) = 10
      · rw [if_neg h0, if_neg h1, if_neg h2, if_neg h3, if_neg h4, if_neg h5, if_neg h6, if_neg h7, if_neg h8, if_neg h9, if_pos h10]
        exact q_do (op_behind _ _) hI nx
      by_cases h11 : (xs (nI v).toNatClampNeg &&& 31) = 11
      · rw [if_neg h0, if_neg h1, if_neg h2, if_neg h3, if_neg h4, if_neg h5, if_neg h6, if_neg h7, if_neg h8, if_neg h9, if_neg h10, if_pos h11]
        exact q_do op_dull hI nx
      by_cases h12 : (xs (nI v).toNatClampNeg &&& 31) = 12
      · rw [if_neg h0, if_neg h1, if_neg h2, if_neg h3, if_neg h4, if_neg h5, if_neg h6, if_neg h7, if_neg h8, if_neg h9, if_neg h10, if_neg h11, if_pos h12]
        exact q_do op_quiet hI nx
      by_cases h13 : (xs (nI v).toNatClampNeg &&& 31) = 13
      · rw [if_neg h0, if_neg h1, if_neg h2, if_neg h3, if_neg h4, if_neg h5, if_neg h6, if_neg h7, if_neg h8, if_neg h9, if_neg h10, if_neg h11, if_neg h12, if_pos h13]
        exact q_do (op_stop _ _) hI nx
      by_cases h14 : (xs (nI v).toNatClampNeg &&& 31) = 14
      · rw [if_neg h0, if_neg h1, if_neg h2, if_neg h3, if_neg h4, if_neg h5, if_neg h6, if_neg h7, if_neg h8, if_neg h9, if_neg h10, if_neg h11, if_neg h12, if_neg h13, if_pos h14]
        exact q_do (op_best _) hI nx
      by_cases h15 : (xs (nI v).toNatClampNeg &&& 31) = 15
      · rw [if_neg h0, if_neg h1, if_neg h2, if_neg h3, if_neg h4, if_neg h5, if_neg h6, if_neg h7, if_neg h8, if_neg h9, if_neg h10, if_neg h11, if_neg h12, if_neg h13, if_neg h14, if_pos h15]
        exact q_do (op_both _) hI nx
      by_cases h16 : (xs (nI v).toNatClampNeg &&& 31) = 16
      · rw [if_neg h0, if_neg h1, if_neg h2, if_neg h3, if_neg h4, if_neg h5, if_neg h6, if_neg h7, if_neg h8, if_neg h9, if_neg h10, if_neg h11, if_neg h12, if_neg h13, if_neg h14, if_neg h15, if_pos h16]
        exact q_do (op_never _) hI nx
      by_cases h17 : (xs (nI v).toNatClampNeg &&& 31) = 17
      · rw [if_neg h0, if_neg h1, if_neg h2, if_neg h3, if_neg h4, if_neg h5, if_neg h6, if_neg h7, if_neg h8, if_neg h9, if_neg h10, if_neg h11, if_neg h12, if_neg h13, if_neg h14, if_neg h15, if_neg h16, if_pos h17]
        exact q_do (op_note _ _) hI nx
      by_cases h18 : (xs (nI v).toNatClampNeg &&& 31) = 18
      · rw [if_neg h0, if_neg h1, if_neg h2, if_neg h3, if_neg h4, if_neg h5, if_neg h6, if_neg h7, if_neg h8, if_neg h9, if_neg h10, if_neg h11, if_neg h12, if_neg h13, if_neg h14, if_neg h15, if_neg h16, if_neg h17, if_pos h18]
        exact q_do op_forget hI nx
      by_cases h19 : (xs (nI v).toNatClampNeg &&& 31) = 19
      · rw [if_neg h0, if_neg h1, if_neg h2, if_neg h3, if_neg h4, if_neg h5, if_neg h6, if_neg h7, if_neg h8, if_neg h9, if_neg h10, if_neg h11, if_neg h12, if_neg h13, if_neg h14, if_neg h15, if_neg h16, if_neg h17, if_neg h18, if_pos h19]
        exact q_do (op_waning _) hI nx
      by_cases h20 : (xs (nI v).toNatClampNeg &&& 31) = 20
      · rw [if_neg h0, if_neg h1, if_neg h2, if_neg h3, if_neg h4, if_neg h5, if_neg h6, if_neg h7, if_neg h8, if_neg h9, if_neg h10, if_neg h11, if_neg h12, if_neg h13, if_neg h14, if_neg h15, if_neg h16, if_neg h17, if_neg h18, if_neg h19, if_pos h20]
        exact q_do (op_kinds _) hI nx
      by_cases h21 : (xs (nI v).toNatClampNeg &&& 31) = 21
      · rw [if_neg h0, if_neg h1, if_neg h2, if_neg h3, if_neg h4, if_neg h5, if_neg h6, if_neg h7, if_neg h8, if_neg h9, if_neg h10, if_neg h11, if_neg h12, if_neg h13, if_neg h14, if_neg h15, if_neg h16, if_neg h17, if_neg h18, if_neg h19, if_neg h20, if_pos h21]
        exact q_do (op_late _ _ _ _) hI nx
      by_cases h22 : (xs (nI v).toNatClampNeg &&& 31) = 22
      · rw [if_neg h0, if_neg h1, if_neg h2, if_neg h3, if_neg h4, if_neg h5, if_neg h6, if_neg h7, if_neg h8, if_neg h9, if_neg h10, if_neg h11, if_neg h12, if_neg h13, if_neg h14, if_neg h15, if_neg h16, if_neg h17, if_neg h18, if_neg h19, if_neg h20, if_neg h21, if_pos h22]
        exact q_do (op_season _ _ _) hI nx
      by_cases h23 : (xs (nI v).toNatClampNeg &&& 31) = 23
      · rw [if_neg h0, if_neg h1, if_neg h2, if_neg h3, if_neg h4, if_neg h5, if_neg h6, if_neg h7, if_neg h8, if_neg h9, if_neg h10, if_neg h11, if_neg h12, if_neg h13, if_neg h14, if_neg h15, if_neg h16, if_neg h17, if_neg h18, if_neg h19, if_neg h20, if_neg h21, if_neg h22, if_pos h23]
        exact q_do op_keep hI nx
      by_cases h24 : (xs (nI v).toNatClampNeg &&& 31) = 24
      · rw [if_neg h0, if_neg h1, if_neg h2, if_neg h3, if_neg h4, if_neg h5, if_neg h6, if_neg h7, if_neg h8, if_neg h9, if_neg h10, if_neg h11, if_neg h12, if_neg h13, if_neg h14, if_neg h15, if_neg h16, if_neg h17, if_neg h18, if_neg h19, if_neg h20, if_neg h21, if_neg h22, if_neg h23, if_pos h24]
        exact q_do op_back hI nx
      by_cases h25 : (xs (nI v).toNatClampNeg &&& 31) = 25
      · rw [if_neg h0, if_neg h1, if_neg h2, if_neg h3, if_neg h4, if_neg h5, if_neg h6, if_neg h7, if_neg h8, if_neg h9, if_neg h10, if_neg h11, if_neg h12, if_neg h13, if_neg h14, if_neg h15, if_neg h16, if_neg h17, if_neg h18, if_neg h19, if_neg h20, if_neg h21, if_neg h22, if_neg h23, if_neg h24, if_pos h25]
        exact q_do (op_count _) hI nx
      rw [if_neg h0, if_neg h1, if_neg h2, if_neg h3, if_neg h4, if_neg h5, if_neg h6, if_neg h7, if_neg h8, if_neg h9, if_neg h10, if_neg h11, if_neg h12, if_neg h13, if_neg h14, if_neg h15, if_neg h16, if_neg h17, if_neg h18, if_neg h19, if_neg h20, if_neg h21, if_neg h22, if_neg h23, if_neg h24, if_neg h25]
      exact nx I hI
