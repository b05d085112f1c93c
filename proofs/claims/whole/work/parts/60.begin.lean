/-! the beginning of both -/
theorem q_app : ∀ (k v n : Nat) (A : hM), v + k = 104 → k < n → A 1 1 = nI v → ∃ A', X4_init_l102 n (nI v) A = X4_init_b131 A' ∧ A' 1 1 = nI 104 ∧ (∀ i, v ≤ i → i < 104 → A' 2 i = hch i) ∧ (∀ i, i < v → A' 2 i = A 2 i) ∧ (∀ a, a ≠ 1 → a ≠ 2 → A' a = A a) ∧ (∀ i, i ≠ 1 → A' 1 i = A 1 i) := by
  intro k
  induction k with
  | zero =>
    intro v n A hv hn h
    obtain ⟨n, rfl⟩ : ∃ j, n = j + 1 := ⟨n - 1, by omega⟩
    obtain rfl : v = 104 := by omega
    have c1 : nI 104 ≤ nI 104 := by decide
    refine ⟨A, ?_, h, fun i h1 h2 => absurd h1 (by omega), fun _ _ => rfl, fun _ _ _ => rfl, fun _ _ => rfl⟩
    show X4_init_h102 (X4_init_l102 n) (nI 104) A = _
    unfold X4_init_h102
    rw [if_pos c1]
  | succ k ih =>
    intro v n A hv hn h
    obtain ⟨n, rfl⟩ : ∃ j, n = j + 1 := ⟨n - 1, by omega⟩
    have c1 : ¬ nI 104 ≤ nI v := nI_ge (by omega) (by decide)
    have c2 : ¬ nI v < 0 := nI_pos (by omega)
    have c3 : nI v < 200 := nI_lt (b := 200) (by omega) (by decide)
    have i7 : (nI v).toNatClampNeg = v := nI_clamp (by omega)
    have hs : X4_init_l102 (n + 1) (nI v) A = X4_init_l102 n (nI (v + 1)) (hu (hu A 2 v (hch v)) 1 1 (nI (v + 1))) := by
      show X4_init_h102 (X4_init_l102 n) (nI v) A = _
      unfold X4_init_h102 X3_append
      rw [if_neg c1, q_hx (by omega) (by decide), gd_t, h, if_neg c2, if_pos c3, q_hx (by omega) (by decide), gd_t, q_g1, ob_s, i7, nI_1]
      show X4_init_l102 n (nI (v + 1)) (hu (hu A 2 v (hch v)) 1 1 (hu A 2 v (hch v) 1 1 + 1)) = _
      rw [q_ha _ _ _ _ (by decide), h, nI_1]
    obtain ⟨A', e1, e2, e3, e4, e5, e6⟩ := ih (v + 1) n (hu (hu A 2 v (hch v)) 1 1 (nI (v + 1))) (by omega) (by omega) (q_hu _ _ _ _)
    refine ⟨A', hs.trans e1, e2, fun i h1 h2 => ?_, fun i h1 => ?_, fun a h1 h2 => ?_, fun i h1 => ?_⟩
    · by_cases hiv : i = v
      · rw [hiv, e4 v (by omega), q_ha _ _ _ _ (by decide), q_hu]
      · exact e3 i (by omega) h2
    · rw [e4 i (by omega), q_ha _ _ _ _ (by decide), q_hi _ _ (by omega)]
    · rw [e5 a h1 h2, q_hr _ _ _ h1, q_hr _ _ _ h2]
    · rw [e6 i h1, q_hi _ _ h1, q_ha _ _ _ _ (by decide)]
def cI (i : Nat) : Nat := (hch i).toNatClampNeg
theorem cI_ok : ∀ i, i < 104 → (32 ≤ cI i ∧ cI i ≤ 126) ∧ hch i = nI (cI i) := by decide +kernel
theorem stG {A : hM} {M : hM → hM} {i t N F L k : Nat} {xs : List Nat} (h : Tt A 104 cI) (hM : ∀ B, Dw A (M B) 4 N F L) (hi : i < 104) (ht : t < 200) (hc : cI i = 103) (hr : rn (lt 104 cI) 5 (i + 1) = some (xs, k)) (q5 : xs.length = 5) (ok : okG N (fun t => xs.getD t 0)) :
    ∃ A', Fc 4 A A' ∧ Tt A' 104 cI ∧ (∀ n, X3_readInto_l8 1 4 (n + 1) (nI i) (nI t) A = X3_readInto_l8 1 4 n (nI k) (nI (t + 1)) A') ∧ ∀ B, Dw A' (newG (M B) N (fun t => xs.getD t 0)) 4 (N + 1) F L := by
  obtain ⟨A', a1, a2, a3⟩ := q_okG (d := 4) (Or.inl rfl) h hi ht hc (hM A).2.1.1 (hM A).1.1 hr q5 ok
  exact ⟨A', a1, a1.tt (Or.inl rfl) h, fun n => a2 (X3_readInto_l8 1 4 n), fun B => a3 _ F L (hM B)⟩
theorem stF {A : hM} {M : hM → hM} {i t N F L k : Nat} {xs : List Nat} (h : Tt A 104 cI) (hM : ∀ B, Dw A (M B) 4 N F L) (hi : i < 104) (ht : t < 200) (hc : cI i = 102) (hr : rn (lt 104 cI) 5 (i + 1) = some (xs, k)) (q3 : xs.length = 3) (ok : okF N F (fun t => xs.getD t 0)) :
    ∃ A', Fc 4 A A' ∧ Tt A' 104 cI ∧ (∀ n, X3_readInto_l8 1 4 (n + 1) (nI i) (nI t) A = X3_readInto_l8 1 4 n (nI k) (nI (t + 1)) A') ∧ ∀ B, Dw A' (newF (M B) F (fun t => xs.getD t 0)) 4 N (F + 1) L := by
  obtain ⟨A', a1, a2, a3⟩ := q_okF (d := 4) (Or.inl rfl) h hi ht hc (hM A).2.1.1 (hM A).1.1 (hM A).2.2.1.1 (hM A).1.2.1 hr q3 ok
  exact ⟨A', a1, a1.tt (Or.inl rfl) h, fun n => a2 (X3_readInto_l8 1 4 n), fun B => a3 _ L (hM B)⟩
theorem stL {A : hM} {M : hM → hM} {i t N F L k R : Nat} {xs : List Nat} (h : Tt A 104 cI) (hM : ∀ B, Dw A (M B) 4 N F L) (hi : i < 104) (ht : t < 200) (hc : cI i = 108) (hr : rn (lt 104 cI) 5 (i + 1) = some (xs, k)) (q2 : 2 ≤ xs.length) (hL4 : L < 4) (h9 : xs.getD 0 0 ≤ 9) (hR : lm (fun t => xs.getD t 0) (xs.length - 1) 1 0 = some R) :
    ∃ A', Fc 4 A A' ∧ Tt A' 104 cI ∧ (∀ n, X3_readInto_l8 1 4 (n + 1) (nI i) (nI t) A = X3_readInto_l8 1 4 n (nI k) (nI (t + 1)) A') ∧ ∀ B, Dw A' (newL (M B) L (xs.getD 0 0) R) 4 N F (L + 1) := by
  obtain ⟨A', a1, a2, a3⟩ := q_okL (d := 4) (Or.inl rfl) h hi ht hc (hM A).2.2.2.1.1 hL4 hr q2 h9 hR
  exact ⟨A', a1, a1.tt (Or.inl rfl) h, fun n => a2 (X3_readInto_l8 1 4 n), fun B => a3 _ N F (hM B)⟩
/-- the model's memory, item by item -/
def m0 (B : hM) : hM := hu (hu (hu (hu B 92 37 (-4)) 92 13 0) 92 19 0) 92 23 0
def xl (xs : List Nat) : Nat → Nat := fun t => xs.getD t 0
def m5 (B : hM) : hM := newG (newG (newG (newG (newG (m0 B) 0 (xl [0, 0, 9, 1, 20])) 1 (xl [1, 3, 6, 2, 15])) 2 (xl [2, 99, 2, 1, 12])) 3 (xl [3, 10, 5, 1, 30])) 4 (xl [0, 99, 14, 3, 10])
def m8 (B : hM) : hM := newF (newF (newF (m5 B) 0 (xl [0, 2, 2])) 1 (xl [1, 4, 5])) 2 (xl [2, 4, 1])
def m11 (B : hM) : hM := newL (newL (newL (m8 B) 0 2 3) 1 1 12) 2 3 1
theorem q_rd {A : hM} (h : Tt A 104 cI) : ∃ A', X3_readInto 1 4 A = some (-4, A') ∧ Fc 4 A A' ∧ ∀ B, Dw A' (m11 B) 4 5 3 3 := by
  obtain ⟨A0, hA0⟩ : ∃ A0, A0 = hu (hu (hu A 4 0 0) 4 1 0) 4 2 0 := ⟨_, rfl⟩
  have f0 : Fc 4 A A0 := by rw [hA0]; exact q_zeroC (Or.inl rfl)
  have t0 : Tt A0 104 cI := f0.tt (Or.inl rfl) h
  have d0 : ∀ B, Dw A0 (m0 B) 4 0 0 0 := fun B => by rw [hA0]; exact Dw.zero
  obtain ⟨A1, f1, t1, e1, d1⟩ := stG (i := 0) (t := 0) (xs := [0, 0, 9, 1, 20]) (k := 12) t0 d0 (by decide) (by decide) (by decide +kernel) (by decide +kernel) rfl (by unfold okG; decide)
  obtain ⟨A2, f2, t2, e2, d2⟩ := stG (i := 12) (t := 1) (xs := [1, 3, 6, 2, 15]) (k := 24) t1 d1 (by decide) (by decide) (by decide +kernel) (by decide +kernel) rfl (by unfold okG; decide)
  obtain ⟨A3, f3, t3, e3, d3⟩ := stG (i := 24) (t := 2) (xs := [2, 99, 2, 1, 12]) (k := 37) t2 d2 (by decide) (by decide) (by decide +kernel) (by decide +kernel) rfl (by unfold okG; decide)
  obtain ⟨A4, f4, t4, e4, d4⟩ := stG (i := 37) (t := 3) (xs := [3, 10, 5, 1, 30]) (k := 50) t3 d3 (by decide) (by decide) (by decide +kernel) (by decide +kernel) rfl (by unfold okG; decide)
  obtain ⟨A5, f5, t5, e5, d5⟩ := stG (i := 50) (t := 4) (xs := [0, 99, 14, 3, 10]) (k := 64) t4 d4 (by decide) (by decide) (by decide +kernel) (by decide +kernel) rfl (by unfold okG; decide)
  obtain ⟨A6, f6, t6, e6, d6⟩ := stF (i := 64) (t := 5) (xs := [0, 2, 2]) (k := 71) t5 d5 (by decide) (by decide) (by decide +kernel) (by decide +kernel) rfl (by unfold okF; decide)
  obtain ⟨A7, f7, t7, e7, d7⟩ := stF (i := 71) (t := 6) (xs := [1, 4, 5]) (k := 78) t6 d6 (by decide) (by decide) (by decide +kernel) (by decide +kernel) rfl (by unfold okF; decide)
  obtain ⟨A8, f8, t8, e8, d8⟩ := stF (i := 78) (t := 7) (xs := [2, 4, 1]) (k := 85) t7 d7 (by decide) (by decide) (by decide +kernel) (by decide +kernel) rfl (by unfold okF; decide)
  obtain ⟨A9, f9, t9, e9, d9⟩ := stL (i := 85) (t := 8) (xs := [2, 0, 1]) (k := 92) (R := 3) t8 d8 (by decide) (by decide) (by decide +kernel) (by decide +kernel) (by decide) (by decide) (by decide) (by decide +kernel)
  obtain ⟨A10, f10, t10, e10, d10⟩ := stL (i := 92) (t := 9) (xs := [1, 2, 3]) (k := 99) (R := 12) t9 d9 (by decide) (by decide) (by decide +kernel) (by decide +kernel) (by decide) (by decide) (by decide) (by decide +kernel)
  obtain ⟨A11, f11, t11, e11, d11⟩ := stL (i := 99) (t := 10) (xs := [3, 0]) (k := 104) (R := 1) t10 d10 (by decide) (by decide) (by decide +kernel) (by decide +kernel) (by decide) (by decide) (by decide) (by decide +kernel)
  have e12 : ∀ n, X3_readInto_l8 1 4 (n + 1) (nI 104) (nI 11) A11 = some (-4, A11) := fun n => by
    show X3_readInto_h8 1 4 (X3_readInto_l8 1 4 n) (nI 104) (nI 11) A11 = _
    have z1 : ¬ (200 : Int32) ≤ nI 11 := by decide
    have z2 : nI 104 ≤ nI 104 := by decide
    unfold X3_readInto_h8
    rw [if_neg z1, t11.2.1, if_pos z2]
  have go : ∀ n, X3_readInto_l8 1 4 (n + 12) (nI 0) (nI 0) A0 = some (-4, A11) := fun n => by
    exact (e1 (n + 11)).trans ((e2 (n + 10)).trans ((e3 (n + 9)).trans ((e4 (n + 8)).trans ((e5 (n + 7)).trans ((e6 (n + 6)).trans ((e7 (n + 5)).trans ((e8 (n + 4)).trans ((e9 (n + 3)).trans ((e10 (n + 2)).trans ((e11 (n + 1)).trans (e12 n)))))))))))
  have e : X3_readInto 1 4 A = X3_readInto_l8 1 4 hF 0 0 A0 := by
    unfold X3_readInto X0_clear
    rw [ob_s, hA0]
  have g : X3_readInto_l8 1 4 hF 0 0 A0 = some (-4, A11) := by
    have g1 := go 1012
    rw [nI_0] at g1
    have g2 : hF = 1012 + 12 := rfl
    rw [g2]
    exact g1
  refine ⟨A11, e.trans g, ((((((((((f0.tr f1).tr f2).tr f3).tr f4).tr f5).tr f6).tr f7).tr f8).tr f9).tr f10).tr f11, fun B => ?_⟩
  exact d11 B
theorem q_m8 (B : hM) : Fb (m0 B) (m8 B) := ((((((newG_f.tr newG_f).tr newG_f).tr newG_f).tr newG_f).tr newF_f).tr newF_f).tr newF_f
/-- the model's first ladies -/
def mL (C : hM) : hM := hu (hu (hu (hu (hu (hu (hu C 92 23 3) 111 0 2) 111 1 1) 111 2 3) 112 2 1) 112 0 3) 112 1 12
theorem q_mL (C : hM) : (∀ a, a ≠ 92 → a ≠ 111 → a ≠ 112 → mL C a = C a) ∧ (∀ i, i ≠ 23 → mL C 92 i = C 92 i) ∧ mL C 92 23 = 3 ∧ (∀ a, 103 ≤ a → a ≤ 112 → mL C a = newL (newL (newL C 0 2 3) 1 1 12) 2 3 1 a) := by
  refine ⟨fun a h1 h2 h3 => ?_, fun i hi => ?_, ?_, fun a h1 h2 => ?_⟩
  · unfold mL
    rw [q_hr _ _ _ h3, q_hr _ _ _ h3, q_hr _ _ _ h3, q_hr _ _ _ h2, q_hr _ _ _ h2, q_hr _ _ _ h2, q_hr _ _ _ h1]
  · unfold mL
    rw [q_ha _ _ _ _ (by decide), q_ha _ _ _ _ (by decide), q_ha _ _ _ _ (by decide), q_ha _ _ _ _ (by decide), q_ha _ _ _ _ (by decide), q_ha _ _ _ _ (by decide), q_hi _ _ hi]
  · unfold mL
    rw [q_ha _ _ _ _ (by decide), q_ha _ _ _ _ (by decide), q_ha _ _ _ _ (by decide), q_ha _ _ _ _ (by decide), q_ha _ _ _ _ (by decide), q_ha _ _ _ _ (by decide), q_hu]
  · by_cases a1 : a = 111
    · subst a1
      funext i
      by_cases i2 : i = 2
      · subst i2; rfl
      · by_cases i1 : i = 1
        · subst i1; rfl
        · by_cases i0 : i = 0
          · subst i0; rfl
          · rw [newL_g i2 (by decide), newL_g i1 (by decide), newL_g i0 (by decide)]
            unfold mL
            rw [q_ha _ _ _ _ (by decide), q_ha _ _ _ _ (by decide), q_ha _ _ _ _ (by decide), q_hi _ _ i2, q_hi _ _ i1, q_hi _ _ i0, q_ha _ _ _ _ (by decide)]
    · by_cases a2 : a = 112
      · subst a2
        funext i
        by_cases i2 : i = 2
        · subst i2; rfl
        · by_cases i1 : i = 1
          · subst i1; rfl
          · by_cases i0 : i = 0
            · subst i0; rfl
            · rw [newL_g i2 (by decide), newL_g i1 (by decide), newL_g i0 (by decide)]
              unfold mL
              rw [q_hi _ _ i1, q_hi _ _ i0, q_hi _ _ i2, q_ha _ _ _ _ (by decide), q_ha _ _ _ _ (by decide), q_ha _ _ _ _ (by decide), q_ha _ _ _ _ (by decide)]
      · rw [newL_o (by omega) (by omega), newL_o (by omega) (by omega), newL_o (by omega) (by omega)]
        unfold mL
        rw [q_hr _ _ _ a2, q_hr _ _ _ a2, q_hr _ _ _ a2, q_hr _ _ _ a1, q_hr _ _ _ a1, q_hr _ _ _ a1, q_hr _ _ _ (by omega)]
theorem q_hx4 : (hx 0 4 = true ∧ hx 1 4 = true ∧ hx 2 4 = true) ∧ ((0 : Int32).toNatClampNeg = 0 ∧ (1 : Int32).toNatClampNeg = 1 ∧ (2 : Int32).toNatClampNeg = 2) := by decide +kernel
/-- the model's making -/
theorem q_initM (B : hM) : X5_init_b194 B = ob (X5_settles (mL (m8 B))) (fun _ Ia29 => some (0, Ia29)) := by
  have h0 : m0 B 92 13 = nI 0 := by
    unfold m0
    rw [q_hi _ _ (by decide), q_hi _ _ (by decide), q_hu, nI_0]
  have k0 : m0 B 92 19 = nI 0 := by
    unfold m0
    rw [q_hi _ _ (by decide), q_hu, nI_0]
  obtain ⟨B0, hB0⟩ : ∃ B0, B0 = m0 B := ⟨_, rfl⟩
  obtain ⟨B1, hB1⟩ : ∃ B1, B1 = newG B0 0 (xl [0, 0, 9, 1, 20]) := ⟨_, rfl⟩
  obtain ⟨B2, hB2⟩ : ∃ B2, B2 = newG B1 1 (xl [1, 3, 6, 2, 15]) := ⟨_, rfl⟩
  obtain ⟨B3, hB3⟩ : ∃ B3, B3 = newG B2 2 (xl [2, 99, 2, 1, 12]) := ⟨_, rfl⟩
  obtain ⟨B4, hB4⟩ : ∃ B4, B4 = newG B3 3 (xl [3, 10, 5, 1, 30]) := ⟨_, rfl⟩
  obtain ⟨B5, hB5⟩ : ∃ B5, B5 = newG B4 4 (xl [0, 99, 14, 3, 10]) := ⟨_, rfl⟩
  obtain ⟨B6, hB6⟩ : ∃ B6, B6 = newF B5 0 (xl [0, 2, 2]) := ⟨_, rfl⟩
  obtain ⟨B7, hB7⟩ : ∃ B7, B7 = newF B6 1 (xl [1, 4, 5]) := ⟨_, rfl⟩
  obtain ⟨B8, hB8⟩ : ∃ B8, B8 = newF B7 2 (xl [2, 4, 1]) := ⟨_, rfl⟩
  rw [← hB0] at h0 k0
  have h1 : B1 92 13 = nI 1 := by rw [hB1]; exact newG_c
  have h2 : B2 92 13 = nI 2 := by rw [hB2]; exact newG_c
  have h3 : B3 92 13 = nI 3 := by rw [hB3]; exact newG_c
  have h4 : B4 92 13 = nI 4 := by rw [hB4]; exact newG_c
  have k5 : B5 92 19 = nI 0 := by rw [hB5, newG_d (by decide), hB4, newG_d (by decide), hB3, newG_d (by decide), hB2, newG_d (by decide), hB1, newG_d (by decide)]; exact k0
  have k6 : B6 92 19 = nI 1 := by rw [hB6]; exact newF_c
  have k7 : B7 92 19 = nI 2 := by rw [hB7]; exact newF_c
  have c1 : X5_comes 0 0 9 1 20 B0 = some (0, B1) := by rw [hB1]; exact q_comes (x := xl [0, 0, 9, 1, 20]) h0 (by decide)
  have c2 : X5_comes 1 3 6 2 15 B1 = some (0, B2) := by rw [hB2]; exact q_comes (x := xl [1, 3, 6, 2, 15]) h1 (by decide)
  have c3 : X5_comes 2 99 2 1 12 B2 = some (0, B3) := by rw [hB3]; exact q_comes (x := xl [2, 99, 2, 1, 12]) h2 (by decide)
  have c4 : X5_comes 3 10 5 1 30 B3 = some (0, B4) := by rw [hB4]; exact q_comes (x := xl [3, 10, 5, 1, 30]) h3 (by decide)
  have c5 : X5_comes 0 99 14 3 10 B4 = some (0, B5) := by rw [hB5]; exact q_comes (x := xl [0, 99, 14, 3, 10]) h4 (by decide)
  have c6 : X5_follow 0 2 2 B5 = some (0, B6) := by rw [hB6]; exact q_follow (x := xl [0, 2, 2]) k5 (by decide)
  have c7 : X5_follow 1 4 5 B6 = some (0, B7) := by rw [hB7]; exact q_follow (x := xl [1, 4, 5]) k6 (by decide)
  have c8 : X5_follow 2 4 1 B7 = some (0, B8) := by rw [hB8]; exact q_follow (x := xl [2, 4, 1]) k7 (by decide)
  have e8 : B8 = m8 B := by
    unfold m8 m5
    rw [hB8, hB7, hB6, hB5, hB4, hB3, hB2, hB1, hB0]
  have e0 : X5_clears (hu B 92 37 (-4)) = some (0, B0) := by rw [hB0]; rfl
  obtain ⟨⟨x0, x1, x2⟩, i0, i1, i2⟩ := q_hx4
  unfold X5_init_b194
  rw [e0, ob_s, c1, ob_s, c2, ob_s, c3, ob_s, c4, ob_s, c5, ob_s, c6, ob_s, c7, ob_s, c8, ob_s, x0, x1, x2, gd_t, gd_t, gd_t, gd_t, gd_t, gd_t, i0, i1, i2, e8]
  rfl
theorem hW2_s : hW2 1 1 = 0 ∧ hW2 0 9 = 0 ∧ hW2 36 1 = 0 ∧ hW2 78 1 = 0 ∧ (∀ i, i < 8 → hW2 37 i = nI (38 + 5 * i)) ∧ (∀ i, i < 2 → hW2 79 i = nI (80 + 5 * i)) := by decide +kernel
theorem q_begin : ∃ I1 I2, X4_init_b100 hW2 = some (0, I1) ∧ (∀ k, 92 ≤ k → I1 k = fun _ => 0) ∧ X5_init_b194 I1 = some (0, I2) ∧ Inv I2 I2 := by
  obtain ⟨w1, w2, w3, w4, w5, w6⟩ := hW2_s
  obtain ⟨A1, a1, a2, a3, -, a4, a5⟩ := q_app 104 0 hF hW2 rfl (show 104 < 1024 by decide) (by rw [w1, nI_0])
  rw [nI_0] at a1
  have hT : Tt A1 104 cI := ⟨by decide, a2, fun i hi => ⟨(cI_ok i hi).1, by rw [a3 i (Nat.zero_le _) hi]; exact (cI_ok i hi).2⟩⟩
  obtain ⟨A2, b1, b2, b3⟩ := q_rd hT
  obtain ⟨I1, c1, c2⟩ : ∃ I1, X2_start 26 4 (hu A2 1 1 0) = some (0, I1) ∧ (∀ a, ¬ (26 ≤ a ∧ a ≤ 30) → I1 a = hu A2 1 1 0 a) := by
    obtain ⟨I1, z1, -, -, -, -, z2⟩ := q_start (hu A2 1 1 0)
    exact ⟨I1, z1, z2⟩
  have hI1 : X4_init_b100 hW2 = some (0, I1) := by
    have e : X4_init_b100 hW2 = X4_init_l102 hF 0 hW2 := rfl
    rw [e, a1]
    unfold X4_init_b131
    rw [b1, ob_s, c1, ob_s]
  -- what stays from the beginning
  have kp : ∀ a, a ≠ 1 → a ≠ 2 → a ≠ 3 → ¬ (4 ≤ a ∧ a ≤ 14) → ¬ (26 ≤ a ∧ a ≤ 30) → I1 a = hW2 a := fun a h1 h2 h3 h4 h5 => by rw [c2 a h5, q_hr _ _ _ h1, b2.1 a h1 h3 (by omega), a4 a h1 h2]
  have k92 : ∀ k, 92 ≤ k → I1 k = fun _ => 0 := fun k hk => by rw [kp k (by omega) (by omega) (by omega) (by omega) (by omega)]; exact hW2_0 k (by omega)
  obtain ⟨l1, l2, l3, l4⟩ := q_mL (m8 I1)
  have m8f := q_m8 I1
  have hD : Dw (hu A2 1 1 0) (mL (m8 I1)) 4 5 3 3 := (b3 I1).keep (fun a _ _ => q_hr _ _ _ (by omega)) (by rw [l2 13 (by decide)]; unfold m11; rw [newL_d (by decide), newL_d (by decide), newL_d (by decide)]) (by rw [l2 19 (by decide)]; unfold m11; rw [newL_d (by decide), newL_d (by decide), newL_d (by decide)]) (by rw [l3]; unfold m11; rw [newL_c]; rfl) (fun a h1 h2 => l4 a h1 h2)
  obtain ⟨I1', I2, s1, s2, hE, hS, s3, s4, s5, s6⟩ := q_lays hD (by decide)
  rw [c1] at s1
  obtain ⟨-, e⟩ := Prod.mk.inj (Option.some.inj s1)
  subst e
  have hI2 : X5_init_b194 I1 = some (0, I2) := by rw [q_initM, s2, ob_s]
  -- the model's cells
  have g0 : ∀ a, a ≠ 92 → ¬ (93 ≤ a ∧ a ≤ 113) → I2 a = I1 a := fun a h1 h2 => by
    rw [s4 a (by omega) h1 (by omega), l1 a h1 (by omega) (by omega), m8f.1 a h1 (by omega)]
    unfold m0
    rw [q_hr _ _ _ h1, q_hr _ _ _ h1, q_hr _ _ _ h1, q_hr _ _ _ h1]
  have g1 : ∀ i, (23 < i ∧ i < 31) ∨ 33 < i → I2 92 i = m0 I1 92 i := fun i hi => by
    rw [s5 i (by omega) (by omega) (by omega), l2 i (by omega), m8f.2 i (by omega) (by omega) (by omega) (by omega) (by omega) (by omega)]
  have g2 : ∀ i, (23 < i ∧ i < 31) ∨ 33 < i → i ≠ 37 → I2 92 i = nI 0 := fun i hi h37 => by
    rw [g1 i hi]
    unfold m0
    rw [q_hi _ _ (by omega), q_hi _ _ (by omega), q_hi _ _ (by omega), q_hi _ _ h37, k92 92 (by decide)]
    exact nI_0.symm
  have g37 : I2 92 37 = -4 := by
    rw [g1 37 (by decide)]
    unfold m0
    rw [q_hi _ _ (by decide), q_hi _ _ (by decide), q_hi _ _ (by decide), q_hu]
  have hI : Inv I1 I2 := by
    refine ⟨5, 3, 3, 0, hE, by decide, hS, g37, ⟨0, by decide, ?_, g2 29 (by decide) (by decide), fun i hi => absurd hi (by omega)⟩, ⟨0, by decide, ?_, g2 34 (by decide) (by decide), fun i hi => absurd hi (by omega)⟩, ⟨0, by decide, ?_, g2 27 (by decide) (by decide), fun i => 38 + 5 * i, fun i hi => ⟨?_, i, hi, rfl⟩, fun i j _ _ h => ?_, fun i hi => absurd hi (by omega)⟩, ⟨0, by decide, ?_, g2 28 (by decide) (by decide), fun i hi => ?_, fun i hi => absurd hi (by omega)⟩⟩
    · rw [c2 1 (by decide), q_hu, nI_0]
    · rw [kp 0 (by decide) (by decide) (by decide) (by decide) (by decide), w2, nI_0]
    · rw [kp 36 (by decide) (by decide) (by decide) (by decide) (by decide), w3, nI_0]
    · rw [kp 37 (by decide) (by decide) (by decide) (by decide) (by decide)]
      exact w5 i hi
    · have h : 38 + 5 * i = 38 + 5 * j := h
      omega
    · rw [kp 78 (by decide) (by decide) (by decide) (by decide) (by decide), w4, nI_0]
    · rw [kp 79 (by decide) (by decide) (by decide) (by decide) (by decide)]
      exact w6 i hi
  exact ⟨I1, I2, hI1, k92, hI2, hI.cong (fun a ha => g0 a (by omega) (by omega)) (fun _ _ => rfl)⟩
theorem whole_start {p : Program} {e : Env} {s : State} {m : MethodId} {below : List Frame} {meth : Method} {c : Code} (l : Launch) (hflags : l.flags = flags0) {b L : Nat} {xs : Nat → Int32} (hL : L ≤ 320) (C0 : lw_At p s m meth c b L xs) : W p l e room_1 s m #[Value.ref b] below meth c s.heap [] 0 0 (lw_Z below #[Value.ref b] s) (entryFrame m ([Value.ref b] : List Value).toArray 4) := by
  obtain ⟨I1, I2, e1, e2, e3, hI⟩ := q_begin
  obtain ⟨I3, e4⟩ := q_law (xs := xs) op_fault op_lay hL 64 0 hF I2 (by omega) (by decide) (show 64 < 1024 by decide) hI
  rw [nI_0] at e4
  exact whole_start0 l hflags hL C0 e1 e2 e3 e4
