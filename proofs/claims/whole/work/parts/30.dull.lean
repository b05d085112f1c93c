/-- a minute of both whose worth this program does not add up -/
theorem q_bare {N F L x m : Nat} {A B : hM} (hm : m ≤ 2899) (hE : Ev A B N F L) (hR : Rc A B 31 220 m x N) (h0 : A 31 0 = nI m) (h1 : B 113 238 = nI m) (hab : Ab B x N) :
    ∃ (A1 : hM) (S : Int32) (A2 B2 : hM), X2_beginDue 31 4 A = some (0, A1) ∧ X2_worthOfAll 31 4 A1 = some (S, A1) ∧ X2_onBits 31 4 A1 = some (bt (A1 32) N, A1) ∧ X2_endMinute 31 4 A1 = some (0, A2) ∧ X5_goesOn 220 B = some (bt (A1 32) N, B2) ∧ B2 113 239 = B 113 239 + S ∧ (-280 ≤ S.toInt ∧ S.toInt ≤ 280) ∧ Rc A2 B2 31 220 (m + 1) x N ∧ A2 31 0 = nI (m + 1) ∧ B2 113 238 = nI (m + 1) ∧ (∀ a, ¬ (31 ≤ a ∧ a ≤ 35) → A1 a = A a) ∧ Fr A A2 B B2 31 220 := by
  have hb := hE.1
  obtain ⟨A1, S, A2, B2, e1, e2, e2', e3, e4, e5, e6, e7, e8, e9, e10, e11, e12, e13⟩ := q_goesOn (p := 31) (s := 220) (Or.inr rfl) (by decide) (show m ≤ 2900 by omega) hE hR h0 h1 hab (fun a _ => a)
  obtain ⟨A1', B1', b1, -, -, b4, -⟩ := q_beg (p := 31) (s := 220) (Or.inr rfl) (by decide) (show m ≤ 3000 by omega) hE hR h0 h1
  rw [e1] at b1
  cases b1
  have e4 : X2_endMinute 31 4 (hu A1 31 1 (A 31 1)) = some (0, A2) := e4
  rw [← e3, hu_id] at e4
  exact ⟨A1, S, A2, B2, e1, e2, e2', e4, e5, e7, e8, e10, e9.1, e9.2, fun a ha => b4 a (by omega) (by omega), fun a ha => e11 a (by omega), fun a h1 _ => e12 a h1, fun i _ => by rw [e12 92 (by decide)], fun j hj => e13 j (by omega) (by omega) (by omega)⟩
theorem q_quiet_loop {N F L x : Nat} : ∀ (k i m : Nat) (c v : Int32) (A B : hM) (n1 n2 : Nat), i + k = 60 → k < n1 → k < n2 → m + k ≤ 2899 → Ev A B N F L → Rc A B 31 220 m x N → A 31 0 = nI m → B 113 238 = nI m → Ab B x N →
    ∃ r A1 B1, X4_quiet_l17 n1 c v (nI i) A = some (r, A1) ∧ X5_quiet_l14 n2 v c (nI i) B = some (r, B1) ∧ Fr A A1 B B1 31 220 := by
  intro k
  induction k with
  | zero =>
    intro i m c v A B n1 n2 hi h1 h2 hm hE hR m1 m2 hab
    obtain ⟨n1, rfl⟩ : ∃ n, n1 = n + 1 := ⟨n1 - 1, by omega⟩
    obtain ⟨n2, rfl⟩ : ∃ n, n2 = n + 1 := ⟨n2 - 1, by omega⟩
    obtain rfl : i = 60 := by omega
    have c1 : (60 : Int32) ≤ nI 60 := by decide
    refine ⟨v, A, B, ?_, ?_, Fr.rf⟩
    · show X4_quiet_h17 _ c v (nI 60) A = _
      simp only [X4_quiet_h17, c1, ↓reduceIte]
    · show X5_quiet_h14 _ v c (nI 60) B = _
      simp only [X5_quiet_h14, c1, ↓reduceIte]
  | succ k ih =>
    intro i m c v A B n1 n2 hi h1 h2 hm hE hR m1 m2 hab
    obtain ⟨n1, rfl⟩ : ∃ n, n1 = n + 1 := ⟨n1 - 1, by omega⟩
    obtain ⟨n2, rfl⟩ : ∃ n, n2 = n + 1 := ⟨n2 - 1, by omega⟩
    have c1 : ¬ (60 : Int32) ≤ nI i := nI_ge (b := 60) (by omega) (by decide)
    obtain ⟨A1, S, A2, B2, e1, e2, e3, e4, e5, e6, e7, e8, e9, e10, e11, e12⟩ := q_bare (show m ≤ 2899 by omega) hE hR m1 m2 hab
    have go : ∀ t : Int32, ∃ r A3 B3, X4_quiet_l17 n1 t (hmax v t) (nI (i + 1)) A2 = some (r, A3) ∧ X5_quiet_l14 n2 (hmax t v) t (nI (i + 1)) B2 = some (r, B3) ∧ Fr A2 A3 B2 B3 31 220 := by
      intro t
      rw [q_hmax_comm t v]
      exact ih (i + 1) (m + 1) t (hmax v t) A2 B2 n1 n2 (by omega) (by omega) (by omega) (by omega) (hE.fr (Or.inr rfl) e12) e8 e9 e10 (hab.fr e12)
    by_cases q : bt (A1 32) N = 0
    · obtain ⟨r, A3, B3, g1, g2, g3⟩ := go (c + 1)
      refine ⟨r, A3, B3, ?_, ?_, e12.tr g3⟩
      · show X4_quiet_h17 (X4_quiet_l17 n1) c v (nI i) A = _
        simp only [X4_quiet_h17, X4_quiet_b55, c1, e1, e3, e4, q, ob_s, nI_1, ↓reduceIte]
        exact g1
      · show X5_quiet_h14 (X5_quiet_l14 n2) v c (nI i) B = _
        simp only [X5_quiet_h14, X5_quiet_b37, c1, e5, q, q_larger, ob_s, nI_1, ↓reduceIte]
        exact g2
    · obtain ⟨r, A3, B3, g1, g2, g3⟩ := go 0
      refine ⟨r, A3, B3, ?_, ?_, e12.tr g3⟩
      · show X4_quiet_h17 (X4_quiet_l17 n1) c v (nI i) A = _
        simp only [X4_quiet_h17, X4_quiet_b55, c1, e1, e3, e4, q, ob_s, nI_1, ↓reduceIte]
        exact g1
      · show X5_quiet_h14 (X5_quiet_l14 n2) v c (nI i) B = _
        simp only [X5_quiet_h14, X5_quiet_b37, c1, e5, q, q_larger, ob_s, nI_1, ↓reduceIte]
        exact g2
theorem op_quiet : Op X4_quiet X5_quiet := Op.tr (by
  intro A B hI
  obtain ⟨N, F, L, m, hE, hm, hS, hab, -⟩ := q_parts hI
  obtain ⟨A1, B1, t1, t2, t3, t4⟩ := q_try hE hS
  obtain ⟨r, A2, B2, g1, g2, g3⟩ := q_quiet_loop 60 0 m 0 0 A1 B1 hF hF (by decide) (show 60 < 1024 by decide) (show 60 < 1024 by decide) (by omega) (hE.fr (Or.inr rfl) t4) t3.2.2.2.1 t3.1.1 t3.1.2 (hab.fr t4)
  rw [nI_0] at g1 g2
  refine ⟨r, A2, B2, ?_, ?_, t4.tr g3⟩
  · unfold X4_quiet
    rw [t1, ob_s]
    exact g1
  · unfold X5_quiet
    rw [t2, ob_s]
    exact g2)
theorem q_dull_loop {N F L x : Nat} : ∀ (k i m : Nat) (A B : hM) (n1 n2 : Nat), i + k = 61 → k < n1 → k < n2 → m + k ≤ 2899 → Ev A B N F L → Rc A B 31 220 m x N → A 31 0 = nI m → B 113 238 = nI m → (-(300 * (m : Int)) ≤ (B 113 239).toInt ∧ (B 113 239).toInt ≤ 300 * (m : Int)) → Ab B x N →
    ∃ r A1 B1, X4_dull_l13 n1 (nI i) A = some (r, A1) ∧ X5_dull_l10 n2 (nI i) B = some (r, B1) ∧ Fr A A1 B B1 31 220 := by
  intro k
  induction k with
  | zero =>
    intro i m A B n1 n2 hi h1 h2 hm hE hR m1 m2 hw hab
    obtain ⟨n1, rfl⟩ : ∃ n, n1 = n + 1 := ⟨n1 - 1, by omega⟩
    obtain ⟨n2, rfl⟩ : ∃ n, n2 = n + 1 := ⟨n2 - 1, by omega⟩
    obtain rfl : i = 61 := by omega
    have c1 : (60 : Int32) < nI 61 := by decide
    refine ⟨-4, A, B, ?_, ?_, Fr.rf⟩
    · show X4_dull_h13 _ (nI 61) A = _
      simp only [X4_dull_h13, c1, ↓reduceIte]
    · show X5_dull_h10 _ (nI 61) B = _
      simp only [X5_dull_h10, c1, ↓reduceIte]
  | succ k ih =>
    intro i m A B n1 n2 hi h1 h2 hm hE hR m1 m2 hw hab
    obtain ⟨n1, rfl⟩ : ∃ n, n1 = n + 1 := ⟨n1 - 1, by omega⟩
    obtain ⟨n2, rfl⟩ : ∃ n, n2 = n + 1 := ⟨n2 - 1, by omega⟩
    have c1 : ¬ (60 : Int32) < nI i := nI_nlt (a := 60) (by omega) (by decide)
    have f0 : Fr A A B (hu B 92 38 0) 31 220 := ⟨fun _ _ => rfl, fun a _ h => q_hr _ _ _ h, fun i hi => q_hi _ _ hi, fun j _ => q_ha _ _ _ _ (by decide)⟩
    have hR0 : Rc A (hu B 92 38 0) 31 220 m x N := fun g hg => (hR g hg).keep rfl rfl rfl (q_ha _ _ _ _ (by decide)) (q_ha _ _ _ _ (by decide))
    obtain ⟨A1, S, A2, B2, e1, e2, e3, e4, e5, e6, e7, e8, e9, e10, e11, e12⟩ := q_bare (show m ≤ 2899 by omega) (hE.fr (Or.inr rfl) f0) hR0 m1 (by rw [q_ha _ _ _ _ (by decide)]; exact m2) (hab.fr f0)
    rw [q_ha _ _ _ _ (show 113 ≠ 92 by decide)] at e6
    have e5 := q_min1 e5
    have ei : (B 113 239 + S).toInt = (B 113 239).toInt + S.toInt := q_addI (by omega) (by omega)
    have e0 : (0 : Int32).toInt = 0 := by decide
    generalize hB3 : hu B2 92 38 (hu B 92 38 0 92 38 ||| bt (A1 32) N) = B3 at e5
    have f1 : Fr A2 A2 B2 B3 31 220 := by
      rw [← hB3]
      exact ⟨fun _ _ => rfl, fun a _ h => q_hr _ _ _ h, fun i hi => q_hi _ _ hi, fun j _ => q_ha _ _ _ _ (by decide)⟩
    have h113 : ∀ j, B3 113 j = B2 113 j := fun j => by rw [← hB3, q_ha _ _ _ _ (by decide)]
    have f2 : Fr A A2 B B3 31 220 := (f0.tr e12).tr f1
    by_cases q : 0 ≤ S
    · have q2 : B 113 239 ≤ B 113 239 + S := by
        rw [q_le] at q ⊢
        omega
      obtain ⟨r, A4, B4, g1, g2, g3⟩ := ih (i + 1) (m + 1) A2 B3 n1 n2 (by omega) (by omega) (by omega) (by omega) (hE.fr (Or.inr rfl) f2) (fun g hg => (e8 g hg).keep rfl rfl rfl (h113 _) (h113 _)) e9 (by rw [h113]; exact e10) (by rw [h113, e6, ei]; omega) (hab.fr f2)
      refine ⟨r, A4, B4, ?_, ?_, f2.tr g3⟩
      · show X4_dull_h13 (X4_dull_l13 n1) (nI i) A = _
        simp only [X4_dull_h13, c1, e1, e2, e4, q, ob_s, nI_1, ↓reduceIte]
        exact g1
      · show X5_dull_h10 (X5_dull_l10 n2) (nI i) B = _
        simp only [X5_dull_h10, c1, e5, q239, h113, e6, q2, gd_t, ob_s, nI_1, ↓reduceIte]
        exact g2
    · have q2 : ¬ B 113 239 ≤ B 113 239 + S := by
        rw [q_le] at q ⊢
        omega
      have f3 : Fr A A1 B B3 31 220 := ⟨e11, f2.2⟩
      refine ⟨nI i, A1, B3, ?_, ?_, f3⟩
      · show X4_dull_h13 (X4_dull_l13 n1) (nI i) A = _
        simp only [X4_dull_h13, c1, e1, e2, q, ob_s, ↓reduceIte]
      · show X5_dull_h10 (X5_dull_l10 n2) (nI i) B = _
        simp only [X5_dull_h10, c1, e5, q239, h113, e6, q2, gd_t, ob_s, ↓reduceIte]
theorem op_dull : Op X4_dull X5_dull := Op.tr (by
  intro A B hI
  obtain ⟨N, F, L, m, hE, hm, hS, hab, -⟩ := q_parts hI
  obtain ⟨A1, B1, t1, t2, t3, t4⟩ := q_try hE hS
  have k1 : A1 31 1 = B1 113 239 := t3.2.1
  obtain ⟨r, A2, B2, g1, g2, g3⟩ := q_dull_loop 61 0 m A1 B1 hF hF (by decide) (show 61 < 1024 by decide) (show 61 < 1024 by decide) (by omega) (hE.fr (Or.inr rfl) t4) t3.2.2.2.1 t3.1.1 t3.1.2 (by rw [← k1]; exact t3.2.2.1) (hab.fr t4)
  rw [nI_0] at g1 g2
  refine ⟨r, A2, B2, ?_, ?_, t4.tr g3⟩
  · unfold X4_dull
    rw [t1, ob_s]
    exact g1
  · unfold X5_dull
    rw [t2, ob_s]
    exact g2)
