theorem q_both_in {N F L m a : Nat} (ha : a < N) (w : Int32) (K K' : Int32 → Int32 → Int32 → Int32 → hM → Option (Int32 × hM)) : ∀ (r b : Nat) (wh had : Int32) (A B : hM) (n1 n2 : Nat), a < b → b + r = N → r < n1 → r < n2 → Wh wh → St A B N F L m →
    ∃ wh' had' A1 B1, X4_both_l35 K n1 w wh had (nI a) (nI b) A = K w wh' had' (nI (a + 1)) A1 ∧ X5_both_l35 K' n2 w had wh (nI a) (nI b) B = K' w had' wh' (nI (a + 1)) B1 ∧ Wh wh' ∧ Fr A A1 B B1 31 220 := by
  intro r
  induction r with
  | zero =>
    intro b wh had A B n1 n2 hab hg h1 h2 hwh hS
    obtain ⟨n1, rfl⟩ : ∃ n, n1 = n + 1 := ⟨n1 - 1, by omega⟩
    obtain ⟨n2, rfl⟩ : ∃ n, n2 = n + 1 := ⟨n2 - 1, by omega⟩
    obtain rfl : b = N := by omega
    have hb := hS.1.1
    have c1 : nI b ≤ nI b := nI_le (by omega) (by omega)
    refine ⟨wh, had, A, B, ?_, ?_, hwh, Fr.rf⟩
    · show X4_both_h35 K _ w wh had (nI a) (nI b) A = _
      simp only [X4_both_h35, hS.1.2.1.1, c1, nI_1, ↓reduceIte]
    · show X5_both_h35 K' _ w had wh (nI a) (nI b) B = _
      simp only [X5_both_h35, hS.1.2.1.2, c1, nI_1, ↓reduceIte]
  | succ r ih =>
    intro b wh had A B n1 n2 hab hg h1 h2 hwh hS
    obtain ⟨n1, rfl⟩ : ∃ n, n1 = n + 1 := ⟨n1 - 1, by omega⟩
    obtain ⟨n2, rfl⟩ : ∃ n, n2 = n + 1 := ⟨n2 - 1, by omega⟩
    have hb := hS.1.1
    have eN := hS.1.2.1.1
    have fN := hS.1.2.1.2
    have c1 : ¬ nI N ≤ nI b := nI_ge (by omega) (by omega)
    have xa7 : hx (nI a) 7 = true := q_hx (by omega) (by decide)
    have xb7 : hx (nI b) 7 = true := q_hx (by omega) (by decide)
    have xa : hx (nI a) 240 = true := q_hx (by omega) (by decide)
    have xb : hx (nI b) 240 = true := q_hx (by omega) (by decide)
    have ia : (nI a).toNatClampNeg = a := nI_clamp (by omega)
    have ib : (nI b).toNatClampNeg = b := nI_clamp (by omega)
    have ona := (hS.2.2.1.2.2.2.1 a ha).on
    have onb := (hS.2.2.1.2.2.2.1 b (by omega)).on
    rw [Nat.zero_add] at ona onb
    have ona : A 27 a = 1 ↔ B 113 a = 1 := ona
    have onb : A 27 b = 1 ↔ B 113 b = 1 := onb
    have fin : ∀ (wh' had' : Int32) (A1 B1 : hM), Wh wh' → Fr A A1 B B1 31 220 → (X4_both_h35 K (X4_both_l35 K n1) w wh had (nI a) (nI b) A = X4_both_l35 K n1 w wh' had' (nI a) (nI (b + 1)) A1) → (X5_both_h35 K' (X5_both_l35 K' n2) w had wh (nI a) (nI b) B = X5_both_l35 K' n2 w had' wh' (nI a) (nI (b + 1)) B1) → ∃ wh' had' A1 B1, X4_both_l35 K (n1 + 1) w wh had (nI a) (nI b) A = K w wh' had' (nI (a + 1)) A1 ∧ X5_both_l35 K' (n2 + 1) w had wh (nI a) (nI b) B = K' w had' wh' (nI (a + 1)) B1 ∧ Wh wh' ∧ Fr A A1 B B1 31 220 := by
      intro wh' had' A1 B1 hw hf e1 e2
      obtain ⟨wh2, had2, A2, B2, g1, g2, g3, g4⟩ := ih (b + 1) wh' had' A1 B1 n1 n2 (by omega) (by omega) (by omega) (by omega) hw (hS.fr hf)
      exact ⟨wh2, had2, A2, B2, e1.trans g1, e2.trans g2, g3, hf.tr g4⟩
    by_cases qa : A 27 a = 1
    · have qa2 := ona.mp qa
      by_cases qb : A 27 b = 1
      · have qb2 := onb.mp qb
        obtain ⟨W, A4, B1, B2, B3, B4, p1, p2, p3, p4, p5, p6, p7, p8⟩ := q_pin2 hS hab (by omega) qa qb
        have i18 : (18 : Int32).toNatClampNeg = 18 := by decide
        have x18 : hx 18 240 = true := by decide
        have n4 : (-4 : Int32) < 0 := by decide
        rcases hwh with hwh | ⟨j, hj, hwh⟩
        · refine fin (nI (10 * a + b)) W A4 B4 (Or.inr ⟨10 * a + b, by omega, rfl⟩) p8 ?_ ?_
          · simp only [X4_both_h35, X4_both_b105, eN, c1, xa7, xb7, ia, ib, qa, qb, p1, hwh, q_ten, gd_t, ob_s, nI_1, ↓reduceIte]
          · simp only [X5_both_h35, X5_both_b129, X5_both_b148, fN, c1, xa, xb, ia, ib, qa2, qb2, p2, i18, x18, p3, p4, p5, p6, p7, hwh, n4, n10, q_ten, gd_t, ob_s, nI_1, ↓reduceIte]
        · have z1 : ¬ nI j < 0 := nI_pos (by omega)
          have z2 : ¬ nI j = -4 := by
            intro z
            rw [← z] at n4
            exact z1 n4
          by_cases q : W ≤ had
          · refine fin wh had A4 B4 (Or.inr ⟨j, hj, hwh⟩) p8 ?_ ?_
            · simp only [X4_both_h35, eN, c1, xa7, xb7, ia, ib, qa, qb, p1, hwh, z2, q, gd_t, ob_s, nI_1, ↓reduceIte]
            · simp only [X5_both_h35, X5_both_b129, X5_both_b148, fN, c1, xa, xb, ia, ib, qa2, qb2, p2, i18, x18, p3, p4, p5, p6, p7, hwh, z1, q, gd_t, ob_s, nI_1, ↓reduceIte]
          · refine fin (nI (10 * a + b)) W A4 B4 (Or.inr ⟨10 * a + b, by omega, rfl⟩) p8 ?_ ?_
            · simp only [X4_both_h35, X4_both_b105, eN, c1, xa7, xb7, ia, ib, qa, qb, p1, hwh, z2, q, q_ten, gd_t, ob_s, nI_1, ↓reduceIte]
            · simp only [X5_both_h35, X5_both_b129, X5_both_b148, fN, c1, xa, xb, ia, ib, qa2, qb2, p2, i18, x18, p3, p4, p5, p6, p7, hwh, z1, q, n10, q_ten, gd_t, ob_s, nI_1, ↓reduceIte]
      · have qb2 : ¬ B 113 b = 1 := fun z => qb (onb.mpr z)
        refine fin wh had A B hwh Fr.rf ?_ ?_
        · simp only [X4_both_h35, eN, c1, xa7, xb7, ia, ib, qa, qb, gd_t, nI_1, ↓reduceIte]
        · simp only [X5_both_h35, fN, c1, xa, xb, ia, ib, qa2, qb2, gd_t, nI_1, ↓reduceIte]
    · have qa2 : ¬ B 113 a = 1 := fun z => qa (ona.mpr z)
      refine fin wh had A B hwh Fr.rf ?_ ?_
      · simp only [X4_both_h35, eN, c1, xa7, ia, qa, gd_t, nI_1, ↓reduceIte]
      · simp only [X5_both_h35, fN, c1, xa, ia, qa2, gd_t, nI_1, ↓reduceIte]
theorem q_both_out {N F L m : Nat} (w : Int32) : ∀ (r a : Nat) (wh had : Int32) (A B : hM) (n1 n2 : Nat), a + r = N → r < n1 → r < n2 → Wh wh → St A B N F L m →
    ∃ R A1 B1, X4_both_l17 n1 w wh had (nI a) A = some (R, A1) ∧ X5_both_l20 n2 w had wh (nI a) B = some (R, B1) ∧ Fr A A1 B B1 31 220 := by
  intro r
  induction r with
  | zero =>
    intro a wh had A B n1 n2 hl h1 h2 hwh hS
    obtain ⟨n1, rfl⟩ : ∃ n, n1 = n + 1 := ⟨n1 - 1, by omega⟩
    obtain ⟨n2, rfl⟩ : ∃ n, n2 = n + 1 := ⟨n2 - 1, by omega⟩
    obtain rfl : a = N := by omega
    have hb := hS.1.1
    have c1 : nI a ≤ nI a := nI_le (by omega) (by omega)
    obtain ⟨R, r1, -, -, r2, -⟩ := q_which hwh had w
    refine ⟨R, A, B, ?_, ?_, Fr.rf⟩
    · show X4_both_h17 _ w wh had (nI a) A = _
      simp only [X4_both_h17, hS.1.2.1.1, c1, r1, ob_s, ↓reduceIte]
    · show X5_both_h20 _ w had wh (nI a) B = _
      simp only [X5_both_h20, hS.1.2.1.2, c1, r2, ↓reduceIte]
  | succ r ih =>
    intro a wh had A B n1 n2 hl h1 h2 hwh hS
    obtain ⟨n1, rfl⟩ : ∃ n, n1 = n + 1 := ⟨n1 - 1, by omega⟩
    obtain ⟨n2, rfl⟩ : ∃ n, n2 = n + 1 := ⟨n2 - 1, by omega⟩
    have hb := hS.1.1
    have c1 : ¬ nI N ≤ nI a := nI_ge (by omega) (by omega)
    obtain ⟨wh', had', A1, B1, g1, g2, g3, g4⟩ := q_both_in (show a < N by omega) w (X4_both_l17 n1) (X5_both_l20 n2) (N - (a + 1)) (a + 1) wh had A B hF hF (by omega) (by omega) (show N - (a + 1) < 1024 by omega) (show N - (a + 1) < 1024 by omega) hwh hS
    obtain ⟨R, A2, B2, k1, k2, k3⟩ := ih (a + 1) wh' had' A1 B1 n1 n2 (by omega) (by omega) (by omega) g3 (hS.fr g4)
    refine ⟨R, A2, B2, ?_, ?_, g4.tr k3⟩
    · show X4_both_h17 (X4_both_l17 n1) w wh had (nI a) A = _
      simp only [X4_both_h17, hS.1.2.1.1, c1, nI_1, ↓reduceIte]
      exact g1.trans k1
    · show X5_both_h20 (X5_both_l20 n2) w had wh (nI a) B = _
      simp only [X5_both_h20, hS.1.2.1.2, c1, nI_1, ↓reduceIte]
      exact g2.trans k2
theorem op_both (w : Int32) : Op (X4_both w) (X5_both w) := Op.tr (by
  intro A B hI
  obtain ⟨N, F, L, m, hSt⟩ := q_st hI
  have hb := hSt.1.1
  rcases q_either w A B with ⟨f1, f2, -⟩ | ⟨f1, f2, -⟩
  · exact ⟨-1, A, B, by simp only [X4_both, f1, ob_s, ↓reduceIte], by simp only [X5_both, f2, ob_s, ↓reduceIte], Fr.rf⟩
  · obtain ⟨R, A2, B2, g1, g2, g3⟩ := q_both_out w N 0 (-4) 0 A B hF hF (by omega) (show N < 1024 by omega) (show N < 1024 by omega) (Or.inl rfl) hSt
    rw [nI_0] at g1 g2
    refine ⟨R, A2, B2, ?_, ?_, g3⟩
    · unfold X4_both
      rw [f1, ob_s, if_neg n10]
      exact g1
    · unfold X5_both
      rw [f2, ob_s, if_neg n10]
      exact g2)
theorem q_without {N F L m g : Nat} {A B : hM} (h : St A B N F L m) (hg : g < N) (h0 : A 27 g = 0) : ∃ W A2 B1 B2, X4_hadWithout (nI g) A = some (W, A2) ∧ X5_copies 0 220 B = some (0, B1) ∧ X5_hadThen (hu (hu B1 113 (227 + g) (-1)) 92 37 (nI g)) = some (W, B2) ∧ Fr A A2 B (hu B2 92 37 (-4)) 31 220 := by
  obtain ⟨A1, B1, t1, t2, t3, t4, t5, -, t6, t7⟩ := q_tryOn h
  obtain ⟨hE, hm, hS, hab⟩ := h
  have hb := hE.1
  have x7 : hx (nI g) 7 = true := q_hx (by omega) (by decide)
  have i7 : (nI g).toNatClampNeg = g := nI_clamp (by omega)
  have hE1 := hE.fr (Or.inr rfl) t4
  have hE2 : Ev (hu A1 32 g 3) (hu (hu B1 113 (227 + g) (-1)) 92 37 (nI g)) N F L := hE1.keep (fun a _ _ => q_hr _ _ _ (by omega)) (by rw [q_hi _ _ (by decide), q_ha _ _ _ _ (by decide)]) (by rw [q_hi _ _ (by decide), q_ha _ _ _ _ (by decide)]) (by rw [q_hi _ _ (by decide), q_ha _ _ _ _ (by decide)]) (fun a _ _ => by rw [q_hr _ _ _ (by omega), q_hr _ _ _ (by omega)])
  have hab2 : Ab (hu (hu B1 113 (227 + g) (-1)) 92 37 (nI g)) g N := ⟨fun _ => q_hu _ _ _ _, fun z => absurd z (by omega)⟩
  have h37 : B 92 37 = -4 := hab.2 (Nat.le_refl _)
  have g0 : B1 113 (220 + g) = 0 := by
    have e := (t3.2.2.2.1 g hg).st (by omega)
    rw [← e]
    show A1 32 g = 0
    rw [t5 g (by omega)]
    exact h0
  have hS2 : Sd (hu A1 32 g 3) (hu (hu B1 113 (227 + g) (-1)) 92 37 (nI g)) 31 220 N L m g := by
    obtain ⟨⟨a1, a2⟩, a3, a4, a5, a6⟩ := t3
    refine ⟨⟨?_, ?_⟩, ?_, ?_, fun g' hg' => ?_, fun l hl => ?_⟩
    · rw [q_ha _ _ _ _ (by decide)]
      exact a1
    · rw [q_ha _ _ _ _ (by decide), q_hi _ _ (by omega)]
      exact a2
    · rw [q_ha _ _ _ _ (by decide), q_ha _ _ _ _ (by decide), q_hi _ _ (by omega)]
      exact a3
    · rw [q_ha _ _ _ _ (by decide)]
      exact a4
    · by_cases hgg : g' = g
      · subst hgg
        refine Or.inl ⟨rfl, q_hu _ _ _ _, ?_, ?_⟩
        · rw [q_ha _ _ _ _ (by decide), q_hi _ _ (by omega)]
          exact g0
        · rw [q_ha _ _ _ _ (by decide), q_hu]
      · have k : Rg (hu A1 32 g 3) (hu (hu B1 113 (227 + g) (-1)) 92 37 (nI g)) 31 220 m N g' := (a5 g' hg').keep (q_hi _ _ hgg) (q_ha _ _ _ _ (by decide)) (q_ha _ _ _ _ (by decide)) (by rw [q_ha _ _ _ _ (by decide), q_hi _ _ (by omega)]) (by rw [q_ha _ _ _ _ (by decide), q_hi _ _ (by omega)])
        rcases k with ⟨z, _⟩ | ⟨_, k⟩
        · exact absurd z (by omega)
        · exact Or.inr ⟨hgg, k⟩
    · rw [q_ha _ _ _ _ (by decide), q_ha _ _ _ _ (by decide), q_hi _ _ (by omega)]
      exact a6 l hl
  obtain ⟨A2, B2, g1, g2, g3⟩ := q_hour (show m ≤ 2000 by omega) hE2 hS2 hab2
  refine ⟨A2 31 1, A2, B1, B2, ?_, t2, ?_, ?_⟩
  · simp only [X4_hadWithout, t1, x7, i7, g1, gd_t, ob_s]
  · exact g2
  · refine ⟨fun a ha => ?_, fun a h1 h2 => ?_, fun i hi => ?_, fun j hj => ?_⟩
    · rw [g3.1 a ha, q_hr _ _ _ (by omega), t4.1 a ha]
    · rw [q_hr _ _ _ h2, g3.2.1 a h1 h2, q_hr _ _ _ h2, q_hr _ _ _ h1, t4.2.1 a h1 h2]
    · by_cases h : i = 37
      · subst h
        rw [q_hu, h37]
      · rw [q_hi _ _ h, g3.2.2.1 i hi, q_hi _ _ h, q_ha _ _ _ _ (by decide), t4.2.2.1 i hi]
    · rw [q_ha _ _ _ _ (by decide), g3.2.2.2 j hj, q_ha _ _ _ _ (by decide), q_hi _ _ (by omega), t4.2.2.2 j hj]
theorem q_227 {g : Nat} (hg : g < 13) : (227 + nI g).toNatClampNeg = 227 + g ∧ hx (227 + nI g) 240 = true := by
  rw [show (227 : Int32) = nI 227 from rfl, nI_add]
  exact ⟨nI_clamp (by omega), q_hx (by omega) (by decide)⟩
theorem q_never_loop {N F L m : Nat} (w : Int32) : ∀ (r g : Nat) (wh had : Int32) (A B : hM) (n1 n2 : Nat), g + r = N → r < n1 → r < n2 → Wh wh → St A B N F L m →
    ∃ R A1 B1, X4_never_l20 n1 w wh had (nI g) A = some (R, A1) ∧ X5_never_l23 n2 w had wh (nI g) B = some (R, B1) ∧ Fr A A1 B B1 31 220 := by
  intro r
  induction r with
  | zero =>
    intro g wh had A B n1 n2 hl h1 h2 hwh hS
    obtain ⟨n1, rfl⟩ : ∃ n, n1 = n + 1 := ⟨n1 - 1, by omega⟩
    obtain ⟨n2, rfl⟩ : ∃ n, n2 = n + 1 := ⟨n2 - 1, by omega⟩
    obtain rfl : g = N := by omega
    have hb := hS.1.1
    have c1 : nI g ≤ nI g := nI_le (by omega) (by omega)
    obtain ⟨R, r1, -, -, -, r2⟩ := q_which hwh had w
    refine ⟨R, A, B, ?_, ?_, Fr.rf⟩
    · show X4_never_h20 _ w wh had (nI g) A = _
      simp only [X4_never_h20, hS.1.2.1.1, c1, r1, ob_s, ↓reduceIte]
    · show X5_never_h23 _ w had wh (nI g) B = _
      simp only [X5_never_h23, hS.1.2.1.2, c1, r2, ↓reduceIte]
  | succ r ih =>
    intro g wh had A B n1 n2 hl h1 h2 hwh hS
    obtain ⟨n1, rfl⟩ : ∃ n, n1 = n + 1 := ⟨n1 - 1, by omega⟩
    obtain ⟨n2, rfl⟩ : ∃ n, n2 = n + 1 := ⟨n2 - 1, by omega⟩
    have hb := hS.1.1
    have eN := hS.1.2.1.1
    have fN := hS.1.2.1.2
    have hg : g < N := by omega
    have c1 : ¬ nI N ≤ nI g := nI_ge (by omega) (by omega)
    have x7 : hx (nI g) 7 = true := q_hx (by omega) (by decide)
    have x240 : hx (nI g) 240 = true := q_hx (by omega) (by decide)
    have i7 : (nI g).toNatClampNeg = g := nI_clamp (by omega)
    obtain ⟨s0, s0x⟩ := q_227 (g := g) (by omega)
    have hst := (hS.2.2.1.2.2.2.1 g hg).st (by omega)
    rw [Nat.zero_add] at hst
    have hst : A 27 g = B 113 g := hst
    have fin : ∀ (wh' had' : Int32) (A1 B1 : hM), Wh wh' → Fr A A1 B B1 31 220 → (X4_never_h20 (X4_never_l20 n1) w wh had (nI g) A = X4_never_l20 n1 w wh' had' (nI (g + 1)) A1) → (X5_never_h23 (X5_never_l23 n2) w had wh (nI g) B = X5_never_l23 n2 w had' wh' (nI (g + 1)) B1) → ∃ R A1 B1, X4_never_l20 (n1 + 1) w wh had (nI g) A = some (R, A1) ∧ X5_never_l23 (n2 + 1) w had wh (nI g) B = some (R, B1) ∧ Fr A A1 B B1 31 220 := by
      intro wh' had' A1 B1 hw hf e1 e2
      obtain ⟨R, A2, B2, g1, g2, g4⟩ := ih (g + 1) wh' had' A1 B1 n1 n2 (by omega) (by omega) (by omega) hw (hS.fr hf)
      exact ⟨R, A2, B2, e1.trans g1, e2.trans g2, hf.tr g4⟩
    by_cases q0 : A 27 g = 0
    · have q2 : B 113 g = 0 := hst.symm.trans q0
      obtain ⟨W, A2, B1, B2, p1, p2, p3, p4⟩ := q_without hS hg q0
      by_cases q : W ≤ had
      · have q1 := q_mx1 q
        refine fin wh had A2 _ hwh p4 ?_ ?_
        · simp only [X4_never_h20, X4_never_b55, eN, c1, x7, i7, q0, p1, q, gd_t, ob_s, nI_1, ↓reduceIte]
        · simp only [X5_never_h23, X5_never_b92, fN, c1, x240, i7, q2, p2, s0, s0x, p3, q, q_larger, q1, gd_t, ob_s, nI_1, ↓reduceIte]
      · have q1 := q_mx2 q
        refine fin (nI g) W A2 _ (Or.inr ⟨g, by omega, rfl⟩) p4 ?_ ?_
        · simp only [X4_never_h20, X4_never_b55, eN, c1, x7, i7, q0, p1, q, gd_t, ob_s, nI_1, ↓reduceIte]
        · simp only [X5_never_h23, X5_never_b92, fN, c1, x240, i7, q2, p2, s0, s0x, p3, q, q_larger, q1, gd_t, ob_s, nI_1, ↓reduceIte]
    · have q2 : ¬ B 113 g = 0 := fun z => q0 (hst.trans z)
      have le : had ≤ had := by rw [q_le]; omega
      refine fin wh had A B hwh Fr.rf ?_ ?_
      · simp only [X4_never_h20, X4_never_b55, eN, c1, x7, i7, q0, le, gd_t, nI_1, ↓reduceIte]
      · simp only [X5_never_h23, fN, c1, x240, i7, q2, gd_t, nI_1, ↓reduceIte]
theorem op_never (w : Int32) : Op (X4_never w) (X5_never w) := Op.tr (by
  intro A B hI
  obtain ⟨N, F, L, m, hSt⟩ := q_st hI
  have hb := hSt.1.1
  rcases q_either w A B with ⟨f1, f2, -⟩ | ⟨f1, f2, -⟩
  · exact ⟨-1, A, B, by simp only [X4_never, f1, ob_s, ↓reduceIte], by simp only [X5_never, f2, ob_s, ↓reduceIte], Fr.rf⟩
  · obtain ⟨W, A1, B1, w1, w2, w3⟩ := q_asItIs hSt
    obtain ⟨R, A2, B2, g1, g2, g3⟩ := q_never_loop w N 0 (-4) W A1 B1 hF hF (by omega) (show N < 1024 by omega) (show N < 1024 by omega) (Or.inl rfl) (hSt.fr w3)
    rw [nI_0] at g1 g2
    refine ⟨R, A2, B2, ?_, ?_, w3.tr g3⟩
    · unfold X4_never
      rw [f1, ob_s, if_neg n10, w1, ob_s]
      exact g1
    · unfold X5_never
      rw [f2, ob_s, if_neg n10, w2, ob_s]
      exact g2)
