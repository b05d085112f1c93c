theorem q_bit1 : ∀ g, g < 7 → ∀ t, t < 7 → ((((1 : Int32) <<< (nI g &&& 31)) >>> (nI t &&& 31)) &&& 1 = 1 ↔ t = g) := by decide +kernel
theorem q_bit2 : ∀ a, a < 7 → ∀ b, b < 7 → ∀ t, t < 7 → (((((1 : Int32) <<< (nI a &&& 31)) ||| ((1 : Int32) <<< (nI b &&& 31))) >>> (nI t &&& 31)) &&& 1 = 1 ↔ t = a ∨ t = b) := by decide +kernel
theorem q_pinskip {v : Int32} {N : Nat} (hN : N ≤ 7) {A : hM} (eN : A 4 0 = nI N) : ∀ (r j n : Nat), j + r ≤ N → (∀ t, j ≤ t → t < j + r → ¬ ((v >>> (nI t &&& 31)) &&& 1) = 1) → X4_hadPinning_l13 (n + r) v (nI j) A = X4_hadPinning_l13 n v (nI (j + r)) A := by
  intro r
  induction r with
  | zero => intro j n _ _; rfl
  | succ r ih =>
    intro j n hj hb
    have c1 : ¬ nI N ≤ nI j := nI_ge (by omega) (by omega)
    have c2 := hb j (Nat.le_refl _) (by omega)
    show X4_hadPinning_h13 (X4_hadPinning_l13 (n + r)) v (nI j) A = _
    simp only [X4_hadPinning_h13, eN, c1, c2, nI_1, ↓reduceIte]
    rw [ih (j + 1) n (by omega) (fun t h1 h2 => hb t (by omega) (by omega)), show j + 1 + r = j + (r + 1) by omega]
theorem q_pinat {v : Int32} {N j n : Nat} (hN : N ≤ 7) {A A1 : hM} (eN : A 4 0 = nI N) (hj : j < N) (hb : ((v >>> (nI j &&& 31)) &&& 1) = 1) (hf : X2_finish 31 4 (nI j) 3 A = some (0, A1)) : X4_hadPinning_l13 (n + 1) v (nI j) A = X4_hadPinning_l13 n v (nI (j + 1)) A1 := by
  have c1 : ¬ nI N ≤ nI j := nI_ge (by omega) (by omega)
  show X4_hadPinning_h13 (X4_hadPinning_l13 n) v (nI j) A = _
  simp only [X4_hadPinning_h13, eN, c1, hb, hf, ob_s, nI_1, ↓reduceIte]
theorem q_pinend {v : Int32} {N j n : Nat} (hN : N ≤ 7) {A : hM} (eN : A 4 0 = nI N) (hj : j ≤ N) (hn : N < n) (hb : ∀ t, j ≤ t → t < N → ¬ ((v >>> (nI t &&& 31)) &&& 1) = 1) : X4_hadPinning_l13 n v (nI j) A = X4_hadPinning_b52 A := by
  obtain ⟨k, rfl⟩ : ∃ k, n = (k + 1) + (N - j) := ⟨n - (N - j) - 1, by omega⟩
  rw [q_pinskip hN eN (N - j) j (k + 1) (by omega) (fun t h1 h2 => hb t h1 (by omega)), show j + (N - j) = N by omega]
  have c1 : nI N ≤ nI N := nI_le (by omega) (by omega)
  show X4_hadPinning_h13 (X4_hadPinning_l13 k) v (nI N) A = _
  simp only [X4_hadPinning_h13, eN, c1, ↓reduceIte]
/-- the trial begins, one that is on is on in it -/
theorem q_tryOn {N F L m : Nat} {A B : hM} (h : St A B N F L m) : ∃ A1 B1 : hM, X2_copyOf 31 26 A = some (0, A1) ∧ X5_copies 0 220 B = some (0, B1) ∧ Sd A1 B1 31 220 N L m N ∧ Fr A A1 B B1 31 220 ∧ (∀ g, g < 7 → A1 32 g = A 27 g) ∧ (∀ l, l < 4 → A1 35 l = A 30 l) ∧ B1 113 18 = nI m ∧ A1 4 0 = nI N := by
  obtain ⟨hE, hm, hS, hab⟩ := h
  obtain ⟨A1, B1, t1, t2, t3, t4⟩ := q_try hE hS
  obtain ⟨A1', a1, a2, a3, a4, a5, a6⟩ := q_copyC 31 26 A (by decide)
  rw [t1] at a1
  cases a1
  exact ⟨A1, B1, t1, t2, t3, t4, fun g hg => (a4 g hg).1, a5, by rw [t4.2.2.2 18 (by decide)]; exact hS.1.2, by rw [t4.1 4 (by decide)]; exact hE.2.1.1⟩
theorem q_pin1 {N F L m g : Nat} {A B : hM} (h : St A B N F L m) (hg : g < N) (hon : A 27 g = 1) : ∃ W A3 B1 B2 B3, X4_hadPinning (1 <<< (nI g &&& 31)) A = some (W, A3) ∧ X5_copies 0 220 B = some (0, B1) ∧ B1 113 18 = nI m ∧ X5_ends 220 (nI g) 3 (nI m) B1 = some (0, B2) ∧ X5_hadThen B2 = some (W, B3) ∧ Fr A A3 B B3 31 220 := by
  obtain ⟨A1, B1, t1, t2, t3, t4, t5, -, t6, t7⟩ := q_tryOn h
  obtain ⟨hE, hm, hS, hab⟩ := h
  have hb := hE.1
  have hE1 := hE.fr (Or.inr rfl) t4
  obtain ⟨A2, B2, f1, f2, f3, f4, f5, f6, f7⟩ := q_pinned (s := 220) (Or.inr rfl) (by decide) (show m ≤ 3000 by omega) hE1 t3 (hab.fr t4) hg (show A1 32 g = 1 by rw [t5 g (by omega)]; exact hon)
  have hE2 := hE1.fr (Or.inr rfl) f4
  obtain ⟨A3, B3, g1, g2, g3⟩ := q_hour (show m ≤ 2000 by omega) hE2 f3 ((hab.fr t4).fr f4)
  refine ⟨A3 31 1, A3, B1, B2, B3, ?_, t2, t6, f2, g2, (t4.tr f4).tr g3⟩
  have hh : hF = (1024 - g - 1 + 1) + g := show 1024 = 1024 - g - 1 + 1 + g by omega
  have bit := q_bit1 g (by omega)
  unfold X4_hadPinning
  rw [t1, ob_s, hh, ← nI_0, q_pinskip (by omega) t7 g 0 _ (by omega) (fun t h1 h2 z => absurd ((bit t (by omega)).mp z) (by omega)), Nat.zero_add, q_pinat (by omega) t7 hg ((bit g (by omega)).mpr rfl) f1, q_pinend (by omega) hE2.2.1.1 (by omega) (by omega) (fun t h1 h2 z => absurd ((bit t (by omega)).mp z) (by omega))]
  unfold X4_hadPinning_b52
  rw [g1, ob_s]
theorem q_pin2 {N F L m a b : Nat} {A B : hM} (h : St A B N F L m) (hab' : a < b) (hbN : b < N) (hon : A 27 a = 1) (hon2 : A 27 b = 1) : ∃ W A4 B1 B2 B3 B4, X4_hadPinning ((1 <<< (nI a &&& 31)) ||| (1 <<< (nI b &&& 31))) A = some (W, A4) ∧ X5_copies 0 220 B = some (0, B1) ∧ B1 113 18 = nI m ∧ X5_ends 220 (nI a) 3 (nI m) B1 = some (0, B2) ∧ B2 113 18 = nI m ∧ X5_ends 220 (nI b) 3 (nI m) B2 = some (0, B3) ∧ X5_hadThen B3 = some (W, B4) ∧ Fr A A4 B B4 31 220 := by
  obtain ⟨A1, B1, t1, t2, t3, t4, t5, -, t6, t7⟩ := q_tryOn h
  obtain ⟨hE, hm, hS, hab⟩ := h
  have hb := hE.1
  have hE1 := hE.fr (Or.inr rfl) t4
  obtain ⟨A2, B2, f1, f2, f3, f4, f5, f6, f7⟩ := q_pinned (s := 220) (Or.inr rfl) (by decide) (show m ≤ 3000 by omega) hE1 t3 (hab.fr t4) (show a < N by omega) (show A1 32 a = 1 by rw [t5 a (by omega)]; exact hon)
  have hE2 := hE1.fr (Or.inr rfl) f4
  have onb : A2 32 b = 1 := by
    have e : A2 32 b = A1 32 b := f7 b (by omega)
    rw [e, t5 b (by omega)]
    exact hon2
  obtain ⟨A3, B3, d1, d2, d3, d4, -⟩ := q_pinned (s := 220) (Or.inr rfl) (by decide) (show m ≤ 3000 by omega) hE2 f3 ((hab.fr t4).fr f4) hbN onb
  have hE3 := hE2.fr (Or.inr rfl) d4
  obtain ⟨A4, B4, g1, g2, g3⟩ := q_hour (show m ≤ 2000 by omega) hE3 d3 (((hab.fr t4).fr f4).fr d4)
  refine ⟨A4 31 1, A4, B1, B2, B3, B4, ?_, t2, t6, f2, by rw [f4.2.2.2 18 (by decide)]; exact t6, d2, g2, ((t4.tr f4).tr d4).tr g3⟩
  have hh : hF = ((1024 - b - 1 + 1) + (b - (a + 1)) + 1) + a := show 1024 = ((1024 - b - 1 + 1) + (b - (a + 1)) + 1) + a by omega
  have bit := q_bit2 a (by omega) b (by omega)
  unfold X4_hadPinning
  rw [t1, ob_s, hh, ← nI_0, q_pinskip (by omega) t7 a 0 _ (by omega) (fun t h1 h2 z => absurd ((bit t (by omega)).mp z) (by omega)), Nat.zero_add, q_pinat (by omega) t7 (by omega) ((bit a (by omega)).mpr (Or.inl rfl)) f1]
  rw [q_pinskip (by omega) hE2.2.1.1 (b - (a + 1)) (a + 1) _ (by omega) (fun t h1 h2 z => absurd ((bit t (by omega)).mp z) (by omega)), show a + 1 + (b - (a + 1)) = b by omega, q_pinat (by omega) hE2.2.1.1 hbN ((bit b (by omega)).mpr (Or.inr rfl)) d1, q_pinend (by omega) hE3.2.1.1 (by omega) (by omega) (fun t h1 h2 z => absurd ((bit t (by omega)).mp z) (by omega))]
  unfold X4_hadPinning_b52
  rw [g1, ob_s]
theorem q_ten (a b : Nat) : (10 : Int32) * nI a + nI b = nI (10 * a + b) := by
  rw [show (10 : Int32) = nI 10 from rfl, pk_mul, nI_add]
theorem q_best_in {N F L m l : Nat} (hl : l < L) (w : Int32) (K : Int32 → Int32 → Int32 → Int32 → hM → Option (Int32 × hM)) : ∀ (r g : Nat) (wh had : Int32) (A B : hM) (n1 n2 : Nat), g + r = N → r < n1 → Wh wh → St A B N F L m →
    ∃ wh' had' A1 B1, X4_best_l35 K n1 w wh had (nI l) (nI g) A = K w wh' had' (nI (l + 1)) A1 ∧ X5_best_l23 (n2 + r) w had wh (nI (l * N + g)) B = X5_best_l23 n2 w had' wh' (nI ((l + 1) * N)) B1 ∧ Wh wh' ∧ Fr A A1 B B1 31 220 := by
  intro r
  induction r with
  | zero =>
    intro g wh had A B n1 n2 hg h1 hwh hS
    obtain ⟨n1, rfl⟩ : ∃ n, n1 = n + 1 := ⟨n1 - 1, by omega⟩
    obtain rfl : g = N := by omega
    have hb := hS.1.1
    have c1 : nI g ≤ nI g := nI_le (by omega) (by omega)
    refine ⟨wh, had, A, B, ?_, ?_, hwh, Fr.rf⟩
    · show X4_best_h35 K _ w wh had (nI l) (nI g) A = _
      simp only [X4_best_h35, hS.1.2.1.1, c1, nI_1, ↓reduceIte]
    · rw [Nat.succ_mul]
      rfl
  | succ r ih =>
    intro g wh had A B n1 n2 hg h1 hwh hS
    obtain ⟨n1, rfl⟩ : ∃ n, n1 = n + 1 := ⟨n1 - 1, by omega⟩
    have hb := hS.1.1
    have eN := hS.1.2.1.1
    have fN := hS.1.2.1.2
    have fL := hS.1.2.2.2.1.2
    have hgN : g < N := by omega
    have c1 : ¬ nI N ≤ nI g := nI_ge (by omega) (by omega)
    have hm1 : (l + 1) * N ≤ L * N := Nat.mul_le_mul_right N hl
    have hm2 : (l + 1) * N = l * N + N := Nat.succ_mul l N
    have hm3 : L * N ≤ 4 * 7 := Nat.mul_le_mul hb.2.2 hb.1.2
    have c2 : ¬ nI L * nI N ≤ nI (l * N + g) := by
      rw [pk_mul]
      exact nI_ge (by omega) (by omega)
    have gN : ∀ k, gd (decide (¬ nI N = 0)) k = k := by
      intro k
      have z : ¬ nI N = 0 := nI_ne0 (by omega) (by omega)
      rw [decide_eq_true z, gd_t]
    have v1 : nI (l * N + g) / nI N = nI l := by
      rw [pk_div (by omega) (by omega) (by omega), Nat.mul_comm, Nat.mul_add_div (by omega), Nat.div_eq_of_lt hgN, Nat.add_zero]
    have v2 : nI (l * N + g) - nI l * nI N = nI g := by
      rw [pk_mul, pk_sub (by omega), show l * N + g - l * N = g by omega]
    have fin : ∀ (wh' had' : Int32) (A1 B1 : hM), Wh wh' → Fr A A1 B B1 31 220 → (X4_best_h35 K (X4_best_l35 K n1) w wh had (nI l) (nI g) A = X4_best_l35 K n1 w wh' had' (nI l) (nI (g + 1)) A1) → (X5_best_h23 (X5_best_l23 (n2 + r)) w had wh (nI (l * N + g)) B = X5_best_l23 (n2 + r) w had' wh' (nI (l * N + (g + 1))) B1) → ∃ wh' had' A1 B1, X4_best_l35 K (n1 + 1) w wh had (nI l) (nI g) A = K w wh' had' (nI (l + 1)) A1 ∧ X5_best_l23 (n2 + (r + 1)) w had wh (nI (l * N + g)) B = X5_best_l23 n2 w had' wh' (nI ((l + 1) * N)) B1 ∧ Wh wh' ∧ Fr A A1 B B1 31 220 := by
      intro wh' had' A1 B1 hw hf e1 e2
      obtain ⟨wh2, had2, A2, B2, g1, g2, g3, g4⟩ := ih (g + 1) wh' had' A1 B1 n1 n2 (by omega) (by omega) hw (hS.fr hf)
      exact ⟨wh2, had2, A2, B2, e1.trans g1, e2.trans g2, g3, hf.tr g4⟩
    rcases q_canPin (s := 0) (by decide) hS.1 hS.2.2.1 hl hgN with ⟨e1, e2⟩ | ⟨e1, e2, e3, -⟩
    · have e2 : X5_canPin 0 (nI l) (nI g) B = some (0, B) := e2
      have le : had ≤ had := by rw [q_le]; omega
      refine fin wh had A B hwh Fr.rf ?_ ?_
      · simp only [X4_best_h35, X4_best_b77, eN, c1, e1, le, ob_s, nI_1, ↓reduceIte]
      · simp only [X5_best_h23, fN, fL, c2, gN, v1, v2, e2, ob_s, nI_1, ↓reduceIte]
        rfl
    · have e2 : X5_canPin 0 (nI l) (nI g) B = some (1, B) := e2
      obtain ⟨W, A3, B1, B2, B3, p1, p2, p3, p4, p5, p6⟩ := q_pin1 hS hgN e3
      have i18 : (18 : Int32).toNatClampNeg = 18 := by decide
      have x18 : hx 18 240 = true := by decide
      by_cases q : W ≤ had
      · have q1 := q_mx1 q
        refine fin wh had A3 B3 hwh p6 ?_ ?_
        · simp only [X4_best_h35, X4_best_b77, eN, c1, e1, n10, p1, q, ob_s, nI_1, ↓reduceIte]
        · simp only [X5_best_h23, X5_best_b116, fN, fL, c2, gN, v1, v2, e2, n10, p2, i18, x18, p3, p4, p5, q, q_larger, q1, gd_t, ob_s, nI_1, ↓reduceIte]
          rfl
      · have q1 := q_mx2 q
        refine fin (nI (10 * l + g)) W A3 B3 (Or.inr ⟨10 * l + g, by omega, rfl⟩) p6 ?_ ?_
        · simp only [X4_best_h35, X4_best_b77, eN, c1, e1, n10, p1, q, q_ten, ob_s, nI_1, ↓reduceIte]
        · simp only [X5_best_h23, X5_best_b116, fN, fL, c2, gN, v1, v2, e2, n10, p2, i18, x18, p3, p4, p5, q, q_ten, q_larger, q1, gd_t, ob_s, nI_1, ↓reduceIte]
          rfl
theorem q_best_out {N F L m : Nat} (w : Int32) : ∀ (r l : Nat) (wh had : Int32) (A B : hM) (n1 n2 : Nat), l + r = L → r < n1 → Wh wh → St A B N F L m →
    ∃ R A1 B1, X4_best_l20 n1 w wh had (nI l) A = some (R, A1) ∧ X5_best_l23 (n2 + r * N + 1) w had wh (nI (l * N)) B = some (R, B1) ∧ Fr A A1 B B1 31 220 := by
  intro r
  induction r with
  | zero =>
    intro l wh had A B n1 n2 hl h1 hwh hS
    obtain ⟨n1, rfl⟩ : ∃ n, n1 = n + 1 := ⟨n1 - 1, by omega⟩
    obtain rfl : l = L := by omega
    have hb := hS.1.1
    have hm3 : l * N ≤ 4 * 7 := Nat.mul_le_mul hb.2.2 hb.1.2
    have c1 : nI l ≤ nI l := nI_le (by omega) (by omega)
    have c2 : nI l * nI N ≤ nI (l * N) := by
      rw [pk_mul]
      exact nI_le (by omega) (by omega)
    obtain ⟨R, r1, -, r2, -⟩ := q_which hwh had w
    refine ⟨R, A, B, ?_, ?_, Fr.rf⟩
    · show X4_best_h20 _ w wh had (nI l) A = _
      simp only [X4_best_h20, hS.1.2.2.2.1.1, c1, r1, ob_s, ↓reduceIte]
    · show X5_best_h23 _ w had wh (nI (l * N)) B = _
      simp only [X5_best_h23, hS.1.2.1.2, hS.1.2.2.2.1.2, c2, r2, ↓reduceIte]
  | succ r ih =>
    intro l wh had A B n1 n2 hl h1 hwh hS
    obtain ⟨n1, rfl⟩ : ∃ n, n1 = n + 1 := ⟨n1 - 1, by omega⟩
    have hb := hS.1.1
    have c1 : ¬ nI L ≤ nI l := nI_ge (by omega) (by omega)
    obtain ⟨wh', had', A1, B1, g1, g2, g3, g4⟩ := q_best_in (show l < L by omega) w (X4_best_l20 n1) N 0 wh had A B hF (n2 + r * N + 1) (by omega) (show N < 1024 by omega) hwh hS
    obtain ⟨R, A2, B2, k1, k2, k3⟩ := ih (l + 1) wh' had' A1 B1 n1 n2 (by omega) (by omega) g3 (hS.fr g4)
    refine ⟨R, A2, B2, ?_, ?_, g4.tr k3⟩
    · show X4_best_h20 (X4_best_l20 n1) w wh had (nI l) A = _
      simp only [X4_best_h20, hS.1.2.2.2.1.1, c1, ↓reduceIte]
      rw [nI_0] at g1
      exact g1.trans k1
    · rw [show n2 + (r + 1) * N + 1 = n2 + r * N + 1 + N by rw [Nat.succ_mul]; omega]
      exact g2.trans k2
theorem op_best (w : Int32) : Op (X4_best w) (X5_best w) := Op.tr (by
  intro A B hI
  obtain ⟨N, F, L, m, hSt⟩ := q_st hI
  have hb := hSt.1.1
  rcases q_either w A B with ⟨f1, f2, -⟩ | ⟨f1, f2, -⟩
  · exact ⟨-1, A, B, by simp only [X4_best, f1, ob_s, ↓reduceIte], by simp only [X5_best, f2, ob_s, ↓reduceIte], Fr.rf⟩
  · obtain ⟨W, A1, B1, w1, w2, w3⟩ := q_asItIs hSt
    have hm3 : L * N ≤ 4 * 7 := Nat.mul_le_mul hb.2.2 hb.1.2
    obtain ⟨R, A2, B2, g1, g2, g3⟩ := q_best_out w L 0 (-4) W A1 B1 hF (1023 - L * N) (by omega) (show L < 1024 by omega) (Or.inl rfl) (hSt.fr w3)
    have hh : 1023 - L * N + L * N + 1 = hF := show 1023 - L * N + L * N + 1 = 1024 by omega
    rw [hh, Nat.zero_mul, nI_0] at g2
    rw [nI_0] at g1
    refine ⟨R, A2, B2, ?_, ?_, w3.tr g3⟩
    · unfold X4_best
      rw [f1, ob_s, if_neg n10, w1, ob_s]
      exact g1
    · unfold X5_best
      rw [f2, ob_s, if_neg n10, w2, ob_s]
      exact g2)
