/-- how it stands, in both -/
def Sd (A B : hM) (p s N L m x : Nat) : Prop := (A p 0 = nI m ∧ B 113 (s + 18) = nI m) ∧ A p 1 = B 113 (s + 19) ∧ (-(300 * (m : Int)) ≤ (A p 1).toInt ∧ (A p 1).toInt ≤ 300 * (m : Int)) ∧ Rc A B p s m x N ∧ (∀ l, l < L → ∃ k, k ≤ 9 ∧ A (p + 4) l = nI k ∧ B 113 (s + 14 + l) = nI k)
theorem Sd.to {A B A' B' : hM} {p s p' s' N L m x : Nat} (h : Sd A B p s N L m x) (hN : N ≤ 7) (hL : L ≤ 4) (h0 : A' p' 0 = A p 0) (h1 : A' p' 1 = A p 1) (hA : ∀ g, g < 7 → A' (p' + 1) g = A (p + 1) g ∧ A' (p' + 2) g = A (p + 2) g ∧ A' (p' + 3) g = A (p + 3) g) (hA4 : ∀ l, l < 4 → A' (p' + 4) l = A (p + 4) l) (hB : ∀ j, j < 20 → B' 113 (s' + j) = B 113 (s + j)) : Sd A' B' p' s' N L m x := by
  obtain ⟨⟨a1, a2⟩, a3, a4, a5, a6⟩ := h
  unfold Sd
  rw [h0, h1, hB 18 (by decide), hB 19 (by decide)]
  refine ⟨⟨a1, a2⟩, a3, a4, fun g hg => ?_, fun l hl => ?_⟩
  · have hg7 : g < 7 := by omega
    have r := a5 g hg
    unfold Rg Sg at r ⊢
    obtain ⟨e1, e2, e3⟩ := hA g hg7
    rw [e1, e2, e3, hB g (by omega), show s' + 7 + g = s' + (7 + g) by omega, hB (7 + g) (by omega), show s + (7 + g) = s + 7 + g by omega]
    exact r
  · obtain ⟨k, k1, k2, k3⟩ := a6 l hl
    refine ⟨k, k1, by rw [hA4 l (by omega)]; exact k2, ?_⟩
    rw [show s' + 14 + l = s' + (14 + l) by omega, hB (14 + l) (by omega), show s + (14 + l) = s + 14 + l by omega]
    exact k3
theorem Sd.keep {A B A' B' : hM} {p s N L m x : Nat} (h : Sd A B p s N L m x) (hN : N ≤ 7) (hL : L ≤ 4) (hA : ∀ a, p ≤ a → a ≤ p + 4 → A' a = A a) (hB : ∀ j, s ≤ j → j < s + 20 → B' 113 j = B 113 j) : Sd A' B' p s N L m x :=
  h.to hN hL (by rw [hA p (by omega) (by omega)]) (by rw [hA p (by omega) (by omega)]) (fun g _ => ⟨by rw [hA (p + 1) (by omega) (by omega)], by rw [hA (p + 2) (by omega) (by omega)], by rw [hA (p + 3) (by omega) (by omega)]⟩) (fun l _ => by rw [hA (p + 4) (by omega) (by omega)]) (fun j hj => hB _ (by omega) (by omega))
/-- what a forecast or minutes leave as it was -/
def Fr (A A' B B' : hM) (p s : Nat) : Prop := (∀ a, ¬ (p ≤ a ∧ a ≤ p + 4) → A' a = A a) ∧ (∀ a, a ≠ 113 → a ≠ 92 → B' a = B a) ∧ (∀ i, i ≠ 38 → B' 92 i = B 92 i) ∧ (∀ j, ¬ (s ≤ j ∧ j < s + 20) → B' 113 j = B 113 j)
theorem Fr.rf {A B : hM} {p s : Nat} : Fr A A B B p s := ⟨fun _ _ => rfl, fun _ _ _ => rfl, fun _ _ => rfl, fun _ _ => rfl⟩
theorem Fr.tr {A A' A'' B B' B'' : hM} {p s : Nat} (h : Fr A A' B B' p s) (h' : Fr A' A'' B' B'' p s) : Fr A A'' B B'' p s :=
  ⟨fun a ha => (h'.1 a ha).trans (h.1 a ha), fun a h1 h2 => (h'.2.1 a h1 h2).trans (h.2.1 a h1 h2), fun i hi => (h'.2.2.1 i hi).trans (h.2.2.1 i hi), fun j hj => (h'.2.2.2 j hj).trans (h.2.2.2 j hj)⟩
theorem Ev.fr {A A' B B' : hM} {p s N F L : Nat} (h : Ev A B N F L) (hp : p = 26 ∨ p = 31) (hF : Fr A A' B B' p s) : Ev A' B' N F L :=
  h.keep (fun a h1 h2 => hF.1 a (by omega)) (hF.2.2.1 0 (by decide)) (hF.2.2.1 6 (by decide)) (hF.2.2.1 10 (by decide)) (fun a h1 h2 => hF.2.1 a (by omega) (by omega))
theorem Ab.fr {A A' B B' : hM} {p s x N : Nat} (h : Ab B x N) (hF : Fr A A' B B' p s) : Ab B' x N := by
  unfold Ab
  rw [hF.2.2.1 37 (by decide)]
  exact h
theorem q_goBy_loop {p s N F L x n : Nat} (hp : p = 26 ∨ p = 31) (hs : s ≤ 220) (hn : n ≤ 1000) : ∀ (k j m : Nat) (A B : hM) (n1 n2 : Nat), j + k = n → k < n1 → k < n2 → m + k ≤ 2900 → Ev A B N F L → Sd A B p s N L m x → Ab B x N →
    ∃ A1 B1 : hM, X2_goBy_l2 p 4 n1 (nI n) (nI j) A = some (0, A1) ∧ X5_minutes_l7 n2 (nI s) (nI n) (nI j) B = some (0, B1) ∧ Sd A1 B1 p s N L (m + k) x ∧ Fr A A1 B B1 p s := by
  intro k
  induction k with
  | zero =>
    intro j m A B n1 n2 hjk h1 h2 hm hE hS hab
    obtain ⟨n1, rfl⟩ : ∃ n, n1 = n + 1 := ⟨n1 - 1, by omega⟩
    obtain ⟨n2, rfl⟩ : ∃ n, n2 = n + 1 := ⟨n2 - 1, by omega⟩
    obtain rfl : j = n := by omega
    have c1 : nI j ≤ nI j := nI_le (by omega) (by omega)
    refine ⟨A, B, ?_, ?_, hS, Fr.rf⟩
    · show X2_goBy_h2 p 4 _ (nI j) (nI j) A = _
      simp only [X2_goBy_h2, c1, ↓reduceIte]
    · show X5_minutes_h7 _ (nI s) (nI j) (nI j) B = _
      simp only [X5_minutes_h7, c1, ↓reduceIte]
  | succ k ih =>
    intro j m A B n1 n2 hjk h1 h2 hm hE hS hab
    obtain ⟨n1, rfl⟩ : ∃ n, n1 = n + 1 := ⟨n1 - 1, by omega⟩
    obtain ⟨n2, rfl⟩ : ∃ n, n2 = n + 1 := ⟨n2 - 1, by omega⟩
    have hb := hE.1
    have c1 : ¬ nI n ≤ nI j := nI_ge (by omega) (by omega)
    obtain ⟨⟨m1, m2⟩, d1, d2, d3, d4⟩ := hS
    obtain ⟨A1, S, A2, B2, e1, e2, -, e3, e4, e5, e6, e7, e8, e9, e10, e11, e12, e13⟩ := q_goesOn hp hs (show m ≤ 2900 by omega) hE d3 m1 m2 hab (fun a b => a + b)
    have f1 : Fr A A2 B (hu B2 92 38 (B 92 38 ||| bt (A1 (p + 1)) N)) p s := by
      refine ⟨fun a ha => e11 a (by omega), fun a h1 h2 => ?_, fun i hi => ?_, fun i hi => ?_⟩
      · rw [q_hr _ _ _ h2, e12 a h1]
      · rw [q_hi _ _ hi, e12 92 (by decide)]
      · rw [q_ha _ _ _ _ (by decide), e13 i (by omega) (by omega) (by omega)]
    have hS2 : Sd A2 (hu B2 92 38 (B 92 38 ||| bt (A1 (p + 1)) N)) p s N L (m + 1) x := by
      have ei : (A p 1 + S).toInt = (A p 1).toInt + S.toInt := q_addI (by omega) (by omega)
      refine ⟨⟨e9.1, ?_⟩, ?_, ?_, fun g hg => (e10 g hg).keep rfl rfl rfl ?_ ?_, fun l hl => ?_⟩
      · rw [q_ha _ _ _ _ (by decide)]
        exact e9.2
      · rw [q_ha _ _ _ _ (by decide), e6, e7, d1]
      · rw [e6, ei]
        omega
      · rw [q_ha _ _ _ _ (by decide)]
      · rw [q_ha _ _ _ _ (by decide)]
      · rw [q_ha _ _ _ _ (by decide), e13 _ (by omega) (by omega) (by omega), e11 (p + 4) (by omega)]
        exact d4 l hl
    obtain ⟨A3, B3, g1, g2, g3, g4⟩ := ih (j + 1) (m + 1) A2 _ n1 n2 (by omega) (by omega) (by omega) (by omega) (hE.fr hp f1) hS2 (hab.fr f1)
    refine ⟨A3, B3, ?_, ?_, by rw [show m + (k + 1) = m + 1 + k by omega]; exact g3, f1.tr g4⟩
    · show X2_goBy_h2 p 4 (X2_goBy_l2 p 4 n1) (nI n) (nI j) A = _
      simp only [X2_goBy_h2, c1, e1, e2, e3, e4, ob_s, nI_1, ↓reduceIte]
      exact g1
    · show X5_minutes_h7 (X5_minutes_l7 n2) (nI s) (nI n) (nI j) B = _
      simp only [X5_minutes_h7, c1, e5, ob_s, nI_1, ↓reduceIte]
      exact g2
/-- minutes go by, in both -/
theorem q_goBy {p s N F L x n m : Nat} {A B : hM} (hp : p = 26 ∨ p = 31) (hs : s ≤ 220) (hn : n ≤ 1000) (hm : m + n ≤ 2900) (hE : Ev A B N F L) (hS : Sd A B p s N L m x) (hab : Ab B x N) :
    ∃ A1 B1 : hM, X2_goBy p 4 (nI n) A = some (0, A1) ∧ X5_minutes (nI s) (nI n) B = some (0, B1) ∧ Sd A1 B1 p s N L (m + n) x ∧ Fr A A1 B B1 p s := by
  have hb := hE.1
  have f1 : Fr A A B (hu B 92 38 0) p s := by
    refine ⟨fun a ha => rfl, fun a h1 h2 => ?_, fun i hi => ?_, fun i hi => ?_⟩
    · rw [q_hr _ _ _ h2]
    · rw [q_hi _ _ hi]
    · rw [q_ha _ _ _ _ (by decide)]
  obtain ⟨A1, B1, g1, g2, g3, g4⟩ := q_goBy_loop (F := F) hp hs hn n 0 m A (hu B 92 38 0) hF hF (by omega) (show n < 1024 by omega) (show n < 1024 by omega) hm (hE.fr hp f1) (hS.keep (by omega) (by omega) (fun _ _ _ => rfl) (fun j _ _ => by rw [q_ha _ _ _ _ (by decide)])) (hab.fr f1)
  exact ⟨A1, B1, g1, g2, g3, f1.tr g4⟩
theorem q_cp (I : hM) (k k' n : Nat) : ∀ i, i < n → hcp I k (va_cpy (I k') (I k) 0 0 n) k i = I k' i := by
  intro i hi
  rw [hcp_self]
  unfold va_cpy
  rw [if_pos ⟨Nat.zero_le _, by omega⟩, show 0 + (i - 0) = i by omega]
theorem q_copyC (p q : Nat) (A : hM) (h : p + 5 ≤ q ∨ q + 5 ≤ p) : ∃ A1 : hM, X2_copyOf p q A = some (0, A1) ∧ A1 p 0 = A q 0 ∧ A1 p 1 = A q 1 ∧ (∀ g, g < 7 → A1 (p + 1) g = A (q + 1) g ∧ A1 (p + 2) g = A (q + 2) g ∧ A1 (p + 3) g = A (q + 3) g) ∧ (∀ l, l < 4 → A1 (p + 4) l = A (q + 4) l) ∧ (∀ a, ¬ (p ≤ a ∧ a ≤ p + 4) → A1 a = A a) := by
  obtain ⟨m0, h0⟩ : ∃ m0, m0 = hu (hu A p 0 (A q 0)) p 1 ((hu A p 0 (A q 0)) q 1) := ⟨_, rfl⟩
  obtain ⟨m1, h1⟩ : ∃ m1, m1 = hcp m0 (p + 1) (va_cpy (m0 (q + 1)) (m0 (p + 1)) 0 0 7) := ⟨_, rfl⟩
  obtain ⟨m2, h2⟩ : ∃ m2, m2 = hcp m1 (p + 2) (va_cpy (m1 (q + 2)) (m1 (p + 2)) 0 0 7) := ⟨_, rfl⟩
  obtain ⟨m3, h3⟩ : ∃ m3, m3 = hcp m2 (p + 3) (va_cpy (m2 (q + 3)) (m2 (p + 3)) 0 0 7) := ⟨_, rfl⟩
  obtain ⟨m4, h4⟩ : ∃ m4, m4 = hcp m3 (p + 4) (va_cpy (m3 (q + 4)) (m3 (p + 4)) 0 0 4) := ⟨_, rfl⟩
  have e0 : ∀ a, a ≠ p → m0 a = A a := fun a ha => by rw [h0, q_hr _ _ _ ha, q_hr _ _ _ ha]
  have e1 : ∀ a, a ≠ p + 1 → m1 a = m0 a := fun a ha => by rw [h1, hcp_ne _ _ _ _ ha]
  have e2 : ∀ a, a ≠ p + 2 → m2 a = m1 a := fun a ha => by rw [h2, hcp_ne _ _ _ _ ha]
  have e3 : ∀ a, a ≠ p + 3 → m3 a = m2 a := fun a ha => by rw [h3, hcp_ne _ _ _ _ ha]
  have e4 : ∀ a, a ≠ p + 4 → m4 a = m3 a := fun a ha => by rw [h4, hcp_ne _ _ _ _ ha]
  refine ⟨m4, ?_, ?_, ?_, fun g hg => ⟨?_, ?_, ?_⟩, fun l hl => ?_, fun a ha => ?_⟩
  · rw [h4, h3, h2, h1, h0]
    rfl
  · rw [e4 p (by omega), e3 p (by omega), e2 p (by omega), e1 p (by omega), h0, q_hi _ _ (by decide), q_hu]
  · rw [e4 p (by omega), e3 p (by omega), e2 p (by omega), e1 p (by omega), h0, q_hu, q_ha _ _ _ _ (by omega)]
  · rw [e4 _ (by omega), e3 _ (by omega), e2 _ (by omega), h1, q_cp _ _ _ _ g hg, e0 _ (by omega)]
  · rw [e4 _ (by omega), e3 _ (by omega), h2, q_cp _ _ _ _ g hg, e1 _ (by omega), e0 _ (by omega)]
  · rw [e4 _ (by omega), h3, q_cp _ _ _ _ g hg, e2 _ (by omega), e1 _ (by omega), e0 _ (by omega)]
  · rw [h4, q_cp _ _ _ _ l hl, e3 _ (by omega), e2 _ (by omega), e1 _ (by omega), e0 _ (by omega)]
  · rw [e4 a (by omega), e3 a (by omega), e2 a (by omega), e1 a (by omega), e0 a (by omega)]
theorem q_copies_loop {b t : Nat} (hb : b ≤ 220) (ht : t ≤ 220) (h : b + 20 ≤ t ∨ t + 20 ≤ b) : ∀ (k j : Nat) (B : hM) (n2 : Nat), j + k = 20 → k < n2 → ∃ B1 : hM, X5_copies_l2 n2 (nI b) (nI t) (nI j) B = some (0, B1) ∧ (∀ i, j ≤ i → i < 20 → B1 113 (t + i) = B 113 (b + i)) ∧ (∀ i, ¬ (t + j ≤ i ∧ i < t + 20) → B1 113 i = B 113 i) ∧ (∀ a, a ≠ 113 → B1 a = B a) := by
  intro k
  induction k with
  | zero =>
    intro j B n2 hj h2
    obtain ⟨n2, rfl⟩ : ∃ n, n2 = n + 1 := ⟨n2 - 1, by omega⟩
    obtain rfl : j = 20 := by omega
    have c1 : (20 : Int32) ≤ nI 20 := by decide
    refine ⟨B, ?_, fun i h1 h2 => absurd h1 (by omega), fun _ _ => rfl, fun _ _ => rfl⟩
    show X5_copies_h2 _ (nI b) (nI t) (nI 20) B = _
    simp only [X5_copies_h2, c1, ↓reduceIte]
  | succ k ih =>
    intro j B n2 hj h2
    obtain ⟨n2, rfl⟩ : ∃ n, n2 = n + 1 := ⟨n2 - 1, by omega⟩
    have c1 : ¬ (20 : Int32) ≤ nI j := nI_ge (b := 20) (by omega) (by decide)
    obtain ⟨b0, b0x⟩ := q_s0 (s := b) (g := j) hb (by omega)
    obtain ⟨t0, t0x⟩ := q_s0 (s := t) (g := j) ht (by omega)
    obtain ⟨B1, g1, g2, g3, g4⟩ := ih (j + 1) (hu B 113 (t + j) (B 113 (b + j))) n2 (by omega) (by omega)
    refine ⟨B1, ?_, fun i h1 h2 => ?_, fun i hi => ?_, fun a ha => ?_⟩
    · show X5_copies_h2 (X5_copies_l2 n2) (nI b) (nI t) (nI j) B = _
      simp only [X5_copies_h2, c1, b0, b0x, t0, t0x, gd_t, nI_1, ↓reduceIte]
      exact g1
    · by_cases hij : i = j
      · subst hij
        rw [g3 _ (by omega), q_hu]
      · rw [g2 i (by omega) h2, q_hi _ _ (by omega)]
    · rw [g3 i (by omega), q_hi _ _ (by omega)]
    · rw [g4 a ha, q_hr _ _ _ ha]
theorem q_copies {b t : Nat} (hb : b ≤ 220) (ht : t ≤ 220) (h : b + 20 ≤ t ∨ t + 20 ≤ b) (B : hM) : ∃ B1 : hM, X5_copies (nI b) (nI t) B = some (0, B1) ∧ (∀ i, i < 20 → B1 113 (t + i) = B 113 (b + i)) ∧ (∀ i, ¬ (t ≤ i ∧ i < t + 20) → B1 113 i = B 113 i) ∧ (∀ a, a ≠ 113 → B1 a = B a) := by
  obtain ⟨B1, g1, g2, g3, g4⟩ := q_copies_loop hb ht h 20 0 B hF (by omega) (show 20 < 1024 by decide)
  exact ⟨B1, g1, fun i hi => g2 i (by omega) hi, g3, g4⟩
/-- a forecast begins: the trial is as it stands -/
theorem q_try {N F L m : Nat} {A B : hM} (hE : Ev A B N F L) (hS : Sd A B 26 0 N L m N) : ∃ A1 B1 : hM, X2_copyOf 31 26 A = some (0, A1) ∧ X5_copies 0 220 B = some (0, B1) ∧ Sd A1 B1 31 220 N L m N ∧ Fr A A1 B B1 31 220 := by
  have hb := hE.1
  obtain ⟨A1, a1, a2, a3, a4, a5, a6⟩ := q_copyC 31 26 A (by decide)
  obtain ⟨B1, b1, b2, b3, b4⟩ := q_copies (b := 0) (t := 220) (by decide) (by decide) (by decide) B
  exact ⟨A1, B1, a1, b1, hS.to (by omega) (by omega) a2 a3 a4 a5 b2, a6, fun a h1 h2 => b4 a h1, fun i hi => by rw [b4 92 (by decide)], b3⟩
