theorem q_addI {a b : Int32} (h1 : -1000000000 ≤ a.toInt + b.toInt) (h2 : a.toInt + b.toInt ≤ 1000000000) : (a + b).toInt = a.toInt + b.toInt := by
  rw [Int32.toInt_add]
  exact Int.bmod_eq_of_le (by omega) (by omega)
theorem hu_id (I : hM) (k j : Nat) : hu I k j (I k j) = I := by
  funext a i
  unfold hu
  by_cases h : a = k
  · subst h
    rw [if_pos rfl]
    by_cases h2 : i = j
    · subst h2
      rw [if_pos rfl]
    · rw [if_neg h2]
  · rw [if_neg h]
/-- the worth of one that is on -/
theorem q_worth1 {p s N F L x m g : Nat} {A B : hM} (hs : s ≤ 220) (hg : g < N) (hE : Ev A B N F L) (hR : Rg A B p s m x g) (hm : A p 0 = nI m) (hm3 : B 113 (s + 18) = nI m) (hm2 : m ≤ 3000) (hon : A (p + 1) g = 1) :
    ∃ W, X2_worthOf p 4 (nI g) A = some (W, A) ∧ X5_worth (nI s) (nI g) B = some (W, B) ∧ -20 ≤ W.toInt ∧ W.toInt ≤ 40 := by
  obtain ⟨⟨⟨hN1, hN7⟩, hF6, hL4⟩, ⟨eN, fN⟩, -, -, hG, -⟩ := hE
  obtain ⟨kk, ii, ww, mm, hk, hi, hw, hmm, ⟨k1, k2⟩, ⟨i1, i2⟩, ⟨w1, w2⟩, ⟨m1, m2⟩⟩ := hG g hg
  have x7 : hx (nI g) 7 = true := q_hx (by omega) (by decide)
  have i7 : (nI g).toNatClampNeg = g := nI_clamp (by omega)
  obtain ⟨s0, s0x⟩ := q_s0 (s := s) (g := g) hs (by omega)
  obtain ⟨s7, s7x⟩ := q_s7 (s := s) (g := g) hs (by omega)
  obtain ⟨s18, s18x⟩ := q_s18 (s := s) hs
  have hon2 := hR.on.mp hon
  rcases hR with ⟨_, r1, _⟩ | ⟨_, ⟨r1, _⟩ | ⟨c, w, hc1, hc2, hw2, r1, r2, r3, r4⟩⟩
  · rw [r1] at hon
    exact absurd hon (by decide)
  · rw [r1] at hon
    exact absurd hon (by decide)
  · have ha : nI m - nI w = nI (m - w) := pk_sub hw2
    refine ⟨wv (nI kk) (nI ii) (nI ww) (nI (m - w)), ?_, ?_, q_wv hi hw (by omega)⟩
    · simp only [X2_worthOf, Nat.reduceAdd, x7, i7, k1, i1, w1, hm, r3, ha, q_worthC, gd_t, ob_s]
    · simp only [X5_worth, s0, s0x, s7, s7x, s18, s18x, x7, i7, hon2, k2, i2, w2, hm3, r4, ha, q_worthM, gd_t, ob_s, ↓reduceIte]
theorem q_worth0 {p s N F L x m g : Nat} {A B : hM} (hs : s ≤ 220) (hg : g < N) (hE : Ev A B N F L) (hR : Rg A B p s m x g) (hon : ¬ A (p + 1) g = 1) : X5_worth (nI s) (nI g) B = some (0, B) := by
  have hb := hE.1
  obtain ⟨s0, s0x⟩ := q_s0 (s := s) (g := g) hs (by omega)
  have hon2 : ¬ B 113 (s + g) = 1 := fun z => hon (hR.on.mpr z)
  simp only [X5_worth, s0, s0x, hon2, gd_t, ↓reduceIte]
theorem q_all_loop {p s N F L x m : Nat} {A B : hM} (hs : s ≤ 220) (hm2 : m ≤ 3000) (hE : Ev A B N F L) (hR : Rc A B p s m x N) (hm : A p 0 = nI m) (hm3 : B 113 (s + 18) = nI m) : ∀ (k g : Nat) (v : Int32) (n1 n2 : Nat), g + k = N → k < n1 → k < n2 → -20 * (g : Int) ≤ v.toInt → v.toInt ≤ 40 * (g : Int) →
    ∃ S, X2_worthOfAll_l4 p 4 n1 v (nI g) A = some (S, A) ∧ X5_all_l4 n2 (nI s) v (nI g) B = some (S, B) ∧ -20 * (N : Int) ≤ S.toInt ∧ S.toInt ≤ 40 * (N : Int) := by
  intro k
  have hb := hE.1
  have eN := hE.2.1.1
  have fN := hE.2.1.2
  induction k with
  | zero =>
    intro g v n1 n2 hik h1 h2 h3 h4
    obtain ⟨n1, rfl⟩ : ∃ n, n1 = n + 1 := ⟨n1 - 1, by omega⟩
    obtain ⟨n2, rfl⟩ : ∃ n, n2 = n + 1 := ⟨n2 - 1, by omega⟩
    obtain rfl : g = N := by omega
    have c1 : nI g ≤ nI g := nI_le (by omega) (by omega)
    refine ⟨v, ?_, ?_, h3, h4⟩
    · show X2_worthOfAll_h4 p 4 _ v (nI g) A = _
      simp only [X2_worthOfAll_h4, eN, c1, ↓reduceIte]
    · show X5_all_h4 _ (nI s) v (nI g) B = _
      simp only [X5_all_h4, fN, c1, ↓reduceIte]
  | succ k ih =>
    intro g v n1 n2 hik h1 h2 h3 h4
    obtain ⟨n1, rfl⟩ : ∃ n, n1 = n + 1 := ⟨n1 - 1, by omega⟩
    obtain ⟨n2, rfl⟩ : ∃ n, n2 = n + 1 := ⟨n2 - 1, by omega⟩
    have c1 : ¬ nI N ≤ nI g := nI_ge (by omega) (by omega)
    have x7 : hx (nI g) 7 = true := q_hx (by omega) (by decide)
    have i7 : (nI g).toNatClampNeg = g := nI_clamp (by omega)
    by_cases q : A (p + 1) g = 1
    · obtain ⟨W, w1, w2, w3, w4⟩ := q_worth1 hs (show g < N by omega) hE (hR g (by omega)) hm hm3 hm2 q
      have e := q_addI (a := v) (b := W) (by omega) (by omega)
      obtain ⟨S, s1, s2, s3⟩ := ih (g + 1) (v + W) n1 n2 (by omega) (by omega) (by omega) (by omega) (by omega)
      refine ⟨S, ?_, ?_, s3⟩
      · show X2_worthOfAll_h4 p 4 (X2_worthOfAll_l4 p 4 n1) v (nI g) A = _
        simp only [X2_worthOfAll_h4, eN, c1, x7, i7, q, w1, gd_t, ob_s, nI_1, ↓reduceIte]
        exact s1
      · show X5_all_h4 (X5_all_l4 n2) (nI s) v (nI g) B = _
        simp only [X5_all_h4, fN, c1, w2, ob_s, nI_1, ↓reduceIte]
        exact s2
    · have w2 := q_worth0 hs (show g < N by omega) hE (hR g (by omega)) q
      obtain ⟨S, s1, s2, s3⟩ := ih (g + 1) v n1 n2 (by omega) (by omega) (by omega) (by omega) (by omega)
      refine ⟨S, ?_, ?_, s3⟩
      · show X2_worthOfAll_h4 p 4 (X2_worthOfAll_l4 p 4 n1) v (nI g) A = _
        simp only [X2_worthOfAll_h4, eN, c1, x7, i7, q, gd_t, nI_1, ↓reduceIte]
        exact s1
      · show X5_all_h4 (X5_all_l4 n2) (nI s) v (nI g) B = _
        simp only [X5_all_h4, fN, c1, w2, ob_s, nI_1, Int32.add_zero, ↓reduceIte]
        exact s2
/-- what is over behind a minute -/
theorem q_end_loop {p s N F L x m : Nat} (hp : p = 26 ∨ p = 31) (hs : s ≤ 220) (hm2 : m ≤ 2900) (set : Int32) : ∀ (k g : Nat) (A B : hM) (n1 n2 : Nat), g + k = N → k < n1 → k < n2 → Ev A B N F L → Rc A B p s m x N → A p 0 = nI (m + 1) → B 113 (s + 18) = nI m → Ab B x N →
    ∃ A1 B1 : hM, X2_endMinute_l12 p 4 n1 (nI g) A = some (0, A1) ∧ X5_goesOn_l36 n2 (nI s) set (nI m) (nI g) B = some (set, hu B1 113 (s + 18) (nI (m + 1))) ∧ Rc A1 B1 p s m x N ∧ (∀ a, a ≠ p + 1 → a ≠ p + 2 → A1 a = A a) ∧ (∀ a, a ≠ 113 → B1 a = B a) ∧ (∀ j, ¬ (s ≤ j ∧ j < s + 14) → B1 113 j = B 113 j) := by
  intro k
  induction k with
  | zero =>
    intro g A B n1 n2 hik h1 h2 hE hR hm hm3 hab
    obtain ⟨n1, rfl⟩ : ∃ n, n1 = n + 1 := ⟨n1 - 1, by omega⟩
    obtain ⟨n2, rfl⟩ : ∃ n, n2 = n + 1 := ⟨n2 - 1, by omega⟩
    have hb := hE.1
    obtain rfl : g = N := by omega
    have c1 : nI g ≤ nI g := nI_le (by omega) (by omega)
    obtain ⟨s18, s18x⟩ := q_s18 (s := s) hs
    refine ⟨A, B, ?_, ?_, hR, fun _ _ _ => rfl, fun _ _ => rfl, fun _ _ => rfl⟩
    · show X2_endMinute_h12 p 4 _ (nI g) A = _
      simp only [X2_endMinute_h12, hE.2.1.1, c1, ↓reduceIte]
    · show X5_goesOn_h36 _ (nI s) set (nI m) (nI g) B = _
      simp only [X5_goesOn_h36, X5_goesOn_b101, hE.2.1.2, c1, s18, s18x, hm3, gd_t, nI_1, ↓reduceIte]
  | succ k ih =>
    intro g A B n1 n2 hik h1 h2 hE hR hm hm3 hab
    obtain ⟨n1, rfl⟩ : ∃ n, n1 = n + 1 := ⟨n1 - 1, by omega⟩
    obtain ⟨n2, rfl⟩ : ∃ n, n2 = n + 1 := ⟨n2 - 1, by omega⟩
    have hb := hE.1
    have eN := hE.2.1.1
    have fN := hE.2.1.2
    have hg : g < N := by omega
    obtain ⟨kk, ii, ww, mm, hk, hi, hw, hmm, -, -, -, ⟨m1, m2⟩⟩ := hE.2.2.2.2.1 g hg
    have c1 : ¬ nI N ≤ nI g := nI_ge (by omega) (by omega)
    have x7 : hx (nI g) 7 = true := q_hx (by omega) (by decide)
    have i7 : (nI g).toNatClampNeg = g := nI_clamp (by omega)
    obtain ⟨s0, s0x⟩ := q_s0 (s := s) (g := g) hs (by omega)
    obtain ⟨s7, s7x⟩ := q_s7 (s := s) (g := g) hs (by omega)
    have skip : (X2_endMinute_h12 p 4 (X2_endMinute_l12 p 4 n1) (nI g) A = X2_endMinute_l12 p 4 n1 (nI (g + 1)) A) → (X5_goesOn_h36 (X5_goesOn_l36 n2) (nI s) set (nI m) (nI g) B = X5_goesOn_l36 n2 (nI s) set (nI m) (nI (g + 1)) B) → ∃ A1 B1 : hM, X2_endMinute_l12 p 4 (n1 + 1) (nI g) A = some (0, A1) ∧ X5_goesOn_l36 (n2 + 1) (nI s) set (nI m) (nI g) B = some (set, hu B1 113 (s + 18) (nI (m + 1))) ∧ Rc A1 B1 p s m x N ∧ (∀ a, a ≠ p + 1 → a ≠ p + 2 → A1 a = A a) ∧ (∀ a, a ≠ 113 → B1 a = B a) ∧ (∀ j, ¬ (s ≤ j ∧ j < s + 14) → B1 113 j = B 113 j) := by
      intro e1 e2
      obtain ⟨A2, B2, g1, g2, g3⟩ := ih (g + 1) A B n1 n2 (by omega) (by omega) (by omega) hE hR hm hm3 hab
      exact ⟨A2, B2, e1.trans g1, e2.trans g2, g3⟩
    have hRg := hR g hg
    by_cases q : A (p + 1) g = 1
    · have q2 := hRg.on.mp q
      rcases hRg with ⟨_, r1, _⟩ | ⟨hgx, ⟨r1, _⟩ | ⟨c, w, hc1, hc2, hw2, r1, r2, r3, r4⟩⟩
      · rw [r1] at q
        exact absurd q (by decide)
      · rw [r1] at q
        exact absurd q (by decide)
      · have ha : nI (m + 1) - nI w = nI (m + 1 - w) := pk_sub (by omega)
        have ha2 : nI m - nI w = nI (m - w) := pk_sub hw2
        have ha3 : nI (m - w) + 1 = nI (m + 1 - w) := by
          rw [nI_1]
          congr 1
          omega
        by_cases hlt : m + 1 - w < mm
        · have z : nI (m + 1 - w) < nI mm := nI_lt hlt (by omega)
          refine skip ?_ ?_
          · simp only [X2_endMinute_h12, Nat.reduceAdd, eN, c1, x7, i7, q, hm, r3, m1, ha, z, gd_t, nI_1, ↓reduceIte]
          · simp only [X5_goesOn_h36, fN, c1, x7, i7, s0, s0x, s7, s7x, q2, r4, m2, ha2, ha3, z, gd_t, nI_1, ↓reduceIte]
        · have z : ¬ nI (m + 1 - w) < nI mm := nI_nlt (by omega) (by omega)
          obtain ⟨A1, B1, f1, f2, f3, f4, f5, f6⟩ := q_fin (c := 2) (w := w) hp hs (show m + 1 ≤ 3000 by omega) hE hR hm hab hg hgx (by decide) hw2 r3 r4
          have hE1 : Ev A1 B1 N F L := hE.keep (fun a _ _ => f4 a (by omega) (by omega)) (by rw [f5 92 (by decide)]) (by rw [f5 92 (by decide)]) (by rw [f5 92 (by decide)]) (fun a _ _ => f5 a (by omega))
          have hab1 : Ab B1 x N := by
            unfold Ab
            rw [f5 92 (by decide)]
            exact hab
          obtain ⟨A2, B2, g1, g2, g3, g4, g5, g6⟩ := ih (g + 1) A1 B1 n1 n2 (by omega) (by omega) (by omega) hE1 f3 (by rw [f4 p (by omega) (by omega)]; exact hm) (by rw [f6 _ (by omega)]; exact hm3) hab1
          have f1 : X2_finish p 4 (nI g) 2 A = some (0, A1) := f1
          have f2 : X5_ends (nI s) (nI g) 2 (nI (m + 1)) B = some (0, B1) := f2
          refine ⟨A2, B2, ?_, ?_, g3, fun a h h2 => (g4 a h h2).trans (f4 a h h2), fun a h => (g5 a h).trans (f5 a h), fun j h => (g6 j h).trans (f6 j h)⟩
          · show X2_endMinute_h12 p 4 (X2_endMinute_l12 p 4 n1) (nI g) A = _
            simp only [X2_endMinute_h12, Nat.reduceAdd, eN, c1, x7, i7, q, hm, r3, m1, ha, z, f1, gd_t, ob_s, nI_1, ↓reduceIte]
            exact g1
          · show X5_goesOn_h36 (X5_goesOn_l36 n2) (nI s) set (nI m) (nI g) B = _
            simp only [X5_goesOn_h36, fN, c1, x7, i7, s0, s0x, s7, s7x, q2, r4, m2, ha2, ha3, z, nI_1, f2, gd_t, ob_s, ↓reduceIte]
            exact g2
    · have q2 : ¬ B 113 (s + g) = 1 := fun z => q (hRg.on.mpr z)
      refine skip ?_ ?_
      · simp only [X2_endMinute_h12, eN, c1, x7, i7, q, gd_t, nI_1, ↓reduceIte]
      · simp only [X5_goesOn_h36, fN, c1, s0, s0x, q2, gd_t, nI_1, ↓reduceIte]
/-- a minute of both -/
theorem q_goesOn {p s N F L x m : Nat} {A B : hM} (hp : p = 26 ∨ p = 31) (hs : s ≤ 220) (hm2 : m ≤ 2900) (hE : Ev A B N F L) (hR : Rc A B p s m x N) (hm : A p 0 = nI m) (hm3 : B 113 (s + 18) = nI m) (hab : Ab B x N) (h : Int32 → Int32 → Int32) :
    ∃ (A1 : hM) (S : Int32) (A2 B2 : hM), X2_beginDue p 4 A = some (0, A1) ∧ X2_worthOfAll p 4 A1 = some (S, A1) ∧ X2_onBits p 4 A1 = some (bt (A1 (p + 1)) N, A1) ∧ A1 p 1 = A p 1 ∧ X2_endMinute p 4 (hu A1 p 1 (h (A p 1) S)) = some (0, A2) ∧ X5_goesOn (nI s) B = some (bt (A1 (p + 1)) N, B2) ∧ A2 p 1 = h (A p 1) S ∧ B2 113 (s + 19) = B 113 (s + 19) + S ∧ (-280 ≤ S.toInt ∧ S.toInt ≤ 280) ∧ (A2 p 0 = nI (m + 1) ∧ B2 113 (s + 18) = nI (m + 1)) ∧ Rc A2 B2 p s (m + 1) x N ∧ (∀ a, ¬ (p ≤ a ∧ a ≤ p + 3) → A2 a = A a) ∧ (∀ a, a ≠ 113 → B2 a = B a) ∧ (∀ j, ¬ (s ≤ j ∧ j < s + 14) → j ≠ s + 18 → j ≠ s + 19 → B2 113 j = B 113 j) := by
  have hb := hE.1
  obtain ⟨A1, B1, b1, b2, b3, b4, b5, b6⟩ := q_beg hp hs (by omega) hE hR hm hm3
  have hE1 : Ev A1 B1 N F L := hE.keep (fun a _ _ => b4 a (by omega) (by omega)) (by rw [b5 92 (by decide)]) (by rw [b5 92 (by decide)]) (by rw [b5 92 (by decide)]) (fun a _ _ => b5 a (by omega))
  have hm1 : A1 p 0 = nI m := by rw [b4 p (by omega) (by omega)]; exact hm
  have hm31 : B1 113 (s + 18) = nI m := by rw [b6 _ (by omega)]; exact hm3
  obtain ⟨S, w1, w2, w3, w4⟩ := q_all_loop (A := A1) (B := B1) hs (by omega) hE1 b3 hm1 hm31 N 0 0 hF hF (by omega) (show N < 1024 by omega) (show N < 1024 by omega) (by decide) (by decide)
  have hbits : bt (fun j => B1 113 (s + j)) N = bt (A1 (p + 1)) N := bt_congr N (fun g hg => (b3 g hg).on.symm)
  obtain ⟨s18, s18x⟩ := q_s18 (s := s) hs
  obtain ⟨s19, s19x⟩ := q_s19 (s := s) hs
  have hE2 : Ev (hu (hu A1 p 1 (h (A p 1) S)) p 0 (nI (m + 1))) (hu B1 113 (s + 19) (B1 113 (s + 19) + S)) N F L := hE1.keep (fun a _ _ => by rw [q_hr _ _ _ (by omega), q_hr _ _ _ (by omega)]) (q_ha _ _ _ _ (by decide)) (q_ha _ _ _ _ (by decide)) (q_ha _ _ _ _ (by decide)) (fun a _ _ => q_hr _ _ _ (by omega))
  have hR2 : Rc (hu (hu A1 p 1 (h (A p 1) S)) p 0 (nI (m + 1))) (hu B1 113 (s + 19) (B1 113 (s + 19) + S)) p s m x N := by
    intro g hg
    refine (b3 g hg).keep ?_ ?_ ?_ ?_ ?_
    · rw [q_ha _ _ _ _ (by omega), q_ha _ _ _ _ (by omega)]
    · rw [q_ha _ _ _ _ (by omega), q_ha _ _ _ _ (by omega)]
    · rw [q_ha _ _ _ _ (by omega), q_ha _ _ _ _ (by omega)]
    · rw [q_hi _ _ (by omega)]
    · rw [q_hi _ _ (by omega)]
  have hab2 : Ab (hu B1 113 (s + 19) (B1 113 (s + 19) + S)) x N := by
    unfold Ab
    rw [q_hr _ _ _ (show 92 ≠ 113 by decide), b5 92 (by decide)]
    exact hab
  obtain ⟨A2, B2, e1, e2, e3, e4, e5, e6⟩ := q_end_loop (N := N) (F := F) (L := L) (x := x) (m := m) hp hs hm2 (bt (A1 (p + 1)) N) N 0 _ _ hF hF (by omega) (show N < 1024 by omega) (show N < 1024 by omega) hE2 hR2 (q_hu _ _ _ _) (by rw [q_hi _ _ (by omega)]; exact hm31) hab2
  refine ⟨A1, S, A2, hu B2 113 (s + 18) (nI (m + 1)), b1, w1, q_onBits (by omega) hE1.2.1.1, by rw [b4 p (by omega) (by omega)], ?_, ?_, ?_, ?_, ⟨by omega, by omega⟩, ⟨?_, q_hu _ _ _ _⟩, ?_, ?_, ?_, ?_⟩
  · unfold X2_endMinute
    rw [q_hi _ _ (show 0 ≠ 1 by decide), hm1, nI_1]
    exact e1
  · have w2 : X5_all (nI s) B1 = some (S, B1) := w2
    simp only [X5_goesOn, b2, w2, ob_s, s18, s18x, s19, s19x, gd_t, hbits]
    rw [q_hi _ _ (show s + 18 ≠ s + 19 by omega), hm31]
    exact e2
  · rw [e4 p (by omega) (by omega), q_hi _ _ (by decide), q_hu]
  · rw [q_hi _ _ (by omega), e6 _ (by omega), q_hu, b6 _ (by omega)]
  · rw [e4 p (by omega) (by omega), q_hu]
  · intro g hg
    refine ((e3 g hg).keep rfl rfl rfl ?_ ?_).more (by omega)
    · rw [q_hi _ _ (by omega)]
    · rw [q_hi _ _ (by omega)]
  · intro a ha
    rw [e4 a (by omega) (by omega), q_hr _ _ _ (by omega), q_hr _ _ _ (by omega), b4 a (by omega) (by omega)]
  · intro a ha
    rw [q_hr _ _ _ ha, e5 a ha, q_hr _ _ _ ha, b5 a ha]
  · intro j h1 h2 h3
    rw [q_hi _ _ h2, e6 j h1, q_hi _ _ h3, b6 j h1]
