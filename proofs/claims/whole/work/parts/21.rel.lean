def Ev (A B : hM) (N F L : Nat) : Prop := ((1 ≤ N ∧ N ≤ 7) ∧ F ≤ 6 ∧ L ≤ 4) ∧ (A 4 0 = nI N ∧ B 92 0 = nI N) ∧ (A 4 1 = nI F ∧ B 92 6 = nI F) ∧ (A 4 2 = nI L ∧ B 92 10 = nI L) ∧
  (∀ g, g < N → ∃ k i w m, k < 4 ∧ i ≤ 20 ∧ w ≤ 5 ∧ (1 ≤ m ∧ m ≤ 40) ∧ (A 5 g = nI k ∧ B 93 g = nI k) ∧ (A 7 g = nI i ∧ B 95 g = nI i) ∧ (A 8 g = nI w ∧ B 96 g = nI w) ∧ (A 9 g = nI m ∧ B 97 g = nI m)) ∧
  (∀ j, j < F → ∃ a b d, a < N ∧ b < N ∧ d ≤ 20 ∧ (A 10 j = nI a ∧ B 98 j = nI a) ∧ (A 11 j = nI b ∧ B 99 j = nI b) ∧ (A 12 j = nI d ∧ B 100 j = nI d)) ∧
  (∀ l, l < L → ∃ r, r < 16 ∧ (A 14 l = nI r ∧ B 102 l = nI r))
/-- one going-on: to come, or on, over, pinned -/
def Sg (A B : hM) (p s M g : Nat) : Prop :=
  (A (p + 1) g = 0 ∧ B 113 (s + g) = 0 ∧ ((A (p + 2) g = 1000000 ∧ B 113 (s + 7 + g) = -1) ∨ ∃ d, d ≤ 5000 ∧ A (p + 2) g = nI d ∧ B 113 (s + 7 + g) = nI d)) ∨
  (∃ c w, 1 ≤ c ∧ c ≤ 3 ∧ w ≤ M ∧ A (p + 1) g = nI c ∧ B 113 (s + g) = nI c ∧ A (p + 3) g = nI w ∧ B 113 (s + 7 + g) = nI w)
def Rg (A B : hM) (p s M x g : Nat) : Prop := (g = x ∧ A (p + 1) g = 3 ∧ B 113 (s + g) = 0 ∧ B 113 (s + 7 + g) = -1) ∨ (g ≠ x ∧ Sg A B p s M g)
def Rc (A B : hM) (p s M x N : Nat) : Prop := ∀ g, g < N → Rg A B p s M x g
def Ab (B : hM) (x N : Nat) : Prop := (x < N → B 92 37 = nI x) ∧ (N ≤ x → B 92 37 = -4)
theorem Rg.keep {A B A' B' : hM} {p s M x g : Nat} (h : Rg A B p s M x g) (h1 : A' (p + 1) g = A (p + 1) g) (h2 : A' (p + 2) g = A (p + 2) g) (h3 : A' (p + 3) g = A (p + 3) g) (h4 : B' 113 (s + g) = B 113 (s + g)) (h5 : B' 113 (s + 7 + g) = B 113 (s + 7 + g)) : Rg A' B' p s M x g := by
  unfold Rg Sg
  rw [h1, h2, h3, h4, h5]
  exact h
theorem Rg.more {A B : hM} {p s M M' x g : Nat} (h : Rg A B p s M x g) (hM : M ≤ M') : Rg A B p s M' x g := by
  rcases h with h | ⟨h0, h | ⟨c, w, h1, h2, h3, h4⟩⟩
  · exact Or.inl h
  · exact Or.inr ⟨h0, Or.inl h⟩
  · exact Or.inr ⟨h0, Or.inr ⟨c, w, h1, h2, Nat.le_trans h3 hM, h4⟩⟩
theorem Ev.keep {A B A' B' : hM} {N F L : Nat} (h : Ev A B N F L) (hA : ∀ a, 4 ≤ a → a ≤ 14 → A' a = A a) (h0 : B' 92 0 = B 92 0) (h1 : B' 92 6 = B 92 6) (h2 : B' 92 10 = B 92 10) (hB : ∀ a, 93 ≤ a → a ≤ 102 → B' a = B a) : Ev A' B' N F L := by
  unfold Ev
  rw [hA 4 (by decide) (by decide), hA 5 (by decide) (by decide), hA 7 (by decide) (by decide), hA 8 (by decide) (by decide), hA 9 (by decide) (by decide), hA 10 (by decide) (by decide), hA 11 (by decide) (by decide), hA 12 (by decide) (by decide), hA 14 (by decide) (by decide), h0, h1, h2, hB 93 (by decide) (by decide), hB 95 (by decide) (by decide), hB 96 (by decide) (by decide), hB 97 (by decide) (by decide), hB 98 (by decide) (by decide), hB 99 (by decide) (by decide), hB 100 (by decide) (by decide), hB 102 (by decide) (by decide)]
  exact h
theorem n3 : (3 : Int32) = nI 3 := rfl
theorem n30 : ¬ (3 : Int32) = 0 := by decide
theorem nm1 : ¬ (0 : Int32) ≤ -1 := by decide
theorem q_hminN {a b : Nat} (ha : a < 2 ^ 31) (hb : b < 2 ^ 31) : hmin (nI a) (nI b) = nI (min a b) := by
  rw [q_eq, q_hmin, nI_toInt ha, nI_toInt hb, nI_toInt (by omega)]
  split <;> omega
theorem q_hminI {b : Nat} (hb : b < 1000000) : hmin 1000000 (nI b) = nI b := by
  rw [show (1000000 : Int32) = nI 1000000 from rfl, q_hminN (by decide) (by omega), Nat.min_eq_right (by omega)]
/-- a step of the loop behind an end: class and reference -/
theorem q_fin_step {p s N F L M x g m i : Nat} {A B : hM} (hp : p = 26 ∨ p = 31) (hs : s ≤ 220) (hi : i < F) (hE : Ev A B N F L) (hR : Rc A B p s M x N) (hm : A p 0 = nI m) (hm2 : m ≤ 3000) (hab : Ab B x N) :
    ∃ A1 B1, (∀ k, X2_finish_h10 p 4 k (nI g) (nI i) A = k (nI g) (nI (i + 1)) A1) ∧ (∀ k, X5_ends_h12 k (nI s) (nI g) (nI m) (nI i) B = k (nI s) (nI g) (nI m) (nI (i + 1)) B1) ∧ Rc A1 B1 p s M x N ∧ (∀ a, a ≠ p + 2 → A1 a = A a) ∧ (∀ a, a ≠ 113 → B1 a = B a) ∧ (∀ j, ¬ (s + 7 ≤ j ∧ j < s + 14) → B1 113 j = B 113 j) := by
  obtain ⟨⟨⟨hN1, hN7⟩, hF6, hL4⟩, ⟨eN, fN⟩, ⟨eF, fF⟩, -, -, hFo, -⟩ := hE
  obtain ⟨a, b, d, ha, hb, hd, ⟨a1, a2⟩, ⟨b1, b2⟩, ⟨d1, d2⟩⟩ := hFo i hi
  have c1 : ¬ nI F ≤ nI i := nI_ge hi (by omega)
  have x6 : hx (nI i) 6 = true := q_hx (by omega) (by decide)
  have i6 : (nI i).toNatClampNeg = i := nI_clamp (by omega)
  have xb : hx (nI b) 7 = true := q_hx (by omega) (by decide)
  have ib : (nI b).toNatClampNeg = b := nI_clamp (by omega)
  obtain ⟨s0, s0x⟩ := q_s0 (s := s) (g := b) hs (by omega)
  obtain ⟨s7, s7x⟩ := q_s7 (s := s) (g := b) hs (by omega)
  have e1 : nI i + 1 = nI (i + 1) := nI_1 i
  by_cases hag : nI a = nI g
  · rcases hR b hb with ⟨hbx, r1, r2, r3⟩ | ⟨hbx, ⟨r1, r2, r3⟩ | ⟨c, w, hc1, hc2, hw, r1, r2, r3, r4⟩⟩
    · have hx1 : B 92 37 = nI b := by rw [hab.1 (by omega), hbx]
      refine ⟨A, B, fun k => ?_, fun k => ?_, hR, fun _ _ => rfl, fun _ _ => rfl, fun _ _ => rfl⟩
      · simp only [X2_finish_h10, Nat.reduceAdd, eF, c1, x6, i6, a1, b1, hag, xb, ib, r1, n30, gd_t, e1, ↓reduceIte]
      · simp only [X5_ends_h12, fF, c1, x6, i6, a2, b2, hag, s0, s0x, r2, hx1, gd_t, e1, ↓reduceIte]
    · have hx1 : ¬ nI b = B 92 37 := by
        intro z
        by_cases hxN : x < N
        · rw [hab.1 hxN, nI_eq (by omega) (by omega)] at z
          exact hbx z
        · rw [hab.2 (by omega)] at z
          have z2 : (nI b).toInt = (-4 : Int32).toInt := by rw [z]
          rw [nI_toInt (by omega), show (-4 : Int32).toInt = -4 from by decide] at z2
          omega
      have hmd : nI m + nI d = nI (m + d) := nI_add m d
      have fin : ∀ d', d' ≤ 5000 → Rc (hu A (p + 2) b (nI d')) (hu B 113 (s + 7 + b) (nI d')) p s M x N := by
        intro d' hd'
        intro g' hg'
        by_cases hgb : g' = b
        · subst hgb
          refine Or.inr ⟨hbx, Or.inl ⟨?_, ?_, Or.inr ⟨d', hd', ?_, ?_⟩⟩⟩
          · rw [q_ha _ _ _ _ (by omega)]
            exact r1
          · rw [q_hi _ _ (by omega)]
            exact r2
          · exact q_hu _ _ _ _
          · exact q_hu _ _ _ _
        · refine (hR g' hg').keep ?_ ?_ ?_ ?_ ?_
          · rw [q_ha _ _ _ _ (by omega)]
          · rw [q_hi _ _ hgb]
          · rw [q_ha _ _ _ _ (by omega)]
          · rw [q_hi _ _ (by omega)]
          · rw [q_hi _ _ (by omega)]
      rcases r3 with ⟨r3, r4⟩ | ⟨d0, hd0, r3, r4⟩
      · refine ⟨hu A (p + 2) b (nI (m + d)), hu B 113 (s + 7 + b) (nI (m + d)), fun k => ?_, fun k => ?_, fin _ (by omega), fun a h => q_hr _ _ _ h, fun a h => q_hr _ _ _ h, fun j hj => q_hi _ _ (by omega)⟩
        · simp only [X2_finish_h10, Nat.reduceAdd, eF, c1, x6, i6, a1, b1, d1, hag, xb, ib, r1, r3, hm, hmd, q_hminI (show m + d < 1000000 by omega), gd_t, e1, ↓reduceIte]
        · simp only [X5_ends_h12, fF, c1, x6, i6, a2, b2, d2, hag, s0, s0x, s7, s7x, r2, r4, hx1, nm1, hmd, gd_t, e1, ↓reduceIte]
      · have h0 : (0 : Int32) ≤ nI d0 := nI_pos' (by omega)
        refine ⟨hu A (p + 2) b (nI (min d0 (m + d))), hu B 113 (s + 7 + b) (nI (min d0 (m + d))), fun k => ?_, fun k => ?_, fin _ (by omega), fun a h => q_hr _ _ _ h, fun a h => q_hr _ _ _ h, fun j hj => q_hi _ _ (by omega)⟩
        · simp only [X2_finish_h10, Nat.reduceAdd, eF, c1, x6, i6, a1, b1, d1, hag, xb, ib, r1, r3, hm, hmd, q_hminN (show d0 < 2 ^ 31 by omega) (show m + d < 2 ^ 31 by omega), gd_t, e1, ↓reduceIte]
        · simp only [X5_ends_h12, fF, c1, x6, i6, a2, b2, d2, hag, s0, s0x, s7, s7x, r2, r4, hx1, h0, hmd, q_smaller, ob_s, q_hminN (show m + d < 2 ^ 31 by omega) (show d0 < 2 ^ 31 by omega), Nat.min_comm (m + d) d0, gd_t, e1, ↓reduceIte]
    · have hc0 : ¬ nI c = 0 := nI_ne0 (by omega) (by omega)
      refine ⟨A, B, fun k => ?_, fun k => ?_, hR, fun _ _ => rfl, fun _ _ => rfl, fun _ _ => rfl⟩
      · simp only [X2_finish_h10, Nat.reduceAdd, eF, c1, x6, i6, a1, b1, hag, xb, ib, r1, hc0, gd_t, e1, ↓reduceIte]
      · simp only [X5_ends_h12, fF, c1, x6, i6, a2, b2, hag, s0, s0x, r2, hc0, gd_t, e1, ↓reduceIte]
  · refine ⟨A, B, fun k => ?_, fun k => ?_, hR, fun _ _ => rfl, fun _ _ => rfl, fun _ _ => rfl⟩
    · simp only [X2_finish_h10, Nat.reduceAdd, eF, c1, x6, i6, a1, hag, gd_t, e1, ↓reduceIte]
    · simp only [X5_ends_h12, fF, c1, x6, i6, a2, hag, gd_t, e1, ↓reduceIte]
theorem q_fin_loop {p s N F L M x g m : Nat} (hp : p = 26 ∨ p = 31) (hs : s ≤ 220) (hm2 : m ≤ 3000) : ∀ (k i : Nat) (A B : hM) (n1 n2 : Nat), i + k = F → k < n1 → k < n2 → Ev A B N F L → Rc A B p s M x N → A p 0 = nI m → Ab B x N →
    ∃ A1 B1, X2_finish_l10 p 4 n1 (nI g) (nI i) A = some (0, A1) ∧ X5_ends_l12 n2 (nI s) (nI g) (nI m) (nI i) B = some (0, B1) ∧ Rc A1 B1 p s M x N ∧ (∀ a, a ≠ p + 2 → A1 a = A a) ∧ (∀ a, a ≠ 113 → B1 a = B a) ∧ (∀ j, ¬ (s + 7 ≤ j ∧ j < s + 14) → B1 113 j = B 113 j) := by
  intro k
  induction k with
  | zero =>
    intro i A B n1 n2 hik h1 h2 hE hR hm hab
    obtain ⟨n1, rfl⟩ : ∃ n, n1 = n + 1 := ⟨n1 - 1, by omega⟩
    obtain ⟨n2, rfl⟩ : ∃ n, n2 = n + 1 := ⟨n2 - 1, by omega⟩
    have hb := hE.1
    have c1 : nI F ≤ nI i := nI_le (by omega) (by omega)
    refine ⟨A, B, ?_, ?_, hR, fun _ _ => rfl, fun _ _ => rfl, fun _ _ => rfl⟩
    · show X2_finish_h10 p 4 _ (nI g) (nI i) A = _
      simp only [X2_finish_h10, hE.2.2.1.1, c1, ↓reduceIte]
    · show X5_ends_h12 _ (nI s) (nI g) (nI m) (nI i) B = _
      simp only [X5_ends_h12, hE.2.2.1.2, c1, ↓reduceIte]
  | succ k ih =>
    intro i A B n1 n2 hik h1 h2 hE hR hm hab
    obtain ⟨n1, rfl⟩ : ∃ n, n1 = n + 1 := ⟨n1 - 1, by omega⟩
    obtain ⟨n2, rfl⟩ : ∃ n, n2 = n + 1 := ⟨n2 - 1, by omega⟩
    obtain ⟨A1, B1, hA, hB, hR1, f1, f2, f3⟩ := q_fin_step (g := g) hp hs (show i < F by omega) hE hR hm hm2 hab
    have hE1 : Ev A1 B1 N F L := hE.keep (fun a _ _ => f1 a (by omega)) (by rw [f2 92 (by decide)]) (by rw [f2 92 (by decide)]) (by rw [f2 92 (by decide)]) (fun a _ _ => f2 a (by omega))
    have hab1 : Ab B1 x N := by
      unfold Ab
      rw [f2 92 (by decide)]
      exact hab
    obtain ⟨A2, B2, g1, g2, g3, g4, g5, g6⟩ := ih (i + 1) A1 B1 n1 n2 (by omega) (by omega) (by omega) hE1 hR1 (by rw [f1 p (by omega)]; exact hm) hab1
    refine ⟨A2, B2, ?_, ?_, g3, fun a h => (g4 a h).trans (f1 a h), fun a h => (g5 a h).trans (f2 a h), fun j h => (g6 j h).trans (f3 j h)⟩
    · show X2_finish_h10 p 4 (X2_finish_l10 p 4 n1) (nI g) (nI i) A = _
      rw [hA]
      exact g1
    · show X5_ends_h12 (X5_ends_l12 n2) (nI s) (nI g) (nI m) (nI i) B = _
      rw [hB]
      exact g2
/-- an end, of both -/
theorem q_finS {p s N F L M x g m c w : Nat} {A B : hM} (hp : p = 26 ∨ p = 31) (hs : s ≤ 220) (hm2 : m ≤ 3000) (hE : Ev A B N F L) (hR : Rc A B p s M x N) (hm : A p 0 = nI m) (hab : Ab B x N) (hg : g < N) (hgx : g ≠ x) (hc : 1 ≤ c ∧ c ≤ 3) (hw : w ≤ M) (hA3 : A (p + 3) g = nI w) (hB7 : B 113 (s + 7 + g) = nI w) :
    ∃ A1 B1, X2_finish p 4 (nI g) (nI c) A = some (0, A1) ∧ X5_ends (nI s) (nI g) (nI c) (nI m) B = some (0, B1) ∧ Rc A1 B1 p s M x N ∧ (∀ a, a ≠ p + 1 → a ≠ p + 2 → A1 a = A a) ∧ (∀ a, a ≠ 113 → B1 a = B a) ∧ (∀ j, ¬ (s ≤ j ∧ j < s + 14) → B1 113 j = B 113 j) ∧ (∀ i, i ≠ g → A1 (p + 1) i = A (p + 1) i) := by
  have hb := hE.1
  have x7 : hx (nI g) 7 = true := q_hx (by omega) (by decide)
  have i7 : (nI g).toNatClampNeg = g := nI_clamp (by omega)
  obtain ⟨s0, s0x⟩ := q_s0 (s := s) (g := g) hs (by omega)
  have hE1 : Ev (hu A (p + 1) g (nI c)) (hu B 113 (s + g) (nI c)) N F L := hE.keep (fun a _ _ => q_hr _ _ _ (by omega)) (q_ha _ _ _ _ (by decide)) (q_ha _ _ _ _ (by decide)) (q_ha _ _ _ _ (by decide)) (fun a _ _ => q_hr _ _ _ (by omega))
  have hR1 : Rc (hu A (p + 1) g (nI c)) (hu B 113 (s + g) (nI c)) p s M x N := by
    intro g' hg'
    by_cases hgg : g' = g
    · subst hgg
      refine Or.inr ⟨hgx, Or.inr ⟨c, w, hc.1, hc.2, hw, q_hu _ _ _ _, q_hu _ _ _ _, ?_, ?_⟩⟩
      · rw [q_ha _ _ _ _ (by omega)]
        exact hA3
      · rw [q_hi _ _ (by omega)]
        exact hB7
    · refine (hR g' hg').keep ?_ ?_ ?_ ?_ ?_
      · rw [q_hi _ _ hgg]
      · rw [q_ha _ _ _ _ (by omega)]
      · rw [q_ha _ _ _ _ (by omega)]
      · rw [q_hi _ _ (by omega)]
      · rw [q_hi _ _ (by omega)]
  have hab1 : Ab (hu B 113 (s + g) (nI c)) x N := by
    unfold Ab
    rw [q_hr _ _ _ (show 92 ≠ 113 by decide)]
    exact hab
  obtain ⟨A2, B2, g1, g2, g3, g4, g5, g6⟩ := q_fin_loop (g := g) hp hs hm2 F 0 (hu A (p + 1) g (nI c)) (hu B 113 (s + g) (nI c)) hF hF (by omega) (show F < 1024 by omega) (show F < 1024 by omega) hE1 hR1 (by rw [q_ha _ _ _ _ (by omega)]; exact hm) hab1
  refine ⟨A2, B2, ?_, ?_, g3, fun a h h2 => (g4 a h2).trans (q_hr _ _ _ h), fun a h => (g5 a h).trans (q_hr _ _ _ h), fun j h => (g6 j (by omega)).trans (q_hi _ _ (by omega)), fun i hi => by rw [g4 (p + 1) (by omega), q_hi _ _ hi]⟩
  · simp only [X2_finish, x7, i7, gd_t]
    exact g1
  · simp only [X5_ends, s0, s0x, gd_t]
    exact g2
theorem q_fin {p s N F L M x g m c w : Nat} {A B : hM} (hp : p = 26 ∨ p = 31) (hs : s ≤ 220) (hm2 : m ≤ 3000) (hE : Ev A B N F L) (hR : Rc A B p s M x N) (hm : A p 0 = nI m) (hab : Ab B x N) (hg : g < N) (hgx : g ≠ x) (hc : 1 ≤ c ∧ c ≤ 3) (hw : w ≤ M) (hA3 : A (p + 3) g = nI w) (hB7 : B 113 (s + 7 + g) = nI w) :
    ∃ A1 B1, X2_finish p 4 (nI g) (nI c) A = some (0, A1) ∧ X5_ends (nI s) (nI g) (nI c) (nI m) B = some (0, B1) ∧ Rc A1 B1 p s M x N ∧ (∀ a, a ≠ p + 1 → a ≠ p + 2 → A1 a = A a) ∧ (∀ a, a ≠ 113 → B1 a = B a) ∧ (∀ j, ¬ (s ≤ j ∧ j < s + 14) → B1 113 j = B 113 j) := by
  obtain ⟨A1, B1, f1, f2, f3, f4, f5, f6, -⟩ := q_finS (x := x) hp hs hm2 hE hR hm hab hg hgx hc hw hA3 hB7
  exact ⟨A1, B1, f1, f2, f3, f4, f5, f6⟩
