theorem Rg.st {A B : hM} {p s M x g : Nat} (h : Rg A B p s M x g) (hx : g ≠ x) : A (p + 1) g = B 113 (s + g) := by
  rcases h with ⟨z, _⟩ | ⟨_, ⟨r1, r2, _⟩ | ⟨c, w, _, _, _, r1, r2, _⟩⟩
  · exact absurd z hx
  · rw [r1, r2]
  · rw [r1, r2]
theorem q_7g {g : Nat} (hg : g < 13) : (7 + nI g).toNatClampNeg = 7 + g ∧ hx (7 + nI g) 240 = true := by
  rw [show (7 : Int32) = nI 7 from rfl, nI_add]
  exact ⟨nI_clamp (by omega), q_hx (by omega) (by decide)⟩
theorem q_14g {g : Nat} (hg : g < 6) : (14 + nI g).toNatClampNeg = 14 + g ∧ hx (14 + nI g) 240 = true := by
  rw [show (14 : Int32) = nI 14 from rfl, nI_add]
  exact ⟨nI_clamp (by omega), q_hx (by omega) (by decide)⟩
theorem q_when {N m g : Nat} {A B : hM} (hg : g < 7) (hR : Rg A B 26 0 m N g) (hgN : g ≠ N) (hm : m ≤ 999) : X2_whenOf 26 (nI g) A = some (if 0 ≤ B 113 (7 + g) then B 113 (7 + g) else -4, A) := by
  have x7 : hx (nI g) 7 = true := q_hx (by omega) (by decide)
  have i7 : (nI g).toNatClampNeg = g := nI_clamp (by omega)
  have e0 : 0 + 7 + g = 7 + g := by omega
  rcases hR with ⟨z, _⟩ | ⟨_, ⟨r1, r2, ⟨r3, r4⟩ | ⟨d, hd, r3, r4⟩⟩ | ⟨c, w, hc1, hc2, hw, r1, r2, r3, r4⟩⟩
  · exact absurd z hgN
  · rw [e0] at r4
    simp only [X2_whenOf, Nat.reduceAdd, x7, i7, r1, r3, r4, nm1, gd_t, ↓reduceIte]
  · rw [e0] at r4
    have z1 : ¬ nI d = 1000000 := fun z => by
      have := (nI_eq (a := d) (b := 1000000) (by omega) (by decide)).mp z
      omega
    have z2 : (0 : Int32) ≤ nI d := nI_pos' (by omega)
    simp only [X2_whenOf, Nat.reduceAdd, x7, i7, r1, r3, r4, z1, z2, gd_t, ↓reduceIte]
  · rw [e0] at r4
    have z1 : ¬ nI c = 0 := nI_ne0 (by omega) (by omega)
    have z2 : (0 : Int32) ≤ nI w := nI_pos' (by omega)
    simp only [X2_whenOf, Nat.reduceAdd, x7, i7, r1, r3, r4, z1, z2, gd_t, ↓reduceIte]
theorem op_going (v w : Int32) : Op (X4_going v w) (X5_going v w) := Op.rd (by
  intro A B hI
  obtain ⟨N, F, L, m, hE, hm, hS, hx0, -, -, -, -⟩ := hI
  have hb := hE.1
  rcases pk_ix v (n := N) (by omega) with h | h | ⟨g, hg, rfl⟩
  · obtain ⟨e1, e2⟩ := q_gout hb.1 hE.2.1.1 hE.2.1.2 (Or.inl h)
    exact ⟨-1, by simp only [X4_going, e1, ob_s, ↓reduceIte], by simp only [X5_going, e2, ob_s, ↓reduceIte]⟩
  · obtain ⟨e1, e2⟩ := q_gout hb.1 hE.2.1.1 hE.2.1.2 (Or.inr h)
    exact ⟨-1, by simp only [X4_going, e1, ob_s, ↓reduceIte], by simp only [X5_going, e2, ob_s, ↓reduceIte]⟩
  · obtain ⟨e1, e2⟩ := q_gin hb.1 hE.2.1.1 hE.2.1.2 hg
    obtain ⟨kk, ii, ww, mm, hk, hi, hw, hmm, ⟨k1, k2⟩, ⟨i1, i2⟩, ⟨w1, w2⟩, ⟨m1, m2⟩⟩ := hE.2.2.2.2.1 g hg
    have x7 : hx (nI g) 7 = true := q_hx (by omega) (by decide)
    have x240 : hx (nI g) 240 = true := q_hx (by omega) (by decide)
    have i7 : (nI g).toNatClampNeg = g := nI_clamp (by omega)
    obtain ⟨j7, j7x⟩ := q_7g (g := g) (by omega)
    have hR := hS.2.2.2.1 g hg
    have hst := hR.st (by omega)
    rw [Nat.zero_add] at hst
    have fin : ∀ (t : Int32) (r : Int32), (∀ t0, X5_going_b48 (nI g) w t0 B = some (r, B)) → X5_in w.toInt64 0 6 B = some (1, B) → X5_going (nI g) w B = some (r, B) := by
      intro t r h1 h2
      by_cases z : (0 : Int32) ≤ B 113 (7 + g)
      · simp only [X5_going, e2, n10, h2, j7, j7x, z, h1, gd_t, ob_s, ↓reduceIte]
      · simp only [X5_going, e2, n10, h2, j7, j7x, z, h1, gd_t, ob_s, ↓reduceIte]
    have rng : ∀ c : Nat, c ≤ 6 → X5_in (nI c).toInt64 0 6 B = some (1, B) := fun c hc => q_in1 (lo := 0) (hi := 6) (by decide) (by decide) ⟨nI_pos' (by omega), nI_le (b := 6) (by omega) (by decide)⟩ B
    by_cases h0 : w = 0
    · subst h0
      refine ⟨nI kk, by simp only [X4_going, e1, n10, x7, i7, k1, gd_t, ob_s, ↓reduceIte], fin 0 _ (fun t0 => by simp only [X5_going_b48, x7, i7, k2, gd_t, ↓reduceIte]) (rng 0 (by decide))⟩
    · by_cases h1 : w = 1
      · subst h1
        refine ⟨nI ii, by simp only [X4_going, e1, n10, x7, i7, i1, gd_t, ob_s, ↓reduceIte], fin 0 _ (fun t0 => by simp only [X5_going_b48, n10, x7, i7, i2, gd_t, ↓reduceIte]) (rng 1 (by decide))⟩
      · by_cases h2 : w = 2
        · subst h2
          have q0 : ¬ (2 : Int32) = 0 := by decide
          have q1 : ¬ (2 : Int32) = 1 := by decide
          refine ⟨nI ww, by simp only [X4_going, e1, n10, q0, q1, x7, i7, w1, gd_t, ob_s, ↓reduceIte], fin 0 _ (fun t0 => by simp only [X5_going_b48, q0, q1, x7, i7, w2, gd_t, ↓reduceIte]) (rng 2 (by decide))⟩
        · by_cases h3 : w = 3
          · subst h3
            have q0 : ¬ (3 : Int32) = 0 := by decide
            have q1 : ¬ (3 : Int32) = 1 := by decide
            have q2 : ¬ (3 : Int32) = 2 := by decide
            refine ⟨nI mm, by simp only [X4_going, e1, n10, q0, q1, q2, x7, i7, m1, gd_t, ob_s, ↓reduceIte], fin 0 _ (fun t0 => by simp only [X5_going_b48, q0, q1, q2, x7, i7, m2, gd_t, ↓reduceIte]) (rng 3 (by decide))⟩
          · by_cases h4 : w = 4
            · subst h4
              have q0 : ¬ (4 : Int32) = 0 := by decide
              have q1 : ¬ (4 : Int32) = 1 := by decide
              have q2 : ¬ (4 : Int32) = 2 := by decide
              have q3 : ¬ (4 : Int32) = 3 := by decide
              refine ⟨B 113 g, by simp only [X4_going, e1, n10, q0, q1, q2, q3, x7, i7, gd_t, ob_s, ↓reduceIte]; rw [show A 27 g = B 113 g from hst], fin 0 _ (fun t0 => by simp only [X5_going_b48, q0, q1, q2, q3, x240, i7, gd_t, ↓reduceIte]) (rng 4 (by decide))⟩
            · by_cases h5 : w = 5
              · subst h5
                have q0 : ¬ (5 : Int32) = 0 := by decide
                have q1 : ¬ (5 : Int32) = 1 := by decide
                have q2 : ¬ (5 : Int32) = 2 := by decide
                have q3 : ¬ (5 : Int32) = 3 := by decide
                have q4 : ¬ (5 : Int32) = 4 := by decide
                have r5 : X5_in (5 : Int32).toInt64 0 6 B = some (1, B) := rng 5 (by decide)
                refine ⟨if 0 ≤ B 113 (7 + g) then B 113 (7 + g) else -4, by simp only [X4_going, e1, n10, q0, q1, q2, q3, q4, q_when (by omega) hR (by omega) hm, ob_s, ↓reduceIte], ?_⟩
                by_cases z : (0 : Int32) ≤ B 113 (7 + g)
                · simp only [X5_going, X5_going_b48, e2, n10, r5, j7, j7x, z, q0, q1, q2, q3, q4, gd_t, ob_s, ↓reduceIte]
                · simp only [X5_going, X5_going_b48, e2, n10, r5, j7, j7x, z, q0, q1, q2, q3, q4, gd_t, ob_s, ↓reduceIte]
              · by_cases h6 : w = 6
                · subst h6
                  have q0 : ¬ (6 : Int32) = 0 := by decide
                  have q1 : ¬ (6 : Int32) = 1 := by decide
                  have q2 : ¬ (6 : Int32) = 2 := by decide
                  have q3 : ¬ (6 : Int32) = 3 := by decide
                  have q4 : ¬ (6 : Int32) = 4 := by decide
                  have q5 : ¬ (6 : Int32) = 5 := by decide
                  by_cases hon : A 27 g = 1
                  · obtain ⟨W, y1, y2, y3, y4⟩ := q_worth1 (s := 0) (by decide) hg hE hR hS.1.1 hS.1.2 (by omega) hon
                    have y2 : X5_worth 0 (nI g) B = some (W, B) := y2
                    refine ⟨W + 20, by simp only [X4_going, e1, n10, q0, q1, q2, q3, q4, q5, x7, i7, hon, y1, gd_t, ob_s, ↓reduceIte], fin 0 _ (fun t0 => by simp only [X5_going_b48, q0, q1, q2, q3, q4, q5, y2, ob_s, ↓reduceIte]) (rng 6 (by decide))⟩
                  · have y2 : X5_worth 0 (nI g) B = some (0, B) := q_worth0 (s := 0) (by decide) hg hE hR hon
                    refine ⟨20, by simp only [X4_going, e1, n10, q0, q1, q2, q3, q4, q5, x7, i7, hon, gd_t, ob_s, ↓reduceIte], fin 0 _ (fun t0 => by simp only [X5_going_b48, q0, q1, q2, q3, q4, q5, y2, ob_s, ↓reduceIte]; rfl) (rng 6 (by decide))⟩
                · have r0 : X5_in w.toInt64 0 6 B = some (0, B) := by
                    refine q_in0 (lo := 0) (hi := 6) (by decide) (by decide) ?_ B
                    rintro ⟨z1, z2⟩
                    obtain ⟨c, c1, c2, rfl⟩ := q_nat (lo := 0) (hi := 6) z1 z2 (by decide) (by decide)
                    rcases (show c = 0 ∨ c = 1 ∨ c = 2 ∨ c = 3 ∨ c = 4 ∨ c = 5 ∨ c = 6 by omega) with rfl | rfl | rfl | rfl | rfl | rfl | rfl
                    · exact h0 rfl
                    · exact h1 rfl
                    · exact h2 rfl
                    · exact h3 rfl
                    · exact h4 rfl
                    · exact h5 rfl
                    · exact h6 rfl
                  exact ⟨-1, by simp only [X4_going, e1, n10, h0, h1, h2, h3, h4, h5, h6, ob_s, ↓reduceIte], by simp only [X5_going, e2, n10, r0, ob_s, ↓reduceIte]⟩)
/-- whether she could -/
theorem q_canPin {p s N F L m x l g : Nat} {A B : hM} (hs : s ≤ 220) (hE : Ev A B N F L) (hS : Sd A B p s N L m x) (hl : l < L) (hg : g < N) :
    (X2_canPin p 4 (nI l) (nI g) A = some (0, A) ∧ X5_canPin (nI s) (nI l) (nI g) B = some (0, B)) ∨ (X2_canPin p 4 (nI l) (nI g) A = some (1, A) ∧ X5_canPin (nI s) (nI l) (nI g) B = some (1, B) ∧ A (p + 1) g = 1 ∧ ∃ k, k < 9 ∧ A (p + 4) l = nI (k + 1) ∧ B 113 (s + 14 + l) = nI (k + 1)) := by
  have hb := hE.1
  obtain ⟨kk, -, -, -, hk, -, -, -, ⟨k1, k2⟩, -⟩ := hE.2.2.2.2.1 g hg
  obtain ⟨r, hr, r1, r2⟩ := hE.2.2.2.2.2.2 l hl
  obtain ⟨k, hk9, p1, p2⟩ := hS.2.2.2.2 l hl
  have hon := (hS.2.2.2.1 g hg).on
  have x4 : hx (nI l) 4 = true := q_hx (by omega) (by decide)
  have i4 : (nI l).toNatClampNeg = l := nI_clamp (by omega)
  have x7 : hx (nI g) 7 = true := q_hx (by omega) (by decide)
  have i7 : (nI g).toNatClampNeg = g := nI_clamp (by omega)
  obtain ⟨s0, s0x⟩ := q_s0 (s := s) (g := g) hs (by omega)
  obtain ⟨s14, s14x⟩ := q_s14 (s := s) (g := l) hs (by omega)
  by_cases h0 : k = 0
  · subst h0
    have z : (nI 0 : Int32) ≤ 0 := by decide
    refine Or.inl ⟨?_, ?_⟩
    · by_cases q : ((nI r >>> (nI kk &&& 31)) &&& 1) = 1
      · simp only [X2_canPin, X2_canPin_b24, Nat.reduceAdd, x4, i4, x7, i7, r1, k1, q, p1, z, q_g0, q_g0b, gd_t, ↓reduceIte]
      · simp only [X2_canPin, X2_canPin_b24, Nat.reduceAdd, x4, i4, x7, i7, r1, k1, q, p1, z, q_g0, q_g0b, gd_t, ↓reduceIte]
    · simp only [X5_canPin, s14, s14x, p2, z, q_g0, q_g0b, gd_t, ↓reduceIte]
  · obtain ⟨k, rfl⟩ : ∃ j, k = j + 1 := ⟨k - 1, by omega⟩
    have z : ¬ nI (k + 1) ≤ 0 := nI_nle (by omega) (by omega)
    by_cases h1 : A (p + 1) g = 1
    · have h2 := hon.mp h1
      by_cases q : ((nI r >>> (nI kk &&& 31)) &&& 1) = 1
      · refine Or.inr ⟨?_, ?_, h1, k, by omega, p1, p2⟩
        · simp only [X2_canPin, X2_canPin_b24, Nat.reduceAdd, x4, i4, x7, i7, r1, k1, q, p1, z, h1, n10, q_g1, q_g1b, gd_t, ↓reduceIte]
        · simp only [X5_canPin, X5_has, s14, s14x, s0, s0x, x4, i4, x7, i7, r2, k2, q, p2, z, h2, n10, q_g1, q_g1b, gd_t, ob_s, ↓reduceIte]
      · refine Or.inl ⟨?_, ?_⟩
        · simp only [X2_canPin, X2_canPin_b24, Nat.reduceAdd, x4, i4, x7, i7, r1, k1, q, p1, z, h1, q_g0, q_g0b, gd_t, ↓reduceIte]
        · simp only [X5_canPin, X5_has, s14, s14x, s0, s0x, x4, i4, x7, i7, r2, k2, q, p2, z, h2, q_g0, q_g0b, gd_t, ob_s, ↓reduceIte]
    · have h2 : ¬ B 113 (s + g) = 1 := fun z => h1 (hon.mpr z)
      refine Or.inl ⟨?_, ?_⟩
      · by_cases q : ((nI r >>> (nI kk &&& 31)) &&& 1) = 1
        · simp only [X2_canPin, X2_canPin_b24, Nat.reduceAdd, x4, i4, x7, i7, r1, k1, q, p1, z, h1, q_g0, q_g0b, gd_t, ↓reduceIte]
        · simp only [X2_canPin, X2_canPin_b24, Nat.reduceAdd, x4, i4, x7, i7, r1, k1, q, p1, z, h1, q_g0, q_g0b, gd_t, ↓reduceIte]
      · simp only [X5_canPin, s14, s14x, s0, s0x, p2, z, h2, q_g0, q_g0b, gd_t, ↓reduceIte]
theorem q_pinn_loop {N F L m l : Nat} {A B : hM} (w : Int32) (hE : Ev A B N F L) (hS : Sd A B 26 0 N L m N) (hl : l < L) : ∀ (k g : Nat) (acc : Int32) (n1 n2 : Nat), g + k = N → k < n1 → k < n2 →
    ∃ R, X2_pinnableBy_l5 26 4 n1 (nI l) acc (nI g) A = some (R, A) ∧ X5_lady_l27 n2 (nI l) w acc (nI g) B = X5_lady_b64 (nI l) w R B := by
  intro k
  have hb := hE.1
  have eN := hE.2.1.1
  have fN := hE.2.1.2
  induction k with
  | zero =>
    intro g acc n1 n2 hik h1 h2
    obtain ⟨n1, rfl⟩ : ∃ n, n1 = n + 1 := ⟨n1 - 1, by omega⟩
    obtain ⟨n2, rfl⟩ : ∃ n, n2 = n + 1 := ⟨n2 - 1, by omega⟩
    obtain rfl : g = N := by omega
    have c1 : nI g ≤ nI g := nI_le (by omega) (by omega)
    refine ⟨acc, ?_, ?_⟩
    · show X2_pinnableBy_h5 26 4 _ (nI l) acc (nI g) A = _
      simp only [X2_pinnableBy_h5, eN, c1, ↓reduceIte]
    · show X5_lady_h27 _ (nI l) w acc (nI g) B = _
      simp only [X5_lady_h27, fN, c1, ↓reduceIte]
  | succ k ih =>
    intro g acc n1 n2 hik h1 h2
    obtain ⟨n1, rfl⟩ : ∃ n, n1 = n + 1 := ⟨n1 - 1, by omega⟩
    obtain ⟨n2, rfl⟩ : ∃ n, n2 = n + 1 := ⟨n2 - 1, by omega⟩
    have c1 : ¬ nI N ≤ nI g := nI_ge (by omega) (by omega)
    rcases q_canPin (s := 0) (by decide) hE hS hl (show g < N by omega) with ⟨e1, e2⟩ | ⟨e1, e2, -⟩
    · have e2 : X5_canPin 0 (nI l) (nI g) B = some (0, B) := e2
      obtain ⟨R, r1, r2⟩ := ih (g + 1) acc n1 n2 (by omega) (by omega) (by omega)
      refine ⟨R, ?_, ?_⟩
      · show X2_pinnableBy_h5 26 4 (X2_pinnableBy_l5 26 4 n1) (nI l) acc (nI g) A = _
        simp only [X2_pinnableBy_h5, eN, c1, e1, ob_s, nI_1, ↓reduceIte]
        exact r1
      · show X5_lady_h27 (X5_lady_l27 n2) (nI l) w acc (nI g) B = _
        simp only [X5_lady_h27, fN, c1, e2, q_or0, ob_s, nI_1, ↓reduceIte]
        exact r2
    · have e2 : X5_canPin 0 (nI l) (nI g) B = some (1, B) := e2
      obtain ⟨R, r1, r2⟩ := ih (g + 1) (acc ||| (1 <<< (nI g &&& 31))) n1 n2 (by omega) (by omega) (by omega)
      refine ⟨R, ?_, ?_⟩
      · show X2_pinnableBy_h5 26 4 (X2_pinnableBy_l5 26 4 n1) (nI l) acc (nI g) A = _
        simp only [X2_pinnableBy_h5, eN, c1, e1, n10, ob_s, nI_1, ↓reduceIte]
        exact r1
      · show X5_lady_h27 (X5_lady_l27 n2) (nI l) w acc (nI g) B = _
        simp only [X5_lady_h27, fN, c1, e2, n10, ob_s, nI_1, ↓reduceIte]
        exact r2
theorem op_lady (v w : Int32) : Op (X4_lady v w) (X5_lady v w) := Op.rd (by
  intro A B hI
  obtain ⟨N, F, L, m, hE, hm, hS, hx0, -, -, -, -⟩ := hI
  have hb := hE.1
  rcases pk_ix v (n := L) (by omega) with h | h | ⟨l, hl, rfl⟩
  · obtain ⟨e1, e2⟩ := q_lout hb.2.2 hE.2.2.2.1.1 hE.2.2.2.1.2 (Or.inl h)
    exact ⟨-1, by simp only [X4_lady, e1, ob_s, ↓reduceIte], by simp only [X5_lady, e2, ob_s, ↓reduceIte]⟩
  · obtain ⟨e1, e2⟩ := q_lout hb.2.2 hE.2.2.2.1.1 hE.2.2.2.1.2 (Or.inr h)
    exact ⟨-1, by simp only [X4_lady, e1, ob_s, ↓reduceIte], by simp only [X5_lady, e2, ob_s, ↓reduceIte]⟩
  · obtain ⟨e1, e2⟩ := q_lin hb.2.2 hE.2.2.2.1.1 hE.2.2.2.1.2 hl
    obtain ⟨r, hr, r1, r2⟩ := hE.2.2.2.2.2.2 l hl
    obtain ⟨k, hk9, p1, p2⟩ := hS.2.2.2.2 l hl
    rw [show 0 + 14 + l = 14 + l by omega] at p2
    have x4 : hx (nI l) 4 = true := q_hx (by omega) (by decide)
    have i4 : (nI l).toNatClampNeg = l := nI_clamp (by omega)
    obtain ⟨j14, j14x⟩ := q_14g (g := l) (by omega)
    obtain ⟨R, y1, y2⟩ := q_pinn_loop (A := A) (B := B) w hE hS hl N 0 0 hF hF (by omega) (show N < 1024 by omega) (show N < 1024 by omega)
    have y1 : X2_pinnableBy 26 4 (nI l) A = some (R, A) := y1
    have fin : X5_in w.toInt64 0 2 B = some (1, B) → X5_lady (nI l) w B = X5_lady_b64 (nI l) w R B := by
      intro h
      have y2 : X5_lady_l27 hF (nI l) w 0 0 B = X5_lady_b64 (nI l) w R B := y2
      simp only [X5_lady, e2, n10, h, y2, ob_s, ↓reduceIte]
    have rng : ∀ c : Nat, c ≤ 2 → X5_in (nI c).toInt64 0 2 B = some (1, B) := fun c hc => q_in1 (lo := 0) (hi := 2) (by decide) (by decide) ⟨nI_pos' (by omega), nI_le (b := 2) (by omega) (by decide)⟩ B
    by_cases h0 : w = 0
    · subst h0
      refine ⟨nI k, by simp only [X4_lady, e1, n10, x4, i4, gd_t, ob_s, ↓reduceIte]; rw [show A 30 l = nI k from p1], (fin (rng 0 (by decide))).trans (by simp only [X5_lady_b64, j14, j14x, p2, gd_t, ↓reduceIte])⟩
    · by_cases h1 : w = 1
      · subst h1
        refine ⟨nI r, by simp only [X4_lady, e1, n10, x4, i4, r1, gd_t, ob_s, ↓reduceIte], (fin (rng 1 (by decide))).trans (by simp only [X5_lady_b64, n10, x4, i4, r2, gd_t, ↓reduceIte])⟩
      · by_cases h2 : w = 2
        · subst h2
          refine ⟨R, by simp only [X4_lady, e1, n10, h0, h1, y1, gd_t, ob_s, ↓reduceIte], (fin (rng 2 (by decide))).trans (by simp only [X5_lady_b64, h0, h1, ↓reduceIte])⟩
        · have r0 : X5_in w.toInt64 0 2 B = some (0, B) := by
            refine q_in0 (lo := 0) (hi := 2) (by decide) (by decide) ?_ B
            rintro ⟨z1, z2⟩
            obtain ⟨c, c1, c2, rfl⟩ := q_nat (lo := 0) (hi := 2) z1 z2 (by decide) (by decide)
            rcases (show c = 0 ∨ c = 1 ∨ c = 2 by omega) with rfl | rfl | rfl
            · exact h0 rfl
            · exact h1 rfl
            · exact h2 rfl
          exact ⟨-1, by simp only [X4_lady, e1, n10, h0, h1, h2, ob_s, ↓reduceIte], by simp only [X5_lady, e2, n10, r0, ob_s, ↓reduceIte]⟩)
