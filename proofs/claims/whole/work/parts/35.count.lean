theorem q_pins_loop {p s N F L m x : Nat} {A B : hM} (hs : s ≤ 220) (hE : Ev A B N F L) (hS : Sd A B p s N L m x) : ∀ (r l : Nat) (acc : Int32) (n1 n2 : Nat), l + r = L → r < n1 → r < n2 → ∃ V, X2_pinsOfAll_l4 p 4 n1 acc (nI l) A = some (V, A) ∧ X5_pins_l4 n2 (nI s) acc (nI l) B = some (V, B) := by
  intro r
  have hb := hE.1
  have eL := hE.2.2.2.1.1
  have fL := hE.2.2.2.1.2
  induction r with
  | zero =>
    intro l acc n1 n2 hl h1 h2
    obtain ⟨n1, rfl⟩ : ∃ n, n1 = n + 1 := ⟨n1 - 1, by omega⟩
    obtain ⟨n2, rfl⟩ : ∃ n, n2 = n + 1 := ⟨n2 - 1, by omega⟩
    obtain rfl : l = L := by omega
    have c1 : nI l ≤ nI l := nI_le (by omega) (by omega)
    refine ⟨acc, ?_, ?_⟩
    · show X2_pinsOfAll_h4 p 4 _ acc (nI l) A = _
      simp only [X2_pinsOfAll_h4, eL, c1, ↓reduceIte]
    · show X5_pins_h4 _ (nI s) acc (nI l) B = _
      simp only [X5_pins_h4, fL, c1, ↓reduceIte]
  | succ r ih =>
    intro l acc n1 n2 hl h1 h2
    obtain ⟨n1, rfl⟩ : ∃ n, n1 = n + 1 := ⟨n1 - 1, by omega⟩
    obtain ⟨n2, rfl⟩ : ∃ n, n2 = n + 1 := ⟨n2 - 1, by omega⟩
    have c1 : ¬ nI L ≤ nI l := nI_ge (by omega) (by omega)
    have x4 : hx (nI l) 4 = true := q_hx (by omega) (by decide)
    have i4 : (nI l).toNatClampNeg = l := nI_clamp (by omega)
    obtain ⟨t14, t14x⟩ := q_s14 (s := s) (g := l) hs (by omega)
    obtain ⟨k, hk9, p1, p2⟩ := hS.2.2.2.2 l (by omega)
    obtain ⟨V, g1, g2⟩ := ih (l + 1) (acc + nI k) n1 n2 (by omega) (by omega) (by omega)
    refine ⟨V, ?_, ?_⟩
    · show X2_pinsOfAll_h4 p 4 (X2_pinsOfAll_l4 p 4 n1) acc (nI l) A = _
      simp only [X2_pinsOfAll_h4, eL, c1, x4, i4, p1, gd_t, nI_1, ↓reduceIte]
      exact g1
    · show X5_pins_h4 (X5_pins_l4 n2) (nI s) acc (nI l) B = _
      simp only [X5_pins_h4, fL, c1, t14, t14x, p2, gd_t, nI_1, ↓reduceIte]
      exact g2
theorem q_pins {p s N F L m x : Nat} {A B : hM} (hs : s ≤ 220) (hE : Ev A B N F L) (hS : Sd A B p s N L m x) : ∃ V, X2_pinsOfAll p 4 A = some (V, A) ∧ X5_pins (nI s) B = some (V, B) := by
  have hb := hE.1
  obtain ⟨V, g1, g2⟩ := q_pins_loop hs hE hS L 0 0 hF hF (by omega) (show L < 1024 by omega) (show L < 1024 by omega)
  rw [nI_0] at g1 g2
  exact ⟨V, g1, g2⟩
theorem q_drawE {a j : Nat} (ha : a ≤ 9999) (hj : j ≤ 60) : (((((((7919 : Int64) * (nI a).toInt64) + ((6151 : Int64) * (nI j).toInt64)) + (1 : Int64)) * ((((7919 : Int64) * (nI a).toInt64) + ((6151 : Int64) * (nI j).toInt64)) + (1 : Int64))) - (((((7919 : Int64) * (nI a).toInt64) + ((6151 : Int64) * (nI j).toInt64)) + (1 : Int64)) * ((((7919 : Int64) * (nI a).toInt64) + ((6151 : Int64) * (nI j).toInt64)) + (1 : Int64))) / (65521 : Int64) * (65521 : Int64))).toInt32 = nI ((7919 * a + 6151 * j + 1) * (7919 * a + 6151 * j + 1) % 65521) := by
  rw [nI_l (by omega), nI_l (by omega), show (7919 : Int64) = lN 7919 from rfl, show (6151 : Int64) = lN 6151 from rfl, show (1 : Int64) = lN 1 from rfl, show (65521 : Int64) = lN 65521 from rfl, lN_mul, lN_mul, lN_add, lN_add, lN_mul]
  have h1 : 7919 * a + 6151 * j + 1 ≤ 80000000 := by omega
  have h2 := Nat.mul_le_mul h1 h1
  rw [pk_lRem (by omega) (by decide) (by decide), lN_i]
theorem q_season_loop {N F L x a n : Nat} (ha : a ≤ 9999) (hn : n ≤ 60) (w : Int32) : ∀ (r j m : Nat) (A B : hM) (n1 n2 : Nat), j + r = n → r < n1 → r < n2 → m + r ≤ 2800 → Ev A B N F L → Sd A B 31 220 N L m x → Ab B x N →
    ∃ R A1 B1, X4_season_l45 n1 (nI a) (nI n) w (nI j) A = some (R, A1) ∧ X5_season_l47 n2 (nI a) (nI n) w (nI j) B = some (R, B1) ∧ Fr A A1 B B1 31 220 := by
  intro r
  induction r with
  | zero =>
    intro j m A B n1 n2 hj h1 h2 hm hE hS hab
    obtain ⟨n1, rfl⟩ : ∃ n, n1 = n + 1 := ⟨n1 - 1, by omega⟩
    obtain ⟨n2, rfl⟩ : ∃ n, n2 = n + 1 := ⟨n2 - 1, by omega⟩
    obtain rfl : j = n := by omega
    have c1 : nI j ≤ nI j := nI_le (by omega) (by omega)
    have k2 : A 31 1 = B 113 239 := hS.2.1
    obtain ⟨V, p1, p2⟩ := q_pins (s := 220) (by decide) hE hS
    have p2 : X5_pins 220 B = some (V, B) := p2
    by_cases hw : w = 0
    · refine ⟨A 31 1 + 10000, A, B, ?_, ?_, Fr.rf⟩
      · show X4_season_h45 _ (nI a) (nI j) w (nI j) A = _
        unfold X4_season_h45 X4_season_b79
        rw [if_pos c1, if_pos hw]
      · show X5_season_h47 _ (nI a) (nI j) w (nI j) B = _
        unfold X5_season_h47 X5_season_b109
        rw [if_pos c1, if_pos hw, q239.2, gd_t, q239.1, k2]
    · refine ⟨V, A, B, ?_, ?_, Fr.rf⟩
      · show X4_season_h45 _ (nI a) (nI j) w (nI j) A = _
        unfold X4_season_h45 X4_season_b79
        rw [if_pos c1, if_neg hw, p1, ob_s]
      · show X5_season_h47 _ (nI a) (nI j) w (nI j) B = _
        unfold X5_season_h47 X5_season_b109
        rw [if_pos c1, if_neg hw, p2, ob_s]
  | succ r ih =>
    intro j m A B n1 n2 hj h1 h2 hm hE hS hab
    obtain ⟨n1, rfl⟩ : ∃ n, n1 = n + 1 := ⟨n1 - 1, by omega⟩
    obtain ⟨n2, rfl⟩ : ∃ n, n2 = n + 1 := ⟨n2 - 1, by omega⟩
    have hb := hE.1
    have eL := hE.2.2.2.1.1
    have fL := hE.2.2.2.1.2
    have c1 : ¬ nI n ≤ nI j := nI_ge (by omega) (by omega)
    have dr := q_drawE ha (show j ≤ 60 by omega)
    have hd : (7919 * a + 6151 * j + 1) * (7919 * a + 6151 * j + 1) % 65521 < 65536 := Nat.lt_trans (Nat.mod_lt _ (by decide)) (by decide)
    have g65 : ∀ k, gd (decide (¬ (65521 : Int64) = 0)) k = k := fun k => by
      have z : ¬ (65521 : Int64) = 0 := by decide
      rw [decide_eq_true z, gd_t]
    generalize (7919 * a + 6151 * j + 1) * (7919 * a + 6151 * j + 1) % 65521 = d at dr hd
    have edr : X4_draw (nI a) (nI j) A = some (nI d, A) := by
      unfold X4_draw
      rw [g65, dr]
    have fin : ∀ A0 B0 : hM, X4_actInTrial (nI d) A = some (0, A0) → (X5_season_h47 (X5_season_l47 n2) (nI a) (nI n) w (nI j) B = X5_season_b95 (X5_season_l47 n2) (nI a) (nI n) w (nI j) B0) → Sd A0 B0 31 220 N L m x → Fr A A0 B B0 31 220 → ∃ R A1 B1, X4_season_l45 (n1 + 1) (nI a) (nI n) w (nI j) A = some (R, A1) ∧ X5_season_l47 (n2 + 1) (nI a) (nI n) w (nI j) B = some (R, B1) ∧ Fr A A1 B B1 31 220 := by
      intro A0 B0 e1 e2 hS0 hF0
      obtain ⟨A1', S, A2, B2, s1, s2, s3, s4, s5, s6⟩ := q_step (s := 220) (Or.inr rfl) (by decide) (by omega) (hE.fr (Or.inr rfl) hF0) hS0 (hab.fr hF0)
      have s4 : X5_minutes 220 1 B0 = some (0, B2) := s4
      have s3 := q_one s1 s2 s3
      have ff := hF0.tr s6
      obtain ⟨R, A3, B3, k1, k2, k3⟩ := ih (j + 1) (m + 1) A2 B2 n1 n2 (by omega) (by omega) (by omega) (by omega) (hE.fr (Or.inr rfl) ff) s5 (hab.fr ff)
      refine ⟨R, A3, B3, ?_, ?_, ff.tr k3⟩
      · show X4_season_h45 (X4_season_l45 n1) (nI a) (nI n) w (nI j) A = _
        unfold X4_season_h45
        rw [if_neg c1, edr, ob_s, e1, ob_s, s3, ob_s, nI_1]
        exact k1
      · show X5_season_h47 (X5_season_l47 n2) (nI a) (nI n) w (nI j) B = _
        rw [e2]
        unfold X5_season_b95
        rw [s4, ob_s, nI_1]
        exact k2
    by_cases hL : L = 0
    · have cl : nI L < 1 := by rw [hL]; decide
      have cl2 : nI L ≤ 0 := by rw [hL]; decide
      refine fin A B ?_ ?_ hS Fr.rf
      · unfold X4_actInTrial
        rw [eL, if_pos cl]
      · unfold X5_season_h47
        rw [if_neg c1, fL, if_pos cl2]
    · have cl2 : ¬ nI L ≤ 0 := nI_nle (by omega) (by omega)
      obtain ⟨A0, B0, d1, d2, d3, d4⟩ := q_does (s := 220) (by decide) (by omega) hE hS hab (by omega) hd
      have d2 : X5_does 220 (nI d) B = some (0, B0) := d2
      refine fin A0 B0 d1 ?_ d3 d4
      unfold X5_season_h47
      rw [if_neg c1, fL, if_neg cl2, g65, dr, d2, ob_s]
theorem q_r0 (v c : Int32) (cl : Int64) (hi : Nat) (hc : c = nI hi) (hcl : cl = c.toInt64) (hh : hi < 2 ^ 31) : (v < 0 ∧ ∀ B, X5_in v.toInt64 0 cl B = some (0, B)) ∨ (¬ v < 0 ∧ c < v ∧ ∀ B, X5_in v.toInt64 0 cl B = some (0, B)) ∨ ∃ a, a ≤ hi ∧ v = nI a ∧ ¬ v < 0 ∧ ¬ c < v ∧ ∀ B, X5_in v.toInt64 0 cl B = some (1, B) := by
  have e0 : (0 : Int64) = (0 : Int32).toInt64 := by decide
  rcases q_rng v hh with h | ⟨h0, h⟩ | ⟨a, ha, rfl⟩
  · exact Or.inl ⟨h, fun B => q_in0 (lo := 0) (hi := c) e0 hcl (fun z => by have y := z.1; rw [q_le] at y; rw [q_lt] at h; omega) B⟩
  · rw [← hc] at h
    exact Or.inr (Or.inl ⟨h0, h, fun B => q_in0 (lo := 0) (hi := c) e0 hcl (fun z => by have y := z.2; rw [q_le] at y; rw [q_lt] at h; omega) B⟩)
  · refine Or.inr (Or.inr ⟨a, ha, rfl, nI_pos (by omega), by rw [hc]; exact nI_nlt ha hh, fun B => q_in1 (lo := 0) (hi := c) e0 hcl ⟨nI_pos' (by omega), by rw [hc]; exact nI_le ha hh⟩ B⟩)
theorem q_r1 (v c : Int32) (cl : Int64) (hi : Nat) (hc : c = nI hi) (hcl : cl = c.toInt64) (hh : hi < 2 ^ 31) : (v < 1 ∧ ∀ B, X5_in v.toInt64 1 cl B = some (0, B)) ∨ (¬ v < 1 ∧ c < v ∧ ∀ B, X5_in v.toInt64 1 cl B = some (0, B)) ∨ ∃ a, 1 ≤ a ∧ a ≤ hi ∧ v = nI a ∧ ¬ v < 1 ∧ ¬ c < v ∧ ∀ B, X5_in v.toInt64 1 cl B = some (1, B) := by
  have e0 : (1 : Int64) = (1 : Int32).toInt64 := by decide
  have z0 : (0 : Int32).toInt = 0 := by decide
  have z1 : (1 : Int32).toInt = 1 := by decide
  have low : v < 1 → (v < 1 ∧ ∀ B, X5_in v.toInt64 1 cl B = some (0, B)) := fun h => ⟨h, fun B => q_in0 (lo := 1) (hi := c) e0 hcl (fun z => by have y := z.1; rw [q_le] at y; rw [q_lt] at h; omega) B⟩
  rcases q_rng v hh with h | ⟨h0, h⟩ | ⟨a, ha, rfl⟩
  · exact Or.inl (low (by rw [q_lt] at h ⊢; omega))
  · by_cases h1 : v < 1
    · exact Or.inl (low h1)
    · rw [← hc] at h
      exact Or.inr (Or.inl ⟨h1, h, fun B => q_in0 (lo := 1) (hi := c) e0 hcl (fun z => by have y := z.2; rw [q_le] at y; rw [q_lt] at h; omega) B⟩)
  · by_cases h1 : nI a < 1
    · exact Or.inl (low h1)
    · have ha1 : 1 ≤ a := by
        rw [q_lt, nI_toInt (by omega)] at h1
        omega
      exact Or.inr (Or.inr ⟨a, ha1, ha, rfl, h1, by rw [hc]; exact nI_nlt ha hh, fun B => q_in1 (lo := 1) (hi := c) e0 hcl ⟨by rw [q_le, nI_toInt (by omega)]; omega, by rw [hc]; exact nI_le ha hh⟩ B⟩)
theorem q_9999 : (9999 : Int32) = nI 9999 ∧ (9999 : Int64) = (9999 : Int32).toInt64 := by decide +kernel
theorem q_999 : (999 : Int32) = nI 999 ∧ (999 : Int64) = (999 : Int32).toInt64 := by decide +kernel
theorem q_60 : (60 : Int32) = nI 60 ∧ (60 : Int64) = (60 : Int32).toInt64 := by decide +kernel
theorem q_24 : (24 : Int32) = nI 24 ∧ (24 : Int64) = (24 : Int32).toInt64 := by decide +kernel
theorem q_20 : (20 : Int32) = nI 20 ∧ (20 : Int64) = (20 : Int32).toInt64 := by decide +kernel
theorem q_10 : (10 : Int32) = nI 10 ∧ (10 : Int64) = (10 : Int32).toInt64 := by decide +kernel
theorem op_season (v n w : Int32) : Op (X4_season v n w) (X5_season v n w) := Op.tr (by
  intro A B hI
  obtain ⟨N, F, L, m, hSt⟩ := q_st hI
  rcases q_r0 v 9999 9999 9999 q_9999.1 q_9999.2 (by decide) with ⟨h, e⟩ | ⟨h0, h, e⟩ | ⟨a, ha, rfl, c0, c1, e⟩
  · refine ⟨-1, A, B, ?_, ?_, Fr.rf⟩
    · unfold X4_season
      rw [if_pos h]
    · unfold X5_season
      rw [e, ob_s, if_pos rfl]
  · refine ⟨-1, A, B, ?_, ?_, Fr.rf⟩
    · unfold X4_season
      rw [if_neg h0, if_pos h]
    · unfold X5_season
      rw [e, ob_s, if_pos rfl]
  · rcases q_r1 n 60 60 60 q_60.1 q_60.2 (by decide) with ⟨h, e2⟩ | ⟨h0, h, e2⟩ | ⟨c, hc1, hc, rfl, d0, d1, e2⟩
    · refine ⟨-1, A, B, ?_, ?_, Fr.rf⟩
      · unfold X4_season
        rw [if_neg c0, if_neg c1, if_pos h]
      · unfold X5_season
        rw [e, ob_s, if_neg n10, e2, ob_s, if_pos rfl]
    · refine ⟨-1, A, B, ?_, ?_, Fr.rf⟩
      · unfold X4_season
        rw [if_neg c0, if_neg c1, if_neg h0, if_pos h]
      · unfold X5_season
        rw [e, ob_s, if_neg n10, e2, ob_s, if_pos rfl]
    · rcases q_either w A B with ⟨f1, f2, -⟩ | ⟨f1, f2, -⟩
      · refine ⟨-1, A, B, ?_, ?_, Fr.rf⟩
        · unfold X4_season
          rw [if_neg c0, if_neg c1, if_neg d0, if_neg d1, f1, ob_s, if_pos rfl]
        · unfold X5_season
          rw [e, ob_s, if_neg n10, e2, ob_s, if_neg n10, f2, ob_s, if_pos rfl]
      · obtain ⟨hE, hm, hS, hab⟩ := hSt
        obtain ⟨A1, B1, t1, t2, t3, t4⟩ := q_try hE hS
        obtain ⟨R, A2, B2, g1, g2, g3⟩ := q_season_loop (N := N) (F := F) (L := L) ha hc w c 0 m A1 B1 hF hF (by omega) (show c < 1024 by omega) (show c < 1024 by omega) (by omega) (hE.fr (Or.inr rfl) t4) t3 (hab.fr t4)
        rw [nI_0] at g1 g2
        refine ⟨R, A2, B2, ?_, ?_, t4.tr g3⟩
        · unfold X4_season
          rw [if_neg c0, if_neg c1, if_neg d0, if_neg d1, f1, ob_s, if_neg n10, t1, ob_s]
          exact g1
        · unfold X5_season
          rw [e, ob_s, if_neg n10, e2, ob_s, if_neg n10, f2, ob_s, if_neg n10, t2, ob_s]
          exact g2)
theorem q_many_loop {N F L m : Nat} {A B : hM} (v : Int32) (hE : Ev A B N F L) (hS : Sd A B 26 0 N L m N) : ∀ (r g : Nat) (acc : Int32) (n1 n2 : Nat), g + r = N → r < n1 → r < n2 → ∃ V, X2_howMany_l5 26 4 n1 v acc (nI g) A = some (V, A) ∧ X5_manyOf_l4 n2 v acc (nI g) B = some (V, B) := by
  intro r
  have hb := hE.1
  have eN := hE.2.1.1
  have fN := hE.2.1.2
  induction r with
  | zero =>
    intro g acc n1 n2 hl h1 h2
    obtain ⟨n1, rfl⟩ : ∃ n, n1 = n + 1 := ⟨n1 - 1, by omega⟩
    obtain ⟨n2, rfl⟩ : ∃ n, n2 = n + 1 := ⟨n2 - 1, by omega⟩
    obtain rfl : g = N := by omega
    have c1 : nI g ≤ nI g := nI_le (by omega) (by omega)
    refine ⟨acc, ?_, ?_⟩
    · show X2_howMany_h5 26 4 _ v acc (nI g) A = _
      simp only [X2_howMany_h5, eN, c1, ↓reduceIte]
    · show X5_manyOf_h4 _ v acc (nI g) B = _
      simp only [X5_manyOf_h4, fN, c1, ↓reduceIte]
  | succ r ih =>
    intro g acc n1 n2 hl h1 h2
    obtain ⟨n1, rfl⟩ : ∃ n, n1 = n + 1 := ⟨n1 - 1, by omega⟩
    obtain ⟨n2, rfl⟩ : ∃ n, n2 = n + 1 := ⟨n2 - 1, by omega⟩
    have c1 : ¬ nI N ≤ nI g := nI_ge (by omega) (by omega)
    have x7 : hx (nI g) 7 = true := q_hx (by omega) (by decide)
    have x240 : hx (nI g) 240 = true := q_hx (by omega) (by decide)
    have i7 : (nI g).toNatClampNeg = g := nI_clamp (by omega)
    have hst := (hS.2.2.2.1 g (by omega)).st (by omega)
    rw [Nat.zero_add] at hst
    have hst : A 27 g = B 113 g := hst
    by_cases q : B 113 g = v
    · obtain ⟨V, g1, g2⟩ := ih (g + 1) (acc + 1) n1 n2 (by omega) (by omega) (by omega)
      refine ⟨V, ?_, ?_⟩
      · show X2_howMany_h5 26 4 (X2_howMany_l5 26 4 n1) v acc (nI g) A = _
        simp only [X2_howMany_h5, Nat.reduceAdd, eN, c1, x7, i7, hst, q, gd_t, nI_1, ↓reduceIte]
        exact g1
      · show X5_manyOf_h4 (X5_manyOf_l4 n2) v acc (nI g) B = _
        simp only [X5_manyOf_h4, fN, c1, x240, i7, q, gd_t, nI_1, ↓reduceIte]
        exact g2
    · obtain ⟨V, g1, g2⟩ := ih (g + 1) acc n1 n2 (by omega) (by omega) (by omega)
      refine ⟨V, ?_, ?_⟩
      · show X2_howMany_h5 26 4 (X2_howMany_l5 26 4 n1) v acc (nI g) A = _
        simp only [X2_howMany_h5, Nat.reduceAdd, eN, c1, x7, i7, hst, q, gd_t, nI_1, ↓reduceIte]
        exact g1
      · show X5_manyOf_h4 (X5_manyOf_l4 n2) v acc (nI g) B = _
        simp only [X5_manyOf_h4, fN, c1, x240, i7, q, Int32.add_zero, gd_t, nI_1, ↓reduceIte]
        exact g2
theorem q_many {N F L m : Nat} {A B : hM} (v : Int32) (hE : Ev A B N F L) (hS : Sd A B 26 0 N L m N) : ∃ V, X2_howMany 26 4 v A = some (V, A) ∧ X5_manyOf v B = some (V, B) := by
  have hb := hE.1
  obtain ⟨V, g1, g2⟩ := q_many_loop v hE hS N 0 0 hF hF (by omega) (show N < 1024 by omega) (show N < 1024 by omega)
  rw [nI_0] at g1 g2
  exact ⟨V, g1, g2⟩
theorem op_count (v : Int32) : Op (X4_count v) (X5_count v) := Op.rd (by
  intro A B hI
  obtain ⟨N, F, L, m, hE, hm, hS, hx0, hT, hNo, hU, hK⟩ := hI
  obtain ⟨T, -, t1, t2, -⟩ := hT
  obtain ⟨Q, -, o1, o2, -⟩ := hNo
  obtain ⟨U, -, u1, u2, -⟩ := hU
  obtain ⟨V, -, k1, k2, -⟩ := hK
  have a1 : B 113 18 = nI m := hS.1.2
  have a2 : A 26 1 = B 113 19 := hS.2.1
  have i18 : (18 : Int32).toNatClampNeg = 18 := by decide
  have x18 : hx 18 240 = true := by decide
  have i19 : (19 : Int32).toNatClampNeg = 19 := by decide
  have x19 : hx 19 240 = true := by decide
  obtain ⟨m0, b1, b2⟩ := q_many 0 hE hS
  obtain ⟨m1, b3, b4⟩ := q_many 1 hE hS
  obtain ⟨m2, b5, b6⟩ := q_many 2 hE hS
  obtain ⟨m3, b7, b8⟩ := q_many 3 hE hS
  obtain ⟨pp, b9, b10⟩ := q_pins (s := 0) (by decide) hE hS
  have b10 : X5_pins 0 B = some (pp, B) := b10
  by_cases h0 : v = 0
  · refine ⟨nI N, ?_, ?_⟩
    · unfold X4_count
      rw [if_pos h0, hE.2.1.1]
    · unfold X5_count
      rw [if_pos h0, hE.2.1.2]
  by_cases h1 : v = 1
  · refine ⟨nI L, ?_, ?_⟩
    · unfold X4_count
      rw [if_neg h0, if_pos h1, hE.2.2.2.1.1]
    · unfold X5_count
      rw [if_neg h0, if_pos h1, hE.2.2.2.1.2]
  by_cases h2 : v = 2
  · refine ⟨nI m, ?_, ?_⟩
    · unfold X4_count
      rw [if_neg h0, if_neg h1, if_pos h2, hS.1.1]
    · unfold X5_count
      rw [if_neg h0, if_neg h1, if_pos h2, x18, gd_t, i18, a1]
  by_cases h3 : v = 3
  · refine ⟨m0, ?_, ?_⟩
    · unfold X4_count
      rw [if_neg h0, if_neg h1, if_neg h2, if_pos h3, b1, ob_s]
    · unfold X5_count
      rw [if_neg h0, if_neg h1, if_neg h2, if_pos h3, b2, ob_s]
  by_cases h4 : v = 4
  · refine ⟨m1, ?_, ?_⟩
    · unfold X4_count
      rw [if_neg h0, if_neg h1, if_neg h2, if_neg h3, if_pos h4, b3, ob_s]
    · unfold X5_count
      rw [if_neg h0, if_neg h1, if_neg h2, if_neg h3, if_pos h4, b4, ob_s]
  by_cases h5 : v = 5
  · refine ⟨m2, ?_, ?_⟩
    · unfold X4_count
      rw [if_neg h0, if_neg h1, if_neg h2, if_neg h3, if_neg h4, if_pos h5, b5, ob_s]
    · unfold X5_count
      rw [if_neg h0, if_neg h1, if_neg h2, if_neg h3, if_neg h4, if_pos h5, b6, ob_s]
  by_cases h6 : v = 6
  · refine ⟨m3, ?_, ?_⟩
    · unfold X4_count
      rw [if_neg h0, if_neg h1, if_neg h2, if_neg h3, if_neg h4, if_neg h5, if_pos h6, b7, ob_s]
    · unfold X5_count
      rw [if_neg h0, if_neg h1, if_neg h2, if_neg h3, if_neg h4, if_neg h5, if_pos h6, b8, ob_s]
  by_cases h7 : v = 7
  · refine ⟨B 113 19 + 10000, ?_, ?_⟩
    · unfold X4_count
      rw [if_neg h0, if_neg h1, if_neg h2, if_neg h3, if_neg h4, if_neg h5, if_neg h6, if_pos h7, a2]
    · unfold X5_count
      rw [if_neg h0, if_neg h1, if_neg h2, if_neg h3, if_neg h4, if_neg h5, if_neg h6, if_pos h7, x19, gd_t, i19]
  by_cases h8 : v = 8
  · refine ⟨pp, ?_, ?_⟩
    · unfold X4_count
      rw [if_neg h0, if_neg h1, if_neg h2, if_neg h3, if_neg h4, if_neg h5, if_neg h6, if_neg h7, if_pos h8, b9, ob_s]
    · unfold X5_count
      rw [if_neg h0, if_neg h1, if_neg h2, if_neg h3, if_neg h4, if_neg h5, if_neg h6, if_neg h7, if_pos h8, b10, ob_s]
  by_cases h9 : v = 9
  · refine ⟨nI Q, ?_, ?_⟩
    · unfold X4_count
      rw [if_neg h0, if_neg h1, if_neg h2, if_neg h3, if_neg h4, if_neg h5, if_neg h6, if_neg h7, if_neg h8, if_pos h9, o1]
    · unfold X5_count
      rw [if_neg h0, if_neg h1, if_neg h2, if_neg h3, if_neg h4, if_neg h5, if_neg h6, if_neg h7, if_neg h8, if_pos h9, o2]
  by_cases h10 : v = 10
  · refine ⟨nI U, ?_, ?_⟩
    · unfold X4_count
      rw [if_neg h0, if_neg h1, if_neg h2, if_neg h3, if_neg h4, if_neg h5, if_neg h6, if_neg h7, if_neg h8, if_neg h9, if_pos h10, u1]
    · unfold X5_count
      rw [if_neg h0, if_neg h1, if_neg h2, if_neg h3, if_neg h4, if_neg h5, if_neg h6, if_neg h7, if_neg h8, if_neg h9, if_pos h10, u2]
  by_cases h11 : v = 11
  · refine ⟨nI V, ?_, ?_⟩
    · unfold X4_count
      rw [if_neg h0, if_neg h1, if_neg h2, if_neg h3, if_neg h4, if_neg h5, if_neg h6, if_neg h7, if_neg h8, if_neg h9, if_neg h10, if_pos h11, k1]
    · unfold X5_count
      rw [if_neg h0, if_neg h1, if_neg h2, if_neg h3, if_neg h4, if_neg h5, if_neg h6, if_neg h7, if_neg h8, if_neg h9, if_neg h10, if_pos h11, k2]
  by_cases h12 : v = 12
  · refine ⟨nI T, ?_, ?_⟩
    · unfold X4_count
      rw [if_neg h0, if_neg h1, if_neg h2, if_neg h3, if_neg h4, if_neg h5, if_neg h6, if_neg h7, if_neg h8, if_neg h9, if_neg h10, if_neg h11, if_pos h12, t1]
    · unfold X5_count
      rw [if_neg h0, if_neg h1, if_neg h2, if_neg h3, if_neg h4, if_neg h5, if_neg h6, if_neg h7, if_neg h8, if_neg h9, if_neg h10, if_neg h11, if_pos h12, t2]
  refine ⟨-1, ?_, ?_⟩
  · unfold X4_count
    rw [if_neg h0, if_neg h1, if_neg h2, if_neg h3, if_neg h4, if_neg h5, if_neg h6, if_neg h7, if_neg h8, if_neg h9, if_neg h10, if_neg h11, if_neg h12]
  · unfold X5_count
    rw [if_neg h0, if_neg h1, if_neg h2, if_neg h3, if_neg h4, if_neg h5, if_neg h6, if_neg h7, if_neg h8, if_neg h9, if_neg h10, if_neg h11, if_neg h12])
