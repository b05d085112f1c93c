def sfr (M : Nat → Bool) : Nat → Nat → Int32
  | _, 0 => 1
  | j, k + 1 => if M j = true then sfr M (j + 1) k else 0
theorem sfr_01 (M : Nat → Bool) : ∀ k j, sfr M j k = 0 ∨ sfr M j k = 1 := by
  intro k
  induction k with
  | zero => intro j; exact Or.inr rfl
  | succ k ih =>
    intro j
    show (if M j = true then sfr M (j + 1) k else 0) = 0 ∨ (if M j = true then sfr M (j + 1) k else 0) = 1
    by_cases h : M j = true
    · rw [if_pos h]
      exact ih (j + 1)
    · rw [if_neg h]
      exact Or.inl rfl
def nMs (A : hM) (k i w : Int32) (j : Nat) : Bool := decide (wv k i w (A 90 j) = A 91 j)
theorem q_soC_loop {A : hM} {Q : Nat} (hQ : Q ≤ 8) (h1 : A 0 9 = nI Q) (v1 v2 v3 : Int32) : ∀ (k j n1 : Nat), j + k = Q → k < n1 → X4_allNotedSo_l3 n1 v1 v2 v3 (nI j) A = some (sfr (nMs A v1 v2 v3) j k, A) := by
  intro k
  induction k with
  | zero =>
    intro j n1 h h2
    obtain ⟨n1, rfl⟩ : ∃ n, n1 = n + 1 := ⟨n1 - 1, by omega⟩
    obtain rfl : j = Q := by omega
    have c1 : nI j ≤ nI j := nI_le (by omega) (by omega)
    show X4_allNotedSo_h3 _ v1 v2 v3 (nI j) A = _
    simp only [X4_allNotedSo_h3, h1, c1, q_g1, q_g1b, q_g1c, ↓reduceIte]
    rfl
  | succ k ih =>
    intro j n1 h h2
    obtain ⟨n1, rfl⟩ : ∃ n, n1 = n + 1 := ⟨n1 - 1, by omega⟩
    have c1 : ¬ nI Q ≤ nI j := nI_ge (by omega) (by omega)
    have c2 : ¬ (8 : Int32) ≤ nI j := nI_ge (b := 8) (by omega) (by decide)
    have x8 : hx (nI j) 8 = true := q_hx (by omega) (by decide)
    have i8 : (nI j).toNatClampNeg = j := nI_clamp (by omega)
    show X4_allNotedSo_h3 (X4_allNotedSo_l3 n1) v1 v2 v3 (nI j) A = some (if nMs A v1 v2 v3 j = true then sfr (nMs A v1 v2 v3) (j + 1) k else 0, A)
    by_cases q : wv v1 v2 v3 (A 90 j) = A 91 j
    · have q2 : nMs A v1 v2 v3 j = true := decide_eq_true q
      rw [if_pos q2]
      simp only [X4_allNotedSo_h3, h1, c1, c2, x8, i8, q_worthC, q, gd_t, ob_s, nI_1, ↓reduceIte]
      exact ih (j + 1) n1 (by omega) (by omega)
    · have q2 : ¬ nMs A v1 v2 v3 j = true := fun z => q (of_decide_eq_true z)
      rw [if_neg q2]
      simp only [X4_allNotedSo_h3, h1, c1, c2, x8, i8, q_worthC, q, q_g0, q_g0b, gd_t, ob_s, ↓reduceIte]
theorem q_soM0 {B : hM} {Q : Nat} (hQ : Q ≤ 8) (h1 : B 92 34 = nI Q) (v1 v2 v3 : Int32) : ∀ (k j n1 : Nat), j + k = Q → k < n1 → X5_isSo_l6 n1 v1 v2 v3 0 (nI j) B = some (0, B) := by
  intro k
  induction k with
  | zero =>
    intro j n1 h h2
    obtain ⟨n1, rfl⟩ : ∃ n, n1 = n + 1 := ⟨n1 - 1, by omega⟩
    obtain rfl : j = Q := by omega
    have c1 : nI j ≤ nI j := nI_le (by omega) (by omega)
    show X5_isSo_h6 _ v1 v2 v3 0 (nI j) B = _
    simp only [X5_isSo_h6, h1, c1, q_g0, q_g0b, ↓reduceIte]
  | succ k ih =>
    intro j n1 h h2
    obtain ⟨n1, rfl⟩ : ∃ n, n1 = n + 1 := ⟨n1 - 1, by omega⟩
    have c1 : ¬ nI Q ≤ nI j := nI_ge (by omega) (by omega)
    show X5_isSo_h6 (X5_isSo_l6 n1) v1 v2 v3 0 (nI j) B = _
    simp only [X5_isSo_h6, h1, c1, nI_1, ↓reduceIte]
    exact ih (j + 1) n1 (by omega) (by omega)
theorem q_soM_loop {A B : hM} {Q : Nat} (hQ : Q ≤ 8) (h1 : B 92 34 = nI Q) (hAB : ∀ i, i < Q → A 90 i = B 115 i ∧ A 91 i = B 116 i) (v1 v2 v3 : Int32) : ∀ (k j n1 : Nat), j + k = Q → k < n1 → X5_isSo_l6 n1 v1 v2 v3 1 (nI j) B = some (sfr (nMs A v1 v2 v3) j k, B) := by
  intro k
  induction k with
  | zero =>
    intro j n1 h h2
    obtain ⟨n1, rfl⟩ : ∃ n, n1 = n + 1 := ⟨n1 - 1, by omega⟩
    obtain rfl : j = Q := by omega
    have c1 : nI j ≤ nI j := nI_le (by omega) (by omega)
    show X5_isSo_h6 _ v1 v2 v3 1 (nI j) B = _
    simp only [X5_isSo_h6, h1, c1, q_g1, q_g1b, q_g1c, ↓reduceIte]
    rfl
  | succ k ih =>
    intro j n1 h h2
    obtain ⟨n1, rfl⟩ : ∃ n, n1 = n + 1 := ⟨n1 - 1, by omega⟩
    have c1 : ¬ nI Q ≤ nI j := nI_ge (by omega) (by omega)
    have x8 : hx (nI j) 8 = true := q_hx (by omega) (by decide)
    have i8 : (nI j).toNatClampNeg = j := nI_clamp (by omega)
    obtain ⟨a1, a2⟩ := hAB j (by omega)
    show X5_isSo_h6 (X5_isSo_l6 n1) v1 v2 v3 1 (nI j) B = some (if nMs A v1 v2 v3 j = true then sfr (nMs A v1 v2 v3) (j + 1) k else 0, B)
    by_cases q : wv v1 v2 v3 (A 90 j) = A 91 j
    · have q2 : nMs A v1 v2 v3 j = true := decide_eq_true q
      rw [if_pos q2]
      rw [a1, a2] at q
      simp only [X5_isSo_h6, h1, c1, n10, x8, i8, q_worthM, q, gd_t, ob_s, nI_1, ↓reduceIte]
      exact ih (j + 1) n1 (by omega) (by omega)
    · have q2 : ¬ nMs A v1 v2 v3 j = true := fun z => q (of_decide_eq_true z)
      rw [if_neg q2]
      rw [a1, a2] at q
      simp only [X5_isSo_h6, h1, c1, n10, x8, i8, q_worthM, q, gd_t, ob_s, nI_1, ↓reduceIte]
      exact q_soM0 hQ h1 v1 v2 v3 k (j + 1) n1 (by omega) (by omega)
/-- whether all noted is so: the same of both -/
theorem q_so {A B : hM} (h : No A B) (v1 v2 v3 : Int32) : ∃ r, X4_allNotedSo v1 v2 v3 A = some (r, A) ∧ X5_isSo v1 v2 v3 B = some (r, B) ∧ (r = 0 ∨ r = 1) := by
  obtain ⟨Q, hQ, a1, b1, hAB⟩ := h
  exact ⟨_, q_soC_loop hQ a1 v1 v2 v3 Q 0 hF (by omega) (show Q < 1024 by omega), q_soM_loop hQ b1 hAB v1 v2 v3 Q 0 hF (by omega) (show Q < 1024 by omega), sfr_01 _ _ _⟩
theorem q_kinds_loop {A B : hM} {g : Nat} (hg : g < 7) (h : No A B) (e1 : A 7 g = B 95 g) (e2 : A 8 g = B 96 g) : ∀ (k j n1 n2 : Nat) (acc : Int32), j + k = 4 → k < n1 → k < n2 → ∃ R, X4_kinds_l14 n1 (nI g) acc (nI j) A = some (R, A) ∧ X5_kinds_l14 n2 (nI g) acc (nI j) B = some (R, B) := by
  intro k
  have x7 : hx (nI g) 7 = true := q_hx (by omega) (by decide)
  have i7 : (nI g).toNatClampNeg = g := nI_clamp (by omega)
  induction k with
  | zero =>
    intro j n1 n2 acc hj h1 h2
    obtain ⟨n1, rfl⟩ : ∃ n, n1 = n + 1 := ⟨n1 - 1, by omega⟩
    obtain ⟨n2, rfl⟩ : ∃ n, n2 = n + 1 := ⟨n2 - 1, by omega⟩
    obtain rfl : j = 4 := by omega
    have c1 : (4 : Int32) ≤ nI 4 := by decide
    refine ⟨acc, ?_, ?_⟩
    · show X4_kinds_h14 _ (nI g) acc (nI 4) A = _
      simp only [X4_kinds_h14, c1, ↓reduceIte]
    · show X5_kinds_h14 _ (nI g) acc (nI 4) B = _
      simp only [X5_kinds_h14, c1, ↓reduceIte]
  | succ k ih =>
    intro j n1 n2 acc hj h1 h2
    obtain ⟨n1, rfl⟩ : ∃ n, n1 = n + 1 := ⟨n1 - 1, by omega⟩
    obtain ⟨n2, rfl⟩ : ∃ n, n2 = n + 1 := ⟨n2 - 1, by omega⟩
    have c1 : ¬ (4 : Int32) ≤ nI j := nI_ge (b := 4) (by omega) (by decide)
    obtain ⟨r, r1, r2, r3⟩ := q_so h (nI j) (A 7 g) (A 8 g)
    rw [e1, e2] at r2
    rcases r3 with rfl | rfl
    · obtain ⟨R, g1, g2⟩ := ih (j + 1) n1 n2 acc (by omega) (by omega) (by omega)
      refine ⟨R, ?_, ?_⟩
      · show X4_kinds_h14 (X4_kinds_l14 n1) (nI g) acc (nI j) A = _
        simp only [X4_kinds_h14, c1, x7, i7, r1, gd_t, ob_s, nI_1, ↓reduceIte]
        exact g1
      · show X5_kinds_h14 (X5_kinds_l14 n2) (nI g) acc (nI j) B = _
        simp only [X5_kinds_h14, c1, x7, i7, r2, q_or0, gd_t, ob_s, nI_1, ↓reduceIte]
        exact g2
    · obtain ⟨R, g1, g2⟩ := ih (j + 1) n1 n2 (acc ||| (1 <<< (nI j &&& 31))) (by omega) (by omega) (by omega)
      refine ⟨R, ?_, ?_⟩
      · show X4_kinds_h14 (X4_kinds_l14 n1) (nI g) acc (nI j) A = _
        simp only [X4_kinds_h14, c1, x7, i7, r1, n10, gd_t, ob_s, nI_1, ↓reduceIte]
        exact g1
      · show X5_kinds_h14 (X5_kinds_l14 n2) (nI g) acc (nI j) B = _
        simp only [X5_kinds_h14, c1, x7, i7, r2, n10, gd_t, ob_s, nI_1, ↓reduceIte]
        exact g2
theorem op_kinds (v : Int32) : Op (X4_kinds v) (X5_kinds v) := Op.rd (by
  intro A B hI
  have hNo := hI.No
  obtain ⟨N, F, L, m, hE, hm, hS, hx0, -, -, -, -⟩ := hI
  have hb := hE.1
  rcases pk_ix v (n := N) (by omega) with h | h | ⟨g, hg, rfl⟩
  · obtain ⟨e1, e2⟩ := q_gout hb.1 hE.2.1.1 hE.2.1.2 (Or.inl h)
    exact ⟨-1, by simp only [X4_kinds, e1, ob_s, ↓reduceIte], by simp only [X5_kinds, e2, ob_s, ↓reduceIte]⟩
  · obtain ⟨e1, e2⟩ := q_gout hb.1 hE.2.1.1 hE.2.1.2 (Or.inr h)
    exact ⟨-1, by simp only [X4_kinds, e1, ob_s, ↓reduceIte], by simp only [X5_kinds, e2, ob_s, ↓reduceIte]⟩
  · obtain ⟨e1, e2⟩ := q_gin hb.1 hE.2.1.1 hE.2.1.2 hg
    obtain ⟨kk, ii, ww, mm, hk, hi, hw, hmm, ⟨k1, k2⟩, ⟨i1, i2⟩, ⟨w1, w2⟩, ⟨m1, m2⟩⟩ := hE.2.2.2.2.1 g hg
    obtain ⟨R, g1, g2⟩ := q_kinds_loop (g := g) (by omega) hNo (by rw [i1, i2]) (by rw [w1, w2]) 4 0 hF hF 0 (by decide) (show 4 < 1024 by decide) (show 4 < 1024 by decide)
    have g1 : X4_kinds_l14 hF (nI g) 0 0 A = some (R, A) := g1
    have g2 : X5_kinds_l14 hF (nI g) 0 0 B = some (R, B) := g2
    exact ⟨R, by simp only [X4_kinds, e1, n10, g1, ob_s, ↓reduceIte], by simp only [X5_kinds, e2, n10, g2, ob_s, ↓reduceIte]⟩)
/-! the waning: upward here, downward there -/
def wU (p : Nat → Bool) : Nat → Nat → Nat × Int32 → Nat × Int32
  | 0, _, s => s
  | k + 1, t, s => wU p k (t + 1) (if p t = true then (s.1 + 1, if s.1 = 0 then nI (10 * (t / 6) + t % 6) else s.2) else s)
def wD (p : Nat → Bool) : Nat → Nat → Nat × Int32
  | 0, _ => (0, -4)
  | k + 1, b => if p b = true then ((wD p k (b + 1)).1 + 1, nI (10 * (b / 6) + b % 6)) else wD p k (b + 1)
theorem wU_add (p : Nat → Bool) : ∀ k k' t s, wU p (k + k') t s = wU p k' (t + k) (wU p k t s) := by
  intro k
  induction k with
  | zero => intro k' t s; rw [Nat.zero_add]; rfl
  | succ k ih =>
    intro k' t s
    rw [show k + 1 + k' = (k + k') + 1 by omega]
    show wU p (k + k') (t + 1) _ = _
    rw [ih, show t + 1 + k = t + (k + 1) by omega]
    rfl
theorem wUD (p : Nat → Bool) : ∀ k t (c : Nat) (f : Int32), (c = 0 → f = -4) → wU p k t (c, f) = (c + (wD p k t).1, if c = 0 then (wD p k t).2 else f) := by
  intro k
  induction k with
  | zero =>
    intro t c f h
    show (c, f) = (c + 0, if c = 0 then -4 else f)
    by_cases hc : c = 0
    · rw [if_pos hc, h hc]
      rfl
    · rw [if_neg hc]
      rfl
  | succ k ih =>
    intro t c f h
    show wU p k (t + 1) (if p t = true then (c + 1, if c = 0 then nI (10 * (t / 6) + t % 6) else f) else (c, f)) = (c + (if p t = true then ((wD p k (t + 1)).1 + 1, nI (10 * (t / 6) + t % 6)) else wD p k (t + 1)).1, if c = 0 then (if p t = true then ((wD p k (t + 1)).1 + 1, nI (10 * (t / 6) + t % 6)) else wD p k (t + 1)).2 else f)
    by_cases hp : p t = true
    · rw [if_pos hp, if_pos hp, ih _ _ _ (fun z => absurd z (by omega)), if_neg (by omega)]
      show (c + 1 + _, _) = (c + (_ + 1), _)
      rw [show c + 1 + (wD p k (t + 1)).1 = c + ((wD p k (t + 1)).1 + 1) by omega]
    · rw [if_neg hp, if_neg hp, ih _ _ _ h]
theorem wU_le (p : Nat → Bool) : ∀ k t s, (wU p k t s).1 ≤ s.1 + k := by
  intro k
  induction k with
  | zero => intro t s; exact Nat.le_refl _
  | succ k ih =>
    intro t s
    show (wU p k (t + 1) _).1 ≤ _
    refine Nat.le_trans (ih _ _) ?_
    by_cases hp : p t = true
    · rw [if_pos hp]
      show s.1 + 1 + k ≤ _
      omega
    · rw [if_neg hp]
      omega
theorem wD_le (p : Nat → Bool) : ∀ k t, (wD p k t).1 ≤ k := by
  intro k
  induction k with
  | zero => intro t; exact Nat.le_refl _
  | succ k ih =>
    intro t
    have h := ih (t + 1)
    show (if p t = true then ((wD p k (t + 1)).1 + 1, nI (10 * (t / 6) + t % 6)) else wD p k (t + 1)).1 ≤ _
    by_cases hp : p t = true
    · rw [if_pos hp]
      show (wD p k (t + 1)).1 + 1 ≤ _
      omega
    · rw [if_neg hp]
      omega
/-- what is so of the t-th pair -/
def wP (r : Nat → Nat → Int32) (t : Nat) : Bool := decide (r (t / 6) (t % 6) = 1)
theorem q_wanC_in {A : hM} {r : Nat → Nat → Int32} (hr : ∀ i w, X4_allNotedSo 0 (nI i) (nI w) A = some (r i w, A) ∧ (r i w = 0 ∨ r i w = 1)) (K : Int32 → Int32 → Int32 → Int32 → hM → Option (Int32 × hM)) (v1 : Int32) (i : Nat) : ∀ (k w n : Nat) (s : Nat × Int32), w + k = 6 → k < n → s.1 + k ≤ 900 → X4_waning_l27 K n v1 (nI s.1) s.2 (nI i) (nI w) A = K v1 (nI (wU (wP r) k (6 * i + w) s).1) (wU (wP r) k (6 * i + w) s).2 (nI (i + 1)) A := by
  intro k
  induction k with
  | zero =>
    intro w n s hw hn hs
    obtain ⟨n, rfl⟩ : ∃ j, n = j + 1 := ⟨n - 1, by omega⟩
    obtain rfl : w = 6 := by omega
    have c1 : (5 : Int32) < nI 6 := by decide
    show X4_waning_h27 K _ v1 (nI s.1) s.2 (nI i) (nI 6) A = K v1 (nI s.1) s.2 (nI (i + 1)) A
    simp only [X4_waning_h27, c1, nI_1, ↓reduceIte]
  | succ k ih =>
    intro w n s hw hn hs
    obtain ⟨n, rfl⟩ : ∃ j, n = j + 1 := ⟨n - 1, by omega⟩
    have c1 : ¬ (5 : Int32) < nI w := nI_nlt (a := 5) (by omega) (by decide)
    have e6 : (6 * i + w) / 6 = i ∧ (6 * i + w) % 6 = w := ⟨by omega, by omega⟩
    obtain ⟨h1, h2⟩ := hr i w
    show X4_waning_h27 K (X4_waning_l27 K n) v1 (nI s.1) s.2 (nI i) (nI w) A = K v1 (nI (wU (wP r) k (6 * i + w + 1) (if wP r (6 * i + w) = true then (s.1 + 1, if s.1 = 0 then nI (10 * ((6 * i + w) / 6) + (6 * i + w) % 6) else s.2) else s)).1) (wU (wP r) k (6 * i + w + 1) (if wP r (6 * i + w) = true then (s.1 + 1, if s.1 = 0 then nI (10 * ((6 * i + w) / 6) + (6 * i + w) % 6) else s.2) else s)).2 (nI (i + 1)) A
    rw [e6.1, e6.2]
    rcases h2 with h2 | h2
    · have p0 : ¬ wP r (6 * i + w) = true := by
        unfold wP
        rw [e6.1, e6.2, h2]
        decide
      rw [if_neg p0]
      rw [h2] at h1
      simp only [X4_waning_h27, c1, h1, ob_s, nI_1, ↓reduceIte]
      exact ih (w + 1) n s (by omega) (by omega) (by omega)
    · have p0 : wP r (6 * i + w) = true := by
        unfold wP
        rw [e6.1, e6.2, h2]
        decide
      rw [if_pos p0]
      rw [h2] at h1
      have ev : (10 : Int32) * nI i + nI w = nI (10 * i + w) := by
        rw [show (10 : Int32) = nI 10 from rfl, pk_mul, nI_add]
      by_cases hs0 : s.1 = 0
      · have z : nI s.1 = 0 := by rw [hs0]; rfl
        rw [if_pos hs0]
        simp only [X4_waning_h27, c1, h1, n10, z, ev, ob_s, nI_1, ↓reduceIte]
        have key := ih (w + 1) n (s.1 + 1, nI (10 * i + w)) (by omega) (by omega) (by show s.1 + 1 + k ≤ 900; omega)
        have z2 : (0 : Int32) + 1 = nI (s.1 + 1) := by rw [hs0]; rfl
        rw [z2]
        exact key
      · have z : ¬ nI s.1 = 0 := nI_ne0 (by omega) (by omega)
        rw [if_neg hs0]
        simp only [X4_waning_h27, c1, h1, n10, z, ob_s, nI_1, ↓reduceIte]
        exact ih (w + 1) n (s.1 + 1, s.2) (by omega) (by omega) (by show s.1 + 1 + k ≤ 900; omega)
theorem q_wanC_out {A : hM} {r : Nat → Nat → Int32} (hr : ∀ i w, X4_allNotedSo 0 (nI i) (nI w) A = some (r i w, A) ∧ (r i w = 0 ∨ r i w = 1)) (v1 : Int32) : ∀ (k i n : Nat) (s : Nat × Int32), i + k = 21 → k < n → s.1 ≤ 6 * i → X4_waning_l17 n v1 (nI s.1) s.2 (nI i) A = X4_waning_b77 v1 (nI (wU (wP r) (6 * k) (6 * i) s).1) (wU (wP r) (6 * k) (6 * i) s).2 A := by
  intro k
  induction k with
  | zero =>
    intro i n s hi hn hs
    obtain ⟨n, rfl⟩ : ∃ j, n = j + 1 := ⟨n - 1, by omega⟩
    obtain rfl : i = 21 := by omega
    have c1 : (20 : Int32) < nI 21 := by decide
    show X4_waning_h17 _ v1 (nI s.1) s.2 (nI 21) A = X4_waning_b77 v1 (nI s.1) s.2 A
    simp only [X4_waning_h17, c1, ↓reduceIte]
  | succ k ih =>
    intro i n s hi hn hs
    obtain ⟨n, rfl⟩ : ∃ j, n = j + 1 := ⟨n - 1, by omega⟩
    have c1 : ¬ (20 : Int32) < nI i := nI_nlt (a := 20) (by omega) (by decide)
    show X4_waning_h17 (X4_waning_l17 n) v1 (nI s.1) s.2 (nI i) A = _
    simp only [X4_waning_h17, c1, ↓reduceIte]
    have h := q_wanC_in hr (X4_waning_l17 n) v1 i 6 0 hF s (by decide) (show 6 < 1024 by decide) (by omega)
    have h : X4_waning_l27 (X4_waning_l17 n) hF v1 (nI s.1) s.2 (nI i) 0 A = _ := h
    rw [h]
    have hle := wU_le (wP r) 6 (6 * i + 0) s
    rw [ih (i + 1) n _ (by omega) (by omega) (by omega)]
    rw [show 6 * (k + 1) = 6 + 6 * k by omega, wU_add]
    rfl
theorem q_wanM_in {B : hM} {r : Nat → Nat → Int32} (hr : ∀ i w, X5_isSo 0 (nI i) (nI w) B = some (r i w, B) ∧ (r i w = 0 ∨ r i w = 1)) (K : Int32 → Int32 → Int32 → Int32 → hM → Option (Int32 × hM)) (v1 : Int32) {N : Nat} (hN : N = 126) (i : Nat) (hi : i ≤ 20) : ∀ (w n : Nat), w ≤ 6 → w < n → X5_waning_l29 K n v1 (nI (wD (wP r) (N - (6 * i + w)) (6 * i + w)).1) (wD (wP r) (N - (6 * i + w)) (6 * i + w)).2 (nI i) (nI w + -1) B = K v1 (nI (wD (wP r) (N - 6 * i) (6 * i)).1) (wD (wP r) (N - 6 * i) (6 * i)).2 (nI i + -1) B := by
  intro w
  induction w with
  | zero =>
    intro n hw hn
    obtain ⟨n, rfl⟩ : ∃ j, n = j + 1 := ⟨n - 1, by omega⟩
    have c1 : nI 0 + -1 < 0 := by decide
    show X5_waning_h29 K _ v1 _ _ (nI i) (nI 0 + -1) B = _
    simp only [X5_waning_h29, c1, Nat.add_zero, ↓reduceIte]
  | succ w ih =>
    intro n hw hn
    obtain ⟨n, rfl⟩ : ∃ j, n = j + 1 := ⟨n - 1, by omega⟩
    rw [pk_m1]
    have c1 : ¬ nI w < 0 := nI_pos (by omega)
    have e6 : (6 * i + w) / 6 = i ∧ (6 * i + w) % 6 = w := ⟨by omega, by omega⟩
    obtain ⟨h1, h2⟩ := hr i w
    have hle := wD_le (wP r) (N - (6 * i + (w + 1))) (6 * i + (w + 1))
    have ed : wD (wP r) (N - (6 * i + w)) (6 * i + w) = if wP r (6 * i + w) = true then ((wD (wP r) (N - (6 * i + (w + 1))) (6 * i + (w + 1))).1 + 1, nI (10 * i + w)) else wD (wP r) (N - (6 * i + (w + 1))) (6 * i + (w + 1)) := by
      rw [show N - (6 * i + w) = (N - (6 * i + (w + 1))) + 1 by omega]
      show (if wP r (6 * i + w) = true then ((wD (wP r) (N - (6 * i + (w + 1))) (6 * i + w + 1)).1 + 1, nI (10 * ((6 * i + w) / 6) + (6 * i + w) % 6)) else wD (wP r) (N - (6 * i + (w + 1))) (6 * i + w + 1)) = _
      rw [e6.1, e6.2]
      rfl
    have key := ih n (by omega) (by omega)
    show X5_waning_h29 K (X5_waning_l29 K n) v1 _ _ (nI i) (nI w) B = _
    generalize wD (wP r) (N - (6 * i + (w + 1))) (6 * i + (w + 1)) = s at hle ed ⊢
    rcases h2 with h2 | h2
    · have p0 : ¬ wP r (6 * i + w) = true := by
        unfold wP
        rw [e6.1, e6.2, h2]
        decide
      rw [if_neg p0] at ed
      rw [ed] at key
      rw [h2] at h1
      simp only [X5_waning_h29, X5_waning_b52, c1, h1, ob_s, Int32.add_zero, ↓reduceIte]
      exact key
    · have p0 : wP r (6 * i + w) = true := by
        unfold wP
        rw [e6.1, e6.2, h2]
        decide
      rw [if_pos p0] at ed
      rw [ed] at key
      rw [h2] at h1
      have ev : (10 : Int32) * nI i + nI w = nI (10 * i + w) := by
        rw [show (10 : Int32) = nI 10 from rfl, pk_mul, nI_add]
      simp only [X5_waning_h29, X5_waning_b52, c1, h1, n10, ev, ob_s, nI_1, ↓reduceIte]
      exact key
theorem q_wanM_out {B : hM} {r : Nat → Nat → Int32} (hr : ∀ i w, X5_isSo 0 (nI i) (nI w) B = some (r i w, B) ∧ (r i w = 0 ∨ r i w = 1)) (v1 : Int32) {N : Nat} (hN : N = 126) : ∀ (i n : Nat), i ≤ 21 → i < n → X5_waning_l21 n v1 (nI (wD (wP r) (N - 6 * i) (6 * i)).1) (wD (wP r) (N - 6 * i) (6 * i)).2 (nI i + -1) B = X5_waning_b91 v1 (nI (wD (wP r) N 0).1) (wD (wP r) N 0).2 B := by
  intro i
  induction i with
  | zero =>
    intro n hi hn
    obtain ⟨n, rfl⟩ : ∃ j, n = j + 1 := ⟨n - 1, by omega⟩
    have c1 : nI 0 + -1 < 0 := by decide
    show X5_waning_h21 _ v1 _ _ (nI 0 + -1) B = _
    simp only [X5_waning_h21, c1, Nat.mul_zero, Nat.sub_zero, ↓reduceIte]
  | succ i ih =>
    intro n hi hn
    obtain ⟨n, rfl⟩ : ∃ j, n = j + 1 := ⟨n - 1, by omega⟩
    rw [pk_m1]
    have c1 : ¬ nI i < 0 := nI_pos (by omega)
    show X5_waning_h21 (X5_waning_l21 n) v1 _ _ (nI i) B = _
    simp only [X5_waning_h21, c1, ↓reduceIte]
    have h := q_wanM_in hr (X5_waning_l21 n) v1 hN i (by omega) 6 hF (by decide) (show 6 < 1024 by decide)
    have h : X5_waning_l29 (X5_waning_l21 n) hF v1 (nI (wD (wP r) (N - 6 * (i + 1)) (6 * (i + 1))).1) (wD (wP r) (N - 6 * (i + 1)) (6 * (i + 1))).2 (nI i) 5 B = _ := h
    rw [h]
    exact ih n (by omega) (by omega)
theorem q_wanC {A : hM} {r : Nat → Nat → Int32} (hr : ∀ i w, X4_allNotedSo 0 (nI i) (nI w) A = some (r i w, A) ∧ (r i w = 0 ∨ r i w = 1)) (v : Int32) {N : Nat} (hN : N = 126) : X4_waning_l17 hF v 0 (-4) 0 A = X4_waning_b77 v (nI (wD (wP r) N 0).1) (wD (wP r) N 0).2 A := by
  have c := q_wanC_out hr v 21 0 hF (0, -4) (by decide) (show 21 < 1024 by decide) (Nat.zero_le _)
  rw [show 6 * 21 = N by omega, Nat.mul_zero, wUD _ _ _ _ _ (fun _ => rfl), if_pos rfl, Nat.zero_add] at c
  exact c
theorem q_wanM {B : hM} {r : Nat → Nat → Int32} (hr : ∀ i w, X5_isSo 0 (nI i) (nI w) B = some (r i w, B) ∧ (r i w = 0 ∨ r i w = 1)) (v : Int32) {N : Nat} (hN : N = 126) : X5_waning_l21 hF v 0 (-4) 20 B = X5_waning_b91 v (nI (wD (wP r) N 0).1) (wD (wP r) N 0).2 B := by
  have d := q_wanM_out hr v hN 21 hF (Nat.le_refl _) (show 21 < 1024 by decide)
  rw [show N - 6 * 21 = 0 by omega, show nI 21 + -1 = 20 by decide] at d
  exact d
theorem q_wa1a {A : hM} (v : Int32) (e1 : X4_isEither v A = some (1, A)) : X4_waning v A = X4_waning_l17 hF v 0 (-4) 0 A := by
  unfold X4_waning
  rw [e1, ob_s]
  rw [if_neg n10]
theorem q_wa1b {A : hM} (v : Int32) (w : Nat × Int32) (x : Option (Int32 × hM)) (e : x = X4_waning_b77 v (nI w.1) w.2 A) : x = some (if v = 0 then nI w.1 else w.2, A) := by
  rw [e]
  unfold X4_waning_b77
  by_cases hv : v = 0
  · rw [if_pos hv, if_pos hv]
  · rw [if_neg hv, if_neg hv]
theorem q_wa2a {A : hM} (v : Int32) (e1 : X5_in (v).toInt64 0 1 A = some (1, A)) : X5_waning v A = X5_waning_l21 hF v 0 (-4) 20 A := by
  unfold X5_waning
  rw [e1, ob_s]
  rw [if_neg n10]
theorem q_wa2b {A : hM} (v : Int32) (w : Nat × Int32) (x : Option (Int32 × hM)) (e : x = X5_waning_b91 v (nI w.1) w.2 A) : x = some (if v = 0 then nI w.1 else w.2, A) := by
  rw [e]
  unfold X5_waning_b91
  by_cases hv : v = 0
  · rw [if_pos hv, if_pos hv]
  · rw [if_neg hv, if_neg hv]
theorem q_sos {A B : hM} (hNo : No A B) : ∃ r : Nat → Nat → Int32, (∀ i w, X4_allNotedSo 0 (nI i) (nI w) A = some (r i w, A) ∧ (r i w = 0 ∨ r i w = 1)) ∧ ∀ i w, X5_isSo 0 (nI i) (nI w) B = some (r i w, B) ∧ (r i w = 0 ∨ r i w = 1) := by
  have hex : ∀ i w : Nat, ∃ r, X4_allNotedSo 0 (nI i) (nI w) A = some (r, A) ∧ X5_isSo 0 (nI i) (nI w) B = some (r, B) ∧ (r = 0 ∨ r = 1) := fun i w => q_so hNo 0 (nI i) (nI w)
  have h : ∀ i w : Nat, _ := fun i w => Classical.choose_spec (hex i w)
  exact ⟨fun i w => Classical.choose (hex i w), fun i w => ⟨(h i w).1, (h i w).2.2⟩, fun i w => ⟨(h i w).2.1, (h i w).2.2⟩⟩
theorem op_waning (v : Int32) : Op (X4_waning v) (X5_waning v) := Op.rd (by
  intro A B hI
  have hNo := hI.No
  rcases q_either v A B with ⟨e1, e2, h0, h1⟩ | ⟨e1, e2, h⟩
  · exact ⟨-1, by simp only [X4_waning, e1, ob_s, ↓reduceIte], by simp only [X5_waning, e2, ob_s, ↓reduceIte]⟩
  · obtain ⟨r, h1, h2⟩ := q_sos hNo
    obtain ⟨N, hN⟩ : ∃ N : Nat, N = 126 := ⟨126, rfl⟩
    exact ⟨_, (q_wa1a v e1).trans (q_wa1b v _ _ (q_wanC h1 v hN)), (q_wa2a v e2).trans (q_wa2b v _ _ (q_wanM h2 v hN))⟩)
