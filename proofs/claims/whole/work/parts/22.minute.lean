def bt (f : Nat → Int32) : Nat → Int32
  | 0 => 0
  | g + 1 => if f g = 1 then bt f g ||| (1 <<< (nI g &&& 31)) else bt f g
theorem bt_congr {f f' : Nat → Int32} : ∀ n, (∀ g, g < n → (f g = 1 ↔ f' g = 1)) → bt f n = bt f' n := by
  intro n
  induction n with
  | zero => intro _; rfl
  | succ n ih =>
    intro h
    have h1 := h n (by omega)
    show (if f n = 1 then bt f n ||| (1 <<< (nI n &&& 31)) else bt f n) = (if f' n = 1 then bt f' n ||| (1 <<< (nI n &&& 31)) else bt f' n)
    rw [ih (fun g hg => h g (by omega))]
    by_cases q : f n = 1
    · rw [if_pos q, if_pos (h1.mp q)]
    · rw [if_neg q, if_neg (fun z => q (h1.mpr z))]
theorem n1 : (1 : Int32) = nI 1 := rfl
theorem q_or0 (x : Int32) : x ||| 0 = x := Int32.or_zero
theorem n10 : ¬ (1 : Int32) = 0 := by decide
theorem n01 : ¬ (0 : Int32) = 1 := by decide
theorem n31 : ¬ (3 : Int32) = 1 := by decide
theorem Rg.on {A B : hM} {p s M x g : Nat} (h : Rg A B p s M x g) : A (p + 1) g = 1 ↔ B 113 (s + g) = 1 := by
  rcases h with ⟨_, r1, r2, r3⟩ | ⟨_, ⟨r1, r2, r3⟩ | ⟨c, w, hc1, hc2, hw, r1, r2, r3, r4⟩⟩
  · rw [r1, r2]
    exact ⟨fun z => absurd z (by decide), fun z => absurd z (by decide)⟩
  · rw [r1, r2]
  · rw [r1, r2]
theorem q_onBits_loop {p N : Nat} (hN : N ≤ 7) {A : hM} (eN : A 4 0 = nI N) : ∀ (k g : Nat) (n1 : Nat), g + k = N → k < n1 → X2_onBits_l4 p 4 n1 (bt (A (p + 1)) g) (nI g) A = some (bt (A (p + 1)) N, A) := by
  intro k
  induction k with
  | zero =>
    intro g n1 h h1
    obtain ⟨n1, rfl⟩ : ∃ n, n1 = n + 1 := ⟨n1 - 1, by omega⟩
    have c1 : nI N ≤ nI g := nI_le (by omega) (by omega)
    show X2_onBits_h4 p 4 _ _ (nI g) A = _
    obtain rfl : g = N := by omega
    simp only [X2_onBits_h4, eN, c1, ↓reduceIte]
  | succ k ih =>
    intro g n1 h h1
    obtain ⟨n1, rfl⟩ : ∃ n, n1 = n + 1 := ⟨n1 - 1, by omega⟩
    have c1 : ¬ nI N ≤ nI g := nI_ge (by omega) (by omega)
    have x7 : hx (nI g) 7 = true := q_hx (by omega) (by decide)
    have i7 : (nI g).toNatClampNeg = g := nI_clamp (by omega)
    show X2_onBits_h4 p 4 (X2_onBits_l4 p 4 n1) _ (nI g) A = _
    have key := ih (g + 1) n1 (by omega) (by omega)
    have e : bt (A (p + 1)) (g + 1) = if A (p + 1) g = 1 then bt (A (p + 1)) g ||| (1 <<< (nI g &&& 31)) else bt (A (p + 1)) g := rfl
    by_cases q : A (p + 1) g = 1
    · rw [e, if_pos q] at key
      simp only [X2_onBits_h4, eN, c1, x7, i7, q, gd_t, nI_1, ↓reduceIte]
      exact key
    · rw [e, if_neg q] at key
      simp only [X2_onBits_h4, eN, c1, x7, i7, q, gd_t, nI_1, ↓reduceIte]
      exact key
theorem q_onBits {p N : Nat} (hN : N ≤ 7) {A : hM} (eN : A 4 0 = nI N) : X2_onBits p 4 A = some (bt (A (p + 1)) N, A) := q_onBits_loop hN eN N 0 hF (by omega) (show N < 1024 by omega)
theorem q_onNow_loop {s N : Nat} (hN : N ≤ 7) (hs : s ≤ 220) {B : hM} (eN : B 92 0 = nI N) : ∀ (k g : Nat) (n1 : Nat), g + k = N → k < n1 → X5_onNow_l4 n1 (nI s) (bt (fun j => B 113 (s + j)) g) (nI g) B = some (bt (fun j => B 113 (s + j)) N, B) := by
  intro k
  induction k with
  | zero =>
    intro g n1 h h1
    obtain ⟨n1, rfl⟩ : ∃ n, n1 = n + 1 := ⟨n1 - 1, by omega⟩
    have c1 : nI N ≤ nI g := nI_le (by omega) (by omega)
    show X5_onNow_h4 _ (nI s) _ (nI g) B = _
    obtain rfl : g = N := by omega
    simp only [X5_onNow_h4, eN, c1, ↓reduceIte]
  | succ k ih =>
    intro g n1 h h1
    obtain ⟨n1, rfl⟩ : ∃ n, n1 = n + 1 := ⟨n1 - 1, by omega⟩
    have c1 : ¬ nI N ≤ nI g := nI_ge (by omega) (by omega)
    obtain ⟨s0, s0x⟩ := q_s0 (s := s) (g := g) hs (by omega)
    show X5_onNow_h4 (X5_onNow_l4 n1) (nI s) _ (nI g) B = _
    have key := ih (g + 1) n1 (by omega) (by omega)
    have e : bt (fun j => B 113 (s + j)) (g + 1) = if B 113 (s + g) = 1 then bt (fun j => B 113 (s + j)) g ||| (1 <<< (nI g &&& 31)) else bt (fun j => B 113 (s + j)) g := rfl
    by_cases q : B 113 (s + g) = 1
    · rw [e, if_pos q] at key
      simp only [X5_onNow_h4, eN, c1, s0, s0x, q, gd_t, nI_1, ↓reduceIte]
      exact key
    · rw [e, if_neg q] at key
      simp only [X5_onNow_h4, eN, c1, s0, s0x, q, q_or0, gd_t, nI_1, ↓reduceIte]
      exact key
theorem q_onNow {s N : Nat} (hN : N ≤ 7) (hs : s ≤ 220) {B : hM} (eN : B 92 0 = nI N) : X5_onNow (nI s) B = some (bt (fun j => B 113 (s + j)) N, B) := q_onNow_loop hN hs eN N 0 hF (by omega) (show N < 1024 by omega)
/-- what begins in a minute -/
theorem q_beg_step {p s N F L x m g : Nat} {A B : hM} (hp : p = 26 ∨ p = 31) (hs : s ≤ 220) (hg : g < N) (hE : Ev A B N F L) (hR : Rc A B p s m x N) (hm : A p 0 = nI m) (hm3 : B 113 (s + 18) = nI m) (hm2 : m ≤ 3000) :
    ∃ A1 B1 : hM, (∀ k, X2_beginDue_h2 p 4 k (nI g) A = k (nI (g + 1)) A1) ∧ (∀ k v, X5_starts_h4 k (nI s) v (nI g) B = k (nI s) (if B1 113 (s + g) = 1 then v ||| (1 <<< (nI g &&& 31)) else v) (nI (g + 1)) B1) ∧ Rc A1 B1 p s m x N ∧ (∀ a, a ≠ p + 1 → a ≠ p + 3 → A1 a = A a) ∧ (∀ a, a ≠ 113 → B1 a = B a) ∧ (∀ j, j ≠ s + g → j ≠ s + 7 + g → B1 113 j = B 113 j) := by
  obtain ⟨⟨⟨hN1, hN7⟩, hF6, hL4⟩, ⟨eN, fN⟩, -⟩ := hE
  have c1 : ¬ nI N ≤ nI g := nI_ge hg (by omega)
  have x7 : hx (nI g) 7 = true := q_hx (by omega) (by decide)
  have i7 : (nI g).toNatClampNeg = g := nI_clamp (by omega)
  obtain ⟨s0, s0x⟩ := q_s0 (s := s) (g := g) hs (by omega)
  obtain ⟨s7, s7x⟩ := q_s7 (s := s) (g := g) hs (by omega)
  obtain ⟨s18, s18x⟩ := q_s18 (s := s) hs
  have e1 : nI g + 1 = nI (g + 1) := nI_1 g
  have stay : (∀ k, X2_beginDue_h2 p 4 k (nI g) A = k (nI (g + 1)) A) → (∀ k v, X5_starts_h4 k (nI s) v (nI g) B = k (nI s) (if B 113 (s + g) = 1 then v ||| (1 <<< (nI g &&& 31)) else v) (nI (g + 1)) B) → ∃ A1 B1 : hM, (∀ k, X2_beginDue_h2 p 4 k (nI g) A = k (nI (g + 1)) A1) ∧ (∀ k v, X5_starts_h4 k (nI s) v (nI g) B = k (nI s) (if B1 113 (s + g) = 1 then v ||| (1 <<< (nI g &&& 31)) else v) (nI (g + 1)) B1) ∧ Rc A1 B1 p s m x N ∧ (∀ a, a ≠ p + 1 → a ≠ p + 3 → A1 a = A a) ∧ (∀ a, a ≠ 113 → B1 a = B a) ∧ (∀ j, j ≠ s + g → j ≠ s + 7 + g → B1 113 j = B 113 j) := fun h1 h2 => ⟨A, B, h1, h2, hR, fun _ _ _ => rfl, fun _ _ => rfl, fun _ _ _ => rfl⟩
  have b84 : ∀ (B' : hM) (k : Int32 → Int32 → Int32 → hM → Option (Int32 × hM)) (v : Int32), X5_starts_b84 k (nI s) v (nI g) B' = k (nI s) (if B' 113 (s + g) = 1 then v ||| (1 <<< (nI g &&& 31)) else v) (nI (g + 1)) B' := by
    intro B' k v
    by_cases q : B' 113 (s + g) = 1
    · simp only [X5_starts_b84, s0, s0x, q, gd_t, e1, ↓reduceIte]
    · simp only [X5_starts_b84, s0, s0x, q, q_or0, gd_t, e1, ↓reduceIte]
  rcases hR g hg with ⟨hgx, r1, r2, r3⟩ | ⟨hgx, ⟨r1, r2, r3⟩ | ⟨c, w, hc1, hc2, hw, r1, r2, r3, r4⟩⟩
  · refine stay (fun k => ?_) (fun k v => ?_)
    · simp only [X2_beginDue_h2, eN, c1, x7, i7, r1, n30, gd_t, e1, ↓reduceIte]
    · refine Eq.trans ?_ (b84 _ k v)
      have z : (-1 : Int32) < 0 := by decide
      simp only [X5_starts_h4, fN, c1, s0, s0x, s7, s7x, r2, r3, z, gd_t, ↓reduceIte]
  · rcases r3 with ⟨r3, r4⟩ | ⟨d, hd, r3, r4⟩
    · have z0 : nI m < 1000000 := by
        rw [show (1000000 : Int32) = nI 1000000 from rfl]
        exact nI_lt (by omega) (by decide)
      refine stay (fun k => ?_) (fun k v => ?_)
      · simp only [X2_beginDue_h2, eN, c1, x7, i7, r1, r3, hm, z0, gd_t, e1, ↓reduceIte]
      · refine Eq.trans ?_ (b84 _ k v)
        have z : (-1 : Int32) < 0 := by decide
        simp only [X5_starts_h4, fN, c1, s0, s0x, s7, s7x, r2, r4, z, gd_t, ↓reduceIte]
    · have zd : ¬ nI d < 0 := nI_pos (by omega)
      by_cases hdm : m < d
      · have z0 : nI m < nI d := nI_lt hdm (by omega)
        refine stay (fun k => ?_) (fun k v => ?_)
        · simp only [X2_beginDue_h2, eN, c1, x7, i7, r1, r3, hm, z0, gd_t, e1, ↓reduceIte]
        · refine Eq.trans ?_ (b84 _ k v)
          simp only [X5_starts_h4, fN, c1, s0, s0x, s7, s7x, s18, s18x, hm3, r2, r4, zd, z0, gd_t, ↓reduceIte]
      · have z0 : ¬ nI m < nI d := nI_nlt (by omega) (by omega)
        have h1 : hu A (p + 1) g 1 p 0 = nI m := by
          rw [q_ha _ _ _ _ (by omega)]
          exact hm
        have h2 : hu B 113 (s + g) 1 113 (s + 18) = nI m := by
          rw [q_hi _ _ (by omega)]
          exact hm3
        refine ⟨hu (hu A (p + 1) g 1) (p + 3) g (nI m), hu (hu B 113 (s + g) 1) 113 (s + 7 + g) (nI m), fun k => ?_, fun k v => ?_, ?_, fun a h h2 => ?_, fun a h => ?_, fun j h h2 => ?_⟩
        · simp only [X2_beginDue_h2, eN, c1, x7, i7, r1, r3, hm, h1, z0, gd_t, e1, ↓reduceIte]
        · refine Eq.trans ?_ (b84 _ k v)
          simp only [X5_starts_h4, fN, c1, s0, s0x, s7, s7x, s18, s18x, hm3, h2, r2, r4, zd, z0, gd_t, ↓reduceIte]
        · intro g' hg'
          by_cases hgg : g' = g
          · subst hgg
            refine Or.inr ⟨hgx, Or.inr ⟨1, m, by decide, by decide, Nat.le_refl _, ?_, ?_, ?_, ?_⟩⟩
            · rw [q_ha _ _ _ _ (by omega), q_hu]
              rfl
            · rw [q_hi _ _ (by omega), q_hu]
              rfl
            · exact q_hu _ _ _ _
            · exact q_hu _ _ _ _
          · refine (hR g' hg').keep ?_ ?_ ?_ ?_ ?_
            · rw [q_ha _ _ _ _ (by omega), q_hi _ _ hgg]
            · rw [q_ha _ _ _ _ (by omega), q_ha _ _ _ _ (by omega)]
            · rw [q_hi _ _ hgg, q_ha _ _ _ _ (by omega)]
            · rw [q_hi _ _ (by omega), q_hi _ _ (by omega)]
            · rw [q_hi _ _ (by omega), q_hi _ _ (by omega)]
        · rw [q_hr _ _ _ h2, q_hr _ _ _ h]
        · rw [q_hr _ _ _ h, q_hr _ _ _ h]
        · rw [q_hi _ _ h2, q_hi _ _ h]
  · have hc0 : ¬ nI c = 0 := nI_ne0 (by omega) (by omega)
    refine stay (fun k => ?_) (fun k v => ?_)
    · simp only [X2_beginDue_h2, eN, c1, x7, i7, r1, hc0, gd_t, e1, ↓reduceIte]
    · refine Eq.trans ?_ (b84 _ k v)
      simp only [X5_starts_h4, fN, c1, s0, s0x, s7x, r2, hc0, gd_t, ↓reduceIte]
theorem q_beg_loop {p s N F L x m : Nat} (hp : p = 26 ∨ p = 31) (hs : s ≤ 220) (hm2 : m ≤ 3000) : ∀ (k g : Nat) (A B : hM) (n1 n2 : Nat), g + k = N → k < n1 → k < n2 → Ev A B N F L → Rc A B p s m x N → A p 0 = nI m → B 113 (s + 18) = nI m →
    ∃ A1 B1 : hM, X2_beginDue_l2 p 4 n1 (nI g) A = some (0, A1) ∧ X5_starts_l4 n2 (nI s) (bt (fun j => B 113 (s + j)) g) (nI g) B = some (bt (fun j => B1 113 (s + j)) N, B1) ∧ Rc A1 B1 p s m x N ∧ (∀ a, a ≠ p + 1 → a ≠ p + 3 → A1 a = A a) ∧ (∀ a, a ≠ 113 → B1 a = B a) ∧ (∀ j, ¬ (s ≤ j ∧ j < s + 14) → B1 113 j = B 113 j) := by
  intro k
  induction k with
  | zero =>
    intro g A B n1 n2 hik h1 h2 hE hR hm hm3
    obtain ⟨n1, rfl⟩ : ∃ n, n1 = n + 1 := ⟨n1 - 1, by omega⟩
    obtain ⟨n2, rfl⟩ : ∃ n, n2 = n + 1 := ⟨n2 - 1, by omega⟩
    have hb := hE.1
    obtain rfl : g = N := by omega
    have c1 : nI g ≤ nI g := nI_le (by omega) (by omega)
    refine ⟨A, B, ?_, ?_, hR, fun _ _ _ => rfl, fun _ _ => rfl, fun _ _ => rfl⟩
    · show X2_beginDue_h2 p 4 _ (nI g) A = _
      simp only [X2_beginDue_h2, hE.2.1.1, c1, ↓reduceIte]
    · show X5_starts_h4 _ (nI s) _ (nI g) B = _
      simp only [X5_starts_h4, hE.2.1.2, c1, ↓reduceIte]
  | succ k ih =>
    intro g A B n1 n2 hik h1 h2 hE hR hm hm3
    obtain ⟨n1, rfl⟩ : ∃ n, n1 = n + 1 := ⟨n1 - 1, by omega⟩
    obtain ⟨n2, rfl⟩ : ∃ n, n2 = n + 1 := ⟨n2 - 1, by omega⟩
    have hb := hE.1
    obtain ⟨A1, B1, hA, hB, hR1, f1, f2, f3⟩ := q_beg_step hp hs (show g < N by omega) hE hR hm hm3 hm2
    have hE1 : Ev A1 B1 N F L := hE.keep (fun a _ _ => f1 a (by omega) (by omega)) (by rw [f2 92 (by decide)]) (by rw [f2 92 (by decide)]) (by rw [f2 92 (by decide)]) (fun a _ _ => f2 a (by omega))
    obtain ⟨A2, B2, g1, g2, g3, g4, g5, g6⟩ := ih (g + 1) A1 B1 n1 n2 (by omega) (by omega) (by omega) hE1 hR1 (by rw [f1 p (by omega) (by omega)]; exact hm) (by rw [f3 _ (by omega) (by omega)]; exact hm3)
    refine ⟨A2, B2, ?_, ?_, g3, fun a h h2 => (g4 a h h2).trans (f1 a h h2), fun a h => (g5 a h).trans (f2 a h), fun j h => (g6 j h).trans (f3 j (by omega) (by omega))⟩
    · show X2_beginDue_h2 p 4 (X2_beginDue_l2 p 4 n1) (nI g) A = _
      rw [hA]
      exact g1
    · show X5_starts_h4 (X5_starts_l4 n2) (nI s) _ (nI g) B = _
      rw [hB]
      have e : bt (fun j => B1 113 (s + j)) (g + 1) = if B1 113 (s + g) = 1 then bt (fun j => B1 113 (s + j)) g ||| (1 <<< (nI g &&& 31)) else bt (fun j => B1 113 (s + j)) g := rfl
      have e2 : bt (fun j => B1 113 (s + j)) g = bt (fun j => B 113 (s + j)) g := bt_congr g (fun j hj => by
        show B1 113 (s + j) = 1 ↔ B 113 (s + j) = 1
        rw [f3 (s + j) (by omega) (by omega)])
      rw [e, e2] at g2
      exact g2
theorem q_beg {p s N F L x m : Nat} {A B : hM} (hp : p = 26 ∨ p = 31) (hs : s ≤ 220) (hm2 : m ≤ 3000) (hE : Ev A B N F L) (hR : Rc A B p s m x N) (hm : A p 0 = nI m) (hm3 : B 113 (s + 18) = nI m) :
    ∃ A1 B1 : hM, X2_beginDue p 4 A = some (0, A1) ∧ X5_starts (nI s) B = some (bt (fun j => B1 113 (s + j)) N, B1) ∧ Rc A1 B1 p s m x N ∧ (∀ a, a ≠ p + 1 → a ≠ p + 3 → A1 a = A a) ∧ (∀ a, a ≠ 113 → B1 a = B a) ∧ (∀ j, ¬ (s ≤ j ∧ j < s + 14) → B1 113 j = B 113 j) := by
  have hb := hE.1
  exact q_beg_loop hp hs hm2 N 0 A B hF hF (by omega) (show N < 1024 by omega) (show N < 1024 by omega) hE hR hm hm3
