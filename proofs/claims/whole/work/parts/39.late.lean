def sO (A : hM) (g : Nat) : Bool := decide (A 27 g = 0 ∧ ¬ A 26 0 + 9 ≤ A 28 g)
def tbf (f : Nat → Bool) : Nat → Nat
  | 0 => 0
  | g + 1 => if f g = true then tbf f g ||| 2 ^ g else tbf f g
theorem tbf_lt (f : Nat → Bool) : ∀ g, tbf f g < 2 ^ g := by
  intro g
  induction g with
  | zero => exact Nat.one_pos
  | succ g ih =>
    have h2 : (2 : Nat) ^ (g + 1) = 2 ^ g * 2 := Nat.pow_succ 2 g
    show (if f g = true then tbf f g ||| 2 ^ g else tbf f g) < 2 ^ (g + 1)
    by_cases h : f g = true
    · rw [if_pos h]
      exact Nat.or_lt_two_pow (by omega) (Nat.pow_lt_pow_right (by decide) (by omega))
    · rw [if_neg h]
      omega
theorem tbf_bit (f : Nat → Bool) : ∀ g h, (tbf f g).testBit h = true ↔ h < g ∧ f h = true := by
  intro g
  induction g with
  | zero =>
    intro h
    show (0 : Nat).testBit h = true ↔ _
    rw [Nat.zero_testBit]
    exact ⟨fun z => absurd z (by decide), fun z => absurd z.1 (by omega)⟩
  | succ g ih =>
    intro h
    show (if f g = true then tbf f g ||| 2 ^ g else tbf f g).testBit h = true ↔ _
    by_cases hf : f g = true
    · rw [if_pos hf, Nat.testBit_or, Nat.testBit_two_pow, Bool.or_eq_true, ih, decide_eq_true_iff]
      refine ⟨fun z => ?_, fun z => ?_⟩
      · rcases z with ⟨z1, z2⟩ | z
        · exact ⟨by omega, z2⟩
        · subst z
          exact ⟨by omega, hf⟩
      · by_cases hg : g = h
        · exact Or.inr hg
        · exact Or.inl ⟨by omega, z.2⟩
    · rw [if_neg hf, ih]
      refine ⟨fun z => ⟨by omega, z.2⟩, fun z => ⟨?_, z.2⟩⟩
      by_cases hg : g = h
      · subst hg
        exact absurd z.2 hf
      · omega
theorem q_soon {A B : hM} {N F L m g : Nat} (h : St A B N F L m) (hg : g < N) : (sO A g = true ∧ A 27 g = 0 ∧ ¬ A 26 0 + 9 ≤ A 28 g ∧ (∀ B', (∀ j, j < 20 → B' 113 j = B 113 j) → X5_isSoon (nI g) B' = some (1, B')) ∧ ∃ d, d ≤ m + 8 ∧ A 28 g = nI d) ∨ (sO A g = false ∧ ¬ (A 27 g = 0 ∧ ¬ A 26 0 + 9 ≤ A 28 g) ∧ ∀ B', (∀ j, j < 20 → B' 113 j = B 113 j) → X5_isSoon (nI g) B' = some (0, B')) := by
  obtain ⟨hE, hm, hS, hab⟩ := h
  have hb := hE.1
  have a0 : A 26 0 = nI m := hS.1.1
  have b0 : B 113 18 = nI m := hS.1.2
  have x1 : hx (nI g) 240 = true := q_hx (by omega) (by decide)
  have i1 : (nI g).toNatClampNeg = g := nI_clamp (by omega)
  obtain ⟨s7, s7x⟩ := q_7g (g := g) (by omega)
  have i18 : (18 : Int32).toNatClampNeg = 18 := by decide
  have x18 : hx 18 240 = true := by decide
  have e9 : nI m + 9 = nI (m + 9) := nI_add m 9
  have e8 : nI m + 8 = nI (m + 8) := nI_add m 8
  have hR := hS.2.2.2.1 g hg
  rcases hR with ⟨z, _⟩ | ⟨_, ⟨r1, r2, ⟨r3, r4⟩ | ⟨d, hd, r3, r4⟩⟩ | ⟨c, w, hc1, hc2, hw, r1, r2, r3, r4⟩⟩
  · exact absurd z (by omega)
  · have r1 : A 27 g = 0 := r1
    have r3 : A 28 g = 1000000 := r3
    have k : ¬ (A 27 g = 0 ∧ ¬ A 26 0 + 9 ≤ A 28 g) := by
      intro z
      refine z.2 ?_
      rw [a0, e9, r3]
      exact nI_le (b := 1000000) (by omega) (by decide)
    refine Or.inr ⟨decide_eq_false k, k, fun B' hB => ?_⟩
    rw [show 0 + g = g by omega] at r2
    rw [show 0 + 7 + g = 7 + g by omega] at r4
    have z : (-1 : Int32) < 0 := by decide
    unfold X5_isSoon
    rw [x1, gd_t, i1, hB g (by omega), r2, if_pos rfl, s7x, gd_t, s7, hB (7 + g) (by omega), r4, if_pos z, q_g0]
  · have r1 : A 27 g = 0 := r1
    have r3 : A 28 g = nI d := r3
    rw [show 0 + g = g by omega] at r2
    rw [show 0 + 7 + g = 7 + g by omega] at r4
    have z : ¬ nI d < 0 := nI_pos (by omega)
    by_cases q : m + 9 ≤ d
    · have q1 : nI (m + 9) ≤ nI d := nI_le q (by omega)
      have q2 : nI (m + 8) < nI d := nI_lt (by omega) (by omega)
      have k : ¬ (A 27 g = 0 ∧ ¬ A 26 0 + 9 ≤ A 28 g) := by
        intro z
        refine z.2 ?_
        rw [a0, e9, r3]
        exact q1
      refine Or.inr ⟨decide_eq_false k, k, fun B' hB => ?_⟩
      unfold X5_isSoon
      rw [x1, gd_t, i1, hB g (by omega), r2, if_pos rfl, s7x, gd_t, s7, hB (7 + g) (by omega), r4, if_neg z, gd_t, x18, gd_t, i18, hB 18 (by decide), b0, e8, if_pos q2, q_g0]
    · have q1 : ¬ nI (m + 9) ≤ nI d := nI_ge (by omega) (by omega)
      have q2 : ¬ nI (m + 8) < nI d := nI_nlt (by omega) (by omega)
      have k1 : ¬ A 26 0 + 9 ≤ A 28 g := by
        rw [a0, e9, r3]
        exact q1
      refine Or.inl ⟨decide_eq_true ⟨r1, k1⟩, r1, k1, fun B' hB => ?_, d, by omega, r3⟩
      unfold X5_isSoon
      rw [x1, gd_t, i1, hB g (by omega), r2, if_pos rfl, s7x, gd_t, s7, hB (7 + g) (by omega), r4, if_neg z, gd_t, x18, gd_t, i18, hB 18 (by decide), b0, e8, if_neg q2, q_g1]
  · have r1 : A 27 g = nI c := r1
    rw [show 0 + g = g by omega] at r2
    have z : ¬ nI c = 0 := nI_ne0 (by omega) (by omega)
    have k : ¬ (A 27 g = 0 ∧ ¬ A 26 0 + 9 ≤ A 28 g) := by
      intro y
      rw [r1] at y
      exact z y.1
    refine Or.inr ⟨decide_eq_false k, k, fun B' hB => ?_⟩
    unfold X5_isSoon
    rw [x1, gd_t, i1, hB g (by omega), r2, if_neg z, q_g0]
theorem q_soonBits {A B : hM} {N F L m : Nat} (h : St A B N F L m) : X2_soonBits 26 4 A = some (nI (tbf (sO A) N), A) := by
  have hb := h.1.1
  have eN := h.1.2.1.1
  have key : ∀ (k g n1 : Nat), g + k = N → k < n1 → X2_soonBits_l4 26 4 n1 (nI (tbf (sO A) g)) (nI g) A = some (nI (tbf (sO A) N), A) := by
    intro k
    induction k with
    | zero =>
      intro g n1 hg h1
      obtain ⟨n1, rfl⟩ : ∃ j, n1 = j + 1 := ⟨n1 - 1, by omega⟩
      obtain rfl : g = N := by omega
      have c1 : nI g ≤ nI g := nI_le (by omega) (by omega)
      show X2_soonBits_h4 26 4 _ _ (nI g) A = _
      unfold X2_soonBits_h4
      rw [eN, if_pos c1]
    | succ k ih =>
      intro g n1 hg h1
      obtain ⟨n1, rfl⟩ : ∃ j, n1 = j + 1 := ⟨n1 - 1, by omega⟩
      have c1 : ¬ nI N ≤ nI g := nI_ge (by omega) (by omega)
      have x7 : hx (nI g) 7 = true := q_hx (by omega) (by decide)
      have i7 : (nI g).toNatClampNeg = g := nI_clamp (by omega)
      have nx := ih (g + 1) n1 (by omega) (by omega)
      have e1 : tbf (sO A) (g + 1) = if sO A g = true then tbf (sO A) g ||| 2 ^ g else tbf (sO A) g := rfl
      have lt : tbf (sO A) g < 128 := Nat.lt_of_lt_of_le (tbf_lt _ g) (show 2 ^ g ≤ 2 ^ 7 from Nat.pow_le_pow_right (by decide) (by omega))
      show X2_soonBits_h4 26 4 (X2_soonBits_l4 26 4 n1) (nI (tbf (sO A) g)) (nI g) A = _
      unfold X2_soonBits_h4
      rw [eN, if_neg c1, x7, gd_t, i7, nI_1]
      show (if A 27 g = 0 then gd true (if A 26 0 + 9 ≤ A 28 g then _ else _) else _) = _
      rcases q_soon h (show g < N by omega) with ⟨s1, s2, s3, -⟩ | ⟨s1, s2, -⟩
      · rw [if_pos s2, gd_t, if_neg s3, q_bits.2 _ lt g (by omega)]
        rw [e1, if_pos s1] at nx
        exact nx
      · have hne : ¬ sO A g = true := by rw [s1]; decide
        rw [e1, if_neg hne] at nx
        by_cases q : A 27 g = 0
        · have q2 : A 26 0 + 9 ≤ A 28 g := Classical.byContradiction (fun z => s2 ⟨q, z⟩)
          rw [if_pos q, gd_t, if_pos q2]
          exact nx
        · rw [if_neg q]
          exact nx
  have k := key N 0 hF (by omega) (show N < 1024 by omega)
  unfold X2_soonBits
  rw [nI_0] at k
  exact k
theorem q_hadL {S c N : Nat} (hS : S < 128) (hN : N ≤ 7) : ∀ (k g : Nat) (A : hM) (n1 : Nat), g + k = N → k < n1 → A 4 0 = nI N → ∃ A2 : hM, X4_hadLate_l13 n1 (nI S) (nI c) (nI g) A = X4_hadLate_b52 A2 ∧ (∀ a, a ≠ 33 → A2 a = A a) ∧ ∀ h, (g ≤ h ∧ h < N ∧ S.testBit h = true → A2 33 h = A 33 h + nI c) ∧ (¬ (g ≤ h ∧ h < N ∧ S.testBit h = true) → A2 33 h = A 33 h) := by
  intro k
  induction k with
  | zero =>
    intro g A n1 hg h1 eN
    obtain ⟨n1, rfl⟩ : ∃ j, n1 = j + 1 := ⟨n1 - 1, by omega⟩
    obtain rfl : g = N := by omega
    have c1 : nI g ≤ nI g := nI_le (by omega) (by omega)
    refine ⟨A, ?_, fun _ _ => rfl, fun h => ⟨fun z => absurd z.1 (by omega), fun _ => rfl⟩⟩
    show X4_hadLate_h13 _ (nI S) (nI c) (nI g) A = _
    unfold X4_hadLate_h13
    rw [eN, if_pos c1]
  | succ k ih =>
    intro g A n1 hg h1 eN
    obtain ⟨n1, rfl⟩ : ∃ j, n1 = j + 1 := ⟨n1 - 1, by omega⟩
    have c1 : ¬ nI N ≤ nI g := nI_ge (by omega) (by omega)
    have x7 : hx (nI g) 7 = true := q_hx (by omega) (by decide)
    have i7 : (nI g).toNatClampNeg = g := nI_clamp (by omega)
    have b1 := q_bits.1 S hS g (by omega)
    by_cases q : S.testBit g = true
    · obtain ⟨A2, e1, e2, e3⟩ := ih (g + 1) (hu A 33 g (A 33 g + nI c)) n1 (by omega) (by omega) (by rw [q_ha _ _ _ _ (by decide)]; exact eN)
      refine ⟨A2, ?_, fun a ha => by rw [e2 a ha, q_hr _ _ _ ha], fun h => ?_⟩
      · show X4_hadLate_h13 (X4_hadLate_l13 n1) (nI S) (nI c) (nI g) A = _
        unfold X4_hadLate_h13
        rw [eN, if_neg c1, if_pos (b1.mpr q), x7, gd_t, gd_t, i7, nI_1]
        exact e1
      · by_cases hh : h = g
        · subst hh
          refine ⟨fun _ => ?_, fun z => absurd ⟨Nat.le_refl _, by omega, q⟩ z⟩
          rw [(e3 h).2 (fun z => absurd z.1 (by omega)), q_hu]
        · refine ⟨fun z => ?_, fun z => ?_⟩
          · rw [(e3 h).1 ⟨by omega, z.2.1, z.2.2⟩, q_hi _ _ hh]
          · rw [(e3 h).2 (fun y => z ⟨by omega, y.2.1, y.2.2⟩), q_hi _ _ hh]
    · obtain ⟨A2, e1, e2, e3⟩ := ih (g + 1) A n1 (by omega) (by omega) eN
      refine ⟨A2, ?_, e2, fun h => ?_⟩
      · show X4_hadLate_h13 (X4_hadLate_l13 n1) (nI S) (nI c) (nI g) A = _
        unfold X4_hadLate_h13
        rw [eN, if_neg c1, if_neg (fun z => q (b1.mp z)), nI_1]
        exact e1
      · refine ⟨fun z => ?_, fun z => ?_⟩
        · by_cases hh : h = g
          · subst hh
            exact absurd z.2.2 q
          · exact (e3 h).1 ⟨by omega, z.2.1, z.2.2⟩
        · exact (e3 h).2 (fun y => z ⟨by omega, y.2.1, y.2.2⟩)
theorem q_has {S g : Nat} (hS : S < 128) (hg : g < 7) (I : hM) : X5_has (nI S) (nI g) I = some (if S.testBit g = true then 1 else 0, I) := by
  have b1 := q_bits.1 S hS g hg
  unfold X5_has
  by_cases q : S.testBit g = true
  · rw [if_pos (b1.mpr q), if_pos q, q_g1]
  · rw [if_neg (fun z => q (b1.mp z)), if_neg q, q_g0]
def ok1 (b : Bool) : Int32 := if b = true then 1 else 0
theorem q_lmod {A B : hM} {N F L m S c p : Nat} (hSt : St A B N F L m) (hS : S < 128) (hp : p ≤ 10) (K : Int32 → Int32 → Int32 → Int32 → Int32 → Int32 → Int32 → hM → Option (Int32 × hM)) (x3 x4 x5 x6 : Int32) : ∀ (k g : Nat) (B1 : hM) (n2 : Nat), g + k = N → k < n2 → (∀ a, a ≠ 113 → B1 a = B a) → (∀ j, j < 220 → B1 113 j = B 113 j) →
    ∃ B2 : hM, X5_late_l86 K n2 (nI c) (nI p) x3 x4 x5 x6 (nI S) (nI (wg (sO A) S.testBit p g)) (ok1 (sb (sO A) S.testBit g)) (nI g) B1 = X5_late_b202 K (nI c) (nI p) x3 x4 x5 x6 (nI S) (nI (wg (sO A) S.testBit p N)) (ok1 (sb (sO A) S.testBit N)) B2 ∧ (∀ a, a ≠ 113 → B2 a = B1 a) ∧ (∀ j, j < 227 + g → B2 113 j = B1 113 j) ∧ (∀ j, 227 + N ≤ j → B2 113 j = B1 113 j) ∧ ∀ h, g ≤ h → h < N → (sO A h = true → S.testBit h = true → B2 113 (227 + h) = B1 113 (227 + h) + nI c) ∧ (¬ S.testBit h = true → B2 113 (227 + h) = B1 113 (227 + h)) := by
  intro k
  have hb := hSt.1.1
  have fN := hSt.1.2.1.2
  induction k with
  | zero =>
    intro g B1 n2 hg h2 f1 f2
    obtain ⟨n2, rfl⟩ : ∃ j, n2 = j + 1 := ⟨n2 - 1, by omega⟩
    obtain rfl : g = N := by omega
    have c1 : nI g ≤ nI g := nI_le (by omega) (by omega)
    refine ⟨B1, ?_, fun _ _ => rfl, fun _ _ => rfl, fun _ _ => rfl, fun h h1 h2 => absurd h1 (by omega)⟩
    show X5_late_h86 K _ (nI c) (nI p) x3 x4 x5 x6 (nI S) _ _ (nI g) B1 = _
    unfold X5_late_h86
    rw [f1 92 (by decide), fN, if_pos c1]
  | succ k ih =>
    intro g B1 n2 hg h2 f1 f2
    obtain ⟨n2, rfl⟩ : ∃ j, n2 = j + 1 := ⟨n2 - 1, by omega⟩
    have c1 : ¬ nI N ≤ nI g := nI_ge (by omega) (by omega)
    have hg7 : g < 7 := by omega
    have hh := q_has hS hg7
    obtain ⟨s0, s0x⟩ := q_227 (g := g) (by omega)
    have e10 : 10 - nI p = nI (10 - p) := pk_sub (a := 10) hp
    have ew : wg (sO A) S.testBit p (g + 1) = wg (sO A) S.testBit p g * (if sO A g = true then (if S.testBit g = true then p else 10 - p) else 1) := rfl
    have eb : sb (sO A) S.testBit (g + 1) = (sb (sO A) S.testBit g && (!(S.testBit g) || sO A g)) := rfl
    have fB : B1 92 0 = nI N := by rw [f1 92 (by decide)]; exact fN
    have id1 : hu B1 113 (227 + g) (B1 113 (227 + g)) = B1 := hu_id _ _ _
    have nx0 := ih (g + 1) B1 n2 (by omega) (by omega) f1 f2
    obtain ⟨B2', u1, u2, u3, u4, u5⟩ := nx0
    obtain ⟨B3', v1, v2, v3, v4, v5⟩ := ih (g + 1) (hu B1 113 (227 + g) (B1 113 (227 + g) + nI c)) n2 (by omega) (by omega) (fun a ha => by rw [q_hr _ _ _ ha, f1 a ha]) (fun j hj => by rw [q_hi _ _ (by omega), f2 j hj])
    have stay : (X5_late_h86 K (X5_late_l86 K n2) (nI c) (nI p) x3 x4 x5 x6 (nI S) (nI (wg (sO A) S.testBit p g)) (ok1 (sb (sO A) S.testBit g)) (nI g) B1 = X5_late_l86 K n2 (nI c) (nI p) x3 x4 x5 x6 (nI S) (nI (wg (sO A) S.testBit p (g + 1))) (ok1 (sb (sO A) S.testBit (g + 1))) (nI (g + 1)) B1) → (sO A g = true → S.testBit g = true → False) → ∃ B2 : hM, X5_late_l86 K (n2 + 1) (nI c) (nI p) x3 x4 x5 x6 (nI S) (nI (wg (sO A) S.testBit p g)) (ok1 (sb (sO A) S.testBit g)) (nI g) B1 = X5_late_b202 K (nI c) (nI p) x3 x4 x5 x6 (nI S) (nI (wg (sO A) S.testBit p N)) (ok1 (sb (sO A) S.testBit N)) B2 ∧ (∀ a, a ≠ 113 → B2 a = B1 a) ∧ (∀ j, j < 227 + g → B2 113 j = B1 113 j) ∧ (∀ j, 227 + N ≤ j → B2 113 j = B1 113 j) ∧ ∀ h, g ≤ h → h < N → (sO A h = true → S.testBit h = true → B2 113 (227 + h) = B1 113 (227 + h) + nI c) ∧ (¬ S.testBit h = true → B2 113 (227 + h) = B1 113 (227 + h)) := by
      intro e hno
      refine ⟨B2', e.trans u1, u2, fun j hj => u3 j (by omega), u4, fun h h1 h2 => ?_⟩
      by_cases hh : h = g
      · subst hh
        exact ⟨fun z1 z2 => (hno z1 z2).elim, fun _ => u3 _ (by omega)⟩
      · exact u5 h (by omega) h2
    have n01 : ¬ (1 : Int32) = 0 := by decide
    by_cases qS : S.testBit g = true
    · have hh1 : ∀ I, X5_has (nI S) (nI g) I = some (1, I) := fun I => by rw [hh I, if_pos qS]
      rcases q_soon hSt (show g < N by omega) with ⟨s1, s2, s3, s4, -⟩ | ⟨s1, s2, s3⟩
      · have s4 := s4 B1 (fun j hj => f2 j (by omega))
        refine ⟨B3', ?_, fun a ha => by rw [v2 a ha, q_hr _ _ _ ha], fun j hj => by rw [v3 j (by omega), q_hi _ _ (by omega)], fun j hj => by rw [v4 j hj, q_hi _ _ (by omega)], fun h h1 h2 => ?_⟩
        · show X5_late_h86 K (X5_late_l86 K n2) (nI c) (nI p) x3 x4 x5 x6 (nI S) (nI (wg (sO A) S.testBit p g)) (ok1 (sb (sO A) S.testBit g)) (nI g) B1 = _
          rw [← v1, ew, eb, s1, qS, if_pos rfl, if_pos rfl]
          cases sb (sO A) S.testBit g
          · show X5_late_h86 K (X5_late_l86 K n2) (nI c) (nI p) x3 x4 x5 x6 (nI S) (nI (wg (sO A) S.testBit p g)) 0 (nI g) B1 = X5_late_l86 K n2 (nI c) (nI p) x3 x4 x5 x6 (nI S) (nI (wg (sO A) S.testBit p g * p)) 0 (nI (g + 1)) _
            simp only [X5_late_h86, X5_late_b128, X5_late_b159, fB, c1, s4, hh1, n01, s0, s0x, pk_mul, gd_t, ob_s, nI_1, ↓reduceIte]
          · show X5_late_h86 K (X5_late_l86 K n2) (nI c) (nI p) x3 x4 x5 x6 (nI S) (nI (wg (sO A) S.testBit p g)) 1 (nI g) B1 = X5_late_l86 K n2 (nI c) (nI p) x3 x4 x5 x6 (nI S) (nI (wg (sO A) S.testBit p g * p)) 1 (nI (g + 1)) _
            simp only [X5_late_h86, X5_late_b128, X5_late_b159, fB, c1, s4, hh1, n01, s0, s0x, pk_mul, gd_t, ob_s, nI_1, ↓reduceIte]
        · by_cases hg2 : h = g
          · subst hg2
            exact ⟨fun _ _ => by rw [v3 _ (by omega), q_hu], fun z => absurd qS z⟩
          · have w := v5 h (by omega) h2
            rw [q_hi _ _ (by omega)] at w
            exact w
      · have s3 := s3 B1 (fun j hj => f2 j (by omega))
        refine stay ?_ (fun z _ => by rw [s1] at z; exact absurd z (by decide))
        rw [ew, eb, s1, qS, if_neg (by decide), Nat.mul_one]
        cases sb (sO A) S.testBit g
        · show X5_late_h86 K (X5_late_l86 K n2) (nI c) (nI p) x3 x4 x5 x6 (nI S) (nI (wg (sO A) S.testBit p g)) 0 (nI g) B1 = X5_late_l86 K n2 (nI c) (nI p) x3 x4 x5 x6 (nI S) (nI (wg (sO A) S.testBit p g)) 0 (nI (g + 1)) B1
          simp only [X5_late_h86, X5_late_b128, X5_late_b159, X5_late_b193, fB, c1, s3, hh1, n01, s0, s0x, id1, Int32.mul_one, Int32.add_zero, gd_t, ob_s, nI_1, ↓reduceIte]
        · show X5_late_h86 K (X5_late_l86 K n2) (nI c) (nI p) x3 x4 x5 x6 (nI S) (nI (wg (sO A) S.testBit p g)) 1 (nI g) B1 = X5_late_l86 K n2 (nI c) (nI p) x3 x4 x5 x6 (nI S) (nI (wg (sO A) S.testBit p g)) 0 (nI (g + 1)) B1
          simp only [X5_late_h86, X5_late_b128, X5_late_b159, X5_late_b193, fB, c1, s3, hh1, n01, s0, s0x, id1, Int32.mul_one, Int32.add_zero, gd_t, ob_s, nI_1, ↓reduceIte]
    · have hh0 : ∀ I, X5_has (nI S) (nI g) I = some (0, I) := fun I => by rw [hh I, if_neg qS]
      have qS2 : S.testBit g = false := by
        cases hx : S.testBit g
        · rfl
        · exact absurd hx qS
      rcases q_soon hSt (show g < N by omega) with ⟨s1, s2, s3, s4, -⟩ | ⟨s1, s2, s3⟩
      · have s4 := s4 B1 (fun j hj => f2 j (by omega))
        refine stay ?_ (fun _ z => qS z)
        rw [ew, eb, s1, qS2, if_pos rfl, if_neg (by decide)]
        cases sb (sO A) S.testBit g
        · show X5_late_h86 K (X5_late_l86 K n2) (nI c) (nI p) x3 x4 x5 x6 (nI S) (nI (wg (sO A) S.testBit p g)) 0 (nI g) B1 = X5_late_l86 K n2 (nI c) (nI p) x3 x4 x5 x6 (nI S) (nI (wg (sO A) S.testBit p g * (10 - p))) 0 (nI (g + 1)) B1
          simp only [X5_late_h86, X5_late_b128, X5_late_b159, X5_late_b193, fB, c1, s4, hh0, n01, s0, s0x, id1, e10, pk_mul, Int32.add_zero, gd_t, ob_s, nI_1, ↓reduceIte]
        · show X5_late_h86 K (X5_late_l86 K n2) (nI c) (nI p) x3 x4 x5 x6 (nI S) (nI (wg (sO A) S.testBit p g)) 1 (nI g) B1 = X5_late_l86 K n2 (nI c) (nI p) x3 x4 x5 x6 (nI S) (nI (wg (sO A) S.testBit p g * (10 - p))) 1 (nI (g + 1)) B1
          simp only [X5_late_h86, X5_late_b128, X5_late_b159, X5_late_b193, fB, c1, s4, hh0, n01, s0, s0x, id1, e10, pk_mul, Int32.add_zero, gd_t, ob_s, nI_1, ↓reduceIte]
      · have s3 := s3 B1 (fun j hj => f2 j (by omega))
        refine stay ?_ (fun _ z => qS z)
        rw [ew, eb, s1, qS2, if_neg (by decide), Nat.mul_one]
        cases sb (sO A) S.testBit g
        · show X5_late_h86 K (X5_late_l86 K n2) (nI c) (nI p) x3 x4 x5 x6 (nI S) (nI (wg (sO A) S.testBit p g)) 0 (nI g) B1 = X5_late_l86 K n2 (nI c) (nI p) x3 x4 x5 x6 (nI S) (nI (wg (sO A) S.testBit p g)) 0 (nI (g + 1)) B1
          simp only [X5_late_h86, X5_late_b128, X5_late_b159, X5_late_b193, fB, c1, s3, hh0, n01, s0, s0x, id1, Int32.mul_one, Int32.add_zero, gd_t, ob_s, nI_1, ↓reduceIte]
        · show X5_late_h86 K (X5_late_l86 K n2) (nI c) (nI p) x3 x4 x5 x6 (nI S) (nI (wg (sO A) S.testBit p g)) 1 (nI g) B1 = X5_late_l86 K n2 (nI c) (nI p) x3 x4 x5 x6 (nI S) (nI (wg (sO A) S.testBit p g)) 1 (nI (g + 1)) B1
          simp only [X5_late_h86, X5_late_b128, X5_late_b159, X5_late_b193, fB, c1, s3, hh0, n01, s0, s0x, id1, Int32.mul_one, Int32.add_zero, gd_t, ob_s, nI_1, ↓reduceIte]
