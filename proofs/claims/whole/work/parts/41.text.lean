/-! the letters, the figures, the numbers -/
def lt (T : Nat) (c : Nat → Nat) (i : Nat) : Nat := if i < T then c i else 0
def fg (l : Nat → Nat) (i : Nat) : Bool := decide (48 ≤ l i ∧ l i ≤ 57)
def nm (l : Nat → Nat) (i : Nat) : Option (Nat × Nat) := if fg l i = true then (if fg l (i + 1) = true then (if fg l (i + 2) = true then none else some (10 * (l i - 48) + (l (i + 1) - 48), i + 2)) else some (l i - 48, i + 1)) else none
def rn (l : Nat → Nat) : Nat → Nat → Option (List Nat × Nat)
  | 0, _ => none
  | f + 1, i => match nm l i with
    | none => none
    | some (x, j) => if l j = 59 then some ([x], j + 1) else if l j = 44 then (match rn l f (j + 1) with
      | none => none
      | some (xs, k) => some (x :: xs, k)) else none
theorem nm_le {l : Nat → Nat} {i x j : Nat} (h : nm l i = some (x, j)) : x ≤ 99 ∧ i + 1 ≤ j ∧ j ≤ i + 2 ∧ fg l i = true ∧ ¬ fg l j = true := by
  unfold nm at h
  by_cases h1 : fg l i = true
  · rw [if_pos h1] at h
    have k1 := of_decide_eq_true h1
    by_cases h2 : fg l (i + 1) = true
    · rw [if_pos h2] at h
      have k2 := of_decide_eq_true h2
      by_cases h3 : fg l (i + 2) = true
      · rw [if_pos h3] at h
        exact absurd h (by simp)
      · rw [if_neg h3] at h
        obtain ⟨e1, e2⟩ := Prod.mk.inj (Option.some.inj h)
        subst e2
        exact ⟨by omega, by omega, by omega, h1, h3⟩
    · rw [if_neg h2] at h
      obtain ⟨e1, e2⟩ := Prod.mk.inj (Option.some.inj h)
      subst e2
      exact ⟨by omega, by omega, by omega, h1, h2⟩
  · rw [if_neg h1] at h
    exact absurd h (by simp)
/-- the text of this program -/
def Tt (A : hM) (T : Nat) (c : Nat → Nat) : Prop := T ≤ 200 ∧ A 1 1 = nI T ∧ ∀ i, i < T → (32 ≤ c i ∧ c i ≤ 126) ∧ A 2 i = nI (c i)
/-- the text of the model -/
def Tm (B : hM) (T : Nat) (c : Nat → Nat) : Prop := T ≤ 200 ∧ B 92 29 = nI T ∧ ∀ i, i < T → (32 ≤ c i ∧ c i ≤ 126) ∧ B 114 i = nI (c i)
theorem Tx.tt {A B : hM} (h : Tx A B) : ∃ T c, Tt A T c ∧ Tm B T c := by
  obtain ⟨T, h1, h2, h3, h4⟩ := h
  refine ⟨T, fun i => (A 2 i).toNatClampNeg, ⟨h1, h2, fun i hi => ?_⟩, ⟨h1, h3, fun i hi => ?_⟩⟩
  · obtain ⟨c, c1, c2, c3, c4⟩ := h4 i hi
    have e : (A 2 i).toNatClampNeg = c := by rw [c3]; exact nI_clamp (by omega)
    show (32 ≤ (A 2 i).toNatClampNeg ∧ (A 2 i).toNatClampNeg ≤ 126) ∧ A 2 i = nI (A 2 i).toNatClampNeg
    rw [e]
    exact ⟨⟨c1, c2⟩, c3⟩
  · obtain ⟨c, c1, c2, c3, c4⟩ := h4 i hi
    have e : (A 2 i).toNatClampNeg = c := by rw [c3]; exact nI_clamp (by omega)
    show (32 ≤ (A 2 i).toNatClampNeg ∧ (A 2 i).toNatClampNeg ≤ 126) ∧ B 114 i = nI (A 2 i).toNatClampNeg
    rw [e]
    exact ⟨⟨c1, c2⟩, c4⟩
theorem lt_le {A : hM} {T : Nat} {c : Nat → Nat} (h : Tt A T c) (i : Nat) : lt T c i ≤ 126 := by
  unfold lt
  split
  · exact (h.2.2 i (by assumption)).1.2
  · omega
theorem q_let {A : hM} {T : Nat} {c : Nat → Nat} (h : Tt A T c) {i : Nat} (hi : i < 100000) : X3_letterAt 1 (nI i) A = some (nI (lt T c i), A) := by
  have c0 : ¬ nI i < 0 := nI_pos (by omega)
  have hT := h.1
  unfold X3_letterAt lt
  rw [if_neg c0, h.2.1]
  by_cases q : i < T
  · have c1 : ¬ nI T ≤ nI i := nI_ge q (by omega)
    have c2 : ¬ (200 : Int32) ≤ nI i := nI_ge (b := 200) (by omega) (by decide)
    have i1 : (nI i).toNatClampNeg = i := nI_clamp (by omega)
    rw [if_neg c1, if_neg c2, q_hx (by omega) (by decide), gd_t, i1, if_pos q]
    show some (A 2 i, A) = _
    rw [(h.2.2 i q).2]
  · have c1 : nI T ≤ nI i := nI_le (by omega) (by omega)
    rw [if_pos c1, if_neg q, nI_0]
theorem q_fig {A : hM} {T : Nat} {c : Nat → Nat} (h : Tt A T c) {i : Nat} (hi : i < 100000) : X3_isFigure 1 (nI i) A = some (if fg (lt T c) i = true then 1 else 0, A) := by
  have hl := lt_le h i
  unfold X3_isFigure
  rw [q_let h hi, ob_s]
  by_cases q1 : lt T c i < 48
  · have e1 : nI (lt T c i) < 48 := nI_lt (b := 48) q1 (by decide)
    have e2 : ¬ fg (lt T c) i = true := fun z => by have := of_decide_eq_true z; omega
    rw [if_pos e1, if_neg e2, q_g0]
  · have e1 : ¬ nI (lt T c i) < 48 := nI_nlt (b := 48) (by omega) (by omega)
    rw [if_neg e1]
    by_cases q2 : 57 < lt T c i
    · have e3 : 57 < nI (lt T c i) := nI_lt (a := 57) q2 (by omega)
      have e2 : ¬ fg (lt T c) i = true := fun z => by have := of_decide_eq_true z; omega
      rw [if_pos e3, if_neg e2, q_g0]
    · have e3 : ¬ 57 < nI (lt T c i) := nI_nlt (a := 57) (by omega) (by decide)
      have e2 : fg (lt T c) i = true := decide_eq_true ⟨by omega, by omega⟩
      rw [if_neg e3, if_pos e2, q_g1]
/-- reading numbers leaves the rest as it was -/
def Fn (A A' : hM) : Prop := (∀ a, a ≠ 1 → a ≠ 3 → A' a = A a) ∧ ∀ i, i ≠ 3 → A' 1 i = A 1 i
theorem Fn.tr {A A' A'' : hM} (h : Fn A A') (h' : Fn A' A'') : Fn A A'' := ⟨fun a h1 h2 => (h'.1 a h1 h2).trans (h.1 a h1 h2), fun i hi => (h'.2 i hi).trans (h.2 i hi)⟩
theorem Fn.tt {A A' : hM} {T : Nat} {c : Nat → Nat} (h : Tt A T c) (hF : Fn A A') : Tt A' T c := ⟨h.1, by rw [hF.2 1 (by decide)]; exact h.2.1, fun i hi => by rw [hF.1 2 (by decide) (by decide)]; exact h.2.2 i hi⟩
/-- one number: taken down, and what follows it -/
theorem q_b60 {A : hM} {T : Nat} {c : Nat → Nat} (h : Tt A T c) {j n x : Nat} (hj : j < 90000) (hn : n < 5) (K : Int32 → Int32 → hM → Option (Int32 × hM)) : Fn A (hu (hu A 3 n (nI x)) 1 3 (nI (n + 1))) ∧ X3_readNumbers_b60 1 K (nI j) (nI n) (nI x) A = if lt T c j = 59 then some (nI (j + 1), hu (hu A 3 n (nI x)) 1 3 (nI (n + 1))) else if lt T c j = 44 then K (nI (j + 1)) (nI (n + 1)) (hu (hu A 3 n (nI x)) 1 3 (nI (n + 1))) else some (-4, hu (hu A 3 n (nI x)) 1 3 (nI (n + 1))) := by
  have hF : Fn A (hu (hu A 3 n (nI x)) 1 3 (nI (n + 1))) := ⟨fun a h1 h2 => by rw [q_hr _ _ _ h1, q_hr _ _ _ h2], fun i hi => by rw [q_hi _ _ hi, q_ha _ _ _ _ (by decide)]⟩
  have hl := lt_le h j
  have i1 : (nI n).toNatClampNeg = n := nI_clamp (by omega)
  refine ⟨hF, ?_⟩
  unfold X3_readNumbers_b60
  rw [q_hx hn (by decide), gd_t, i1, nI_1]
  show ob (X3_letterAt 1 (nI j) (hu (hu A 3 n (nI x)) 1 3 (nI (n + 1)))) _ = _
  rw [q_let (Fn.tt h hF) (by omega), ob_s, nI_1]
  by_cases q : lt T c j = 59
  · have e : nI (lt T c j) = 59 := by rw [q]; rfl
    rw [if_pos e, if_pos q]
  · have e : ¬ nI (lt T c j) = 59 := fun z => q ((nI_eq (b := 59) (by omega) (by decide)).mp z)
    rw [if_neg e, if_neg q]
    by_cases q2 : lt T c j = 44
    · have e2 : nI (lt T c j) = 44 := by rw [q2]; rfl
      rw [if_pos e2, if_pos q2]
    · have e2 : ¬ nI (lt T c j) = 44 := fun z => q2 ((nI_eq (b := 44) (by omega) (by decide)).mp z)
      rw [if_neg e2, if_neg q2]
theorem q_readN {T : Nat} {c : Nat → Nat} : ∀ (f n i n1 : Nat) (A : hM), n + f = 5 → f < n1 → i + 3 * f < 50000 → Tt A T c → ∃ A', Fn A A' ∧ (∀ t, t < n → A' 3 t = A 3 t) ∧
    (rn (lt T c) f i = none → X3_readNumbers_l4 1 n1 (nI i) (nI n) A = some (-4, A')) ∧
    (∀ xs k, rn (lt T c) f i = some (xs, k) → X3_readNumbers_l4 1 n1 (nI i) (nI n) A = some (nI k, A') ∧ (1 ≤ xs.length ∧ xs.length ≤ f) ∧ A' 1 3 = nI (n + xs.length) ∧ (∀ t, t < xs.length → xs.getD t 0 ≤ 99 ∧ A' 3 (n + t) = nI (xs.getD t 0)) ∧ i < k ∧ k ≤ i + 3 * f) := by
  intro f
  induction f with
  | zero =>
    intro n i n1 A hn h1 hi h
    obtain ⟨n1, rfl⟩ : ∃ j, n1 = j + 1 := ⟨n1 - 1, by omega⟩
    obtain rfl : n = 5 := by omega
    have c1 : (5 : Int32) ≤ nI 5 := by decide
    refine ⟨A, ⟨fun _ _ _ => rfl, fun _ _ => rfl⟩, fun _ _ => rfl, fun _ => ?_, fun xs k z => absurd z (by unfold rn; simp)⟩
    show X3_readNumbers_h4 1 _ (nI i) (nI 5) A = _
    unfold X3_readNumbers_h4
    rw [if_pos c1]
  | succ f ih =>
    intro n i n1 A hn h1 hi h
    obtain ⟨n1, rfl⟩ : ∃ j, n1 = j + 1 := ⟨n1 - 1, by omega⟩
    have c1 : ¬ (5 : Int32) ≤ nI n := nI_ge (b := 5) (by omega) (by decide)
    have hl := lt_le h i
    have hl1 := lt_le h (i + 1)
    have e0 : ∀ g, X3_readNumbers_l4 1 (g + 1) (nI i) (nI n) A = X3_readNumbers_h4 1 (X3_readNumbers_l4 1 g) (nI i) (nI n) A := fun _ => rfl
    by_cases q0 : fg (lt T c) i = true
    · have k0 := of_decide_eq_true q0
      have s0 : nI (lt T c i) - 48 = nI (lt T c i - 48) := pk_sub (b := 48) k0.1
      -- what one number leads to
      have go : ∀ x j, nm (lt T c) i = some (x, j) → X3_readNumbers_h4 1 (X3_readNumbers_l4 1 n1) (nI i) (nI n) A = X3_readNumbers_b60 1 (X3_readNumbers_l4 1 n1) (nI j) (nI n) (nI x) A → ∃ A', Fn A A' ∧ (∀ t, t < n → A' 3 t = A 3 t) ∧ (rn (lt T c) (f + 1) i = none → X3_readNumbers_l4 1 (n1 + 1) (nI i) (nI n) A = some (-4, A')) ∧ (∀ xs k, rn (lt T c) (f + 1) i = some (xs, k) → X3_readNumbers_l4 1 (n1 + 1) (nI i) (nI n) A = some (nI k, A') ∧ (1 ≤ xs.length ∧ xs.length ≤ f + 1) ∧ A' 1 3 = nI (n + xs.length) ∧ (∀ t, t < xs.length → xs.getD t 0 ≤ 99 ∧ A' 3 (n + t) = nI (xs.getD t 0)) ∧ i < k ∧ k ≤ i + 3 * (f + 1)) := by
        intro x j hnm e1
        obtain ⟨b1, b2, b3, -, -⟩ := nm_le hnm
        obtain ⟨fn, e2⟩ := q_b60 (x := x) h (show j < 90000 by omega) (show n < 5 by omega) (X3_readNumbers_l4 1 n1)
        have er : rn (lt T c) (f + 1) i = if lt T c j = 59 then some ([x], j + 1) else if lt T c j = 44 then (match rn (lt T c) f (j + 1) with
            | none => none
            | some (xs, k) => some (x :: xs, k)) else none := by
          show (match nm (lt T c) i with
            | none => none
            | some (x, j) => if lt T c j = 59 then some ([x], j + 1) else if lt T c j = 44 then (match rn (lt T c) f (j + 1) with
              | none => none
              | some (xs, k) => some (x :: xs, k)) else none) = _
          rw [hnm]
        rw [e0, e1, e2]
        have u3 : hu (hu A 3 n (nI x)) 1 3 (nI (n + 1)) 3 n = nI x := by rw [q_ha _ _ _ _ (by decide), q_hu]
        have u4 : ∀ t, t ≠ n → hu (hu A 3 n (nI x)) 1 3 (nI (n + 1)) 3 t = A 3 t := fun t ht => by rw [q_ha _ _ _ _ (by decide), q_hi _ _ ht]
        by_cases q59 : lt T c j = 59
        · rw [er, if_pos q59, if_pos q59]
          refine ⟨_, fn, fun t ht => u4 t (by omega), fun z => absurd z (by simp), fun xs k z => ?_⟩
          obtain ⟨z1, z2⟩ := Prod.mk.inj (Option.some.inj z)
          subst z1
          subst z2
          refine ⟨rfl, ⟨Nat.le_refl _, by show 1 ≤ f + 1; omega⟩, q_hu _ _ _ _, fun t ht => ?_, by omega, by omega⟩
          have ht : t < 1 := ht
          obtain rfl : t = 0 := by omega
          exact ⟨b1, u3⟩
        · rw [er, if_neg q59, if_neg q59]
          by_cases q44 : lt T c j = 44
          · rw [if_pos q44, if_pos q44]
            obtain ⟨A', p1, p2, p3, p4⟩ := ih (n + 1) (j + 1) n1 _ (by omega) (by omega) (by omega) (Fn.tt h fn)
            refine ⟨A', fn.tr p1, fun t ht => by rw [p2 t (by omega), u4 t (by omega)], fun z => ?_, fun xs k z => ?_⟩
            · cases hr : rn (lt T c) f (j + 1) with
              | none => exact p3 hr
              | some y =>
                rw [hr] at z
                exact absurd z (by simp)
            · cases hr : rn (lt T c) f (j + 1) with
              | none =>
                rw [hr] at z
                exact absurd z (by simp)
              | some y =>
                obtain ⟨ys, k'⟩ := y
                rw [hr] at z
                obtain ⟨z1, z2⟩ := Prod.mk.inj (Option.some.inj z)
                subst z1
                subst z2
                obtain ⟨w1, w2, w3, w4, w5, w6⟩ := p4 ys k' hr
                refine ⟨w1, ⟨by show 1 ≤ ys.length + 1; omega, by show ys.length + 1 ≤ f + 1; omega⟩, by rw [w3]; show nI (n + 1 + ys.length) = nI (n + (ys.length + 1)); congr 1; omega, fun t ht => ?_, by omega, by omega⟩
                have ht : t < ys.length + 1 := ht
                cases t with
                | zero => exact ⟨b1, by rw [Nat.add_zero, p2 n (by omega)]; exact u3⟩
                | succ t =>
                  obtain ⟨v1, v2⟩ := w4 t (by omega)
                  refine ⟨v1, ?_⟩
                  rw [show n + (t + 1) = n + 1 + t by omega]
                  exact v2
          · rw [if_neg q44, if_neg q44]
            exact ⟨_, fn, fun t ht => u4 t (by omega), fun _ => rfl, fun xs k z => absurd z (by simp)⟩
      have hh : X3_readNumbers_h4 1 (X3_readNumbers_l4 1 n1) (nI i) (nI n) A = if fg (lt T c) (i + 1) = true then X3_readNumbers_b60 1 (X3_readNumbers_l4 1 n1) (nI (i + 2)) (nI n) (nI (10 * (lt T c i - 48) + (lt T c (i + 1)) - 48)) A else X3_readNumbers_b60 1 (X3_readNumbers_l4 1 n1) (nI (i + 1)) (nI n) (nI (lt T c i - 48)) A := by
        unfold X3_readNumbers_h4
        rw [if_neg c1, q_fig h (by omega), ob_s, if_pos q0, if_neg n10, q_let h (by omega), ob_s, nI_1, q_fig h (by omega), ob_s]
        by_cases q1 : fg (lt T c) (i + 1) = true
        · have k1 := of_decide_eq_true q1
          have e5 : (10 : Int32) * nI (lt T c i - 48) + nI (lt T c (i + 1)) - 48 = nI (10 * (lt T c i - 48) + lt T c (i + 1) - 48) := by
            rw [show (10 : Int32) = nI 10 from rfl, pk_mul, nI_add]
            exact pk_sub (b := 48) (by omega)
          rw [if_pos q1, if_pos q1, if_neg n10, q_let h (by omega), ob_s, nI_1, s0, e5]
        · rw [if_neg q1, if_neg q1, if_pos rfl, s0]
      by_cases q1 : fg (lt T c) (i + 1) = true
      · have k1 := of_decide_eq_true q1
        rw [if_pos q1] at hh
        by_cases q2 : fg (lt T c) (i + 2) = true
        · have k2 := of_decide_eq_true q2
          have en : nm (lt T c) i = none := by
            unfold nm
            rw [if_pos q0, if_pos q1, if_pos q2]
          have er : rn (lt T c) (f + 1) i = none := by
            show (match nm (lt T c) i with
              | none => none
              | some (x, j) => _) = none
            rw [en]
          obtain ⟨fn, e2⟩ := q_b60 (x := 10 * (lt T c i - 48) + (lt T c (i + 1)) - 48) h (show i + 2 < 90000 by omega) (show n < 5 by omega) (X3_readNumbers_l4 1 n1)
          rw [if_neg (by omega), if_neg (by omega)] at e2
          exact ⟨_, fn, fun t ht => by rw [q_ha _ _ _ _ (by decide), q_hi _ _ (by omega)], fun _ => by rw [e0, hh, e2], fun xs k z => by rw [er] at z; exact absurd z (by simp)⟩
        · refine go (10 * (lt T c i - 48) + (lt T c (i + 1) - 48)) (i + 2) ?_ ?_
          · unfold nm
            rw [if_pos q0, if_pos q1, if_neg q2]
          · rw [hh, show 10 * (lt T c i - 48) + lt T c (i + 1) - 48 = 10 * (lt T c i - 48) + (lt T c (i + 1) - 48) by omega]
      · rw [if_neg q1] at hh
        refine go (lt T c i - 48) (i + 1) ?_ hh
        unfold nm
        rw [if_pos q0, if_neg q1]
    · have en : nm (lt T c) i = none := by
        unfold nm
        rw [if_neg q0]
      have er : rn (lt T c) (f + 1) i = none := by
        show (match nm (lt T c) i with
          | none => none
          | some (x, j) => _) = none
        rw [en]
      refine ⟨A, ⟨fun _ _ _ => rfl, fun _ _ => rfl⟩, fun _ _ => rfl, fun _ => ?_, fun xs k z => by rw [er] at z; exact absurd z (by simp)⟩
      rw [e0]
      unfold X3_readNumbers_h4
      rw [if_neg c1, q_fig h (by omega), ob_s, if_neg q0, if_pos rfl]
