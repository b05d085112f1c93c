/-! a lady's reach, read at once and one after another -/
def lmL : List Nat → Nat → Option Nat
  | [], M => some M
  | x :: xs, M => if x < 4 ∧ ¬ M.testBit x = true then lmL xs (M ||| 2 ^ x) else none
theorem lm_L (zs : List Nat) : ∀ (f t M : Nat), t + f = zs.length → lm (fun k => zs.getD k 0) f t M = lmL (zs.drop t) M := by
  intro f
  induction f with
  | zero =>
    intro t M h
    rw [List.drop_eq_nil_of_le (by omega)]
    rfl
  | succ f ih =>
    intro t M h
    have ht : t < zs.length := by omega
    rw [List.drop_eq_getElem_cons ht]
    have e : zs.getD t 0 = zs[t] := by simp [List.getD, ht]
    show (if zs.getD t 0 < 4 ∧ ¬ M.testBit (zs.getD t 0) = true then lm (fun k => zs.getD k 0) f (t + 1) (M ||| 2 ^ zs.getD t 0) else none) = (if zs[t] < 4 ∧ ¬ M.testBit zs[t] = true then lmL (zs.drop (t + 1)) (M ||| 2 ^ zs[t]) else none)
    rw [e, ih (t + 1) _ (by omega)]
theorem mo_eq44 {l : Nat → Nat} {j x j' : Nat} (h : mo l j = some (x, j')) : l j = 44 := by
  unfold mo at h
  by_cases q : l j = 44
  · exact q
  · rw [if_neg q] at h
    exact absurd h (by simp)
theorem ll_succ (l : Nat → Nat) (f j M : Nat) {x j' : Nat} (h : mo l j = some (x, j')) : ll l (f + 1) j M = if x ≤ 3 ∧ ¬ M.testBit x = true then ll l f j' (M ||| 2 ^ x) else none := by
  show (if l j = 44 then (match mo l j with
    | none => none
    | some (x, j') => if x ≤ 3 ∧ ¬ M.testBit x = true then ll l f j' (M ||| 2 ^ x) else none) else some (M, j)) = _
  rw [if_pos (mo_eq44 h), h]
theorem ll_end (l : Nat → Nat) (f j M : Nat) (h : ¬ l j = 44) : ll l (f + 1) j M = some (M, j) := if_neg h
theorem cm_ll (l : Nat → Nat) : ∀ (m f j : Nat) (ys : List Nat) (j' M R : Nat), m ≤ f → cm l m j = some (ys, j') → l j' = 59 → lmL ys M = some R → ll l (f + 1) j M = some (R, j') := by
  intro m
  induction m with
  | zero =>
    intro f j ys j' M R _ h h59 hr
    obtain ⟨z1, z2⟩ := Prod.mk.inj (Option.some.inj h)
    subst z1
    subst z2
    have e : M = R := Option.some.inj hr
    rw [ll_end l f j M (by omega), e]
  | succ m ih =>
    intro f j ys j' M R hf h h59 hr
    obtain ⟨f, rfl⟩ : ∃ g, f = g + 1 := ⟨f - 1, by omega⟩
    cases hm : mo l j with
    | none =>
      rw [cmo_none l m j hm] at h
      exact absurd h (by simp)
    | some y =>
      obtain ⟨x, j1⟩ := y
      rw [cmo_succ l m j hm] at h
      cases hc : cm l m j1 with
      | none =>
        rw [hc] at h
        exact absurd h (by simp)
      | some y =>
        obtain ⟨zs, k⟩ := y
        rw [hc] at h
        obtain ⟨z1, z2⟩ := Prod.mk.inj (Option.some.inj h)
        subst z1
        subst z2
        have hr : (if x < 4 ∧ ¬ M.testBit x = true then lmL zs (M ||| 2 ^ x) else none) = some R := hr
        by_cases q : x < 4 ∧ ¬ M.testBit x = true
        · rw [if_pos q] at hr
          rw [ll_succ l (f + 1) j M hm, if_pos ⟨by omega, q.2⟩]
          exact ih f j1 zs k (M ||| 2 ^ x) R (by omega) hc h59 hr
        · rw [if_neg q] at hr
          exact absurd hr (by simp)
theorem ll_cm (l : Nat → Nat) : ∀ (f j M R j' : Nat), ll l f j M = some (R, j') → ∃ m ys, m < f ∧ ys.length = m ∧ cm l m j = some (ys, j') ∧ lmL ys M = some R := by
  intro f
  induction f with
  | zero => intro j M R j' h; exact absurd h (by unfold ll; simp)
  | succ f ih =>
    intro j M R j' h
    by_cases q : l j = 44
    · cases hm : mo l j with
      | none =>
        have e : ll l (f + 1) j M = none := by
          show (if l j = 44 then (match mo l j with
            | none => none
            | some (x, j') => if x ≤ 3 ∧ ¬ M.testBit x = true then ll l f j' (M ||| 2 ^ x) else none) else some (M, j)) = none
          rw [if_pos q, hm]
        rw [e] at h
        exact absurd h (by simp)
      | some y =>
        obtain ⟨x, j1⟩ := y
        rw [ll_succ l f j M hm] at h
        by_cases q2 : x ≤ 3 ∧ ¬ M.testBit x = true
        · rw [if_pos q2] at h
          obtain ⟨m, ys, m1, m2, m3, m4⟩ := ih j1 _ R j' h
          refine ⟨m + 1, x :: ys, by omega, by show ys.length + 1 = m + 1; omega, ?_, ?_⟩
          · rw [cmo_succ l m j hm, m3]
          · show (if x < 4 ∧ ¬ M.testBit x = true then lmL ys (M ||| 2 ^ x) else none) = some R
            rw [if_pos ⟨by omega, q2.2⟩]
            exact m4
        · rw [if_neg q2] at h
          exact absurd h (by simp)
    · rw [ll_end l f j M q] at h
      obtain ⟨z1, z2⟩ := Prod.mk.inj (Option.some.inj h)
      subst z1
      subst z2
      exact ⟨0, [], by omega, rfl, rfl, rfl⟩
theorem q_lch1 {l : Nat → Nat} {i k M : Nat} {xs : List Nat} (h : rn l 5 i = some (xs, k)) (h2 : 2 ≤ xs.length) (h5 : xs.length ≤ 5) (hM : lm (fun t => xs.getD t 0) (xs.length - 1) 1 0 = some M) : ∃ j, lch l i (xs.getD 0 0) M j ∧ l j = 59 ∧ k = j + 1 := by
  obtain ⟨p, j0, ys, j, e1, e2, e3, e4, e5⟩ := rn_cm l (xs.length - 1) 4 i (by omega) xs k h (by omega)
  rw [lm_L xs _ 1 0 (by omega)] at hM
  subst e4
  have hM : lmL ys 0 = some M := hM
  have hlen : (p :: ys).length - 1 = ys.length := rfl
  rw [hlen] at e2
  have h2 : 2 ≤ ys.length + 1 := h2
  have h5 : ys.length + 1 ≤ 5 := h5
  cases ys with
  | nil => exact absurd h2 (by simp)
  | cons x1 zs =>
    have h5 : zs.length + 1 + 1 ≤ 5 := h5
    have e2 : cm l (zs.length + 1) j0 = some (x1 :: zs, j) := e2
    have hM : (if x1 < 4 ∧ ¬ (0 : Nat).testBit x1 = true then lmL zs (0 ||| 2 ^ x1) else none) = some M := hM
    by_cases q : x1 < 4 ∧ ¬ (0 : Nat).testBit x1 = true
    · rw [if_pos q, Nat.zero_or] at hM
      cases hm : mo l j0 with
      | none =>
        rw [cmo_none l _ j0 hm] at e2
        exact absurd e2 (by simp)
      | some y =>
        obtain ⟨x1', j1⟩ := y
        rw [cmo_succ l _ j0 hm] at e2
        cases hc : cm l zs.length j1 with
        | none =>
          rw [hc] at e2
          exact absurd e2 (by simp)
        | some y =>
          obtain ⟨zs', j'⟩ := y
          rw [hc] at e2
          obtain ⟨z1, z2⟩ := Prod.mk.inj (Option.some.inj e2)
          obtain ⟨w1, w2⟩ := List.cons.inj z1
          subst w1
          subst w2
          subst z2
          exact ⟨j', ⟨j0, x1', j1, e1, hm, by omega, cm_ll l _ 3 j1 _ j' _ M (by omega) hc e3 hM⟩, e3, e5⟩
    · rw [if_neg q] at hM
      exact absurd hM (by simp)
theorem q_lch2 {l : Nat → Nat} {i p M j : Nat} (h : lch l i p M j) (h59 : l j = 59) : ∃ xs, rn l 5 i = some (xs, j + 1) ∧ 2 ≤ xs.length ∧ xs.length ≤ 5 ∧ xs.getD 0 0 = p ∧ lm (fun t => xs.getD t 0) (xs.length - 1) 1 0 = some M := by
  obtain ⟨j0, x1, j1, e1, e2, e3, e4⟩ := h
  obtain ⟨m, ys, m1, m2, m3, m4⟩ := ll_cm l 4 j1 _ M j e4
  have ec : cm l (m + 1) j0 = some (x1 :: ys, j) := by rw [cmo_succ l m j0 e2, m3]
  obtain ⟨r1, r2⟩ := cm_rn l (m + 1) 4 i (by omega) p j0 (x1 :: ys) j e1 ec h59
  refine ⟨p :: x1 :: ys, r1, by show 2 ≤ ys.length + 1 + 1; omega, by show ys.length + 1 + 1 ≤ 5; omega, rfl, ?_⟩
  rw [lm_L _ _ 1 0 (by show 1 + (ys.length + 1 + 1 - 1) = ys.length + 1 + 1; omega)]
  show (if x1 < 4 ∧ ¬ (0 : Nat).testBit x1 = true then lmL ys (0 ||| 2 ^ x1) else none) = some M
  rw [if_pos ⟨by omega, by rw [Nat.zero_testBit]; decide⟩, Nat.zero_or]
  exact m4
