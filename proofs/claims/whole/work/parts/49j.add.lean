/-- adding an item by its letter, here -/
theorem q_addBy {A : hM} {d k : Nat} (hk : k ≤ 5) :
    (∀ r A1, k = 3 → (r = 0 ∨ r = 1) → X0_addFollowing d 3 A = some (r, A1) → X0_add d 3 102 (nI k) A = some (r, A1)) ∧ (¬ k = 3 → X0_add d 3 102 (nI k) A = some (0, A)) ∧
    (∀ r A1, k = 5 → (r = 0 ∨ r = 1) → X0_addGoing d 3 A = some (r, A1) → X0_add d 3 103 (nI k) A = some (r, A1)) ∧ (¬ k = 5 → X0_add d 3 103 (nI k) A = some (0, A)) ∧
    (∀ r A1, 2 ≤ k → (r = 0 ∨ r = 1) → X0_addLady d 3 (nI k) A = some (r, A1) → X0_add d 3 108 (nI k) A = some (r, A1)) ∧ (k < 2 → X0_add d 3 108 (nI k) A = some (0, A)) ∧
    (∀ c : Int32, ¬ c = 102 → ¬ c = 103 → ¬ c = 108 → X0_add d 3 c (nI k) A = some (0, A)) := by
  have c0 : ¬ nI k < 0 := nI_pos (by omega)
  have c5 : nI k ≤ nI 5 := nI_le hk (by omega)
  have z1 : ¬ (103 : Int32) = 102 := by decide
  have z2 : ¬ (108 : Int32) = 102 := by decide
  have z3 : ¬ (108 : Int32) = 103 := by decide
  refine ⟨fun r A1 h hr e => ?_, fun h => ?_, fun r A1 h hr e => ?_, fun h => ?_, fun r A1 h hr e => ?_, fun h => ?_, fun c h1 h2 h3 => ?_⟩
  · have q : nI k = 3 := by rw [h]; rfl
    unfold X0_add
    rw [if_neg c0, if_pos c5, if_pos rfl, if_pos q, e, ob_s]
    rcases hr with rfl | rfl
    · rw [if_pos rfl, q_g0]
    · rw [if_neg n10, q_g1]
  · have q : ¬ nI k = 3 := fun z => h ((nI_eq (b := 3) (by omega) (by decide)).mp z)
    unfold X0_add
    rw [if_neg c0, if_pos c5, if_pos rfl, if_neg q, q_g0]
  · have q : nI k = 5 := by rw [h]; rfl
    unfold X0_add
    rw [if_neg c0, if_pos c5, if_neg z1, if_pos rfl, if_pos q, e, ob_s]
    rcases hr with rfl | rfl
    · rw [if_pos rfl, q_g0]
    · rw [if_neg n10, q_g1]
  · have q : ¬ nI k = 5 := fun z => h ((nI_eq (b := 5) (by omega) (by decide)).mp z)
    unfold X0_add
    rw [if_neg c0, if_pos c5, if_neg z1, if_pos rfl, if_neg q, q_g0]
  · have q : ¬ nI k < 2 := nI_nlt (b := 2) h (by omega)
    unfold X0_add
    rw [if_neg c0, if_pos c5, if_neg z2, if_neg z3, if_pos rfl, if_neg q, e, ob_s]
    rcases hr with rfl | rfl
    · rw [if_pos rfl, q_g0]
    · rw [if_neg n10, q_g1]
  · have q : nI k < 2 := nI_lt (b := 2) h (by decide)
    unfold X0_add
    rw [if_neg c0, if_pos c5, if_neg z2, if_neg z3, if_pos rfl, if_pos q, q_g0]
  · unfold X0_add
    rw [if_neg c0, if_pos c5, if_neg h1, if_neg h2, if_neg h3, q_g0]
