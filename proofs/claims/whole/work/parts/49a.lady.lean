def pc (M : Nat) : Nat := (M.testBit 0).toNat + (M.testBit 1).toNat + (M.testBit 2).toNat + (M.testBit 3).toNat
theorem pc_or : ∀ M, M < 16 → pc M ≤ 4 ∧ ∀ x, x < 4 → ¬ M.testBit x = true → pc (M ||| 2 ^ x) = pc M + 1 := by decide +kernel
def ll (l : Nat → Nat) : Nat → Nat → Nat → Option (Nat × Nat)
  | 0, _, _ => none
  | f + 1, j, M => if l j = 44 then (match mo l j with
    | none => none
    | some (x, j') => if x ≤ 3 ∧ ¬ M.testBit x = true then ll l f j' (M ||| 2 ^ x) else none) else some (M, j)
/-- once wrong, a lady's loop ends -/
theorem q_ladyW {B : hM} (v1 v2 : Int32) (n2 : Nat) (hw : B 92 33 = 1) : X5_ladyItem_l45 (n2 + 1) v1 v2 B = some (0, B) := by
  show X5_ladyItem_h45 (X5_ladyItem_l45 n2) v1 v2 B = _
  unfold X5_ladyItem_h45 X5_ladyItem_b101
  rw [hw, if_neg n10, if_neg n10]
theorem q_ladyL {T : Nat} {c : Nat → Nat} (v1 : Int32) : ∀ (f M j n2 : Nat) (B : hM), M < 16 → pc M + f = 5 → f < n2 → j + 3 * f < 50000 → Tm B T c → B 92 31 = nI j → B 92 33 = 0 →
    (∃ R j' B', ll (lt T c) f j M = some (R, j') ∧ j' ≤ j + 3 * f ∧ X5_ladyItem_l45 n2 v1 (nI M) B = X5_ladyItem_b101 v1 (nI R) B' ∧ Fm B B' ∧ B' 92 31 = nI j' ∧ B' 92 33 = 0) ∨ (ll (lt T c) f j M = none ∧ wrong (X5_ladyItem_l45 n2 v1 (nI M) B) B) := by
  intro f
  induction f with
  | zero =>
    intro M j n2 B hM hp
    have h := (pc_or M hM).1
    exact absurd hp (by omega)
  | succ f ih =>
    intro M j n2 B hM hp hn hj h ha hw
    obtain ⟨n2, rfl⟩ : ∃ k, n2 = k + 2 := ⟨n2 - 2, by omega⟩
    have el : ll (lt T c) (f + 1) j M = if lt T c j = 44 then (match mo (lt T c) j with
      | none => none
      | some (x, j') => if x ≤ 3 ∧ ¬ M.testBit x = true then ll (lt T c) f j' (M ||| 2 ^ x) else none) else some (M, j) := rfl
    have eh : X5_ladyItem_l45 (n2 + 2) v1 (nI M) B = X5_ladyItem_h45 (X5_ladyItem_l45 (n2 + 1)) v1 (nI M) B := rfl
    rw [el, eh]
    unfold X5_ladyItem_h45
    rw [if_pos hw, q_next h (by omega) ha, ob_s]
    by_cases q : lt T c j = 44
    · have hjT : j < T := by
        by_cases z : j < T
        · exact z
        · have hl : lt T c j = 0 := if_neg z
          omega
      have hl : lt T c j = c j := if_pos hjT
      have e44 : nI (c j) = 44 := by rw [← hl, q]; rfl
      rw [if_pos q, if_pos hjT, if_pos e44]
      rcases q_moreN 0 3 (by decide) h (show j < 80000 by omega) ha hw with ⟨x, j1, B1, p1, -, p2, p3, p4, p5, p6, p7⟩ | ⟨p1, v, B1, p2, p3, p4⟩
      · have p4 : X5_more 0 3 B = some (nI x, B1) := p4
        have hh := q_has (S := M) (g := x) (by omega) (by omega) B1
        rw [p1, p4, ob_s, p7, if_pos rfl, hh, ob_s]
        by_cases q1 : M.testBit x = true
        · rw [if_pos q1, if_neg n10]
          refine Or.inr ⟨?_, hu B1 92 33 1, ?_, p5.tr (Fm.wr _ _), q_hu _ _ _ _⟩
          · show (if x ≤ 3 ∧ ¬ M.testBit x = true then _ else none) = none
            rw [if_neg (fun z => z.2 q1)]
          · unfold X5_ladyItem_b89
            rw [q_g1, q_ladyW _ _ _ (q_hu _ _ _ _)]
        · rw [if_neg q1, if_pos rfl]
          have hb := (pc_or M hM).2 x (by omega) q1
          have n1 : Fm B1 (hu B1 92 33 0) := Fm.wr B1 0
          have e89 : X5_ladyItem_b89 (X5_ladyItem_l45 (n2 + 1)) v1 (nI M) (nI x) 0 B1 = X5_ladyItem_l45 (n2 + 1) v1 (nI (M ||| 2 ^ x)) (hu B1 92 33 0) := by
            unfold X5_ladyItem_b89
            rw [q_g0, q_bits.2 M (by omega) x (by omega)]
          have es : (match (some (x, j1) : Option (Nat × Nat)) with
            | none => none
            | some (x, j') => if x ≤ 3 ∧ ¬ M.testBit x = true then ll (lt T c) f j' (M ||| 2 ^ x) else none) = ll (lt T c) f j1 (M ||| 2 ^ x) := by
            show (if x ≤ 3 ∧ ¬ M.testBit x = true then ll (lt T c) f j1 (M ||| 2 ^ x) else none) = _
            rw [if_pos ⟨p2, q1⟩]
          rw [e89, es]
          rcases ih (M ||| 2 ^ x) j1 (n2 + 1) (hu B1 92 33 0) (or_lt16 hM (by omega)) (by omega) (by omega) (by omega) (Fm.tm (Fm.tm h p5) n1) (by rw [q_hi _ _ (by decide)]; exact p6) (q_hu _ _ _ _) with ⟨R, j', B', s1, s2, s3, s4, s5, s6⟩ | ⟨s1, s2⟩
          · exact Or.inl ⟨R, j', B', s1, by omega, s3, (p5.tr n1).tr s4, s5, s6⟩
          · exact Or.inr ⟨s1, s2.mono (p5.tr n1)⟩
      · have p2 : X5_more 0 3 B = some (v, B1) := p2
        rw [p2, ob_s, p4, if_neg n10]
        refine Or.inr ⟨?_, hu B1 92 33 1, ?_, p3.tr (Fm.wr _ _), q_hu _ _ _ _⟩
        · cases hm : mo (lt T c) j with
          | none => rfl
          | some y =>
            obtain ⟨x, j'⟩ := y
            show (if x ≤ 3 ∧ ¬ M.testBit x = true then _ else none) = none
            rw [if_neg (fun z => p1 x j' hm ⟨Nat.zero_le _, z.1⟩)]
        · unfold X5_ladyItem_b89
          rw [q_g1, q_ladyW _ _ _ (q_hu _ _ _ _)]
    · have e : ¬ (if j < T then nI (c j) else -1 : Int32) = 44 := by
        by_cases z : j < T
        · have hl : lt T c j = c j := if_pos z
          have hc := (h.2.2 j z).1
          rw [if_pos z]
          intro y
          have y2 := (nI_eq (b := 44) (by omega) (by decide)).mp y
          omega
        · rw [if_neg z]
          decide
      rw [if_neg q, if_neg e]
      exact Or.inl ⟨M, j, B, rfl, by omega, rfl, Fm.rf, ha, hw⟩
