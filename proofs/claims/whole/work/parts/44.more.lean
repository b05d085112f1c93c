/-- a comma, and one number more -/
def mo (l : Nat → Nat) (i : Nat) : Option (Nat × Nat) := if l i = 44 then nm l (i + 1) else none
theorem q_more {B : hM} {T : Nat} {c : Nat → Nat} {lo hi : Int32} (h : Tm B T c) {i : Nat} (hi' : i < 80000) (ha : B 92 31 = nI i) (hw : B 92 33 = 0) :
    (∃ x j B', mo (lt T c) i = some (x, j) ∧ (lo ≤ nI x ∧ nI x ≤ hi) ∧ X5_more lo hi B = some (nI x, B') ∧ Fm B B' ∧ B' 92 31 = nI j ∧ B' 92 33 = 0) ∨
    ((∀ x j, mo (lt T c) i = some (x, j) → ¬ (lo ≤ nI x ∧ nI x ≤ hi)) ∧ ∃ v B', X5_more lo hi B = some (v, B') ∧ Fm B B' ∧ B' 92 33 = 1) := by
  unfold X5_more mo
  rw [if_pos hw, q_next h (by omega) ha, ob_s]
  by_cases q : lt T c i = 44
  · have hiT : i < T := by
      by_cases z : i < T
      · exact z
      · have hl : lt T c i = 0 := if_neg z
        omega
    have hl : lt T c i = c i := if_pos hiT
    have e : nI (c i) = 44 := by rw [← hl, q]; rfl
    rw [if_pos q, if_pos hiT, if_pos e]
    have hF : Fm B (hu (hu B 92 33 0) 92 31 (nI (i + 1))) := (Fm.wr _ _).tr (Fm.at _ _)
    have eb : X5_more_b22 lo hi 0 B = ob (X5_number lo hi (hu (hu B 92 33 0) 92 31 (nI (i + 1)))) (fun u4 Ia5 => some (u4, Ia5)) := by
      unfold X5_more_b22
      rw [q_g0, q_hi _ _ (show 31 ≠ 33 by decide), ha, nI_1, q_hi _ _ (show 33 ≠ 31 by decide), q_hu, if_pos rfl]
    rw [eb]
    rcases q_num (lo := lo) (hi := hi) (Fm.tm h hF) (i := i + 1) (by omega) (q_hu _ _ _ _) (by rw [q_hi _ _ (by decide), q_hu]) with ⟨x, j, B', n1, n2, n3, n4, n5, n6⟩ | ⟨n1, v, B', n2, n3, n4⟩
    · exact Or.inl ⟨x, j, B', n1, n2, by rw [n3, ob_s], hF.tr n4, n5, n6⟩
    · exact Or.inr ⟨n1, v, B', by rw [n2, ob_s], hF.tr n3, n4⟩
  · have e : ¬ (if i < T then nI (c i) else -1 : Int32) = 44 := by
      by_cases z : i < T
      · have hl : lt T c i = c i := if_pos z
        have hc := (h.2.2 i z).1
        rw [if_pos z]
        intro y
        have y2 := (nI_eq (b := 44) (by omega) (by decide)).mp y
        omega
      · rw [if_neg z]
        decide
    rw [if_neg q, if_neg e]
    refine Or.inr ⟨fun x j z => absurd z (by simp), 0, _, ?_, (Fm.wr B 1).tr (Fm.at _ (nI (i + 1))), ?_⟩
    · unfold X5_more_b22
      rw [q_g1, q_hi _ _ (show 31 ≠ 33 by decide), ha, nI_1, q_hi _ _ (show 33 ≠ 31 by decide), q_hu, if_neg n10]
    · rw [q_hi _ _ (by decide), q_hu]
/-- once wrong, it stays wrong -/
theorem q_moreW {B : hM} {lo hi : Int32} (hw : B 92 33 = 1) : ∃ B', X5_more lo hi B = some (0, B') ∧ Fm B B' ∧ B' 92 33 = 1 := by
  refine ⟨_, ?_, (Fm.wr B 1).tr (Fm.at _ (B 92 31 + 1)), ?_⟩
  · unfold X5_more X5_more_b22
    rw [hw, if_neg n10, q_g1, q_hi _ _ (show 31 ≠ 33 by decide), q_hi _ _ (show 33 ≠ 31 by decide), q_hu, if_neg n10]
  · rw [q_hi _ _ (by decide), q_hu]
/-! a lady's reach -/
def lm (x : Nat → Nat) : Nat → Nat → Nat → Option Nat
  | 0, _, M => some M
  | f + 1, t, M => if x t < 4 ∧ ¬ M.testBit (x t) = true then lm x f (t + 1) (M ||| 2 ^ x t) else none
def addL (A : hM) (d n p M : Nat) : hM := hu (hu (hu A (d + 9) n (nI p)) (d + 10) n (nI M)) d 2 (nI (n + 1))
theorem or_lt16 {M k : Nat} (hM : M < 16) (hk : k < 4) : M ||| 2 ^ k < 16 := Nat.or_lt_two_pow (n := 4) hM (Nat.lt_of_lt_of_le (Nat.pow_lt_pow_right (by decide) hk) (by decide))
theorem lm_lt {x : Nat → Nat} : ∀ (f t M R : Nat), M < 16 → lm x f t M = some R → R < 16 := by
  intro f
  induction f with
  | zero =>
    intro t M R hM h
    have e : M = R := Option.some.inj h
    omega
  | succ f ih =>
    intro t M R hM h
    have h : (if x t < 4 ∧ ¬ M.testBit (x t) = true then lm x f (t + 1) (M ||| 2 ^ x t) else none) = some R := h
    by_cases q : x t < 4 ∧ ¬ M.testBit (x t) = true
    · rw [if_pos q] at h
      exact ih _ _ _ (or_lt16 hM q.1) h
    · rw [if_neg q] at h
      exact absurd h (by simp)
theorem q_addL {A : hM} {d n k : Nat} {x : Nat → Nat} (hd : d = 4 ∨ d = 15) (hn : n ≤ 4) (hk : 1 ≤ k) (hk5 : k ≤ 5) (h0 : A d 2 = nI n) (hx5 : ∀ t, t < k → x t ≤ 99 ∧ A 3 t = nI (x t)) :
    (∀ M, n < 4 → x 0 ≤ 9 → lm x (k - 1) 1 0 = some M → X0_addLady d 3 (nI k) A = some (1, addL A d n (x 0) M)) ∧ (¬ (n < 4 ∧ x 0 ≤ 9 ∧ ∃ M, lm x (k - 1) 1 0 = some M) → X0_addLady d 3 (nI k) A = some (0, A)) := by
  obtain ⟨⟨i0, w0⟩, -⟩ := q_ix5
  obtain ⟨l0, e0⟩ := hx5 0 (by omega)
  have key : ∀ (f t M n1 : Nat), t + f = k → f < n1 → M < 16 → 1 ≤ t → (∀ R, lm x f t M = some R → X0_addLady_l23 d 3 n1 (nI k) (nI M) (nI t) A = X0_addLady_b73 d 3 (nI R) A) ∧ (lm x f t M = none → X0_addLady_l23 d 3 n1 (nI k) (nI M) (nI t) A = some (0, A)) := by
    intro f
    induction f with
    | zero =>
      intro t M n1 ht h1 hM ht1
      obtain ⟨n1, rfl⟩ : ∃ j, n1 = j + 1 := ⟨n1 - 1, by omega⟩
      obtain rfl : t = k := by omega
      refine ⟨fun R hR => ?_, fun z => absurd z (by unfold lm; simp)⟩
      have e : M = R := Option.some.inj hR
      subst e
      show X0_addLady_h23 d 3 _ (nI t) (nI M) (nI t) A = _
      unfold X0_addLady_h23
      rw [if_pos (nI_le (Nat.le_refl _) (by omega))]
    | succ f ih =>
      intro t M n1 ht h1 hM ht1
      obtain ⟨n1, rfl⟩ : ∃ j, n1 = j + 1 := ⟨n1 - 1, by omega⟩
      obtain ⟨lt', et⟩ := hx5 t (by omega)
      have it : (nI t).toNatClampNeg = t := nI_clamp (by omega)
      have c1 : ¬ nI k ≤ nI t := nI_ge (by omega) (by omega)
      have c2 : ¬ nI 5 ≤ nI t := nI_ge (by omega) (by omega)
      have xt : hx (nI t) 5 = true := q_hx (by omega) (by decide)
      have el : lm x (f + 1) t M = if x t < 4 ∧ ¬ M.testBit (x t) = true then lm x f (t + 1) (M ||| 2 ^ x t) else none := rfl
      have eh : X0_addLady_l23 d 3 (n1 + 1) (nI k) (nI M) (nI t) A = X0_addLady_h23 d 3 (X0_addLady_l23 d 3 n1) (nI k) (nI M) (nI t) A := rfl
      rw [el, eh]
      unfold X0_addLady_h23
      rw [if_neg c1, if_neg c2, xt, gd_t, it, et]
      by_cases q0 : x t < 4
      · have d0 : ¬ 4 ≤ nI (x t) := nI_ge (b := 4) q0 (by decide)
        have b1 := q_bits.1 M (by omega) (x t) (by omega)
        rw [if_neg d0, gd_t]
        by_cases q1 : M.testBit (x t) = true
        · rw [if_pos (b1.mpr q1), if_neg (fun z => z.2 q1), q_g0]
          exact ⟨fun R z => absurd z (by simp), fun _ => rfl⟩
        · rw [if_neg (fun z => q1 (b1.mp z)), if_pos ⟨q0, q1⟩, gd_t, q_bits.2 M (by omega) (x t) (by omega), nI_1]
          exact ih (t + 1) (M ||| 2 ^ x t) n1 (by omega) (by omega) (or_lt16 hM q0) (by omega)
      · have d0 : 4 ≤ nI (x t) := nI_le (a := 4) (by omega) (by omega)
        rw [if_pos d0, if_neg (fun z => q0 z.1), q_g0]
        exact ⟨fun R z => absurd z (by simp), fun _ => rfl⟩
  obtain ⟨k1, k2⟩ := key (k - 1) 1 0 hF (by omega) (show k - 1 < 1024 by omega) (by decide) (Nat.le_refl _)
  rw [nI_0] at k1 k2
  have k1 : ∀ R, lm x (k - 1) 1 0 = some R → X0_addLady_l23 d 3 hF (nI k) 0 1 A = X0_addLady_b73 d 3 (nI R) A := k1
  have k2 : lm x (k - 1) 1 0 = none → X0_addLady_l23 d 3 hF (nI k) 0 1 A = some (0, A) := k2
  by_cases q : n < 4
  · have c1 : ¬ 4 ≤ nI n := nI_ge (b := 4) q (by decide)
    by_cases q0 : x 0 ≤ 9
    · have c2 : nI (x 0) ≤ 9 := nI_le (b := 9) q0 (by decide)
      have e : X0_addLady d 3 (nI k) A = X0_addLady_l23 d 3 hF (nI k) 0 1 A := by
        unfold X0_addLady
        rw [h0, if_neg c1, w0, gd_t, i0, e0, if_pos c2]
      refine ⟨fun M _ _ hlm => ?_, fun no => ?_⟩
      · rw [e, k1 M hlm]
        have inn : (nI n).toNatClampNeg = n := nI_clamp (by omega)
        have xn : hx (nI n) 4 = true := q_hx (by omega) (by decide)
        have r1 : ∀ (I : hM) j v i, hu I (d + 9) j v d i = I d i := fun I j v i => q_ha I j v i (by omega)
        have r2 : ∀ (I : hM) j v i, hu I (d + 10) j v d i = I d i := fun I j v i => q_ha I j v i (by omega)
        unfold X0_addLady_b73 addL
        simp only [i0, w0, e0, h0, inn, xn, r1, r2, n10, q_g1, q_g1b, gd_t, nI_1]
      · cases hl : lm x (k - 1) 1 0 with
        | none => rw [e, k2 hl]
        | some M => exact absurd ⟨q, q0, M, hl⟩ no
    · have c2 : ¬ nI (x 0) ≤ 9 := nI_ge (a := 9) (by omega) (by omega)
      refine ⟨fun M _ z _ => absurd z q0, fun _ => ?_⟩
      unfold X0_addLady
      rw [h0, if_neg c1, w0, gd_t, i0, e0, if_neg c2, q_g0]
  · have c1 : 4 ≤ nI n := nI_le (a := 4) (by omega) (by omega)
    refine ⟨fun M z _ _ => absurd z q, fun _ => ?_⟩
    unfold X0_addLady
    rw [h0, if_pos c1, q_g0]
