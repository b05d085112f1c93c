/-! the model's reading -/
def Fm (B B' : hM) : Prop := (∀ a, a ≠ 92 → B' a = B a) ∧ ∀ i, i ≠ 31 → i ≠ 33 → B' 92 i = B 92 i
theorem Fm.rf {B : hM} : Fm B B := ⟨fun _ _ => rfl, fun _ _ _ => rfl⟩
theorem Fm.tr {B B' B'' : hM} (h : Fm B B') (h' : Fm B' B'') : Fm B B'' := ⟨fun a h1 => (h'.1 a h1).trans (h.1 a h1), fun i h1 h2 => (h'.2 i h1 h2).trans (h.2 i h1 h2)⟩
theorem Fm.tm {B B' : hM} {T : Nat} {c : Nat → Nat} (h : Tm B T c) (hF : Fm B B') : Tm B' T c := ⟨h.1, by rw [hF.2 29 (by decide) (by decide)]; exact h.2.1, fun i hi => by rw [hF.1 114 (by decide)]; exact h.2.2 i hi⟩
theorem Fm.at (B : hM) (v : Int32) : Fm B (hu B 92 31 v) := ⟨fun a h => q_hr _ _ _ h, fun i h1 _ => q_hi _ _ h1⟩
theorem Fm.wr (B : hM) (v : Int32) : Fm B (hu B 92 33 v) := ⟨fun a h => q_hr _ _ _ h, fun i _ h2 => q_hi _ _ h2⟩
theorem q_next {B : hM} {T : Nat} {c : Nat → Nat} (h : Tm B T c) {i : Nat} (hi : i < 100000) (ha : B 92 31 = nI i) : X5_next B = some (if i < T then nI (c i) else -1, B) := by
  have hT := h.1
  unfold X5_next
  rw [ha, h.2.1]
  by_cases q : i < T
  · have i1 : (nI i).toNatClampNeg = i := nI_clamp (by omega)
    rw [if_neg (nI_ge q (by omega)), q_hx (by omega) (by decide), gd_t, i1, if_pos q, (h.2.2 i q).2]
  · rw [if_pos (nI_le (by omega) (by omega)), if_neg q]
theorem q_figM {B : hM} {T : Nat} {c : Nat → Nat} (h : Tm B T c) (i : Nat) : X5_in (if i < T then nI (c i) else -1 : Int32).toInt64 48 57 B = some (if fg (lt T c) i = true then 1 else 0, B) := by
  by_cases q : i < T
  · have hc := (h.2.2 i q).1
    have hl : lt T c i = c i := if_pos q
    rw [if_pos q]
    by_cases f : fg (lt T c) i = true
    · have k := of_decide_eq_true f
      rw [hl] at k
      rw [if_pos f]
      exact q_in1 (lo := 48) (hi := 57) (by decide) (by decide) ⟨nI_le (a := 48) k.1 (by omega), nI_le (b := 57) k.2 (by decide)⟩ B
    · rw [if_neg f]
      refine q_in0 (lo := 48) (hi := 57) (by decide) (by decide) (fun z => f ?_) B
      have z1 : nI 48 ≤ nI (c i) := z.1
      have z2 : nI (c i) ≤ nI 57 := z.2
      rw [nI_leI (by omega) (by omega)] at z1 z2
      refine decide_eq_true ?_
      rw [hl]
      exact ⟨z1, z2⟩
  · have hl : lt T c i = 0 := if_neg q
    have f : ¬ fg (lt T c) i = true := fun z => by
      have k := of_decide_eq_true z
      rw [hl] at k
      omega
    rw [if_neg q, if_neg f]
    exact q_in0 (lo := 48) (hi := 57) (by decide) (by decide) (by decide) B
/-- what a number comes to -/
theorem q_b93 (v : Int32) (B : hM) : X5_number_b93 v 1 B = some (0, hu B 92 33 1) ∧ X5_number_b93 v 0 B = some (v, hu B 92 33 0) := by
  refine ⟨?_, ?_⟩
  · unfold X5_number_b93
    rw [q_g1, q_hu, if_neg n10]
  · unfold X5_number_b93
    rw [q_g0, q_hu, if_pos rfl]
theorem q_b57 {B : hM} {lo hi x : Int32} {n : Nat} (hw : B 92 33 = 0) (hn : n ≤ 3) : (n = 0 ∨ n = 3 → X5_number_b57 lo hi x (nI n) B = some (0, hu B 92 33 1)) ∧ (1 ≤ n → n ≤ 2 → X5_number_b57 lo hi x (nI n) B = if lo ≤ x ∧ x ≤ hi then some (x, hu B 92 33 0) else some (0, hu B 92 33 1)) := by
  refine ⟨fun h => ?_, fun h1 h2 => ?_⟩
  · unfold X5_number_b57
    rw [if_pos hw]
    rcases h with rfl | rfl
    · rw [if_pos nI_0, (q_b93 _ _).1]
    · have z : ¬ nI 3 = 0 := by decide
      have z2 : 2 < nI 3 := by decide
      rw [if_neg z, if_pos z2, (q_b93 _ _).1]
  · have z : ¬ nI n = 0 := nI_ne0 (by omega) (by omega)
    have z2 : ¬ 2 < nI n := nI_nlt (a := 2) (by omega) (by decide)
    unfold X5_number_b57
    rw [if_pos hw, if_neg z, if_neg z2, q_in (lo := lo) (hi := hi) rfl rfl, ob_s]
    by_cases q : lo ≤ x ∧ x ≤ hi
    · rw [if_pos q, if_pos q, if_neg n10, (q_b93 _ _).2]
    · rw [if_neg q, if_neg q, if_pos rfl, (q_b93 _ _).1]
/-- one number: good, or wrong -/
theorem q_num {B : hM} {T : Nat} {c : Nat → Nat} {lo hi : Int32} (h : Tm B T c) {i : Nat} (hi' : i < 90000) (ha : B 92 31 = nI i) (hw : B 92 33 = 0) :
    (∃ x j B', nm (lt T c) i = some (x, j) ∧ (lo ≤ nI x ∧ nI x ≤ hi) ∧ X5_number lo hi B = some (nI x, B') ∧ Fm B B' ∧ B' 92 31 = nI j ∧ B' 92 33 = 0) ∨
    ((∀ x j, nm (lt T c) i = some (x, j) → ¬ (lo ≤ nI x ∧ nI x ≤ hi)) ∧ ∃ v B', X5_number lo hi B = some (v, B') ∧ Fm B B' ∧ B' 92 33 = 1) := by
  have e0 : ∀ n v1 v2 v3 v4 I, X5_number_l5 (n + 1) v1 v2 v3 v4 I = X5_number_h5 (X5_number_l5 n) v1 v2 v3 v4 I := fun _ _ _ _ _ _ => rfl
  -- a letter that is no figure ends it
  have stop : ∀ (n k j : Nat) (x : Int32) (I : hM), Tm I T c → j < 100000 → I 92 31 = nI j → ¬ fg (lt T c) j = true → X5_number_l5 (n + 1) lo hi x (nI k) I = X5_number_b57 lo hi x (nI k) I := by
    intro n k j x I hT hj hat hf
    rw [e0]
    unfold X5_number_h5
    rw [q_next hT hj hat, ob_s, q_figM hT, ob_s, if_neg hf, if_pos rfl]
  have three : ∀ (n j : Nat) (x : Int32) (I : hM), Tm I T c → j < 100000 → I 92 31 = nI j → X5_number_l5 (n + 1) lo hi x (nI 3) I = X5_number_b57 lo hi x (nI 3) I := by
    intro n j x I hT hj hat
    have z : 3 ≤ nI 3 := by decide
    rw [e0]
    unfold X5_number_h5
    rw [q_next hT hj hat, ob_s, q_figM hT, ob_s]
    by_cases hf : fg (lt T c) j = true
    · rw [if_pos hf, if_neg n10, if_pos z]
    · rw [if_neg hf, if_pos rfl]
  have step : ∀ (n k j : Nat) (x : Int32) (I : hM), Tm I T c → j < 100000 → I 92 31 = nI j → fg (lt T c) j = true → k < 3 → X5_number_l5 (n + 1) lo hi x (nI k) I = X5_number_l5 n lo hi (10 * x + nI (lt T c j) - 48) (nI (k + 1)) (hu I 92 31 (nI (j + 1))) := by
    intro n k j x I hT hj hat hf hk
    have z : ¬ 3 ≤ nI k := nI_ge (b := 3) hk (by decide)
    have hjT : j < T := by
      by_cases q : j < T
      · exact q
      · have hl : lt T c j = 0 := if_neg q
        have k := of_decide_eq_true hf
        rw [hl] at k
        omega
    have hl : lt T c j = c j := if_pos hjT
    rw [e0]
    unfold X5_number_h5
    rw [q_next hT hj hat, ob_s, q_figM hT, ob_s, if_pos hf, if_neg n10, if_neg z, q_next hT hj hat, ob_s, if_pos hjT, hat, nI_1, nI_1, hl]
  have at1 : ∀ (I : hM) v, Tm I T c → Tm (hu I 92 31 v) T c := fun I v hT => Fm.tm hT (Fm.at I v)
  have w1 : ∀ (I : hM) v, hu I 92 31 v 92 33 = I 92 33 := fun I v => q_hi _ _ (by decide)
  have unf : X5_number lo hi B = X5_number_l5 (1020 + 4) lo hi 0 (nI 0) B := by
    rw [nI_0]
    rfl
  by_cases f0 : fg (lt T c) i = true
  · have k0 := of_decide_eq_true f0
    have v0 : 10 * 0 + nI (lt T c i) - 48 = nI (lt T c i - 48) := by
      rw [show (10 : Int32) * 0 = nI 0 by decide, nI_add, Nat.zero_add]
      exact pk_sub (b := 48) k0.1
    have s0 := step (1020 + 3) 0 i 0 B h (by omega) ha f0 (by decide)
    rw [v0] at s0
    have h1 := at1 B (nI (i + 1)) h
    have a1 : hu B 92 31 (nI (i + 1)) 92 31 = nI (i + 1) := q_hu _ _ _ _
    by_cases f1 : fg (lt T c) (i + 1) = true
    · have k1 := of_decide_eq_true f1
      have v1 : 10 * nI (lt T c i - 48) + nI (lt T c (i + 1)) - 48 = nI (10 * (lt T c i - 48) + (lt T c (i + 1) - 48)) := by
        rw [show (10 : Int32) = nI 10 from rfl, pk_mul, nI_add, show (48 : Int32) = nI 48 from rfl, pk_sub (by omega)]
        congr 1
        omega
      have s1 := step (1020 + 2) 1 (i + 1) (nI (lt T c i - 48)) _ h1 (by omega) a1 f1 (by decide)
      rw [v1] at s1
      have h2 := at1 _ (nI (i + 1 + 1)) h1
      have a2 : hu (hu B 92 31 (nI (i + 1))) 92 31 (nI (i + 1 + 1)) 92 31 = nI (i + 2) := q_hu _ _ _ _
      have hw2 : hu (hu B 92 31 (nI (i + 1))) 92 31 (nI (i + 1 + 1)) 92 33 = 0 := by rw [w1, w1]; exact hw
      have fm2 : Fm B (hu (hu B 92 31 (nI (i + 1))) 92 31 (nI (i + 1 + 1))) := (Fm.at _ _).tr (Fm.at _ _)
      by_cases f2 : fg (lt T c) (i + 2) = true
      · have s2 := step (1020 + 1) 2 (i + 2) (nI (10 * (lt T c i - 48) + (lt T c (i + 1) - 48))) _ h2 (by omega) a2 f2 (by decide)
        have h3 := at1 _ (nI (i + 2 + 1)) h2
        have s3 := three 1020 (i + 3) (10 * nI (10 * (lt T c i - 48) + (lt T c (i + 1) - 48)) + nI (lt T c (i + 2)) - 48) _ h3 (by omega) (q_hu _ _ _ _)
        have b := (q_b57 (lo := lo) (hi := hi) (x := 10 * nI (10 * (lt T c i - 48) + (lt T c (i + 1) - 48)) + nI (lt T c (i + 2)) - 48) (n := 3) (B := hu (hu (hu B 92 31 (nI (i + 1))) 92 31 (nI (i + 1 + 1))) 92 31 (nI (i + 2 + 1))) (by rw [w1]; exact hw2) (by decide)).1 (Or.inr rfl)
        refine Or.inr ⟨fun x j hx => ?_, 0, _, unf.trans (s0.trans (s1.trans (s2.trans (s3.trans b)))), (fm2.tr (Fm.at _ _)).tr (Fm.wr _ _), q_hu _ _ _ _⟩
        unfold nm at hx
        rw [if_pos f0, if_pos f1, if_pos f2] at hx
        exact absurd hx (by simp)
      · have en : nm (lt T c) i = some (10 * (lt T c i - 48) + (lt T c (i + 1) - 48), i + 2) := by
          unfold nm
          rw [if_pos f0, if_pos f1, if_neg f2]
        have s2 := stop (1020 + 1) 2 (i + 2) (nI (10 * (lt T c i - 48) + (lt T c (i + 1) - 48))) _ h2 (by omega) a2 f2
        have b := (q_b57 (lo := lo) (hi := hi) (x := nI (10 * (lt T c i - 48) + (lt T c (i + 1) - 48))) (n := 2) hw2 (by decide)).2 (by decide) (by decide)
        by_cases q : lo ≤ nI (10 * (lt T c i - 48) + (lt T c (i + 1) - 48)) ∧ nI (10 * (lt T c i - 48) + (lt T c (i + 1) - 48)) ≤ hi
        · rw [if_pos q] at b
          exact Or.inl ⟨_, _, _, en, q, unf.trans (s0.trans (s1.trans (s2.trans b))), fm2.tr (Fm.wr _ _), by rw [q_hi _ _ (by decide)]; exact a2, q_hu _ _ _ _⟩
        · rw [if_neg q] at b
          refine Or.inr ⟨fun x j hx => ?_, 0, _, unf.trans (s0.trans (s1.trans (s2.trans b))), fm2.tr (Fm.wr _ _), q_hu _ _ _ _⟩
          rw [en] at hx
          obtain ⟨y1, y2⟩ := Prod.mk.inj (Option.some.inj hx)
          rw [← y1]
          exact q
    · have en : nm (lt T c) i = some (lt T c i - 48, i + 1) := by
        unfold nm
        rw [if_pos f0, if_neg f1]
      have hw1 : hu B 92 31 (nI (i + 1)) 92 33 = 0 := by rw [w1]; exact hw
      have s1 := stop (1020 + 2) 1 (i + 1) (nI (lt T c i - 48)) _ h1 (by omega) a1 f1
      have b := (q_b57 (lo := lo) (hi := hi) (x := nI (lt T c i - 48)) (n := 1) hw1 (by decide)).2 (by decide) (by decide)
      by_cases q : lo ≤ nI (lt T c i - 48) ∧ nI (lt T c i - 48) ≤ hi
      · rw [if_pos q] at b
        exact Or.inl ⟨_, _, _, en, q, unf.trans (s0.trans (s1.trans b)), (Fm.at _ _).tr (Fm.wr _ _), by rw [q_hi _ _ (by decide)]; exact a1, q_hu _ _ _ _⟩
      · rw [if_neg q] at b
        refine Or.inr ⟨fun x j hx => ?_, 0, _, unf.trans (s0.trans (s1.trans b)), (Fm.at _ _).tr (Fm.wr _ _), q_hu _ _ _ _⟩
        rw [en] at hx
        obtain ⟨y1, y2⟩ := Prod.mk.inj (Option.some.inj hx)
        rw [← y1]
        exact q
  · have s0 := stop (1020 + 3) 0 i 0 B h (by omega) ha f0
    have b := (q_b57 (lo := lo) (hi := hi) (x := 0) (n := 0) hw (by decide)).1 (Or.inl rfl)
    refine Or.inr ⟨fun x j hx => ?_, 0, _, unf.trans (s0.trans b), Fm.wr _ _, q_hu _ _ _ _⟩
    unfold nm at hx
    rw [if_neg f0] at hx
    exact absurd hx (by simp)
