/-! the model's turn by its letter -/
/-- what a wrong item leaves -/
theorem q_badM {B B0 B1 : hM} {i : Nat} (h1 : ∀ a, a ≠ 92 → B0 a = B a) (h2 : ∀ k, k ≠ 31 → k ≠ 32 → B0 92 k = B 92 k) (h3 : B0 92 32 = nI i) (hF : Fm B0 B1) (v : Int32) : Fb B (hu (hu B1 92 33 1) 92 31 v) ∧ hu (hu B1 92 33 1) 92 31 v 92 32 = nI i ∧ hu (hu B1 92 33 1) 92 31 v 92 33 = 1 := by
  refine ⟨⟨fun a a1 a2 => ?_, fun k k1 k2 k3 k4 k5 k6 => ?_⟩, ?_, ?_⟩
  · rw [q_hr _ _ _ a1, q_hr _ _ _ a1, hF.1 a a1, h1 a a1]
  · rw [q_hi _ _ k4, q_hi _ _ k6, hF.2 k k4 k6, h2 k k4 k5]
  · rw [q_hi _ _ (by decide), q_hi _ _ (by decide), hF.2 32 (by decide) (by decide)]
    exact h3
  · rw [q_hi _ _ (by decide), q_hu]
theorem q_goodM {B B0 B1 : hM} {i : Nat} (h1 : ∀ a, a ≠ 92 → B0 a = B a) (h2 : ∀ k, k ≠ 31 → k ≠ 32 → B0 92 k = B 92 k) (h3 : B0 92 32 = nI i) (hF : Fb B0 B1) (h32 : B1 92 32 = B0 92 32) (r v : Int32) : Fb B (hu (hu B1 92 33 r) 92 31 v) ∧ hu (hu B1 92 33 r) 92 31 v 92 32 = nI i ∧ hu (hu B1 92 33 r) 92 31 v 92 33 = r ∧ hu (hu B1 92 33 r) 92 31 v 92 31 = v := by
  refine ⟨⟨fun a a1 a2 => ?_, fun k k1 k2 k3 k4 k5 k6 => ?_⟩, ?_, ?_, q_hu _ _ _ _⟩
  · rw [q_hr _ _ _ a1, q_hr _ _ _ a1, hF.1 a a1 a2, h1 a a1]
  · rw [q_hi _ _ k4, q_hi _ _ k6, hF.2 k k1 k2 k3 k4 k5 k6, h2 k k4 k5]
  · rw [q_hi _ _ (by decide), q_hi _ _ (by decide), h32]
    exact h3
  · rw [q_hi _ _ (by decide), q_hu]
theorem q_mdlG {B : hM} {T : Nat} {c : Nat → Nat} {i N : Nat} (h : Tm B T c) (hi : i < T) (ha : B 92 31 = nI i) (hw : B 92 33 = 0) (hc : c i = 103) (hN : B 92 13 = nI N) (hN7 : N ≤ 7) :
    ∃ B', Fb B B' ∧ B' 92 32 = nI i ∧ (∀ K, X5_reads_h14 K B = K B') ∧ ((∃ x j, okI (lt T c) (i + 1) N x j ∧ B' 92 33 = 0 ∧ B' 92 31 = nI (j + 1) ∧ (∀ A d F L, Dw A (newG B N x) d (N + 1) F L → Dw A B' d (N + 1) F L)) ∨ (B' 92 33 = 1 ∧ ¬ ∃ x j, okI (lt T c) (i + 1) N x j)) := by
  have hT := h.1
  obtain ⟨B0, b0, b1, b2, b3, b4, b5, bW, bG⟩ := q_turnM h hi ha hw
  rw [hc, n103] at bW bG
  have hN0 : B0 92 13 = nI N := by rw [b1 13 (by decide) (by decide)]; exact hN
  have eit : X5_item 103 B0 = ob (X5_goingItem B0) (fun _ Ia8 => some (0, Ia8)) := by
    unfold X5_item
    rw [if_pos rfl]
  rcases q_goingM (n := N) b2 (i := i + 1) (by omega) b3 b4 hN0 hN7 with ⟨x, j, B1, g1, g2, g3, g4, g5, g6, g7⟩ | ⟨n1, B1, n2, n3, n4⟩
  · have hN1 : B1 92 13 = nI N := by rw [g4.2 13 (by decide) (by decide)]; exact hN0
    have e1 : X5_item 103 B0 = some (0, newG B1 N x) := by rw [eit, g7, q_comes hN1 g2.1, ob_s, ob_s]
    have m1 : Tm (newG B1 N x) T c := newG_f.tm (g4.fb.tm b2)
    have st := bG _ j e1 (by rw [newG_d (by decide)]; exact g6) (by rw [newG_d (by decide)]; exact g5) (by omega) m1
    have h32 : newG B1 N x 92 32 = B0 92 32 := by rw [newG_d (by decide), g4.2 32 (by decide) (by decide)]
    by_cases q : lt T c j = 59
    · obtain ⟨r1, r2, r3, r4⟩ := q_goodM b0 b1 b5 (g4.fb.tr (newG_f (n := N) (x := x))) h32 0 (nI (j + 1))
      refine ⟨_, r1, r2, fun K => by rw [st K, if_pos q], Or.inl ⟨x, j, ⟨g1, g2, q⟩, r3, r4, fun A d F L hD => hD.keep (fun _ _ _ => rfl) ?_ ?_ ?_ fun a a1 a2 => ?_⟩⟩
      · rw [q_hi _ _ (by decide), q_hi _ _ (by decide), newG_c, newG_c]
      · rw [q_hi _ _ (by decide), q_hi _ _ (by decide), newG_d (by decide), newG_d (by decide), g4.2 19 (by decide) (by decide), b1 19 (by decide) (by decide)]
      · rw [q_hi _ _ (by decide), q_hi _ _ (by decide), newG_d (by decide), newG_d (by decide), g4.2 23 (by decide) (by decide), b1 23 (by decide) (by decide)]
      · rw [q_hr _ _ _ (by omega), q_hr _ _ _ (by omega)]
        exact newG_k (fun a h1 h2 => by rw [g4.1 a (by omega), b0 a (by omega)]) a a1 a2
    · obtain ⟨r1, r2, r3, r4⟩ := q_goodM b0 b1 b5 (g4.fb.tr (newG_f (n := N) (x := x))) h32 1 (nI (j + 1))
      refine ⟨_, r1, r2, fun K => by rw [st K, if_neg q], Or.inr ⟨r3, ?_⟩⟩
      rintro ⟨y, j', f1, f2, f3⟩
      obtain ⟨rfl, -⟩ := gch_det g1 f1
      exact q f3
  · have e1 : X5_item 103 B0 = some (0, B1) := by rw [eit, n2, ob_s]
    obtain ⟨r1, r2, r3⟩ := q_badM b0 b1 b5 n3 (B1 92 31 + 1)
    refine ⟨_, r1, r2, bW B1 e1 n4, Or.inr ⟨r3, ?_⟩⟩
    rintro ⟨y, j', f1, f2, f3⟩
    exact n1 ⟨y, j', f1, f2⟩
theorem q_mdlF {B : hM} {T : Nat} {c : Nat → Nat} {i N F : Nat} (h : Tm B T c) (hi : i < T) (ha : B 92 31 = nI i) (hw : B 92 33 = 0) (hc : c i = 102) (hN : B 92 13 = nI N) (hN7 : N ≤ 7) (hF' : B 92 19 = nI F) (hF6 : F ≤ 6) :
    ∃ B', Fb B B' ∧ B' 92 32 = nI i ∧ (∀ K, X5_reads_h14 K B = K B') ∧ ((∃ x j, okJ (lt T c) (i + 1) N F x j ∧ B' 92 33 = 0 ∧ B' 92 31 = nI (j + 1) ∧ (∀ A d L, Dw A (newF B F x) d N (F + 1) L → Dw A B' d N (F + 1) L)) ∨ (B' 92 33 = 1 ∧ ¬ ∃ x j, okJ (lt T c) (i + 1) N F x j)) := by
  have hT := h.1
  obtain ⟨B0, b0, b1, b2, b3, b4, b5, bW, bG⟩ := q_turnM h hi ha hw
  rw [hc, n102] at bW bG
  have hN0 : B0 92 13 = nI N := by rw [b1 13 (by decide) (by decide)]; exact hN
  have hF0 : B0 92 19 = nI F := by rw [b1 19 (by decide) (by decide)]; exact hF'
  have eit : X5_item 102 B0 = ob (X5_followItem B0) (fun _ Ia5 => some (0, Ia5)) := by
    have z : ¬ (102 : Int32) = 103 := by decide
    unfold X5_item
    rw [if_neg z, if_pos rfl]
  rcases q_followM (N := N) (n := F) b2 (i := i + 1) (by omega) b3 hN0 hN7 hF0 hF6 with ⟨x, j, B1, g1, g2, g3, g4, g5, g6, g7⟩ | ⟨n1, B1, n2, n3, n4⟩
  · have hF1 : B1 92 19 = nI F := by rw [g4.2 19 (by decide) (by decide)]; exact hF0
    have e1 : X5_item 102 B0 = some (0, newF B1 F x) := by rw [eit, g7, q_follow hF1 g2.1, ob_s, ob_s]
    have m1 : Tm (newF B1 F x) T c := newF_f.tm (g4.fb.tm b2)
    have st := bG _ j e1 (by rw [newF_d (by decide)]; exact g6) (by rw [newF_d (by decide)]; exact g5) (by omega) m1
    have h32 : newF B1 F x 92 32 = B0 92 32 := by rw [newF_d (by decide), g4.2 32 (by decide) (by decide)]
    by_cases q : lt T c j = 59
    · obtain ⟨r1, r2, r3, r4⟩ := q_goodM b0 b1 b5 (g4.fb.tr (newF_f (n := F) (x := x))) h32 0 (nI (j + 1))
      refine ⟨_, r1, r2, fun K => by rw [st K, if_pos q], Or.inl ⟨x, j, ⟨g1, g2, q⟩, r3, r4, fun A d L hD => hD.keep (fun _ _ _ => rfl) ?_ ?_ ?_ fun a a1 a2 => ?_⟩⟩
      · rw [q_hi _ _ (by decide), q_hi _ _ (by decide), newF_d (by decide), newF_d (by decide), g4.2 13 (by decide) (by decide), b1 13 (by decide) (by decide)]
      · rw [q_hi _ _ (by decide), q_hi _ _ (by decide), newF_c, newF_c]
      · rw [q_hi _ _ (by decide), q_hi _ _ (by decide), newF_d (by decide), newF_d (by decide), g4.2 23 (by decide) (by decide), b1 23 (by decide) (by decide)]
      · rw [q_hr _ _ _ (by omega), q_hr _ _ _ (by omega)]
        exact newF_k (fun a h1 h2 => by rw [g4.1 a (by omega), b0 a (by omega)]) a a1 a2
    · obtain ⟨r1, r2, r3, r4⟩ := q_goodM b0 b1 b5 (g4.fb.tr (newF_f (n := F) (x := x))) h32 1 (nI (j + 1))
      refine ⟨_, r1, r2, fun K => by rw [st K, if_neg q], Or.inr ⟨r3, ?_⟩⟩
      rintro ⟨y, j', f1, f2, f3⟩
      obtain ⟨rfl, -⟩ := fch_det g1 f1
      exact q f3
  · have e1 : X5_item 102 B0 = some (0, B1) := by rw [eit, n2, ob_s]
    obtain ⟨r1, r2, r3⟩ := q_badM b0 b1 b5 n3 (B1 92 31 + 1)
    refine ⟨_, r1, r2, bW B1 e1 n4, Or.inr ⟨r3, ?_⟩⟩
    rintro ⟨y, j', f1, f2, f3⟩
    exact n1 ⟨y, j', f1, f2⟩
theorem q_mdlL {B : hM} {T : Nat} {c : Nat → Nat} {i L : Nat} (h : Tm B T c) (hi : i < T) (ha : B 92 31 = nI i) (hw : B 92 33 = 0) (hc : c i = 108) (hL : B 92 23 = nI L) (hL4 : L ≤ 4) :
    ∃ B', Fb B B' ∧ B' 92 32 = nI i ∧ (∀ K, X5_reads_h14 K B = K B') ∧ ((∃ p M j, okK (lt T c) (i + 1) L p M j ∧ B' 92 33 = 0 ∧ B' 92 31 = nI (j + 1) ∧ (∀ A d N F, Dw A (newL B L p M) d N F (L + 1) → Dw A B' d N F (L + 1))) ∨ (B' 92 33 = 1 ∧ ¬ ∃ p M j, okK (lt T c) (i + 1) L p M j)) := by
  have hT := h.1
  obtain ⟨B0, b0, b1, b2, b3, b4, b5, bW, bG⟩ := q_turnM h hi ha hw
  rw [hc, n108] at bW bG
  have hL0 : B0 92 23 = nI L := by rw [b1 23 (by decide) (by decide)]; exact hL
  have eit : X5_item 108 B0 = ob (X5_ladyItem B0) (fun _ Ia2 => some (0, Ia2)) := by
    have z : ¬ (108 : Int32) = 103 := by decide
    have z2 : ¬ (108 : Int32) = 102 := by decide
    unfold X5_item
    rw [if_neg z, if_neg z2, if_pos rfl]
  rcases q_ladyM (n := L) b2 (i := i + 1) (by omega) b3 hL0 hL4 with ⟨p, M, j, B1, g1, g2, gM, g3, g4, g5, g6, g7⟩ | ⟨n1, B1, n2, n3, n4⟩
  · have hL1 : B1 92 23 = nI L := by rw [g4.2 23 (by decide) (by decide)]; exact hL0
    have e1 : X5_item 108 B0 = some (0, newL B1 L p M) := by rw [eit, g7, q_b101 g6 hL1 g2.1, ob_s]
    have m1 : Tm (newL B1 L p M) T c := newL_f.tm (g4.fb.tm b2)
    have st := bG _ j e1 (by rw [newL_d (by decide)]; exact g6) (by rw [newL_d (by decide)]; exact g5) (by omega) m1
    have h32 : newL B1 L p M 92 32 = B0 92 32 := by rw [newL_d (by decide), g4.2 32 (by decide) (by decide)]
    by_cases q : lt T c j = 59
    · obtain ⟨r1, r2, r3, r4⟩ := q_goodM b0 b1 b5 (g4.fb.tr (newL_f (n := L) (p := p) (M := M))) h32 0 (nI (j + 1))
      refine ⟨_, r1, r2, fun K => by rw [st K, if_pos q], Or.inl ⟨p, M, j, ⟨g1, g2, q⟩, r3, r4, fun A d N F hD => hD.keep (fun _ _ _ => rfl) ?_ ?_ ?_ fun a a1 a2 => ?_⟩⟩
      · rw [q_hi _ _ (by decide), q_hi _ _ (by decide), newL_d (by decide), newL_d (by decide), g4.2 13 (by decide) (by decide), b1 13 (by decide) (by decide)]
      · rw [q_hi _ _ (by decide), q_hi _ _ (by decide), newL_d (by decide), newL_d (by decide), g4.2 19 (by decide) (by decide), b1 19 (by decide) (by decide)]
      · rw [q_hi _ _ (by decide), q_hi _ _ (by decide), newL_c, newL_c]
      · rw [q_hr _ _ _ (by omega), q_hr _ _ _ (by omega)]
        exact newL_k (fun a h1 h2 => by rw [g4.1 a (by omega), b0 a (by omega)]) a a1 a2
    · obtain ⟨r1, r2, r3, r4⟩ := q_goodM b0 b1 b5 (g4.fb.tr (newL_f (n := L) (p := p) (M := M))) h32 1 (nI (j + 1))
      refine ⟨_, r1, r2, fun K => by rw [st K, if_neg q], Or.inr ⟨r3, ?_⟩⟩
      rintro ⟨p', M', j', f1, f2, f3⟩
      obtain ⟨rfl, -⟩ := lch_det g1 f1
      exact q f3
  · have e1 : X5_item 108 B0 = some (0, B1) := by rw [eit, n2, ob_s]
    obtain ⟨r1, r2, r3⟩ := q_badM b0 b1 b5 n3 (B1 92 31 + 1)
    refine ⟨_, r1, r2, bW B1 e1 n4, Or.inr ⟨r3, ?_⟩⟩
    rintro ⟨p', M', j', f1, f2, f3⟩
    exact n1 ⟨p', M', j', f1, f2⟩
theorem q_mdlO {B : hM} {T : Nat} {c : Nat → Nat} {i : Nat} (h : Tm B T c) (hi : i < T) (ha : B 92 31 = nI i) (hw : B 92 33 = 0) (c1 : ¬ c i = 102) (c2 : ¬ c i = 103) (c3 : ¬ c i = 108) :
    ∃ B', Fb B B' ∧ B' 92 32 = nI i ∧ (∀ K, X5_reads_h14 K B = K B') ∧ B' 92 33 = 1 := by
  have hcc := (h.2.2 i hi).1
  obtain ⟨B0, b0, b1, b2, b3, b4, b5, bW, bG⟩ := q_turnM h hi ha hw
  have z1 : ¬ nI (c i) = 103 := fun z => c2 ((nI_eq (b := 103) (by omega) (by decide)).mp z)
  have z2 : ¬ nI (c i) = 102 := fun z => c1 ((nI_eq (b := 102) (by omega) (by decide)).mp z)
  have z3 : ¬ nI (c i) = 108 := fun z => c3 ((nI_eq (b := 108) (by omega) (by decide)).mp z)
  have e1 : X5_item (nI (c i)) B0 = some (0, hu B0 92 33 1) := by
    unfold X5_item
    rw [if_neg z1, if_neg z2, if_neg z3, q_g1]
  obtain ⟨r1, r2, r3⟩ := q_badM b0 b1 b5 (Fm.wr B0 1) (hu B0 92 33 1 92 31 + 1)
  exact ⟨_, r1, r2, bW _ e1 (q_hu _ _ _ _), r3⟩
/-- one turn of both -/
theorem q_turn {A B : hM} {T : Nat} {c : Nat → Nat} {d i t N F L : Nat} (hd : d = 4 ∨ d = 15) (hA : Tt A T c) (hB : Tm B T c) (hi : i < T) (ht : t < 200) (ha : B 92 31 = nI i) (hw : B 92 33 = 0) (hD : Dw A B d N F L) :
    ∃ A' B', Fc d A A' ∧ Fb B B' ∧ (∀ K, X5_reads_h14 K B = K B') ∧ ((∃ k N' F' L', i < k ∧ k ≤ T ∧ (∀ K, X3_readInto_h8 1 d K (nI i) (nI t) A = K (nI k) (nI (t + 1)) A') ∧ Dw A' B' d N' F' L' ∧ B' 92 31 = nI k ∧ B' 92 33 = 0) ∨ ((∀ K, X3_readInto_h8 1 d K (nI i) (nI t) A = some (nI i, A')) ∧ B' 92 33 = 1 ∧ B' 92 32 = nI i)) := by
  obtain ⟨⟨hN7, hF6, hL4⟩, ⟨n1, n2⟩, ⟨f1, f2⟩, ⟨l1, l2⟩, -⟩ := id hD
  by_cases c2 : c i = 103
  · obtain ⟨A', a1, a2⟩ := q_clsG hd hA hi ht c2 n1 hN7
    obtain ⟨B', b1, b2, b3, b4⟩ := q_mdlG hB hi ha hw c2 n2 hN7
    refine ⟨A', B', a1, b1, b3, ?_⟩
    rcases a2 with ⟨x, j, s1, s2, s3, s4⟩ | ⟨s1, s2⟩
    · rcases b4 with ⟨y, j', t1, t2, t3, t4⟩ | ⟨t1, t2⟩
      · obtain ⟨rfl, e⟩ := gch_det s1.1 t1.1
        have hj := q_lt59 s1.2.2
        refine Or.inl ⟨j + 1, N + 1, F, L, by omega, by omega, s3, t4 A' d F L ?_, t3, t2⟩
        rw [← newG_congr e]
        exact s4 B F L hD
      · exact absurd ⟨x, j, s1⟩ t2
    · rcases b4 with ⟨y, j', t1, t2, t3, t4⟩ | ⟨t1, t2⟩
      · exact absurd ⟨y, j', t1⟩ s2
      · exact Or.inr ⟨s1, t1, b2⟩
  by_cases c1 : c i = 102
  · obtain ⟨A', a1, a2⟩ := q_clsF hd hA hi ht c1 n1 hN7 f1 hF6
    obtain ⟨B', b1, b2, b3, b4⟩ := q_mdlF hB hi ha hw c1 n2 hN7 f2 hF6
    refine ⟨A', B', a1, b1, b3, ?_⟩
    rcases a2 with ⟨x, j, s1, s2, s3, s4⟩ | ⟨s1, s2⟩
    · rcases b4 with ⟨y, j', t1, t2, t3, t4⟩ | ⟨t1, t2⟩
      · obtain ⟨rfl, e⟩ := fch_det s1.1 t1.1
        have hj := q_lt59 s1.2.2
        refine Or.inl ⟨j + 1, N, F + 1, L, by omega, by omega, s3, t4 A' d L ?_, t3, t2⟩
        rw [← newF_congr e]
        exact s4 B L hD
      · exact absurd ⟨x, j, s1⟩ t2
    · rcases b4 with ⟨y, j', t1, t2, t3, t4⟩ | ⟨t1, t2⟩
      · exact absurd ⟨y, j', t1⟩ s2
      · exact Or.inr ⟨s1, t1, b2⟩
  by_cases c3 : c i = 108
  · obtain ⟨A', a1, a2⟩ := q_clsL hd hA hi ht c3 l1 hL4
    obtain ⟨B', b1, b2, b3, b4⟩ := q_mdlL hB hi ha hw c3 l2 hL4
    refine ⟨A', B', a1, b1, b3, ?_⟩
    rcases a2 with ⟨p, M, j, s1, s2, s3, s4⟩ | ⟨s1, s2⟩
    · rcases b4 with ⟨p', M', j', t1, t2, t3, t4⟩ | ⟨t1, t2⟩
      · obtain ⟨rfl, rfl, rfl⟩ := lch_det s1.1 t1.1
        have hj := q_lt59 s1.2.2
        exact Or.inl ⟨j + 1, N, F, L + 1, by omega, by omega, s3, t4 A' d N F (s4 B N F hD), t3, t2⟩
      · exact absurd ⟨p, M, j, s1⟩ t2
    · rcases b4 with ⟨p', M', j', t1, t2, t3, t4⟩ | ⟨t1, t2⟩
      · exact absurd ⟨p', M', j', t1⟩ s2
      · exact Or.inr ⟨s1, t1, b2⟩
  · obtain ⟨A', a1, a2⟩ := q_clsO d hA hi ht c1 c2 c3
    obtain ⟨B', b1, b2, b3, b4⟩ := q_mdlO hB hi ha hw c1 c2 c3
    exact ⟨A', B', a1, b1, b3, Or.inr ⟨a2, b4, b2⟩⟩
