/-! one turn of the reading, of each -/
theorem okG_congr {N : Nat} {x y : Nat → Nat} (e : ∀ t, t < 5 → y t = x t) (h : okG N x) : okG N y := by
  unfold okG at h ⊢
  rw [e 0 (by decide), e 1 (by decide), e 2 (by decide), e 3 (by decide), e 4 (by decide)]
  exact h
theorem okF_congr {N n : Nat} {x y : Nat → Nat} (e : ∀ t, t < 3 → y t = x t) (h : okF N n x) : okF N n y := by
  unfold okF at h ⊢
  rw [e 0 (by decide), e 1 (by decide), e 2 (by decide)]
  exact h
theorem newG_congr {B : hM} {n : Nat} {x y : Nat → Nat} (e : ∀ t, t < 5 → y t = x t) : newG B n y = newG B n x := by
  unfold newG
  rw [e 0 (by decide), e 1 (by decide), e 2 (by decide), e 3 (by decide), e 4 (by decide)]
theorem newF_congr {B : hM} {n : Nat} {x y : Nat → Nat} (e : ∀ t, t < 3 → y t = x t) : newF B n y = newF B n x := by
  unfold newF
  rw [e 0 (by decide), e 1 (by decide), e 2 (by decide)]
theorem fch_det {l : Nat → Nat} {i j j' : Nat} {x x' : Nat → Nat} (h : fch l i x j) (h' : fch l i x' j') : j = j' ∧ ∀ t, t < 3 → x t = x' t := by
  obtain ⟨a0, a1, e0, e1, e2⟩ := h
  obtain ⟨b0, b1, f0, f1, f2⟩ := h'
  rw [e0] at f0
  obtain ⟨z0, rfl⟩ := Prod.mk.inj (Option.some.inj f0)
  rw [e1] at f1
  obtain ⟨z1, rfl⟩ := Prod.mk.inj (Option.some.inj f1)
  rw [e2] at f2
  obtain ⟨z2, rfl⟩ := Prod.mk.inj (Option.some.inj f2)
  refine ⟨rfl, fun t ht => ?_⟩
  rcases (show t = 0 ∨ t = 1 ∨ t = 2 by omega) with rfl | rfl | rfl
  · exact z0
  · exact z1
  · exact z2
theorem lch_det {l : Nat → Nat} {i p M j p' M' j' : Nat} (h : lch l i p M j) (h' : lch l i p' M' j') : j = j' ∧ p = p' ∧ M = M' := by
  obtain ⟨a0, x1, a1, e0, e1, e2, e3⟩ := h
  obtain ⟨b0, y1, b1, f0, f1, f2, f3⟩ := h'
  rw [e0] at f0
  obtain ⟨z0, rfl⟩ := Prod.mk.inj (Option.some.inj f0)
  rw [e1] at f1
  obtain ⟨rfl, rfl⟩ := Prod.mk.inj (Option.some.inj f1)
  rw [e3] at f3
  obtain ⟨z1, z2⟩ := Prod.mk.inj (Option.some.inj f3)
  exact ⟨z2, z0, z1⟩
theorem nI_nm4 {k : Nat} (h : k < 2 ^ 31) : ¬ nI k = (-4 : Int32) := fun z => by
  have z2 := congrArg Int32.toInt z
  rw [nI_toInt h, show (-4 : Int32).toInt = -4 by decide] at z2
  omega
theorem q_turnC {A : hM} {T : Nat} {c : Nat → Nat} {i t : Nat} (d : Nat) (h : Tt A T c) (hi : i < T) (ht : t < 200) : ∃ A1, Fn A A1 ∧
    (rn (lt T c) 5 (i + 1) = none → ∀ K, X3_readInto_h8 1 d K (nI i) (nI t) A = some (nI i, A1)) ∧
    (∀ xs k, rn (lt T c) 5 (i + 1) = some (xs, k) → (1 ≤ xs.length ∧ xs.length ≤ 5) ∧ (∀ u, u < xs.length → xs.getD u 0 ≤ 99 ∧ A1 3 u = nI (xs.getD u 0)) ∧ (i + 2 ≤ k ∧ k ≤ i + 16) ∧
      ∀ r A2, X0_add d 3 (nI (c i)) (nI xs.length) A1 = some (r, A2) → ∀ K, X3_readInto_h8 1 d K (nI i) (nI t) A = if r = 0 then some (nI i, A2) else K (nI k) (nI (t + 1)) A2) := by
  have hT := h.1
  obtain ⟨A1, p1, -, p2, p3⟩ := q_readN 5 0 (i + 1) hF A rfl (show 5 < 1024 by decide) (by omega) h
  rw [nI_0] at p2
  simp only [nI_0] at p3
  have c1 : ¬ (200 : Int32) ≤ nI t := nI_ge (b := 200) ht (by decide)
  have c2 : ¬ nI T ≤ nI i := nI_ge hi (by omega)
  have h1 := Fn.tt h p1
  have hl : lt T c i = c i := if_pos hi
  have u : ∀ K, X3_readInto_h8 1 d K (nI i) (nI t) A = ob (X3_readNumbers_l4 1 hF (nI (i + 1)) 0 A) (fun u4 Ia5 => if u4 = (-4 : Int32) then (some (nI i, Ia5)) else (ob (X3_letterAt 1 (nI i) Ia5) (fun u7 Ia8 => ob (X0_add d 3 u7 (Ia8 1 3) Ia8) (fun u10 Ia11 => if u10 = 0 then (some (nI i, Ia11)) else ((K u4 (nI t + (1 : Int32)) Ia11)))))) := fun K => by
    unfold X3_readInto_h8 X3_readNumbers
    rw [if_neg c1, h.2.1, if_neg c2, nI_1 i, show (1 + 2 : Nat) = 3 from rfl]
  refine ⟨A1, p1, fun hn K => ?_, fun xs k hs => ?_⟩
  · rw [u K, p2 hn, ob_s, if_pos rfl]
  · obtain ⟨w1, w2, w3, w4, w5, w6⟩ := p3 xs k hs
    refine ⟨w2, fun v hv => ?_, ⟨by omega, by omega⟩, fun r A2 he K => ?_⟩
    · have e := w4 v hv
      rw [Nat.zero_add] at e
      exact e
    · have k4 : ¬ nI k = (-4 : Int32) := nI_nm4 (by omega)
      have e3 : A1 1 3 = nI xs.length := by rw [w3, Nat.zero_add]
      rw [u K, w1, ob_s, if_neg k4, q_let h1 (by omega), ob_s, e3, hl, he, ob_s, nI_1]
theorem q_is {B : hM} {T : Nat} {c : Nat → Nat} (h : Tm B T c) (j k : Nat) (hk : 1 ≤ k ∧ k ≤ 126) : ((if j < T then nI (c j) else -1 : Int32) = nI k) ↔ lt T c j = k := by
  by_cases z : j < T
  · have hc := (h.2.2 j z).1
    rw [if_pos z, show lt T c j = c j from if_pos z]
    exact nI_eq (by omega) (by omega)
  · rw [if_neg z, show lt T c j = 0 from if_neg z]
    refine ⟨fun y => ?_, fun y => absurd y (by omega)⟩
    have y2 := congrArg Int32.toInt y
    rw [nI_toInt (by omega), show (-1 : Int32).toInt = -1 by decide] at y2
    omega
theorem q_turnM {B : hM} {T : Nat} {c : Nat → Nat} {i : Nat} (h : Tm B T c) (hi : i < T) (ha : B 92 31 = nI i) (hw : B 92 33 = 0) : ∃ B0, (∀ a, a ≠ 92 → B0 a = B a) ∧ (∀ k, k ≠ 31 → k ≠ 32 → B0 92 k = B 92 k) ∧ Tm B0 T c ∧ B0 92 31 = nI (i + 1) ∧ B0 92 33 = 0 ∧ B0 92 32 = nI i ∧
    (∀ B1, X5_item (nI (c i)) B0 = some (0, B1) → B1 92 33 = 1 → ∀ K, X5_reads_h14 K B = K (hu (hu B1 92 33 1) 92 31 (B1 92 31 + 1))) ∧
    (∀ B1 j, X5_item (nI (c i)) B0 = some (0, B1) → B1 92 33 = 0 → B1 92 31 = nI j → j < 100000 → Tm B1 T c → ∀ K, X5_reads_h14 K B = if lt T c j = 59 then K (hu (hu B1 92 33 0) 92 31 (nI (j + 1))) else K (hu (hu B1 92 33 1) 92 31 (nI (j + 1)))) := by
  have hT := h.1
  have c2 : ¬ nI T ≤ nI i := nI_ge hi (by omega)
  have hb : Fb B (hu B 92 32 (nI i)) := ⟨fun a h1 _ => q_hr _ _ _ h1, fun k _ _ _ _ h5 _ => q_hi _ _ h5⟩
  have hb2 : Fb B (hu (hu B 92 32 (nI i)) 92 31 (nI (i + 1))) := hb.tr ⟨fun a h1 _ => q_hr _ _ _ h1, fun k _ _ _ h4 _ _ => q_hi _ _ h4⟩
  have a1 : hu B 92 32 (nI i) 92 31 = nI i := by rw [q_hi _ _ (by decide)]; exact ha
  have u : ∀ K, X5_reads_h14 K B = ob (X5_item (nI (c i)) (hu (hu B 92 32 (nI i)) 92 31 (nI (i + 1)))) (fun u7 Ia8 => if (Ia8 92 33) = 0 then (ob (X5_next Ia8) (fun u10 Ia11 => if u10 = (59 : Int32) then ((X5_reads_b82 K (0 : Int32) Ia11)) else ((X5_reads_b82 K (1 : Int32) Ia11)))) else ((X5_reads_b82 K (1 : Int32) Ia8))) := fun K => by
    unfold X5_reads_h14
    rw [h.2.1, ha, if_neg c2, if_pos hw, q_next (hb.tm h) (by omega) a1, ob_s, if_pos hi, a1, nI_1]
  refine ⟨hu (hu B 92 32 (nI i)) 92 31 (nI (i + 1)), fun a h1 => by rw [q_hr _ _ _ h1, q_hr _ _ _ h1], fun k h1 h2 => by rw [q_hi _ _ h1, q_hi _ _ h2], hb2.tm h, q_hu _ _ _ _, ?_, ?_, fun B1 e hw1 K => ?_, fun B1 j e hw1 hat hj hT1 K => ?_⟩
  · rw [q_hi _ _ (by decide), q_hi _ _ (by decide)]
    exact hw
  · rw [q_hi _ _ (by decide), q_hu]
  · rw [u K, e, ob_s, hw1, if_neg n10]
    unfold X5_reads_b82
    rw [q_g1, q_hi _ _ (show 31 ≠ 33 by decide)]
  · have e59 : ((if j < T then nI (c j) else -1 : Int32) = 59) ↔ lt T c j = 59 := q_is hT1 j 59 (by decide)
    rw [u K, e, ob_s, hw1, if_pos rfl, q_next hT1 hj hat, ob_s]
    by_cases q : lt T c j = 59
    · rw [if_pos q, if_pos (e59.mpr q)]
      unfold X5_reads_b82
      rw [q_g0, q_hi _ _ (show 31 ≠ 33 by decide), hat, nI_1]
    · rw [if_neg q, if_neg (fun z => q (e59.mp z))]
      unfold X5_reads_b82
      rw [q_g1, q_hi _ _ (show 31 ≠ 33 by decide), hat, nI_1]
