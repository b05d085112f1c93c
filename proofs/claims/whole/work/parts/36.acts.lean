def Iv (A B : hM) (N F L m : Nat) : Prop := Ev A B N F L ∧ m ≤ 999 ∧ Sd A B 26 0 N L m N ∧ B 92 37 = -4 ∧ Tx A B ∧ No A B ∧ Un A B N L ∧ Ke A B N L
theorem Inv.iv {A B : hM} (h : Inv A B) : ∃ N F L m, Iv A B N F L m := h
theorem Iv.inv {A B : hM} {N F L m : Nat} (h : Iv A B N F L m) : Inv A B := ⟨N, F, L, m, h⟩
/-- each keeps to its own places -/
def Sp (A A' B B' : hM) : Prop := (∀ a, 92 ≤ a → A' a = A a) ∧ (∀ a, a < 92 → B' a = B a)
theorem Sp.tr {A A' A'' B B' B'' : hM} (h : Sp A A' B B') (h' : Sp A' A'' B' B'') : Sp A A'' B B'' := ⟨fun a ha => (h'.1 a ha).trans (h.1 a ha), fun a ha => (h'.2 a ha).trans (h.2 a ha)⟩
theorem Sp.rf {A B : hM} : Sp A A B B := ⟨fun _ _ => rfl, fun _ _ => rfl⟩
theorem Fr.sp {A A' B B' : hM} {p s : Nat} (h : Fr A A' B B' p s) (hp : p = 26 ∨ p = 31) : Sp A A' B B' := ⟨fun a ha => h.1 a (by omega), fun a ha => h.2.1 a (by omega) (by omega)⟩
theorem Op.iv {f g : hM → Option (Int32 × hM)} (h : ∀ A B N F L m, Iv A B N F L m → ∃ r A' B', f A = some (r, A') ∧ g B = some (r, B') ∧ Inv A' B' ∧ Sp A A' B B') : Op f g := fun A B hI => by
  obtain ⟨N, F, L, m, hI⟩ := hI.iv
  obtain ⟨r, A', B', h1, h2, h3, h4, h5⟩ := h A B N F L m hI
  exact ⟨r, A', B', h1, h2, h3, h4, h5⟩
/-- the standing alone changes -/
theorem Iv.st {A B A' B' : hM} {N F L m m' : Nat} (h : Iv A B N F L m) (hF : Fr A A' B B' 26 0) (hS : Sd A' B' 26 0 N L m' N) (hm : m' ≤ 999) : Iv A' B' N F L m' := by
  obtain ⟨hE, -, -, hx, hT, hNo, hU, hK⟩ := h
  have hb := hE.1
  refine ⟨hE.fr (Or.inl rfl) hF, hm, hS, by rw [hF.2.2.1 37 (by decide)]; exact hx, hT.keep (by rw [hF.1 1 (by decide)]) (hF.1 2 (by decide)) (hF.2.2.1 29 (by decide)) (hF.2.1 114 (by decide) (by decide)), hNo.keep (by rw [hF.1 0 (by decide)]) (hF.1 90 (by decide)) (hF.1 91 (by decide)) (hF.2.2.1 34 (by decide)) (hF.2.1 115 (by decide) (by decide)) (hF.2.1 116 (by decide) (by decide)), hU.keep (by omega) (by omega) (fun a _ _ => hF.1 a (by omega)) (hF.2.2.1 27 (by decide)) (fun j _ _ => hF.2.2.2 j (by omega)), hK.keep (by omega) (by omega) (fun a _ _ => hF.1 a (by omega)) (hF.2.2.1 28 (by decide)) (fun j _ _ => hF.2.2.2 j (by omega))⟩
theorem q_hst : (∀ j, j < 8 → hst (38 + 5 * j) = true) ∧ hst 80 = true ∧ hst 85 = true := by decide +kernel
/-- one more is known, with room for it -/
theorem q_push {A B : hM} {N F L m U : Nat} (hI : Iv A B N F L m) (hU8 : U < 8) (hA : A 36 1 = nI U) : ∃ A1 B1 : hM, X1_put_b16 36 8 26 A = some (0, A1) ∧ X5_known_b46 B = some (0, B1) ∧ Iv A1 B1 N F L m ∧ Sp A A1 B B1 ∧ (∀ a, a < 36 → A1 a = A a) ∧ (∀ j, j < 20 → B1 113 j = B 113 j) := by
  obtain ⟨hE, hm, hS, hx0, hT, hNo, hU, hK⟩ := hI
  have hb := hE.1
  obtain ⟨U', u1, u2, u3, r, r1, r2, r3⟩ := hU
  have hUU : U' = U := by
    rw [u2] at hA
    exact (nI_eq (by omega) (by omega)).mp hA
  subst hUU
  obtain ⟨e1, j, hj, hr⟩ := r1 U' (by omega)
  have iU : (nI U').toNatClampNeg = U' := nI_clamp (by omega)
  have iR : (nI (r U')).toNatClampNeg = r U' := nI_clamp (by omega)
  have hst1 : hst (r U') = true := by rw [hr]; exact q_hst.1 j hj
  have gx : (hx (nI U') 8 && decide (¬ nI (r U') < 0)) = true := by
    have z : ¬ nI (r U') < 0 := nI_pos (by omega)
    rw [q_hx (by omega) (by decide), decide_eq_true z]
    rfl
  obtain ⟨A1, a1, a2, a3, a4, a5, a6⟩ := q_copyC (r U') 26 A (by omega)
  obtain ⟨B1, b1, b2, b3, b4⟩ := q_copies (b := 0) (t := (U' + 1) * 20) (by decide) (by omega) (by omega) (hu B 92 27 (nI (U' + 1)))
  have b1 : X5_copies 0 (nI ((U' + 1) * 20)) (hu B 92 27 (nI (U' + 1))) = some (0, B1) := b1
  have em : nI (U' + 1) * 20 = nI ((U' + 1) * 20) := pk_mul (U' + 1) 20
  have hA2 : ∀ a, a ≠ 36 → ¬ (r U' ≤ a ∧ a ≤ r U' + 4) → hu A1 36 1 (nI (U' + 1)) a = A a := fun a h1 h2 => by rw [q_hr _ _ _ h1, a6 a h2]
  have hB92 : ∀ i, i ≠ 27 → B1 92 i = B 92 i := fun i hi => by rw [b4 92 (by decide), q_hi _ _ hi]
  have hBo : ∀ a, a ≠ 113 → a ≠ 92 → B1 a = B a := fun a h1 h2 => by rw [b4 a h1, q_hr _ _ _ h2]
  have hB113 : ∀ i, ¬ ((U' + 1) * 20 ≤ i ∧ i < (U' + 1) * 20 + 20) → B1 113 i = B 113 i := fun i hi => by rw [b3 i hi, q_ha _ _ _ _ (by decide)]
  refine ⟨hu A1 36 1 (nI (U' + 1)), B1, ?_, ?_, ⟨?_, hm, ?_, ?_, ?_, ?_, ?_, ?_⟩, ⟨fun a ha => hA2 a (by omega) (by omega), fun a ha => hBo a (by omega) (by omega)⟩, fun a ha => hA2 a (by omega) (by omega), fun j hj => hB113 j (by omega)⟩
  · unfold X1_put_b16
    rw [hA, iU, e1, gx, gd_t, iR, hst1, gd_t, a1, ob_s, a6 36 (by omega), hA, nI_1]
  · unfold X5_known_b46
    rw [u3, nI_1, q_hu, em, b1, ob_s]
  · exact hE.keep (fun a _ _ => hA2 a (by omega) (by omega)) (hB92 0 (by decide)) (hB92 6 (by decide)) (hB92 10 (by decide)) (fun a _ _ => hBo a (by omega) (by omega))
  · exact hS.keep (by omega) (by omega) (fun a _ _ => hA2 a (by omega) (by omega)) (fun i _ _ => hB113 i (by omega))
  · rw [hB92 37 (by decide)]
    exact hx0
  · exact hT.keep (by rw [hA2 1 (by decide) (by omega)]) (hA2 2 (by decide) (by omega)) (hB92 29 (by decide)) (hBo 114 (by decide) (by decide))
  · exact hNo.keep (by rw [hA2 0 (by decide) (by omega)]) (hA2 90 (by decide) (by omega)) (hA2 91 (by decide) (by omega)) (hB92 34 (by decide)) (hBo 115 (by decide) (by decide)) (hBo 116 (by decide) (by decide))
  · refine ⟨U' + 1, by omega, q_hu _ _ _ _, ?_, r, ?_, r2, fun i hi => ?_⟩
    · rw [b4 92 (by decide), q_hu]
    · rw [hA2 37 (by decide) (by omega)]
      exact r1
    · by_cases hiU : i = U'
      · subst hiU
        refine ⟨m, hm, hS.to (by omega) (by omega) ?_ ?_ (fun g hg => ?_) (fun l hl => ?_) (fun q hq => ?_)⟩
        · rw [q_hr _ _ _ (by omega)]
          exact a2
        · rw [q_hr _ _ _ (by omega)]
          exact a3
        · rw [q_hr _ _ _ (by omega), q_hr _ _ _ (by omega), q_hr _ _ _ (by omega)]
          exact a4 g hg
        · rw [q_hr _ _ _ (by omega)]
          exact a5 l hl
        · have e := b2 q hq
          rw [q_ha _ _ _ _ (by decide)] at e
          rw [show 20 * (i + 1) + q = (i + 1) * 20 + q by omega]
          exact e
      · obtain ⟨mm, hmm, hs⟩ := r3 i (by omega)
        obtain ⟨-, j', hj', hr'⟩ := r1 i (by omega)
        have hne : r i ≠ r U' := fun z => hiU (r2 i U' (by omega) (by omega) z)
        exact ⟨mm, hmm, hs.keep (by omega) (by omega) (fun a h1 h2 => hA2 a (by omega) (by omega)) (fun q h1 h2 => hB113 q (by omega))⟩
  · exact hK.keep (by omega) (by omega) (fun a _ _ => hA2 a (by omega) (by omega)) (hB92 28 (by decide)) (fun q _ _ => hB113 q (by omega))
/-- the rows move down by one -/
theorem q_drop_loop {r : Nat → Nat} {q1 : Nat} (hr : ∀ i, i < 8 → ∃ j, j < 8 ∧ r i = 38 + 5 * j) : ∀ (k v : Nat) (A : hM) (n : Nat), v + k = 8 → 1 ≤ v → k < n → (∀ i, i < 8 → A 37 i = nI (r (if i + 1 < v then i + 1 else i))) → ∃ A1 : hM, X1_dropOldest_l9 36 8 n q1 (nI v) A = X1_dropOldest_b38 36 8 q1 A1 ∧ (∀ a, a ≠ 37 → A1 a = A a) ∧ ∀ i, i < 7 → A1 37 i = nI (r (i + 1)) := by
  intro k
  induction k with
  | zero =>
    intro v A n hv h1 hn hA
    obtain ⟨n, rfl⟩ : ∃ j, n = j + 1 := ⟨n - 1, by omega⟩
    obtain rfl : v = 8 := by omega
    have c1 : nI 8 ≤ nI 8 := nI_le (by omega) (by omega)
    refine ⟨A, ?_, fun _ _ => rfl, fun i hi => ?_⟩
    · show X1_dropOldest_h9 36 8 _ q1 (nI 8) A = _
      unfold X1_dropOldest_h9
      rw [if_pos c1]
    · rw [hA i (by omega), if_pos (by omega)]
  | succ k ih =>
    intro v A n hv h1 hn hA
    obtain ⟨n, rfl⟩ : ∃ j, n = j + 1 := ⟨n - 1, by omega⟩
    obtain ⟨v, rfl⟩ : ∃ j, v = j + 1 := ⟨v - 1, by omega⟩
    have c1 : ¬ nI 8 ≤ nI (v + 1) := nI_ge (by omega) (by omega)
    obtain ⟨j, hj, hrj⟩ := hr (v + 1) (by omega)
    have hAv : A 37 (v + 1) = nI (r (v + 1)) := by rw [hA (v + 1) (by omega), if_neg (by omega)]
    have iv : (nI (v + 1)).toNatClampNeg = v + 1 := nI_clamp (by omega)
    have iv2 : (nI v).toNatClampNeg = v := nI_clamp (by omega)
    have iR : (nI (r (v + 1))).toNatClampNeg = r (v + 1) := nI_clamp (by omega)
    have hs : hst (r (v + 1)) = true := by rw [hrj]; exact q_hst.1 j hj
    have g1 : (hx (nI (v + 1)) 8 && decide (¬ nI (r (v + 1)) < 0)) = true := by
      have z : ¬ nI (r (v + 1)) < 0 := nI_pos (by omega)
      rw [q_hx (by omega) (by decide), decide_eq_true z]
      rfl
    have g2 : (hx (nI v) 8 && decide (r (v + 1) < 2147483648)) = true := by
      have z : r (v + 1) < 2147483648 := by omega
      rw [q_hx (by omega) (by decide), decide_eq_true z]
      rfl
    obtain ⟨A1, e1, e2, e3⟩ := ih (v + 2) (hu A 37 v (nI (r (v + 1)))) n (by omega) (by omega) (by omega) (fun i hi => by
      by_cases hiv : i = v
      · subst hiv
        rw [q_hu, if_pos (by omega)]
      · rw [q_hi _ _ hiv, hA i hi]
        by_cases h : i + 1 < v + 1
        · rw [if_pos h, if_pos (by omega)]
        · rw [if_neg h, if_neg (by omega)])
    refine ⟨A1, ?_, fun a ha => by rw [e2 a ha, q_hr _ _ _ ha], e3⟩
    show X1_dropOldest_h9 36 8 (X1_dropOldest_l9 36 8 n) q1 (nI (v + 1)) A = _
    unfold X1_dropOldest_h9
    have hAv : A (36 + 1) (v + 1) = nI (r (v + 1)) := hAv
    rw [if_neg c1, iv, hAv, g1, gd_t, iR, hs, gd_t, nI_pred, g2, gd_t, iv2, nI_1]
    exact e1
theorem q_known_loop : ∀ (k v : Nat) (B : hM) (n : Nat), v + k = 160 → 20 ≤ v → k < n → ∃ B1 : hM, X5_known_l12 n (nI v) B = X5_known_b46 (hu B1 92 27 7) ∧ (∀ a, a ≠ 113 → B1 a = B a) ∧ (∀ j, ¬ (v ≤ j ∧ j < 160) → B1 113 j = B 113 j) ∧ ∀ j, v ≤ j → j < 160 → B1 113 j = B 113 (j + 20) := by
  intro k
  induction k with
  | zero =>
    intro v B n hv h1 hn
    obtain ⟨n, rfl⟩ : ∃ j, n = j + 1 := ⟨n - 1, by omega⟩
    obtain rfl : v = 160 := by omega
    have c1 : (160 : Int32) ≤ nI 160 := nI_le (a := 160) (by omega) (by omega)
    refine ⟨B, ?_, fun _ _ => rfl, fun _ _ => rfl, fun j h1 h2 => absurd h1 (by omega)⟩
    show X5_known_h12 _ (nI 160) B = _
    unfold X5_known_h12
    rw [if_pos c1]
  | succ k ih =>
    intro v B n hv h1 hn
    obtain ⟨n, rfl⟩ : ∃ j, n = j + 1 := ⟨n - 1, by omega⟩
    have c1 : ¬ (160 : Int32) ≤ nI v := nI_ge (b := 160) (by omega) (by decide)
    have e20 : nI v + 20 = nI (v + 20) := nI_add v 20
    have iv : (nI v).toNatClampNeg = v := nI_clamp (by omega)
    have iv2 : (nI (v + 20)).toNatClampNeg = v + 20 := nI_clamp (by omega)
    have x1 : hx (nI v) 240 = true := q_hx (by omega) (by decide)
    have x2 : hx (nI (v + 20)) 240 = true := q_hx (by omega) (by decide)
    obtain ⟨B1, e1, e2, e3, e4⟩ := ih (v + 1) (hu B 113 v (B 113 (v + 20))) n (by omega) (by omega) (by omega)
    refine ⟨B1, ?_, fun a ha => by rw [e2 a ha, q_hr _ _ _ ha], fun j hj => ?_, fun j h1 h2 => ?_⟩
    · show X5_known_h12 (X5_known_l12 n) (nI v) B = _
      unfold X5_known_h12
      rw [if_neg c1, e20, x2, gd_t, x1, gd_t, iv, iv2, nI_1]
      exact e1
    · rw [e3 j (by omega), q_hi _ _ (by omega)]
    · by_cases hjv : j = v
      · subst hjv
        rw [e3 j (by omega), q_hu]
      · rw [e4 j (by omega) h2, q_hi _ _ (by omega)]
/-- the oldest is forgotten -/
theorem q_drop {A B : hM} {N F L m : Nat} (hI : Iv A B N F L m) (hA : A 36 1 = nI 8) : ∃ A1 B1 : hM, X1_dropOldest 36 8 A = some (0, A1) ∧ X5_known_l12 hF 20 B = X5_known_b46 B1 ∧ Iv A1 B1 N F L m ∧ A1 36 1 = nI 7 ∧ Sp A A1 B B1 ∧ (∀ a, a < 36 → A1 a = A a) ∧ (∀ j, j < 20 → B1 113 j = B 113 j) := by
  obtain ⟨hE, hm, hS, hx0, hT, hNo, hU, hK⟩ := hI
  have hb := hE.1
  obtain ⟨U, u1, u2, u3, r, r1, r2, r3⟩ := hU
  have hUU : U = 8 := by
    rw [u2] at hA
    exact (nI_eq (by omega) (by omega)).mp hA
  subst hUU
  have hr : ∀ i, i < 8 → ∃ j, j < 8 ∧ r i = 38 + 5 * j := fun i hi => (r1 i hi).2
  obtain ⟨A1, a1, a2, a3⟩ := q_drop_loop (q1 := r 0) hr 7 1 A hF (by decide) (by decide) (show 7 < 1024 by decide) (fun i hi => by rw [(r1 i hi).1, if_neg (by omega)])
  obtain ⟨B1, b1, b2, b3, b4⟩ := q_known_loop 140 20 B hF (by decide) (by decide) (show 140 < 1024 by decide)
  have b1 : X5_known_l12 hF 20 B = X5_known_b46 (hu B1 92 27 7) := b1
  obtain ⟨j0, hj0, hr0⟩ := hr 0 (by decide)
  have iR : (nI (r 0)).toNatClampNeg = r 0 := nI_clamp (by omega)
  have hs : hst (r 0) = true := by rw [hr0]; exact q_hst.1 j0 hj0
  have g1 : (hx 0 8 && decide (¬ nI (r 0) < 0)) = true := by
    have z : ¬ nI (r 0) < 0 := nI_pos (by omega)
    rw [show hx 0 8 = true by decide, decide_eq_true z]
    rfl
  have g2 : (hx (nI 8 - 1) 8 && decide (r 0 < 2147483648)) = true := by
    have z : r 0 < 2147483648 := by omega
    rw [show hx (nI 8 - 1) 8 = true by decide, decide_eq_true z]
    rfl
  have e7 : nI 8 - 1 = nI 7 := nI_pred 7
  have i7 : (nI 7).toNatClampNeg = 7 := nI_clamp (by omega)
  have i0 : (0 : Int32).toNatClampNeg = 0 := by decide
  have hA0 : A (36 + 1) 0 = nI (r 0) := (r1 0 (by decide)).1
  have hA2 : ∀ a, a ≠ 36 → a ≠ 37 → hu (hu A1 37 7 (nI (r 0))) 36 1 (nI 7) a = A a := fun a h1 h2 => by rw [q_hr _ _ _ h1, q_hr _ _ _ h2, a2 a h2]
  have hB92 : ∀ i, i ≠ 27 → hu B1 92 27 7 92 i = B 92 i := fun i hi => by rw [q_hi _ _ hi, b2 92 (by decide)]
  have hBo : ∀ a, a ≠ 113 → a ≠ 92 → hu B1 92 27 7 a = B a := fun a h1 h2 => by rw [q_hr _ _ _ h2, b2 a h1]
  have hB113 : ∀ i, ¬ (20 ≤ i ∧ i < 160) → hu B1 92 27 7 113 i = B 113 i := fun i hi => by rw [q_ha _ _ _ _ (by decide), b3 i hi]
  refine ⟨hu (hu A1 37 7 (nI (r 0))) 36 1 (nI 7), hu B1 92 27 7, ?_, b1, ⟨?_, hm, ?_, ?_, ?_, ?_, ?_, ?_⟩, q_hu _ _ _ _, ⟨fun a ha => hA2 a (by omega) (by omega), fun a ha => hBo a (by omega) (by omega)⟩, fun a ha => hA2 a (by omega) (by omega), fun j hj => hB113 j (by omega)⟩
  · unfold X1_dropOldest
    rw [i0, hA0, g1, gd_t, iR]
    refine Eq.trans a1 ?_
    unfold X1_dropOldest_b38
    rw [hs, gd_t, g2, gd_t, e7, i7]
  · exact hE.keep (fun a _ _ => hA2 a (by omega) (by omega)) (hB92 0 (by decide)) (hB92 6 (by decide)) (hB92 10 (by decide)) (fun a _ _ => hBo a (by omega) (by omega))
  · exact hS.keep (by omega) (by omega) (fun a _ _ => hA2 a (by omega) (by omega)) (fun i _ _ => hB113 i (by omega))
  · rw [hB92 37 (by decide)]
    exact hx0
  · exact hT.keep (by rw [hA2 1 (by decide) (by omega)]) (hA2 2 (by decide) (by omega)) (hB92 29 (by decide)) (hBo 114 (by decide) (by decide))
  · exact hNo.keep (by rw [hA2 0 (by decide) (by omega)]) (hA2 90 (by decide) (by omega)) (hA2 91 (by decide) (by omega)) (hB92 34 (by decide)) (hBo 115 (by decide) (by decide)) (hBo 116 (by decide) (by decide))
  · obtain ⟨r', h7, hn⟩ : ∃ r' : Nat → Nat, r' 7 = r 0 ∧ ∀ i, i < 7 → r' i = r (i + 1) := ⟨fun i => if i = 7 then r 0 else r (i + 1), if_pos rfl, fun i hi => if_neg (by omega)⟩
    refine ⟨7, by omega, q_hu _ _ _ _, q_hu _ _ _ _, r', fun i hi => ?_, fun i j hi hj hij => ?_, fun i hi => ?_⟩
    · by_cases h : i = 7
      · subst h
        rw [h7]
        exact ⟨by rw [q_hr _ _ _ (by decide), q_hu], hr 0 (by decide)⟩
      · rw [hn i (by omega)]
        exact ⟨by rw [q_hr _ _ _ (by decide), q_hi _ _ h]; exact a3 i (by omega), hr (i + 1) (by omega)⟩
    · by_cases h1 : i = 7
      · by_cases h2 : j = 7
        · omega
        · rw [h1, h7, hn j (by omega)] at hij
          exact absurd (r2 0 (j + 1) (by omega) (by omega) hij) (by omega)
      · by_cases h2 : j = 7
        · rw [h2, h7, hn i (by omega)] at hij
          exact absurd (r2 (i + 1) 0 (by omega) (by omega) hij) (by omega)
        · rw [hn i (by omega), hn j (by omega)] at hij
          have := r2 (i + 1) (j + 1) (by omega) (by omega) hij
          omega
    · rw [hn i hi]
      obtain ⟨mm, hmm, hs2⟩ := r3 (i + 1) (by omega)
      obtain ⟨j', hj', hr'⟩ := hr (i + 1) (by omega)
      refine ⟨mm, hmm, hs2.to (by omega) (by omega) ?_ ?_ (fun g hg => ⟨?_, ?_, ?_⟩) (fun l hl => ?_) (fun q hq => ?_)⟩
      · rw [hA2 _ (by omega) (by omega)]
      · rw [hA2 _ (by omega) (by omega)]
      · rw [hA2 _ (by omega) (by omega)]
      · rw [hA2 _ (by omega) (by omega)]
      · rw [hA2 _ (by omega) (by omega)]
      · rw [hA2 _ (by omega) (by omega)]
      · rw [q_ha _ _ _ _ (by decide), b4 _ (by omega) (by omega), show 20 * (i + 1) + q + 20 = 20 * (i + 1 + 1) + q by omega]
  · exact hK.keep (by omega) (by omega) (fun a _ _ => hA2 a (by omega) (by omega)) (hB92 28 (by decide)) (fun q _ _ => hB113 q (by omega))
/-- how it stands is known from now on -/
theorem q_put {A B : hM} {N F L m : Nat} (hI : Iv A B N F L m) : ∃ A1 B1 : hM, X1_put 36 8 26 A = some (0, A1) ∧ X5_known B = some (0, B1) ∧ Iv A1 B1 N F L m ∧ Sp A A1 B B1 ∧ (∀ a, a < 36 → A1 a = A a) ∧ (∀ j, j < 20 → B1 113 j = B 113 j) := by
  obtain ⟨U, u1, u2, u3, -⟩ := hI.2.2.2.2.2.2.1
  by_cases hU : U = 8
  · subst hU
    have c1 : ¬ nI 8 < nI 8 := nI_nlt (by omega) (by omega)
    have c2 : nI 8 = 8 := rfl
    obtain ⟨A1, B1, d1, d2, d3, d4, d5, d6, d7⟩ := q_drop hI u2
    obtain ⟨A2, B2, e1, e2, e3, e4, e5, e6⟩ := q_push d3 (by decide) d4
    refine ⟨A2, B2, ?_, ?_, e3, d5.tr e4, fun a ha => (e5 a ha).trans (d6 a ha), fun j hj => (e6 j hj).trans (d7 j hj)⟩
    · unfold X1_put
      rw [u2, if_neg c1, d1, ob_s, e1]
    · unfold X5_known
      rw [u3, if_pos c2, d2, e2]
  · have c1 : nI U < nI 8 := nI_lt (by omega) (by omega)
    have c2 : ¬ nI U = 8 := fun z => hU ((nI_eq (b := 8) (by omega) (by decide)).mp z)
    obtain ⟨A2, B2, e1, e2, e3, e4, e5, e6⟩ := q_push hI (by omega) u2
    refine ⟨A2, B2, ?_, ?_, e3, e4, e5, e6⟩
    · unfold X1_put
      rw [u2, if_pos c1, e1]
    · unfold X5_known
      rw [u3, if_neg c2, e2]
