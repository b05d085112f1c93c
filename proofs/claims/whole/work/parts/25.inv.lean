def Tx (A B : hM) : Prop := ∃ T, T ≤ 200 ∧ A 1 1 = nI T ∧ B 92 29 = nI T ∧ ∀ i, i < T → ∃ c, 32 ≤ c ∧ c ≤ 126 ∧ A 2 i = nI c ∧ B 114 i = nI c
def No (A B : hM) : Prop := ∃ Q, Q ≤ 8 ∧ A 0 9 = nI Q ∧ B 92 34 = nI Q ∧ ∀ i, i < Q → A 90 i = B 115 i ∧ A 91 i = B 116 i
def Un (A B : hM) (N L : Nat) : Prop := ∃ U, U ≤ 8 ∧ A 36 1 = nI U ∧ B 92 27 = nI U ∧ ∃ r : Nat → Nat, (∀ i, i < 8 → A 37 i = nI (r i) ∧ ∃ j, j < 8 ∧ r i = 38 + 5 * j) ∧ (∀ i j, i < 8 → j < 8 → r i = r j → i = j) ∧ ∀ i, i < U → ∃ m, m ≤ 999 ∧ Sd A B (r i) (20 * (i + 1)) N L m N
def Ke (A B : hM) (N L : Nat) : Prop := ∃ V, V ≤ 2 ∧ A 78 1 = nI V ∧ B 92 28 = nI V ∧ (∀ i, i < 2 → A 79 i = nI (80 + 5 * i)) ∧ ∀ i, i < V → ∃ m, m ≤ 999 ∧ Sd A B (80 + 5 * i) (20 * (9 + i)) N L m N
/-- what the two programs' cells have to do with one another -/
def Inv (A B : hM) : Prop := ∃ N F L m, Ev A B N F L ∧ m ≤ 999 ∧ Sd A B 26 0 N L m N ∧ B 92 37 = -4 ∧ Tx A B ∧ No A B ∧ Un A B N L ∧ Ke A B N L
theorem Tx.keep {A B A' B' : hM} (h : Tx A B) (h1 : A' 1 1 = A 1 1) (h2 : A' 2 = A 2) (h3 : B' 92 29 = B 92 29) (h4 : B' 114 = B 114) : Tx A' B' := by
  unfold Tx
  rw [h1, h2, h3, h4]
  exact h
theorem No.keep {A B A' B' : hM} (h : No A B) (h1 : A' 0 9 = A 0 9) (h2 : A' 90 = A 90) (h5 : A' 91 = A 91) (h3 : B' 92 34 = B 92 34) (h4 : B' 115 = B 115) (h6 : B' 116 = B 116) : No A' B' := by
  unfold No
  rw [h1, h2, h3, h4, h5, h6]
  exact h
theorem Un.keep {A B A' B' : hM} {N L : Nat} (h : Un A B N L) (hN : N ≤ 7) (hL : L ≤ 4) (hA : ∀ a, 36 ≤ a → a ≤ 77 → A' a = A a) (hB : B' 92 27 = B 92 27) (hB2 : ∀ j, 20 ≤ j → j < 180 → B' 113 j = B 113 j) : Un A' B' N L := by
  obtain ⟨U, u1, u2, u3, r, r1, r2, r3⟩ := h
  refine ⟨U, u1, by rw [hA 36 (by decide) (by decide)]; exact u2, by rw [hB]; exact u3, r, ?_, r2, fun i hi => ?_⟩
  · rw [hA 37 (by decide) (by decide)]
    exact r1
  · obtain ⟨m, hm, hs⟩ := r3 i hi
    obtain ⟨-, j, hj, e⟩ := r1 i (by omega)
    exact ⟨m, hm, hs.keep hN hL (fun a _ _ => hA a (by omega) (by omega)) (fun a _ _ => hB2 a (by omega) (by omega))⟩
theorem Ke.keep {A B A' B' : hM} {N L : Nat} (h : Ke A B N L) (hN : N ≤ 7) (hL : L ≤ 4) (hA : ∀ a, 78 ≤ a → a ≤ 89 → A' a = A a) (hB : B' 92 28 = B 92 28) (hB2 : ∀ j, 180 ≤ j → j < 220 → B' 113 j = B 113 j) : Ke A' B' N L := by
  obtain ⟨V, u1, u2, u3, u4, u5⟩ := h
  refine ⟨V, u1, by rw [hA 78 (by decide) (by decide)]; exact u2, by rw [hB]; exact u3, by rw [hA 79 (by decide) (by decide)]; exact u4, fun i hi => ?_⟩
  obtain ⟨m, hm, hs⟩ := u5 i hi
  exact ⟨m, hm, hs.keep hN hL (fun a _ _ => hA a (by omega) (by omega)) (fun a _ _ => hB2 a (by omega) (by omega))⟩
theorem Inv.fr {A B A' B' : hM} (h : Inv A B) (hF : Fr A A' B B' 31 220) : Inv A' B' := by
  obtain ⟨N, F, L, m, hE, hm, hS, hx, hT, hNo, hU, hK⟩ := h
  have hb := hE.1
  have hA : ∀ a, a ≤ 30 → A' a = A a := fun a ha => hF.1 a (by omega)
  have hA2 : ∀ a, 36 ≤ a → A' a = A a := fun a ha => hF.1 a (by omega)
  have hB : ∀ a, 114 ≤ a → B' a = B a := fun a ha => hF.2.1 a (by omega) (by omega)
  have h92 := hF.2.2.1
  have h113 : ∀ j, j < 220 → B' 113 j = B 113 j := fun j hj => hF.2.2.2 j (by omega)
  refine ⟨N, F, L, m, hE.fr (Or.inr rfl) hF, hm, hS.keep (by omega) (by omega) (fun a _ h2 => hA a h2) (fun j _ h2 => h113 j (by omega)), by rw [h92 37 (by decide)]; exact hx, hT.keep (by rw [hA 1 (by decide)]) (hA 2 (by decide)) (h92 29 (by decide)) (hB 114 (by decide)), hNo.keep (by rw [hA 0 (by decide)]) (hA2 90 (by decide)) (hA2 91 (by decide)) (h92 34 (by decide)) (hB 115 (by decide)) (hB 116 (by decide)), hU.keep (by omega) (by omega) (fun a h1 _ => hA2 a h1) (h92 27 (by decide)) (fun j _ h2 => h113 j (by omega)), hK.keep (by omega) (by omega) (fun a h1 _ => hA2 a (by omega)) (h92 28 (by decide)) (fun j _ h2 => h113 j (by omega))⟩
theorem Inv.cong {A B A' B' : hM} (h : Inv A B) (hA : ∀ a, a < 92 → A' a = A a) (hB : ∀ a, 92 ≤ a → B' a = B a) : Inv A' B' := by
  obtain ⟨N, F, L, m, hE, hm, hS, hx, hT, hNo, hU, hK⟩ := h
  have hb := hE.1
  have e92 := hB 92 (by decide)
  have e113 := hB 113 (by decide)
  refine ⟨N, F, L, m, hE.keep (fun a _ _ => hA a (by omega)) (by rw [e92]) (by rw [e92]) (by rw [e92]) (fun a _ _ => hB a (by omega)), hm, hS.keep (by omega) (by omega) (fun a _ h2 => hA a (by omega)) (fun j _ h2 => by rw [e113]), by rw [e92]; exact hx, hT.keep (by rw [hA 1 (by decide)]) (hA 2 (by decide)) (by rw [e92]) (hB 114 (by decide)), hNo.keep (by rw [hA 0 (by decide)]) (hA 90 (by decide)) (hA 91 (by decide)) (by rw [e92]) (hB 115 (by decide)) (hB 116 (by decide)), hU.keep (by omega) (by omega) (fun a h1 _ => hA a (by omega)) (by rw [e92]) (fun j _ h2 => by rw [e113]), hK.keep (by omega) (by omega) (fun a h1 _ => hA a (by omega)) (by rw [e92]) (fun j _ h2 => by rw [e113])⟩
/-- a call of both: one answer, and the relation stays -/
def Op (f g : hM → Option (Int32 × hM)) : Prop := ∀ A B, Inv A B → ∃ r A' B', f A = some (r, A') ∧ g B = some (r, B') ∧ Inv A' B' ∧ (∀ a, 92 ≤ a → A' a = A a) ∧ (∀ a, a < 92 → B' a = B a)
theorem Op.run {f g : hM → Option (Int32 × hM)} (h : Op f g) {I : hM} (hI : Inv I I) : ∃ r I1 I2, f I = some (r, I1) ∧ g I1 = some (r, I2) ∧ Inv I2 I2 := by
  obtain ⟨r, I1, B1, h1, h2, h3, h4, h5⟩ := h I I hI
  obtain ⟨r', I1', I2, g1, g2, g3, g4, g5⟩ := h I I1 (hI.cong (fun _ _ => rfl) h4)
  rw [h1] at g1
  cases g1
  exact ⟨r, I1, I2, h1, g2, g3.cong (fun a ha => g5 a ha) (fun _ _ => rfl)⟩
/-- nothing changes -/
theorem Op.rd {f g : hM → Option (Int32 × hM)} (h : ∀ A B, Inv A B → ∃ r, f A = some (r, A) ∧ g B = some (r, B)) : Op f g := fun A B hI => by
  obtain ⟨r, h1, h2⟩ := h A B hI
  exact ⟨r, A, B, h1, h2, hI, fun _ _ => rfl, fun _ _ => rfl⟩
/-- the trial alone changes -/
theorem Op.tr {f g : hM → Option (Int32 × hM)} (h : ∀ A B, Inv A B → ∃ r A' B', f A = some (r, A') ∧ g B = some (r, B') ∧ Fr A A' B B' 31 220) : Op f g := fun A B hI => by
  obtain ⟨r, A', B', h1, h2, h3⟩ := h A B hI
  exact ⟨r, A', B', h1, h2, hI.fr h3, fun a ha => h3.1 a (by omega), fun a ha => h3.2.1 a (by omega) (by omega)⟩
theorem q_nat {x : Int32} {lo hi : Nat} (h1 : nI lo ≤ x) (h2 : x ≤ nI hi) (hl : lo < 2 ^ 31) (hh : hi < 2 ^ 31) : ∃ c, lo ≤ c ∧ c ≤ hi ∧ x = nI c := by
  rw [q_le, nI_toInt hl] at h1
  rw [q_le, nI_toInt hh] at h2
  refine ⟨x.toInt.toNat, by omega, by omega, ?_⟩
  rw [q_eq, nI_toInt (by omega)]
  omega
theorem q_gout {A B : hM} {N : Nat} (hN : 1 ≤ N ∧ N ≤ 7) (h1 : A 4 0 = nI N) (h2 : B 92 0 = nI N) {v : Int32} (h : v < 0 ∨ nI N ≤ v) : X4_isGoing v A = some (0, A) ∧ X5_isGoing v B = some (0, B) := by
  refine ⟨?_, ?_⟩
  · unfold X4_isGoing
    by_cases h0 : v < 0
    · rw [if_pos h0, q_g0]
    · rw [if_neg h0, h1, if_pos (h.resolve_left h0), q_g0]
  · have e : nI N - 1 = nI (N - 1) := pk_sub (b := 1) hN.1
    unfold X5_isGoing
    rw [h2, e, q_in0 (lo := 0) (hi := nI (N - 1)) (by decide) rfl, ob_s, q_g0]
    rintro ⟨z1, z2⟩
    rw [q_le] at z1 z2
    rw [nI_toInt (by omega)] at z2
    rw [q_lt, q_le, nI_toInt (by omega)] at h
    omega
theorem q_gin {A B : hM} {N g : Nat} (hN : 1 ≤ N ∧ N ≤ 7) (h1 : A 4 0 = nI N) (h2 : B 92 0 = nI N) (h : g < N) : X4_isGoing (nI g) A = some (1, A) ∧ X5_isGoing (nI g) B = some (1, B) := by
  refine ⟨?_, ?_⟩
  · unfold X4_isGoing
    rw [if_neg (nI_pos (by omega)), h1, if_neg (nI_ge h (by omega)), q_g1]
  · have e : nI N - 1 = nI (N - 1) := pk_sub (b := 1) hN.1
    unfold X5_isGoing
    rw [h2, e, q_in1 (lo := 0) (hi := nI (N - 1)) (by decide) rfl, ob_s, q_g1]
    exact ⟨nI_pos' (by omega), nI_le (by omega) (by omega)⟩
theorem q_lout {A B : hM} {L : Nat} (hL : L ≤ 4) (h1 : A 4 2 = nI L) (h2 : B 92 10 = nI L) {v : Int32} (h : v < 0 ∨ nI L ≤ v) : X4_isLady v A = some (0, A) ∧ X5_isLady v B = some (0, B) := by
  refine ⟨?_, ?_⟩
  · unfold X4_isLady
    by_cases h0 : v < 0
    · rw [if_pos h0, q_g0]
    · rw [if_neg h0, h1, if_pos (h.resolve_left h0), q_g0]
  · unfold X5_isLady
    rw [h2, q_in0 (lo := 0) (hi := nI L - 1) (by decide) rfl, ob_s, q_g0]
    rintro ⟨z1, z2⟩
    rw [q_le] at z1 z2
    have e1 := pk_sub_toInt (a := L) (b := 1) (by omega) (by decide)
    have e2 : (nI L - 1).toInt = (L : Int) - 1 := e1
    rw [e2] at z2
    rw [q_lt, q_le, nI_toInt (by omega)] at h
    have e3 : (0 : Int32).toInt = 0 := by decide
    omega
theorem q_lin {A B : hM} {L l : Nat} (hL : L ≤ 4) (h1 : A 4 2 = nI L) (h2 : B 92 10 = nI L) (h : l < L) : X4_isLady (nI l) A = some (1, A) ∧ X5_isLady (nI l) B = some (1, B) := by
  refine ⟨?_, ?_⟩
  · unfold X4_isLady
    rw [if_neg (nI_pos (by omega)), h1, if_neg (nI_ge h (by omega)), q_g1]
  · have e : nI L - 1 = nI (L - 1) := pk_sub (b := 1) (by omega)
    unfold X5_isLady
    rw [h2, e, q_in1 (lo := 0) (hi := nI (L - 1)) (by decide) rfl, ob_s, q_g1]
    exact ⟨nI_pos' (by omega), nI_le (by omega) (by omega)⟩
theorem q_either (v : Int32) (A B : hM) : (X4_isEither v A = some (0, A) ∧ X5_in v.toInt64 0 1 B = some (0, B) ∧ ¬ v = 0 ∧ ¬ v = 1) ∨ (X4_isEither v A = some (1, A) ∧ X5_in v.toInt64 0 1 B = some (1, B) ∧ (v = 0 ∨ v = 1)) := by
  by_cases h0 : v = 0
  · refine Or.inr ⟨?_, ?_, Or.inl h0⟩
    · unfold X4_isEither
      rw [if_pos h0, q_g1]
    · rw [h0]
      exact q_in1 (lo := 0) (hi := 1) (by decide) (by decide) ⟨by decide, by decide⟩ B
  · by_cases h1 : v = 1
    · refine Or.inr ⟨?_, ?_, Or.inr h1⟩
      · unfold X4_isEither
        rw [if_neg h0, if_pos h1, q_g1]
      · rw [h1]
        exact q_in1 (lo := 0) (hi := 1) (by decide) (by decide) ⟨by decide, by decide⟩ B
    · refine Or.inl ⟨?_, ?_, h0, h1⟩
      · unfold X4_isEither
        rw [if_neg h0, if_neg h1, q_g0]
      · refine q_in0 (lo := 0) (hi := 1) (by decide) (by decide) ?_ B
        rintro ⟨z1, z2⟩
        obtain ⟨c, c1, c2, rfl⟩ := q_nat (lo := 0) (hi := 1) z1 z2 (by decide) (by decide)
        rcases (show c = 0 ∨ c = 1 by omega) with rfl | rfl
        · exact h0 rfl
        · exact h1 rfl
