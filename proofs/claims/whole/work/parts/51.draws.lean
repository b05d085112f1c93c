/-! what the reading of a text changes, and what was read -/
def Fb (B B' : hM) : Prop := (∀ a, a ≠ 92 → ¬ (103 ≤ a ∧ a ≤ 112) → B' a = B a) ∧ ∀ i, i ≠ 13 → i ≠ 19 → i ≠ 23 → i ≠ 31 → i ≠ 32 → i ≠ 33 → B' 92 i = B 92 i
def Fc (d : Nat) (A A' : hM) : Prop := (∀ a, a ≠ 1 → a ≠ 3 → ¬ (d ≤ a ∧ a ≤ d + 10) → A' a = A a) ∧ ∀ i, i ≠ 3 → A' 1 i = A 1 i
theorem Fb.rf {B : hM} : Fb B B := ⟨fun _ _ _ => rfl, fun _ _ _ _ _ _ _ => rfl⟩
theorem Fb.tr {B B' B'' : hM} (h : Fb B B') (h' : Fb B' B'') : Fb B B'' := ⟨fun a h1 h2 => (h'.1 a h1 h2).trans (h.1 a h1 h2), fun i h1 h2 h3 h4 h5 h6 => (h'.2 i h1 h2 h3 h4 h5 h6).trans (h.2 i h1 h2 h3 h4 h5 h6)⟩
theorem Fm.fb {B B' : hM} (h : Fm B B') : Fb B B' := ⟨fun a h1 _ => h.1 a h1, fun i _ _ _ h4 _ h6 => h.2 i h4 h6⟩
theorem Fb.tm {B B' : hM} {T : Nat} {c : Nat → Nat} (hF : Fb B B') (h : Tm B T c) : Tm B' T c := ⟨h.1, by rw [hF.2 29 (by decide) (by decide) (by decide) (by decide) (by decide) (by decide)]; exact h.2.1, fun i hi => by rw [hF.1 114 (by decide) (by decide)]; exact h.2.2 i hi⟩
theorem Fc.rf {d : Nat} {A : hM} : Fc d A A := ⟨fun _ _ _ _ => rfl, fun _ _ => rfl⟩
theorem Fc.tr {d : Nat} {A A' A'' : hM} (h : Fc d A A') (h' : Fc d A' A'') : Fc d A A'' := ⟨fun a h1 h2 h3 => (h'.1 a h1 h2 h3).trans (h.1 a h1 h2 h3), fun i h1 => (h'.2 i h1).trans (h.2 i h1)⟩
theorem Fn.fc {A A' : hM} (h : Fn A A') (d : Nat) : Fc d A A' := ⟨fun a h1 h2 _ => h.1 a h1 h2, h.2⟩
theorem Fc.tt {d : Nat} {A A' : hM} {T : Nat} {c : Nat → Nat} (hF : Fc d A A') (hd : d = 4 ∨ d = 15) (h : Tt A T c) : Tt A' T c := ⟨h.1, by rw [hF.2 1 (by decide)]; exact h.2.1, fun i hi => by rw [hF.1 2 (by decide) (by decide) (by omega)]; exact h.2.2 i hi⟩
theorem Dw.keep {A B A' B' : hM} {d N F L : Nat} (h : Dw A B d N F L) (hA : ∀ a, d ≤ a → a ≤ d + 10 → A' a = A a) (h0 : B' 92 13 = B 92 13) (h1 : B' 92 19 = B 92 19) (h2 : B' 92 23 = B 92 23) (hB : ∀ a, 103 ≤ a → a ≤ 112 → B' a = B a) : Dw A' B' d N F L := by
  unfold Dw
  rw [hA d (by omega) (by omega), hA (d + 1) (by omega) (by omega), hA (d + 2) (by omega) (by omega), hA (d + 3) (by omega) (by omega), hA (d + 4) (by omega) (by omega), hA (d + 5) (by omega) (by omega), hA (d + 6) (by omega) (by omega), hA (d + 7) (by omega) (by omega), hA (d + 8) (by omega) (by omega), hA (d + 9) (by omega) (by omega), hA (d + 10) (by omega) (by omega), h0, h1, h2, hB 103 (by decide) (by decide), hB 104 (by decide) (by decide), hB 105 (by decide) (by decide), hB 106 (by decide) (by decide), hB 107 (by decide) (by decide), hB 108 (by decide) (by decide), hB 109 (by decide) (by decide), hB 110 (by decide) (by decide), hB 111 (by decide) (by decide), hB 112 (by decide) (by decide)]
  exact h
theorem hu_cong {I I' : hM} {a : Nat} (h : I' a = I a) (k j : Nat) (v : Int32) : hu I' k j v a = hu I k j v a := by
  funext i
  unfold hu
  rw [h]
theorem addG_o {A : hM} {d n : Nat} {x : Nat → Nat} {a : Nat} (ha : ¬ (d + 1 ≤ a ∧ a ≤ d + 5)) (h0 : a ≠ d) : addG A d n x a = A a := by
  unfold addG
  rw [q_hr _ _ _ h0, q_hr _ _ _ (by omega), q_hr _ _ _ (by omega), q_hr _ _ _ (by omega), q_hr _ _ _ (by omega), q_hr _ _ _ (by omega)]
theorem addG_d {A : hM} {d n : Nat} {x : Nat → Nat} {i : Nat} (hi : i ≠ 0) : addG A d n x d i = A d i := by
  unfold addG
  rw [q_hi _ _ hi, q_ha _ _ _ _ (by omega), q_ha _ _ _ _ (by omega), q_ha _ _ _ _ (by omega), q_ha _ _ _ _ (by omega), q_ha _ _ _ _ (by omega)]
theorem addG_c {A : hM} {d n : Nat} {x : Nat → Nat} : addG A d n x d 0 = nI (n + 1) := by
  unfold addG
  exact q_hu _ _ _ _
theorem addG_g {A : hM} {d n : Nat} {x : Nat → Nat} {a g : Nat} (hg : g ≠ n) (ha : a ≠ d) : addG A d n x a g = A a g := by
  have one : ∀ (I : hM) b w, hu I b n w a g = I a g := fun I b w => by
    by_cases z : a = b
    · subst z
      exact q_hi _ _ hg
    · exact q_ha _ _ _ _ z
  unfold addG
  rw [q_ha _ _ _ _ ha, one, one, one, one, one]
theorem addG_n {A : hM} {d n : Nat} {x : Nat → Nat} : addG A d n x (d + 1) n = nI (x 0) ∧ addG A d n x (d + 2) n = nI (x 1) ∧ addG A d n x (d + 3) n = nI (x 2) ∧ addG A d n x (d + 4) n = nI (x 3) ∧ addG A d n x (d + 5) n = nI (x 4) := by
  unfold addG
  refine ⟨?_, ?_, ?_, ?_, ?_⟩
  · rw [q_ha _ _ _ _ (by omega), q_ha _ _ _ _ (by omega), q_ha _ _ _ _ (by omega), q_ha _ _ _ _ (by omega), q_ha _ _ _ _ (by omega), q_hu]
  · rw [q_ha _ _ _ _ (by omega), q_ha _ _ _ _ (by omega), q_ha _ _ _ _ (by omega), q_ha _ _ _ _ (by omega), q_hu]
  · rw [q_ha _ _ _ _ (by omega), q_ha _ _ _ _ (by omega), q_ha _ _ _ _ (by omega), q_hu]
  · rw [q_ha _ _ _ _ (by omega), q_ha _ _ _ _ (by omega), q_hu]
  · rw [q_ha _ _ _ _ (by omega), q_hu]
theorem newG_o {B : hM} {n : Nat} {x : Nat → Nat} {a : Nat} (ha : ¬ (103 ≤ a ∧ a ≤ 107)) (h0 : a ≠ 92) : newG B n x a = B a := by
  unfold newG
  rw [q_hr _ _ _ h0, q_hr _ _ _ (by omega), q_hr _ _ _ (by omega), q_hr _ _ _ (by omega), q_hr _ _ _ (by omega), q_hr _ _ _ (by omega)]
theorem newG_d {B : hM} {n : Nat} {x : Nat → Nat} {i : Nat} (hi : i ≠ 13) : newG B n x 92 i = B 92 i := by
  unfold newG
  rw [q_hi _ _ hi, q_ha _ _ _ _ (by omega), q_ha _ _ _ _ (by omega), q_ha _ _ _ _ (by omega), q_ha _ _ _ _ (by omega), q_ha _ _ _ _ (by omega)]
theorem newG_c {B : hM} {n : Nat} {x : Nat → Nat} : newG B n x 92 13 = nI (n + 1) := by
  unfold newG
  exact q_hu _ _ _ _
theorem newG_g {B : hM} {n : Nat} {x : Nat → Nat} {a g : Nat} (hg : g ≠ n) (ha : a ≠ 92) : newG B n x a g = B a g := by
  have one : ∀ (I : hM) b w, hu I b n w a g = I a g := fun I b w => by
    by_cases z : a = b
    · subst z
      exact q_hi _ _ hg
    · exact q_ha _ _ _ _ z
  unfold newG
  rw [q_ha _ _ _ _ ha, one, one, one, one, one]
theorem newG_n {B : hM} {n : Nat} {x : Nat → Nat} : newG B n x 103 n = nI (x 0) ∧ newG B n x 104 n = nI (x 1) ∧ newG B n x 105 n = nI (x 2) ∧ newG B n x 106 n = nI (x 3) ∧ newG B n x 107 n = nI (x 4) := by
  unfold newG
  refine ⟨?_, ?_, ?_, ?_, ?_⟩
  · rw [q_ha _ _ _ _ (by omega), q_ha _ _ _ _ (by omega), q_ha _ _ _ _ (by omega), q_ha _ _ _ _ (by omega), q_ha _ _ _ _ (by omega), q_hu]
  · rw [q_ha _ _ _ _ (by omega), q_ha _ _ _ _ (by omega), q_ha _ _ _ _ (by omega), q_ha _ _ _ _ (by omega), q_hu]
  · rw [q_ha _ _ _ _ (by omega), q_ha _ _ _ _ (by omega), q_ha _ _ _ _ (by omega), q_hu]
  · rw [q_ha _ _ _ _ (by omega), q_ha _ _ _ _ (by omega), q_hu]
  · rw [q_ha _ _ _ _ (by omega), q_hu]
theorem newG_f {B : hM} {n : Nat} {x : Nat → Nat} : Fb B (newG B n x) := ⟨fun a h1 h2 => newG_o (by omega) h1, fun i h1 h2 h3 _ _ _ => newG_d (by omega)⟩
theorem addG_f {A : hM} {d n : Nat} {x : Nat → Nat} (hd : d = 4 ∨ d = 15) : Fc d A (addG A d n x) := ⟨fun a h1 h2 h3 => addG_o (by omega) (by omega), fun i _ => by rw [addG_o (by omega) (by omega)]⟩
theorem newG_k {B B2 : hM} {n : Nat} {x : Nat → Nat} (h : ∀ a, 103 ≤ a → a ≤ 112 → B2 a = B a) : ∀ a, 103 ≤ a → a ≤ 112 → newG B2 n x a = newG B n x a := fun a h1 h2 => by
  unfold newG
  exact hu_cong (hu_cong (hu_cong (hu_cong (hu_cong (hu_cong (h a h1 h2) _ _ _) _ _ _) _ _ _) _ _ _) _ _ _) _ _ _
theorem Dw.putG {A B : hM} {d N F L : Nat} {x : Nat → Nat} (h : Dw A B d N F L) (hx : okG N x) : Dw (addG A d N x) (newG B N x) d (N + 1) F L := by
  obtain ⟨⟨hN, hF6, hL⟩, ⟨n1, n2⟩, ⟨f1, f2⟩, ⟨l1, l2⟩, hG, hFo, hLa⟩ := h
  obtain ⟨o0, o1, o2, o3, o4, o5, o6⟩ := hx
  refine ⟨⟨by omega, by omega, by omega⟩, ⟨addG_c, newG_c⟩, ⟨(addG_d (by decide)).trans f1, (newG_d (by decide)).trans f2⟩, ⟨(addG_d (by decide)).trans l1, (newG_d (by decide)).trans l2⟩, fun g hg => ?_, fun j hj => ?_, fun l hl => ?_⟩
  · by_cases q : g = N
    · obtain ⟨p0, p1, p2, p3, p4⟩ := addG_n (A := A) (d := d) (n := N) (x := x)
      obtain ⟨r0, r1, r2, r3, r4⟩ := newG_n (B := B) (n := N) (x := x)
      rw [q]
      exact ⟨x 0, x 1, x 2, x 3, x 4, o1, o2, o3, o4, ⟨o5, o6⟩, ⟨p0, r0⟩, ⟨p1, r1⟩, ⟨p2, r2⟩, ⟨p3, r3⟩, ⟨p4, r4⟩⟩
    · obtain ⟨k', b', i', w', m', h1, h2, h3, h4, h5, ⟨p0, r0⟩, ⟨p1, r1⟩, ⟨p2, r2⟩, ⟨p3, r3⟩, ⟨p4, r4⟩⟩ := hG g (by omega)
      exact ⟨k', b', i', w', m', h1, h2, h3, h4, h5, ⟨(addG_g q (by omega)).trans p0, (newG_g q (by decide)).trans r0⟩, ⟨(addG_g q (by omega)).trans p1, (newG_g q (by decide)).trans r1⟩, ⟨(addG_g q (by omega)).trans p2, (newG_g q (by decide)).trans r2⟩, ⟨(addG_g q (by omega)).trans p3, (newG_g q (by decide)).trans r3⟩, ⟨(addG_g q (by omega)).trans p4, (newG_g q (by decide)).trans r4⟩⟩
  · obtain ⟨a', b', e', h1, h2, h3, ⟨p0, r0⟩, ⟨p1, r1⟩, ⟨p2, r2⟩⟩ := hFo j hj
    rw [addG_o (A := A) (a := d + 6) (by omega) (by omega), addG_o (A := A) (a := d + 7) (by omega) (by omega), addG_o (A := A) (a := d + 8) (by omega) (by omega), newG_o (B := B) (a := 108) (by decide) (by decide), newG_o (B := B) (a := 109) (by decide) (by decide), newG_o (B := B) (a := 110) (by decide) (by decide)]
    exact ⟨a', b', e', by omega, by omega, h3, ⟨p0, r0⟩, ⟨p1, r1⟩, ⟨p2, r2⟩⟩
  · obtain ⟨p', r', h1, h2, ⟨p0, r0⟩, ⟨p1, r1⟩⟩ := hLa l hl
    rw [addG_o (A := A) (a := d + 9) (by omega) (by omega), addG_o (A := A) (a := d + 10) (by omega) (by omega), newG_o (B := B) (a := 111) (by decide) (by decide), newG_o (B := B) (a := 112) (by decide) (by decide)]
    exact ⟨p', r', h1, h2, ⟨p0, r0⟩, ⟨p1, r1⟩⟩
theorem addF_o {A : hM} {d n : Nat} {x : Nat → Nat} {a : Nat} (ha : ¬ (d + 6 ≤ a ∧ a ≤ d + 8)) (h0 : a ≠ d) : addF A d n x a = A a := by
  unfold addF
  rw [q_hr _ _ _ h0, q_hr _ _ _ (by omega), q_hr _ _ _ (by omega), q_hr _ _ _ (by omega)]
theorem addF_d {A : hM} {d n : Nat} {x : Nat → Nat} {i : Nat} (hi : i ≠ 1) : addF A d n x d i = A d i := by
  unfold addF
  rw [q_hi _ _ hi, q_ha _ _ _ _ (by omega), q_ha _ _ _ _ (by omega), q_ha _ _ _ _ (by omega)]
theorem addF_c {A : hM} {d n : Nat} {x : Nat → Nat} : addF A d n x d 1 = nI (n + 1) := by
  unfold addF
  exact q_hu _ _ _ _
theorem addF_g {A : hM} {d n : Nat} {x : Nat → Nat} {a g : Nat} (hg : g ≠ n) (ha : a ≠ d) : addF A d n x a g = A a g := by
  have one : ∀ (I : hM) b w, hu I b n w a g = I a g := fun I b w => by
    by_cases z : a = b
    · subst z
      exact q_hi _ _ hg
    · exact q_ha _ _ _ _ z
  unfold addF
  rw [q_ha _ _ _ _ ha, one, one, one]
theorem addF_n {A : hM} {d n : Nat} {x : Nat → Nat} : addF A d n x (d + 6) n = nI (x 0) ∧ addF A d n x (d + 7) n = nI (x 1) ∧ addF A d n x (d + 8) n = nI (x 2) := by
  unfold addF
  refine ⟨?_, ?_, ?_⟩
  · rw [q_ha _ _ _ _ (by omega), q_ha _ _ _ _ (by omega), q_ha _ _ _ _ (by omega), q_hu]
  · rw [q_ha _ _ _ _ (by omega), q_ha _ _ _ _ (by omega), q_hu]
  · rw [q_ha _ _ _ _ (by omega), q_hu]
theorem newF_o {B : hM} {n : Nat} {x : Nat → Nat} {a : Nat} (ha : ¬ (108 ≤ a ∧ a ≤ 110)) (h0 : a ≠ 92) : newF B n x a = B a := by
  unfold newF
  rw [q_hr _ _ _ h0, q_hr _ _ _ (by omega), q_hr _ _ _ (by omega), q_hr _ _ _ (by omega)]
theorem newF_d {B : hM} {n : Nat} {x : Nat → Nat} {i : Nat} (hi : i ≠ 19) : newF B n x 92 i = B 92 i := by
  unfold newF
  rw [q_hi _ _ hi, q_ha _ _ _ _ (by omega), q_ha _ _ _ _ (by omega), q_ha _ _ _ _ (by omega)]
theorem newF_c {B : hM} {n : Nat} {x : Nat → Nat} : newF B n x 92 19 = nI (n + 1) := by
  unfold newF
  exact q_hu _ _ _ _
theorem newF_g {B : hM} {n : Nat} {x : Nat → Nat} {a g : Nat} (hg : g ≠ n) (ha : a ≠ 92) : newF B n x a g = B a g := by
  have one : ∀ (I : hM) b w, hu I b n w a g = I a g := fun I b w => by
    by_cases z : a = b
    · subst z
      exact q_hi _ _ hg
    · exact q_ha _ _ _ _ z
  unfold newF
  rw [q_ha _ _ _ _ ha, one, one, one]
theorem newF_n {B : hM} {n : Nat} {x : Nat → Nat} : newF B n x 108 n = nI (x 0) ∧ newF B n x 109 n = nI (x 1) ∧ newF B n x 110 n = nI (x 2) := by
  unfold newF
  refine ⟨?_, ?_, ?_⟩
  · rw [q_ha _ _ _ _ (by omega), q_ha _ _ _ _ (by omega), q_ha _ _ _ _ (by omega), q_hu]
  · rw [q_ha _ _ _ _ (by omega), q_ha _ _ _ _ (by omega), q_hu]
  · rw [q_ha _ _ _ _ (by omega), q_hu]
theorem newF_f {B : hM} {n : Nat} {x : Nat → Nat} : Fb B (newF B n x) := ⟨fun a h1 h2 => newF_o (by omega) h1, fun i h1 h2 h3 _ _ _ => newF_d (by omega)⟩
theorem addF_f {A : hM} {d n : Nat} {x : Nat → Nat} (hd : d = 4 ∨ d = 15) : Fc d A (addF A d n x) := ⟨fun a h1 h2 h3 => addF_o (by omega) (by omega), fun i _ => by rw [addF_o (by omega) (by omega)]⟩
theorem newF_k {B B2 : hM} {n : Nat} {x : Nat → Nat} (h : ∀ a, 103 ≤ a → a ≤ 112 → B2 a = B a) : ∀ a, 103 ≤ a → a ≤ 112 → newF B2 n x a = newF B n x a := fun a h1 h2 => by
  unfold newF
  exact hu_cong (hu_cong (hu_cong (hu_cong (h a h1 h2) _ _ _) _ _ _) _ _ _) _ _ _
theorem Dw.putF {A B : hM} {d N F L : Nat} {x : Nat → Nat} (h : Dw A B d N F L) (hx : okF N F x) : Dw (addF A d F x) (newF B F x) d N (F + 1) L := by
  obtain ⟨⟨hN, hF6, hL⟩, ⟨n1, n2⟩, ⟨f1, f2⟩, ⟨l1, l2⟩, hG, hFo, hLa⟩ := h
  obtain ⟨o0, o1, o2, o3, o4⟩ := hx
  refine ⟨⟨by omega, by omega, by omega⟩, ⟨(addF_d (by decide)).trans n1, (newF_d (by decide)).trans n2⟩, ⟨addF_c, newF_c⟩, ⟨(addF_d (by decide)).trans l1, (newF_d (by decide)).trans l2⟩, fun g hg => ?_, fun j hj => ?_, fun l hl => ?_⟩
  · obtain ⟨k', b', i', w', m', h1, h2, h3, h4, h5, ⟨p0, r0⟩, ⟨p1, r1⟩, ⟨p2, r2⟩, ⟨p3, r3⟩, ⟨p4, r4⟩⟩ := hG g hg
    rw [addF_o (A := A) (a := d + 1) (by omega) (by omega), addF_o (A := A) (a := d + 2) (by omega) (by omega), addF_o (A := A) (a := d + 3) (by omega) (by omega), addF_o (A := A) (a := d + 4) (by omega) (by omega), addF_o (A := A) (a := d + 5) (by omega) (by omega), newF_o (B := B) (a := 103) (by decide) (by decide), newF_o (B := B) (a := 104) (by decide) (by decide), newF_o (B := B) (a := 105) (by decide) (by decide), newF_o (B := B) (a := 106) (by decide) (by decide), newF_o (B := B) (a := 107) (by decide) (by decide)]
    exact ⟨k', b', i', w', m', h1, h2, h3, h4, h5, ⟨p0, r0⟩, ⟨p1, r1⟩, ⟨p2, r2⟩, ⟨p3, r3⟩, ⟨p4, r4⟩⟩
  · by_cases q : j = F
    · obtain ⟨p0, p1, p2⟩ := addF_n (A := A) (d := d) (n := F) (x := x)
      obtain ⟨r0, r1, r2⟩ := newF_n (B := B) (n := F) (x := x)
      rw [q]
      exact ⟨x 0, x 1, x 2, o1, o2, o4, ⟨p0, r0⟩, ⟨p1, r1⟩, ⟨p2, r2⟩⟩
    · obtain ⟨a', b', e', h1, h2, h3, ⟨p0, r0⟩, ⟨p1, r1⟩, ⟨p2, r2⟩⟩ := hFo j (by omega)
      exact ⟨a', b', e', h1, h2, h3, ⟨(addF_g q (by omega)).trans p0, (newF_g q (by decide)).trans r0⟩, ⟨(addF_g q (by omega)).trans p1, (newF_g q (by decide)).trans r1⟩, ⟨(addF_g q (by omega)).trans p2, (newF_g q (by decide)).trans r2⟩⟩
  · obtain ⟨p', r', h1, h2, ⟨p0, r0⟩, ⟨p1, r1⟩⟩ := hLa l hl
    rw [addF_o (A := A) (a := d + 9) (by omega) (by omega), addF_o (A := A) (a := d + 10) (by omega) (by omega), newF_o (B := B) (a := 111) (by decide) (by decide), newF_o (B := B) (a := 112) (by decide) (by decide)]
    exact ⟨p', r', h1, h2, ⟨p0, r0⟩, ⟨p1, r1⟩⟩
theorem addL_o {A : hM} {d n : Nat} {p M : Nat} {a : Nat} (ha : ¬ (d + 9 ≤ a ∧ a ≤ d + 10)) (h0 : a ≠ d) : addL A d n p M a = A a := by
  unfold addL
  rw [q_hr _ _ _ h0, q_hr _ _ _ (by omega), q_hr _ _ _ (by omega)]
theorem addL_d {A : hM} {d n : Nat} {p M : Nat} {i : Nat} (hi : i ≠ 2) : addL A d n p M d i = A d i := by
  unfold addL
  rw [q_hi _ _ hi, q_ha _ _ _ _ (by omega), q_ha _ _ _ _ (by omega)]
theorem addL_c {A : hM} {d n : Nat} {p M : Nat} : addL A d n p M d 2 = nI (n + 1) := by
  unfold addL
  exact q_hu _ _ _ _
theorem addL_g {A : hM} {d n : Nat} {p M : Nat} {a g : Nat} (hg : g ≠ n) (ha : a ≠ d) : addL A d n p M a g = A a g := by
  have one : ∀ (I : hM) b w, hu I b n w a g = I a g := fun I b w => by
    by_cases z : a = b
    · subst z
      exact q_hi _ _ hg
    · exact q_ha _ _ _ _ z
  unfold addL
  rw [q_ha _ _ _ _ ha, one, one]
theorem addL_n {A : hM} {d n : Nat} {p M : Nat} : addL A d n p M (d + 9) n = nI (p) ∧ addL A d n p M (d + 10) n = nI (M) := by
  unfold addL
  refine ⟨?_, ?_⟩
  · rw [q_ha _ _ _ _ (by omega), q_ha _ _ _ _ (by omega), q_hu]
  · rw [q_ha _ _ _ _ (by omega), q_hu]
theorem newL_o {B : hM} {n : Nat} {p M : Nat} {a : Nat} (ha : ¬ (111 ≤ a ∧ a ≤ 112)) (h0 : a ≠ 92) : newL B n p M a = B a := by
  unfold newL
  rw [q_hr _ _ _ h0, q_hr _ _ _ (by omega), q_hr _ _ _ (by omega)]
theorem newL_d {B : hM} {n : Nat} {p M : Nat} {i : Nat} (hi : i ≠ 23) : newL B n p M 92 i = B 92 i := by
  unfold newL
  rw [q_hi _ _ hi, q_ha _ _ _ _ (by omega), q_ha _ _ _ _ (by omega)]
theorem newL_c {B : hM} {n : Nat} {p M : Nat} : newL B n p M 92 23 = nI (n + 1) := by
  unfold newL
  exact q_hu _ _ _ _
theorem newL_g {B : hM} {n : Nat} {p M : Nat} {a g : Nat} (hg : g ≠ n) (ha : a ≠ 92) : newL B n p M a g = B a g := by
  have one : ∀ (I : hM) b w, hu I b n w a g = I a g := fun I b w => by
    by_cases z : a = b
    · subst z
      exact q_hi _ _ hg
    · exact q_ha _ _ _ _ z
  unfold newL
  rw [q_ha _ _ _ _ ha, one, one]
theorem newL_n {B : hM} {n : Nat} {p M : Nat} : newL B n p M 111 n = nI (p) ∧ newL B n p M 112 n = nI (M) := by
  unfold newL
  refine ⟨?_, ?_⟩
  · rw [q_ha _ _ _ _ (by omega), q_ha _ _ _ _ (by omega), q_hu]
  · rw [q_ha _ _ _ _ (by omega), q_hu]
theorem newL_f {B : hM} {n : Nat} {p M : Nat} : Fb B (newL B n p M) := ⟨fun a h1 h2 => newL_o (by omega) h1, fun i h1 h2 h3 _ _ _ => newL_d (by omega)⟩
theorem addL_f {A : hM} {d n : Nat} {p M : Nat} (hd : d = 4 ∨ d = 15) : Fc d A (addL A d n p M) := ⟨fun a h1 h2 h3 => addL_o (by omega) (by omega), fun i _ => by rw [addL_o (by omega) (by omega)]⟩
theorem newL_k {B B2 : hM} {n : Nat} {p M : Nat} (h : ∀ a, 103 ≤ a → a ≤ 112 → B2 a = B a) : ∀ a, 103 ≤ a → a ≤ 112 → newL B2 n p M a = newL B n p M a := fun a h1 h2 => by
  unfold newL
  exact hu_cong (hu_cong (hu_cong (h a h1 h2) _ _ _) _ _ _) _ _ _
theorem Dw.putL {A B : hM} {d N F L : Nat} {p M : Nat} (h : Dw A B d N F L) (hx : L < 4 ∧ p ≤ 9) (hM : M < 16) : Dw (addL A d L p M) (newL B L p M) d N F (L + 1) := by
  obtain ⟨⟨hN, hF6, hL⟩, ⟨n1, n2⟩, ⟨f1, f2⟩, ⟨l1, l2⟩, hG, hFo, hLa⟩ := h
  obtain ⟨o0, o1⟩ := hx
  refine ⟨⟨by omega, by omega, by omega⟩, ⟨(addL_d (by decide)).trans n1, (newL_d (by decide)).trans n2⟩, ⟨(addL_d (by decide)).trans f1, (newL_d (by decide)).trans f2⟩, ⟨addL_c, newL_c⟩, fun g hg => ?_, fun j hj => ?_, fun l hl => ?_⟩
  · obtain ⟨k', b', i', w', m', h1, h2, h3, h4, h5, ⟨p0, r0⟩, ⟨p1, r1⟩, ⟨p2, r2⟩, ⟨p3, r3⟩, ⟨p4, r4⟩⟩ := hG g hg
    rw [addL_o (A := A) (a := d + 1) (by omega) (by omega), addL_o (A := A) (a := d + 2) (by omega) (by omega), addL_o (A := A) (a := d + 3) (by omega) (by omega), addL_o (A := A) (a := d + 4) (by omega) (by omega), addL_o (A := A) (a := d + 5) (by omega) (by omega), newL_o (B := B) (a := 103) (by decide) (by decide), newL_o (B := B) (a := 104) (by decide) (by decide), newL_o (B := B) (a := 105) (by decide) (by decide), newL_o (B := B) (a := 106) (by decide) (by decide), newL_o (B := B) (a := 107) (by decide) (by decide)]
    exact ⟨k', b', i', w', m', h1, h2, h3, h4, h5, ⟨p0, r0⟩, ⟨p1, r1⟩, ⟨p2, r2⟩, ⟨p3, r3⟩, ⟨p4, r4⟩⟩
  · obtain ⟨a', b', e', h1, h2, h3, ⟨p0, r0⟩, ⟨p1, r1⟩, ⟨p2, r2⟩⟩ := hFo j hj
    rw [addL_o (A := A) (a := d + 6) (by omega) (by omega), addL_o (A := A) (a := d + 7) (by omega) (by omega), addL_o (A := A) (a := d + 8) (by omega) (by omega), newL_o (B := B) (a := 108) (by decide) (by decide), newL_o (B := B) (a := 109) (by decide) (by decide), newL_o (B := B) (a := 110) (by decide) (by decide)]
    exact ⟨a', b', e', h1, h2, h3, ⟨p0, r0⟩, ⟨p1, r1⟩, ⟨p2, r2⟩⟩
  · by_cases q : l = L
    · obtain ⟨p0, p1⟩ := addL_n (A := A) (d := d) (n := L) (p := p) (M := M)
      obtain ⟨r0, r1⟩ := newL_n (B := B) (n := L) (p := p) (M := M)
      rw [q]
      exact ⟨p, M, o1, hM, ⟨p0, r0⟩, ⟨p1, r1⟩⟩
    · obtain ⟨p', r', h1, h2, ⟨p0, r0⟩, ⟨p1, r1⟩⟩ := hLa l (by omega)
      exact ⟨p', r', h1, h2, ⟨(addL_g q (by omega)).trans p0, (newL_g q (by decide)).trans r0⟩, ⟨(addL_g q (by omega)).trans p1, (newL_g q (by decide)).trans r1⟩⟩
