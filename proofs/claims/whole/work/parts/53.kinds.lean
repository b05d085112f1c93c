/-! an item by its letter, of each -/
def okI (l : Nat → Nat) (i N : Nat) (x : Nat → Nat) (j : Nat) : Prop := gch l i x j ∧ okG N x ∧ l j = 59
def okJ (l : Nat → Nat) (i N F : Nat) (x : Nat → Nat) (j : Nat) : Prop := fch l i x j ∧ okF N F x ∧ l j = 59
def okK (l : Nat → Nat) (i L : Nat) (p M j : Nat) : Prop := lch l i p M j ∧ (L < 4 ∧ p ≤ 9) ∧ l j = 59
theorem n103 : nI 103 = (103 : Int32) := rfl
theorem n102 : nI 102 = (102 : Int32) := rfl
theorem n108 : nI 108 = (108 : Int32) := rfl
theorem q_lt59 {T : Nat} {c : Nat → Nat} {j : Nat} (h : lt T c j = 59) : j < T := by
  by_cases z : j < T
  · exact z
  · have hl : lt T c j = 0 := if_neg z
    omega
/-- this program takes a going-on -/
theorem q_okG {A : hM} {T : Nat} {c : Nat → Nat} {d i t N k : Nat} {xs : List Nat} (hd : d = 4 ∨ d = 15) (h : Tt A T c) (hi : i < T) (ht : t < 200) (hc : c i = 103) (hN : A d 0 = nI N) (hN7 : N ≤ 7) (hr : rn (lt T c) 5 (i + 1) = some (xs, k)) (q5 : xs.length = 5) (ok : okG N (fun t => xs.getD t 0)) :
    ∃ A', Fc d A A' ∧ (∀ K, X3_readInto_h8 1 d K (nI i) (nI t) A = K (nI k) (nI (t + 1)) A') ∧ (∀ B F L, Dw A B d N F L → Dw A' (newG B N (fun t => xs.getD t 0)) d (N + 1) F L) := by
  obtain ⟨A1, p1, -, p3⟩ := q_turnC d h hi ht
  have hN1 : A1 d 0 = nI N := by rw [p1.1 d (by omega) (by omega)]; exact hN
  obtain ⟨⟨l1, l2⟩, w, -, st⟩ := p3 xs k hr
  rw [hc, n103] at st
  obtain ⟨-, -, a3, -⟩ := q_addBy (A := A1) (d := d) l2
  obtain ⟨g1, -⟩ := q_addG (A := A1) (d := d) (n := N) (x := fun t => xs.getD t 0) hd hN7 hN1 (fun u hu => w u (by omega))
  have hs := st 1 _ (a3 1 _ q5 (Or.inr rfl) (g1 ok))
  refine ⟨addG A1 d N (fun t => xs.getD t 0), (p1.fc d).tr (addG_f hd), fun K => ?_, fun B F L hD => ?_⟩
  · rw [hs K, if_neg n10]
  · exact (hD.keep (fun a _ _ => p1.1 a (by omega) (by omega)) rfl rfl rfl (fun _ _ _ => rfl)).putG ok
theorem q_clsG {A : hM} {T : Nat} {c : Nat → Nat} {d i t N : Nat} (hd : d = 4 ∨ d = 15) (h : Tt A T c) (hi : i < T) (ht : t < 200) (hc : c i = 103) (hN : A d 0 = nI N) (hN7 : N ≤ 7) :
    ∃ A', Fc d A A' ∧ ((∃ x j, okI (lt T c) (i + 1) N x j ∧ i < j ∧ (∀ K, X3_readInto_h8 1 d K (nI i) (nI t) A = K (nI (j + 1)) (nI (t + 1)) A') ∧ (∀ B F L, Dw A B d N F L → Dw A' (newG B N x) d (N + 1) F L)) ∨ ((∀ K, X3_readInto_h8 1 d K (nI i) (nI t) A = some (nI i, A')) ∧ ¬ ∃ x j, okI (lt T c) (i + 1) N x j)) := by
  obtain ⟨A1, p1, p2, p3⟩ := q_turnC d h hi ht
  have f1 : Fc d A A1 := p1.fc d
  have hN1 : A1 d 0 = nI N := by rw [p1.1 d (by omega) (by omega)]; exact hN
  cases hr : rn (lt T c) 5 (i + 1) with
  | none =>
    refine ⟨A1, f1, Or.inr ⟨p2 hr, ?_⟩⟩
    rintro ⟨x, j, g1, g2, g3⟩
    obtain ⟨xs, e1, -⟩ := q_gch2 g1 g3
    rw [hr] at e1
    exact absurd e1 (by simp)
  | some y =>
    obtain ⟨xs, k⟩ := y
    obtain ⟨⟨l1, l2⟩, w, ⟨k1, k2⟩, st⟩ := p3 xs k hr
    rw [hc, n103] at st
    obtain ⟨-, -, a3, a4, -⟩ := q_addBy (A := A1) (d := d) l2
    by_cases q5 : xs.length = 5
    · by_cases ok : okG N (fun t => xs.getD t 0)
      · obtain ⟨j, e1, e2, e3⟩ := q_gch1 hr q5
        obtain ⟨A', b1, b2, b3⟩ := q_okG hd h hi ht hc hN hN7 hr q5 ok
        exact ⟨A', b1, Or.inl ⟨_, j, ⟨e1, ok, e2⟩, by omega, fun K => by rw [b2 K, e3], b3⟩⟩
      · obtain ⟨-, g2⟩ := q_addG (A := A1) (d := d) (n := N) (x := fun t => xs.getD t 0) hd hN7 hN1 (fun u hu => w u (by omega))
        have hs := st 0 _ (a3 0 _ q5 (Or.inl rfl) (g2 ok))
        refine ⟨A1, f1, Or.inr ⟨fun K => by rw [hs K, if_pos rfl], ?_⟩⟩
        rintro ⟨x, j, h1, h2, h3⟩
        obtain ⟨ys, e1, e2, e3⟩ := q_gch2 h1 h3
        rw [hr] at e1
        obtain ⟨z1, z2⟩ := Prod.mk.inj (Option.some.inj e1)
        subst z1
        exact ok (okG_congr e3 h2)
    · have hs := st 0 _ (a4 q5)
      refine ⟨A1, f1, Or.inr ⟨fun K => by rw [hs K, if_pos rfl], ?_⟩⟩
      rintro ⟨x, j, h1, h2, h3⟩
      obtain ⟨ys, e1, e2, e3⟩ := q_gch2 h1 h3
      rw [hr] at e1
      obtain ⟨z1, z2⟩ := Prod.mk.inj (Option.some.inj e1)
      subst z1
      exact q5 e2
/-- this program takes a following -/
theorem q_okF {A : hM} {T : Nat} {c : Nat → Nat} {d i t N F k : Nat} {xs : List Nat} (hd : d = 4 ∨ d = 15) (h : Tt A T c) (hi : i < T) (ht : t < 200) (hc : c i = 102) (hN : A d 0 = nI N) (hN7 : N ≤ 7) (hF' : A d 1 = nI F) (hF6 : F ≤ 6) (hr : rn (lt T c) 5 (i + 1) = some (xs, k)) (q3 : xs.length = 3) (ok : okF N F (fun t => xs.getD t 0)) :
    ∃ A', Fc d A A' ∧ (∀ K, X3_readInto_h8 1 d K (nI i) (nI t) A = K (nI k) (nI (t + 1)) A') ∧ (∀ B L, Dw A B d N F L → Dw A' (newF B F (fun t => xs.getD t 0)) d N (F + 1) L) := by
  obtain ⟨A1, p1, -, p3⟩ := q_turnC d h hi ht
  have hN1 : A1 d 0 = nI N := by rw [p1.1 d (by omega) (by omega)]; exact hN
  have hF1 : A1 d 1 = nI F := by rw [p1.1 d (by omega) (by omega)]; exact hF'
  obtain ⟨⟨l1, l2⟩, w, -, st⟩ := p3 xs k hr
  rw [hc, n102] at st
  obtain ⟨a1, -⟩ := q_addBy (A := A1) (d := d) l2
  obtain ⟨g1, -⟩ := q_addF (A := A1) (d := d) (n := F) (N := N) (x := fun t => xs.getD t 0) hd hF6 hN7 hN1 hF1 (fun u hu => w u (by omega))
  have hs := st 1 _ (a1 1 _ q3 (Or.inr rfl) (g1 ok))
  refine ⟨addF A1 d F (fun t => xs.getD t 0), (p1.fc d).tr (addF_f hd), fun K => ?_, fun B L hD => ?_⟩
  · rw [hs K, if_neg n10]
  · exact (hD.keep (fun a _ _ => p1.1 a (by omega) (by omega)) rfl rfl rfl (fun _ _ _ => rfl)).putF ok
theorem q_clsF {A : hM} {T : Nat} {c : Nat → Nat} {d i t N F : Nat} (hd : d = 4 ∨ d = 15) (h : Tt A T c) (hi : i < T) (ht : t < 200) (hc : c i = 102) (hN : A d 0 = nI N) (hN7 : N ≤ 7) (hF' : A d 1 = nI F) (hF6 : F ≤ 6) :
    ∃ A', Fc d A A' ∧ ((∃ x j, okJ (lt T c) (i + 1) N F x j ∧ i < j ∧ (∀ K, X3_readInto_h8 1 d K (nI i) (nI t) A = K (nI (j + 1)) (nI (t + 1)) A') ∧ (∀ B L, Dw A B d N F L → Dw A' (newF B F x) d N (F + 1) L)) ∨ ((∀ K, X3_readInto_h8 1 d K (nI i) (nI t) A = some (nI i, A')) ∧ ¬ ∃ x j, okJ (lt T c) (i + 1) N F x j)) := by
  obtain ⟨A1, p1, p2, p3⟩ := q_turnC d h hi ht
  have f1 : Fc d A A1 := p1.fc d
  have hN1 : A1 d 0 = nI N := by rw [p1.1 d (by omega) (by omega)]; exact hN
  have hF1 : A1 d 1 = nI F := by rw [p1.1 d (by omega) (by omega)]; exact hF'
  cases hr : rn (lt T c) 5 (i + 1) with
  | none =>
    refine ⟨A1, f1, Or.inr ⟨p2 hr, ?_⟩⟩
    rintro ⟨x, j, g1, g2, g3⟩
    obtain ⟨xs, e1, -⟩ := q_fch2 g1 g3
    rw [hr] at e1
    exact absurd e1 (by simp)
  | some y =>
    obtain ⟨xs, k⟩ := y
    obtain ⟨⟨l1, l2⟩, w, ⟨k1, k2⟩, st⟩ := p3 xs k hr
    rw [hc, n102] at st
    obtain ⟨a1, a2, -⟩ := q_addBy (A := A1) (d := d) l2
    by_cases q3 : xs.length = 3
    · by_cases ok : okF N F (fun t => xs.getD t 0)
      · obtain ⟨j, e1, e2, e3⟩ := q_fch1 hr q3
        obtain ⟨A', b1, b2, b3⟩ := q_okF hd h hi ht hc hN hN7 hF' hF6 hr q3 ok
        exact ⟨A', b1, Or.inl ⟨_, j, ⟨e1, ok, e2⟩, by omega, fun K => by rw [b2 K, e3], b3⟩⟩
      · obtain ⟨-, g2⟩ := q_addF (A := A1) (d := d) (n := F) (N := N) (x := fun t => xs.getD t 0) hd hF6 hN7 hN1 hF1 (fun u hu => w u (by omega))
        have hs := st 0 _ (a1 0 _ q3 (Or.inl rfl) (g2 ok))
        refine ⟨A1, f1, Or.inr ⟨fun K => by rw [hs K, if_pos rfl], ?_⟩⟩
        rintro ⟨x, j, h1, h2, h3⟩
        obtain ⟨ys, e1, e2, e3⟩ := q_fch2 h1 h3
        rw [hr] at e1
        obtain ⟨z1, z2⟩ := Prod.mk.inj (Option.some.inj e1)
        subst z1
        exact ok (okF_congr e3 h2)
    · have hs := st 0 _ (a2 q3)
      refine ⟨A1, f1, Or.inr ⟨fun K => by rw [hs K, if_pos rfl], ?_⟩⟩
      rintro ⟨x, j, h1, h2, h3⟩
      obtain ⟨ys, e1, e2, e3⟩ := q_fch2 h1 h3
      rw [hr] at e1
      obtain ⟨z1, z2⟩ := Prod.mk.inj (Option.some.inj e1)
      subst z1
      exact q3 e2
/-- this program takes a lady -/
theorem q_okL {A : hM} {T : Nat} {c : Nat → Nat} {d i t L k M : Nat} {xs : List Nat} (hd : d = 4 ∨ d = 15) (h : Tt A T c) (hi : i < T) (ht : t < 200) (hc : c i = 108) (hL : A d 2 = nI L) (hL4 : L < 4) (hr : rn (lt T c) 5 (i + 1) = some (xs, k)) (q2 : 2 ≤ xs.length) (h9 : xs.getD 0 0 ≤ 9) (hM : lm (fun t => xs.getD t 0) (xs.length - 1) 1 0 = some M) :
    ∃ A', Fc d A A' ∧ (∀ K, X3_readInto_h8 1 d K (nI i) (nI t) A = K (nI k) (nI (t + 1)) A') ∧ (∀ B N F, Dw A B d N F L → Dw A' (newL B L (xs.getD 0 0) M) d N F (L + 1)) := by
  obtain ⟨A1, p1, -, p3⟩ := q_turnC d h hi ht
  have hL1 : A1 d 2 = nI L := by rw [p1.1 d (by omega) (by omega)]; exact hL
  obtain ⟨⟨l1, l2⟩, w, -, st⟩ := p3 xs k hr
  rw [hc, n108] at st
  obtain ⟨-, -, -, -, a5, -⟩ := q_addBy (A := A1) (d := d) l2
  obtain ⟨g1, -⟩ := q_addL (A := A1) (d := d) (n := L) (x := fun t => xs.getD t 0) hd (by omega) l1 l2 hL1 (fun u hu => w u hu)
  have hs := st 1 _ (a5 1 _ q2 (Or.inr rfl) (g1 M hL4 h9 hM))
  refine ⟨addL A1 d L (xs.getD 0 0) M, (p1.fc d).tr (addL_f hd), fun K => ?_, fun B N F hD => ?_⟩
  · rw [hs K, if_neg n10]
  · exact (hD.keep (fun a _ _ => p1.1 a (by omega) (by omega)) rfl rfl rfl (fun _ _ _ => rfl)).putL ⟨hL4, h9⟩ (lm_lt _ _ _ _ (by decide) hM)
theorem q_clsL {A : hM} {T : Nat} {c : Nat → Nat} {d i t L : Nat} (hd : d = 4 ∨ d = 15) (h : Tt A T c) (hi : i < T) (ht : t < 200) (hc : c i = 108) (hL : A d 2 = nI L) (hL4 : L ≤ 4) :
    ∃ A', Fc d A A' ∧ ((∃ p M j, okK (lt T c) (i + 1) L p M j ∧ i < j ∧ (∀ K, X3_readInto_h8 1 d K (nI i) (nI t) A = K (nI (j + 1)) (nI (t + 1)) A') ∧ (∀ B N F, Dw A B d N F L → Dw A' (newL B L p M) d N F (L + 1))) ∨ ((∀ K, X3_readInto_h8 1 d K (nI i) (nI t) A = some (nI i, A')) ∧ ¬ ∃ p M j, okK (lt T c) (i + 1) L p M j)) := by
  obtain ⟨A1, p1, p2, p3⟩ := q_turnC d h hi ht
  have f1 : Fc d A A1 := p1.fc d
  have hL1 : A1 d 2 = nI L := by rw [p1.1 d (by omega) (by omega)]; exact hL
  cases hr : rn (lt T c) 5 (i + 1) with
  | none =>
    refine ⟨A1, f1, Or.inr ⟨p2 hr, ?_⟩⟩
    rintro ⟨p, M, j, g1, g2, g3⟩
    obtain ⟨xs, e1, -⟩ := q_lch2 g1 g3
    rw [hr] at e1
    exact absurd e1 (by simp)
  | some y =>
    obtain ⟨xs, k⟩ := y
    obtain ⟨⟨l1, l2⟩, w, ⟨k1, k2⟩, st⟩ := p3 xs k hr
    rw [hc, n108] at st
    obtain ⟨-, -, -, -, a5, a6, -⟩ := q_addBy (A := A1) (d := d) l2
    by_cases q2 : 2 ≤ xs.length
    · by_cases ok : L < 4 ∧ xs.getD 0 0 ≤ 9 ∧ ∃ M, lm (fun t => xs.getD t 0) (xs.length - 1) 1 0 = some M
      · obtain ⟨o1, o2, M, o3⟩ := ok
        obtain ⟨j, e1, e2, e3⟩ := q_lch1 hr q2 l2 o3
        obtain ⟨A', b1, b2, b3⟩ := q_okL hd h hi ht hc hL o1 hr q2 o2 o3
        exact ⟨A', b1, Or.inl ⟨_, M, j, ⟨e1, ⟨o1, o2⟩, e2⟩, by omega, fun K => by rw [b2 K, e3], b3⟩⟩
      · obtain ⟨-, g2⟩ := q_addL (A := A1) (d := d) (n := L) (x := fun t => xs.getD t 0) hd hL4 l1 l2 hL1 (fun u hu => w u hu)
        have hs := st 0 _ (a5 0 _ q2 (Or.inl rfl) (g2 ok))
        refine ⟨A1, f1, Or.inr ⟨fun K => by rw [hs K, if_pos rfl], ?_⟩⟩
        rintro ⟨p, M, j, h1, h2, h3⟩
        obtain ⟨ys, e1, e2, e3, e4, e5⟩ := q_lch2 h1 h3
        rw [hr] at e1
        obtain ⟨z1, z2⟩ := Prod.mk.inj (Option.some.inj e1)
        subst z1
        exact ok ⟨h2.1, by rw [e4]; exact h2.2, M, e5⟩
    · have hs := st 0 _ (a6 (by omega))
      refine ⟨A1, f1, Or.inr ⟨fun K => by rw [hs K, if_pos rfl], ?_⟩⟩
      rintro ⟨p, M, j, h1, h2, h3⟩
      obtain ⟨ys, e1, e2, -⟩ := q_lch2 h1 h3
      rw [hr] at e1
      obtain ⟨z1, z2⟩ := Prod.mk.inj (Option.some.inj e1)
      subst z1
      exact q2 e2
/-- and another letter is none -/
theorem q_clsO {A : hM} {T : Nat} {c : Nat → Nat} {i t : Nat} (d : Nat) (h : Tt A T c) (hi : i < T) (ht : t < 200) (c1 : ¬ c i = 102) (c2 : ¬ c i = 103) (c3 : ¬ c i = 108) :
    ∃ A', Fc d A A' ∧ ∀ K, X3_readInto_h8 1 d K (nI i) (nI t) A = some (nI i, A') := by
  have hc := (h.2.2 i hi).1
  obtain ⟨A1, p1, p2, p3⟩ := q_turnC d h hi ht
  refine ⟨A1, p1.fc d, ?_⟩
  cases hr : rn (lt T c) 5 (i + 1) with
  | none => exact p2 hr
  | some y =>
    obtain ⟨xs, k⟩ := y
    obtain ⟨⟨l1, l2⟩, -, -, st⟩ := p3 xs k hr
    obtain ⟨-, -, -, -, -, -, a7⟩ := q_addBy (A := A1) (d := d) l2
    have hs := st 0 _ (a7 _ (fun z => c1 ((nI_eq (b := 102) (by omega) (by decide)).mp z)) (fun z => c2 ((nI_eq (b := 103) (by omega) (by decide)).mp z)) (fun z => c3 ((nI_eq (b := 108) (by omega) (by decide)).mp z)))
    exact fun K => by rw [hs K, if_pos rfl]
