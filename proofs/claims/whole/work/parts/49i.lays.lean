/-- both lay it alike -/
theorem q_lays {A B : hM} {N F L : Nat} (hD : Dw A B 4 N F L) (hN1 : 1 ≤ N) : ∃ A1 B1 : hM, X2_start 26 4 A = some (0, A1) ∧ X5_settles B = some (0, B1) ∧ Ev A1 B1 N F L ∧ Sd A1 B1 26 0 N L 0 N ∧ (∀ a, ¬ (26 ≤ a ∧ a ≤ 30) → A1 a = A a) ∧ (∀ a, ¬ (93 ≤ a ∧ a ≤ 102) → a ≠ 92 → a ≠ 113 → B1 a = B a) ∧ (∀ i, i ≠ 0 → i ≠ 6 → i ≠ 10 → B1 92 i = B 92 i) ∧ (∀ j, 20 ≤ j → B1 113 j = B 113 j) := by
  obtain ⟨⟨hN, hF6, hL⟩, ⟨n1, n2⟩, ⟨f1, f2⟩, ⟨l1, l2⟩, hG, hFo, hLa⟩ := hD
  obtain ⟨A1, a1, a2, a3, a5, a4, a6⟩ := q_start A
  obtain ⟨B1, b1, ⟨b2, b3, b4⟩, b5, b6, b7, b8, b9, b10, b11, b12⟩ := q_settles B
  refine ⟨A1, B1, a1, b1, ⟨⟨⟨hN1, hN⟩, hF6, hL⟩, ⟨?_, ?_⟩, ⟨?_, ?_⟩, ⟨?_, ?_⟩, fun g hg => ?_, fun j hj => ?_, fun l hl => ?_⟩, ⟨⟨?_, ?_⟩, ?_, ?_, fun g hg => ?_, fun l hl => ?_⟩, a6, b10, b11, b12⟩
  · rw [a6 4 (by decide)]; exact n1
  · rw [b2]; exact n2
  · rw [a6 4 (by decide)]; exact f1
  · rw [b3]; exact f2
  · rw [a6 4 (by decide)]; exact l1
  · rw [b4]; exact l2
  · obtain ⟨k, b, i, w, m, h1, h2, h3, h4, h5, ⟨p1, p2⟩, -, ⟨p3, p4⟩, ⟨p5, p6⟩, ⟨p7, p8⟩⟩ := hG g hg
    obtain ⟨c1, c2, c3, c4, c5, -⟩ := b5 g (by omega)
    refine ⟨k, i, w, m, h1, h3, h4, h5, ⟨?_, ?_⟩, ⟨?_, ?_⟩, ⟨?_, ?_⟩, ⟨?_, ?_⟩⟩
    · rw [a6 5 (by decide)]; exact p1
    · rw [c1]; exact p2
    · rw [a6 7 (by decide)]; exact p3
    · rw [c3]; exact p4
    · rw [a6 8 (by decide)]; exact p5
    · rw [c4]; exact p6
    · rw [a6 9 (by decide)]; exact p7
    · rw [c5]; exact p8
  · obtain ⟨a, b, e, h1, h2, h3, ⟨p1, p2⟩, ⟨p3, p4⟩, ⟨p5, p6⟩⟩ := hFo j hj
    obtain ⟨c1, c2, c3⟩ := b6 j (by omega)
    refine ⟨a, b, e, h1, h2, h3, ⟨?_, ?_⟩, ⟨?_, ?_⟩, ⟨?_, ?_⟩⟩
    · rw [a6 10 (by decide)]; exact p1
    · rw [c1]; exact p2
    · rw [a6 11 (by decide)]; exact p3
    · rw [c2]; exact p4
    · rw [a6 12 (by decide)]; exact p5
    · rw [c3]; exact p6
  · obtain ⟨p, r, h1, h2, -, ⟨p3, p4⟩⟩ := hLa l hl
    obtain ⟨c1, c2, c3⟩ := b7 l (by omega)
    refine ⟨r, h2, ?_, ?_⟩
    · rw [a6 14 (by decide)]; exact p3
    · rw [c2]; exact p4
  · rw [a2, nI_0]
  · rw [show 0 + 18 = 18 by decide, b8, nI_0]
  · rw [a3, show 0 + 19 = 19 by decide, b9]
  · rw [a3]
    decide
  · obtain ⟨k, b, i, w, m, h1, h2, h3, h4, h5, -, ⟨p1, p2⟩, -⟩ := hG g hg
    obtain ⟨c1, c2, c3, c4, c5, c6, c7⟩ := b5 g (by omega)
    obtain ⟨d1, d2, d3⟩ := a5 g (by omega)
    have p1 : A 6 g = nI b := p1
    rw [p1] at d2
    have c0 : ¬ nI N ≤ nI g := nI_ge hg (by omega)
    rw [n2, p2] at c7
    refine Or.inr ⟨by omega, Or.inl ⟨d1, by rw [show 0 + g = g by omega]; exact c6, ?_⟩⟩
    rw [show 0 + 7 + g = 7 + g by omega]
    show (A1 28 g = 1000000 ∧ _) ∨ ∃ d, d ≤ 5000 ∧ A1 28 g = nI d ∧ _
    rw [d2, c7]
    by_cases hb : b = 99
    · have z : nI b = 99 := by rw [hb]; rfl
      rw [if_pos z, if_pos (Or.inr z)]
      exact Or.inl ⟨rfl, rfl⟩
    · have z : ¬ nI b = 99 := fun z => hb ((nI_eq (b := 99) (by omega) (by decide)).mp z)
      rw [if_neg z, if_neg (fun y => y.elim c0 z)]
      exact Or.inr ⟨b, by omega, rfl, rfl⟩
  · obtain ⟨p, r, h1, h2, ⟨p1, p2⟩, -⟩ := hLa l hl
    obtain ⟨c1, c2, c3⟩ := b7 l (by omega)
    have c0 : ¬ nI L ≤ nI l := nI_ge hl (by omega)
    rw [l2, if_neg c0, p2] at c3
    refine ⟨p, h1, ?_, ?_⟩
    · show A1 30 l = _
      rw [a4 l (by omega)]
      exact p1
    · rw [show 0 + 14 + l = 14 + l by omega]
      exact c3
