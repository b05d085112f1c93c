theorem wg_congrT {T T' S : Nat → Bool} {p : Nat} : ∀ n, (∀ h, h < n → T h = T' h) → wg T S p n = wg T' S p n := by
  intro n
  induction n with
  | zero => intro _; rfl
  | succ n ih =>
    intro h
    show wg T S p n * _ = wg T' S p n * _
    rw [ih (fun k hk => h k (by omega)), h n (by omega)]
theorem tbf_eq (f : Nat → Bool) {N h : Nat} (hh : h < N) : (tbf f N).testBit h = f h := by
  have k := tbf_bit f N h
  cases hf : f h
  · cases ht : (tbf f N).testBit h
    · rfl
    · rw [ht, hf] at k
      exact absurd (k.mp rfl).2 (by decide)
  · exact k.mpr ⟨hh, hf⟩
theorem q_wgT (f : Nat → Bool) {N S p : Nat} (hN : N ≤ 7) : wg (tbf f N).testBit S.testBit p 7 = wg f S.testBit p N := by
  have e := wg_tail (T := (tbf f N).testBit) (S := S.testBit) (p := p) (N := N) (7 - N) (fun h hh => by
    cases ht : (tbf f N).testBit h
    · rfl
    · exact absurd ((tbf_bit f N h).mp ht).1 (by omega))
  rw [show N + (7 - N) = 7 by omega] at e
  rw [e]
  exact wg_congrT N (fun h hh => tbf_eq f hh)
theorem tn_wg (f : Nat → Bool) : ∀ n, wg f (0 : Nat).testBit 10 n = tn f n ∨ True := fun _ => Or.inr trivial
theorem q_tens (f : Nat → Bool) : ∀ n, wg f (fun _ => true) 10 n = tn f n := by
  intro n
  induction n with
  | zero => rfl
  | succ n ih =>
    show wg f (fun _ => true) 10 n * (if f n = true then (if true = true then 10 else 10 - 10) else 1) = tn f n * (if f n = true then 10 else 1)
    rw [ih, if_pos (show true = true from rfl)]
/-- nobody comes late, and each way weighs ten -/
theorem q_chance0 {A : hM} {T : Nat} (hT : T < 128) : X4_chanceOf 0 (nI T) 10 10 A = some (nI (tn T.testBit 7), A) := by
  have key : ∀ (k g n1 : Nat), g + k = 7 → k < n1 → X4_chanceOf_l6 n1 0 (nI T) 10 10 (nI (tn T.testBit g)) (nI g) A = some (nI (tn T.testBit 7), A) := by
    intro k
    induction k with
    | zero =>
      intro g n1 hg h1
      obtain ⟨n1, rfl⟩ : ∃ j, n1 = j + 1 := ⟨n1 - 1, by omega⟩
      obtain rfl : g = 7 := by omega
      have c1 : (7 : Int32) ≤ nI 7 := by decide
      show X4_chanceOf_h6 _ 0 (nI T) 10 10 _ (nI 7) A = _
      unfold X4_chanceOf_h6
      rw [if_pos c1]
    | succ k ih =>
      intro g n1 hg h1
      obtain ⟨n1, rfl⟩ : ∃ j, n1 = j + 1 := ⟨n1 - 1, by omega⟩
      have c1 : ¬ (7 : Int32) ≤ nI g := nI_ge (b := 7) (by omega) (by decide)
      have b1 := q_bits.1 0 (by decide) g (by omega)
      rw [nI_0, Nat.zero_testBit] at b1
      have b2 := q_bits.1 T hT g (by omega)
      have nx := ih (g + 1) n1 (by omega) (by omega)
      have ew : tn T.testBit (g + 1) = tn T.testBit g * (if T.testBit g = true then 10 else 1) := rfl
      have em : nI (tn T.testBit g) * 10 = nI (tn T.testBit g * 10) := pk_mul _ 10
      show X4_chanceOf_h6 (X4_chanceOf_l6 n1) 0 (nI T) 10 10 _ (nI g) A = _
      unfold X4_chanceOf_h6
      rw [if_neg c1, nI_1]
      by_cases hTg : T.testBit g = true
      · rw [if_pos (b2.mpr hTg), if_neg (fun z => absurd (b1.mp z) (by decide)), em]
        rw [ew, if_pos hTg] at nx
        exact nx
      · rw [if_neg (fun z => hTg (b2.mp z))]
        rw [ew, if_neg hTg, Nat.mul_one] at nx
        exact nx
  have h := key 7 0 hF (by decide) (show 7 < 1024 by decide)
  unfold X4_chanceOf
  rw [nI_0] at h
  exact h
theorem tn_congr {T T' : Nat → Bool} : ∀ n, (∀ h, h < n → T h = T' h) → tn T n = tn T' n := by
  intro n
  induction n with
  | zero => intro _; rfl
  | succ n ih =>
    intro h
    show tn T n * _ = tn T' n * _
    rw [ih (fun k hk => h k (by omega)), h n (by omega)]
theorem tn_tail {T : Nat → Bool} {N : Nat} : ∀ k, (∀ h, N ≤ h → T h = false) → tn T (N + k) = tn T N := by
  intro k h
  induction k with
  | zero => rfl
  | succ k ih =>
    show tn T (N + k) * (if T (N + k) = true then _ else 1) = _
    rw [h (N + k) (by omega), if_neg (by decide), Nat.mul_one, ih]
theorem q_tnT (f : Nat → Bool) {N : Nat} (hN : N ≤ 7) : tn (tbf f N).testBit 7 = tn f N := by
  have e := tn_tail (T := (tbf f N).testBit) (N := N) (7 - N) (fun h hh => by
    cases ht : (tbf f N).testBit h
    · rfl
    · exact absurd ((tbf_bit f N h).mp ht).1 (by omega))
  rw [show N + (7 - N) = 7 by omega] at e
  rw [e]
  exact tn_congr N (fun h hh => tbf_eq f hh)
/-- among those that may be late, or not -/
theorem q_among (f : Nat → Bool) {N S : Nat} (hN : N ≤ 7) (hS : S < 2 ^ N) : (nI S &&& (nI (tbf f N) ^^^ -1)) = 0 ↔ sb f S.testBit N = true := by
  have h7 : (2 : Nat) ^ N ≤ 2 ^ 7 := Nat.pow_le_pow_right (by decide) hN
  have hT := tbf_lt f N
  have e7 : (2 : Nat) ^ 7 = 128 := by decide
  rw [q_bits2 S (by omega) _ (by omega), sb_iff]
  refine ⟨fun h k hk hs => ?_, fun h => Nat.eq_of_testBit_eq (fun k => ?_)⟩
  · rw [← h, Nat.testBit_and, Bool.and_eq_true] at hs
    exact ((tbf_bit f N k).mp hs.2).2
  · rw [Nat.testBit_and]
    cases hs : S.testBit k
    · rfl
    · have hk : k < N := by
        by_cases q : k < N
        · exact q
        · have : S.testBit k = false := Nat.testBit_lt_two_pow (Nat.lt_of_lt_of_le hS (Nat.pow_le_pow_right (by decide) (by omega)))
          rw [this] at hs
          exact absurd hs (by decide)
      rw [(tbf_bit f N k).mpr ⟨hk, h k hk hs⟩]
      rfl
theorem sO_fr {A A' B B' : hM} (hF : Fr A A' B B' 31 220) : sO A' = sO A := by
  funext g
  unfold sO
  rw [hF.1 26 (by decide), hF.1 27 (by decide), hF.1 28 (by decide)]
/-- one way of coming late -/
theorem q_late1 {A B : hM} {N F L m S c p : Nat} (hSt : St A B N F L m) (hS : S < 128) (hp : p ≤ 10) (hc : c ≤ 20) (K : Int32 → Int32 → Int32 → Int32 → Int32 → Int32 → Int32 → hM → Option (Int32 × hM)) (x3 x4 x5 x6 : Int32) :
    (sb (sO A) S.testBit N = true → ∃ W A2 B1 B2 B3, X4_hadLate (nI S) (nI c) A = some (W, A2) ∧ X5_copies 0 220 B = some (0, B1) ∧ X5_late_l86 K hF (nI c) (nI p) x3 x4 x5 x6 (nI S) 1 1 0 B1 = X5_late_b202 K (nI c) (nI p) x3 x4 x5 x6 (nI S) (nI (wg (sO A) S.testBit p N)) 1 B2 ∧ X5_hadThen B2 = some (W, B3) ∧ Fr A A2 B B3 31 220) ∧
    (¬ sb (sO A) S.testBit N = true → ∃ B1 B2, X5_copies 0 220 B = some (0, B1) ∧ X5_late_l86 K hF (nI c) (nI p) x3 x4 x5 x6 (nI S) 1 1 0 B1 = X5_late_b202 K (nI c) (nI p) x3 x4 x5 x6 (nI S) (nI (wg (sO A) S.testBit p N)) 0 B2 ∧ Fr A A B B2 31 220) := by
  have hb := hSt.1.1
  obtain ⟨A1, B1, t1, t2, t3, t4, t5, -, t6, t7⟩ := q_tryOn hSt
  obtain ⟨A1', a1, a2, a3, a4, a5, a6⟩ := q_copyC 31 26 A (by decide)
  rw [t1] at a1
  cases a1
  obtain ⟨B2, l1, l2, l3, l4, l5⟩ := q_lmod (c := c) (p := p) hSt hS hp K x3 x4 x5 x6 N 0 B1 hF (by omega) (show N < 1024 by omega) (fun a ha => by
    by_cases h92 : a = 92
    · subst h92
      obtain ⟨B1', b1, -, -, b4⟩ := q_copies (b := 0) (t := 220) (by decide) (by decide) (by decide) B
      have b1 : X5_copies 0 220 B = some (0, B1') := b1
      rw [t2] at b1
      cases b1
      exact b4 92 (by decide)
    · exact t4.2.1 a ha h92) (fun j hj => t4.2.2.2 j (by omega))
  rw [nI_0] at l1
  have l1 : X5_late_l86 K hF (nI c) (nI p) x3 x4 x5 x6 (nI S) 1 1 0 B1 = X5_late_b202 K (nI c) (nI p) x3 x4 x5 x6 (nI S) (nI (wg (sO A) S.testBit p N)) (ok1 (sb (sO A) S.testBit N)) B2 := l1
  have fB : ∀ (AA : hM), Fr AA AA B1 B2 31 220 := fun AA => ⟨fun _ _ => rfl, fun a h1 _ => l2 a h1, fun i _ => by rw [l2 92 (by decide)], fun j hj => by
    by_cases q : j < 227
    · exact l3 j (by omega)
    · exact l4 j (by omega)⟩
  refine ⟨fun hsb => ?_, fun hsb => ?_⟩
  · rw [hsb] at l1
    obtain ⟨A2, e1, e2, e3⟩ := q_hadL (c := c) hS (by omega) N 0 A1 hF (by omega) (show N < 1024 by omega) t7
    rw [nI_0] at e1
    have fA : Fr A1 A2 B1 B2 31 220 := ⟨fun a ha => e2 a (by omega), (fB A1).2⟩
    have hE2 := (hSt.1.fr (Or.inr rfl) t4).fr (Or.inr rfl) fA
    have sbi := (sb_iff N).mp hsb
    have hS2 : Sd A2 B2 31 220 N L m N := by
      obtain ⟨⟨d1, d2⟩, d3, d4, d5, d6⟩ := t3
      refine ⟨⟨?_, ?_⟩, ?_, ?_, fun g hg => ?_, fun l hl => ?_⟩
      · rw [e2 31 (by decide)]
        exact d1
      · rw [l4 _ (by omega)]
        exact d2
      · rw [e2 31 (by decide), l4 _ (by omega)]
        exact d3
      · rw [e2 31 (by decide)]
        exact d4
      · have hR := d5 g hg
        by_cases q : S.testBit g = true
        · have so := sbi g hg q
          have sO2 : A 27 g = 0 ∧ ¬ A 26 0 + 9 ≤ A 28 g := of_decide_eq_true so
          have st1 : A1 (31 + 1) g = 0 := (t5 g (by omega)).trans sO2.1
          have du1 : A1 33 g = A 28 g := (a4 g (by omega)).2.1
          have du2 : A2 33 g = A1 33 g + nI c := (e3 g).1 ⟨Nat.zero_le _, hg, q⟩
          have wh2 : B2 113 (227 + g) = B1 113 (227 + g) + nI c := (l5 g (Nat.zero_le _) hg).1 so q
          rcases hR with ⟨z, _⟩ | ⟨hx0, ⟨r1, r2, ⟨r3, r4⟩ | ⟨d, hd, r3, r4⟩⟩ | ⟨cc, w, hc1, hc2, hw, r1, r2, r3, r4⟩⟩
          · exact absurd z (by omega)
          · exfalso
            have r3 : A1 33 g = 1000000 := r3
            have a0 : A 26 0 = nI m := hSt.2.2.1.1.1
            refine sO2.2 ?_
            rw [← du1, r3, a0, show nI m + 9 = nI (m + 9) from nI_add m 9]
            have hm := hSt.2.1
            exact nI_le (b := 1000000) (by omega) (by decide)
          · have r3 : A1 33 g = nI d := r3
            have a0 : A 26 0 = nI m := hSt.2.2.1.1.1
            have hd9 : d < m + 9 := by
              rw [← du1, r3, a0, show nI m + 9 = nI (m + 9) from nI_add m 9] at sO2
              by_cases z : m + 9 ≤ d
              · exact absurd (nI_le z (by omega)) sO2.2
              · omega
            have hm := hSt.2.1
            refine Or.inr ⟨hx0, Or.inl ⟨?_, ?_, Or.inr ⟨d + c, by omega, ?_, ?_⟩⟩⟩
            · rw [e2 _ (by omega)]
              exact r1
            · rw [l3 _ (by omega)]
              exact r2
            · show A2 33 g = _
              rw [du2, r3, nI_add]
            · show B2 113 (220 + 7 + g) = _
              rw [show 220 + 7 + g = 227 + g by omega] at r4 ⊢
              rw [wh2, r4, nI_add]
          · exfalso
            rw [st1] at r1
            exact nI_ne0 (n := cc) (by omega) (by omega) r1.symm
        · refine hR.keep ?_ ?_ ?_ ?_ ?_
          · rw [e2 _ (by omega)]
          · exact (e3 g).2 (fun z => q z.2.2)
          · rw [e2 _ (by omega)]
          · exact l3 _ (by omega)
          · have k := (l5 g (Nat.zero_le _) hg).2 q
            rw [show 220 + 7 + g = 227 + g by omega]
            exact k
      · rw [e2 _ (by omega), l4 _ (by omega)]
        exact d6 l hl
    obtain ⟨A3, B3, g1, g2, g3⟩ := q_hour (show m ≤ 2000 by have := hSt.2.1; omega) hE2 hS2 ((hSt.2.2.2.fr t4).fr fA)
    refine ⟨A3 31 1, A3, B1, B2, B3, ?_, t2, l1, g2, (t4.tr fA).tr g3⟩
    unfold X4_hadLate
    rw [t1, ob_s, e1]
    unfold X4_hadLate_b52
    rw [g1, ob_s]
  · have h0 : sb (sO A) S.testBit N = false := by
      cases hx : sb (sO A) S.testBit N
      · rfl
      · exact absurd hx hsb
    rw [h0] at l1
    have t4' : Fr A A B B1 31 220 := ⟨fun _ _ => rfl, t4.2⟩
    exact ⟨B1, B2, t2, l1, t4'.tr (fB A)⟩
theorem q_late_loop {N F L m c p : Nat} (hp : p ≤ 10) (hc : c ≤ 20) (f : Nat → Bool) (v3 w : Int32) : ∀ (k S fav : Nat) (A B : hM) (n1 n2 : Nat), S + k = 2 ^ N → k < n1 → k < n2 → fav ≤ sm (wf f p N) S → St A B N F L m → sO A = f →
    ∃ R A2 B2, X4_late_l73 n1 (nI c) (nI p) v3 w (nI (tbf f N)) (nI fav) (nI (tn f N)) (nI S) A = some (R, A2) ∧ X5_late_l58 n2 (nI c) (nI p) v3 w (nI fav) (nI (sm (wf f p N) S)) (nI S) B = some (R, B2) ∧ Fr A A2 B B2 31 220 := by
  intro k
  induction k with
  | zero =>
    intro S fav A B n1 n2 hSk h1 h2 hfav hSt hf
    obtain ⟨n1, rfl⟩ : ∃ j, n1 = j + 1 := ⟨n1 - 1, by omega⟩
    obtain ⟨n2, rfl⟩ : ∃ j, n2 = j + 1 := ⟨n2 - 1, by omega⟩
    have hb := hSt.1.1
    have h7 : (2 : Nat) ^ N ≤ 2 ^ 7 := Nat.pow_le_pow_right (by decide) (by omega)
    have e7 : (2 : Nat) ^ 7 = 128 := by decide
    have h10 : (10 : Nat) ^ N ≤ 10 ^ 7 := Nat.pow_le_pow_right (by decide) (by omega)
    have e10 : (10 : Nat) ^ 7 = 10000000 := by decide
    have e24 : (2 : Nat) ^ 24 = 16777216 := by decide
    have ht := tn_le (T := f) N
    obtain rfl : S = 2 ^ N := by omega
    rw [q_total f hp N] at hfav ⊢
    have sh := q_bits3 N (by omega)
    have c1 : nI (2 ^ N) ≤ nI (2 ^ N) := nI_le (Nat.le_refl _) (by omega)
    obtain ⟨G, g1, g2, g3, g4⟩ := q_gcd (A := A) (B := B) w (nI fav) (nI (tn f N)) 24 fav (tn f N) 0 hF hF (by omega) (by omega) (by omega) (by decide) (show 2 * 24 + 1 < 1024 by decide) (show 2 * 24 + 1 < 1024 by decide) (Or.inr (by omega))
    rw [nI_0] at g3
    have d1 : 1 ≤ nI G := nI_le (a := 1) (by omega) (by omega)
    have d2 : ¬ nI G = 0 := nI_ne0 g1 (by omega)
    have cC : X4_late_l73 (n1 + 1) (nI c) (nI p) v3 w (nI (tbf f N)) (nI fav) (nI (tn f N)) (nI (2 ^ N)) A = X4_late_b131 w (nI fav) (nI (tn f N)) A := by
      show X4_late_h73 _ (nI c) (nI p) v3 w (nI (tbf f N)) (nI fav) (nI (tn f N)) (nI (2 ^ N)) A = _
      unfold X4_late_h73
      rw [hSt.1.2.1.1, sh, if_pos c1]
    have cM : X5_late_l58 (n2 + 1) (nI c) (nI p) v3 w (nI fav) (nI (tn f N)) (nI (2 ^ N)) B = X5_late_b270 w (nI fav) (nI (tn f N)) (nI G) B := by
      show X5_late_h58 _ (nI c) (nI p) v3 w (nI fav) (nI (tn f N)) (nI (2 ^ N)) B = _
      unfold X5_late_h58
      rw [hSt.1.2.1.2, sh, if_pos c1, g4]
    have cD : X4_commonDivisor (nI fav) (nI (tn f N)) A = some (nI G, A) := g3
    rw [cC, cM]
    unfold X4_late_b131 X5_late_b270
    by_cases hw : w = 0
    · exact ⟨nI fav / nI G, A, B, by rw [cD, ob_s, if_pos d1, if_pos hw, q_gn d2], by rw [if_pos hw, q_gn d2], Fr.rf⟩
    · exact ⟨nI (tn f N) / nI G, A, B, by rw [cD, ob_s, if_pos d1, if_neg hw, q_gn d2], by rw [if_neg hw, q_gn d2], Fr.rf⟩
  | succ k ih =>
    intro S fav A B n1 n2 hSk h1 h2 hfav hSt hf
    obtain ⟨n1, rfl⟩ : ∃ j, n1 = j + 1 := ⟨n1 - 1, by omega⟩
    obtain ⟨n2, rfl⟩ : ∃ j, n2 = j + 1 := ⟨n2 - 1, by omega⟩
    have hb := hSt.1.1
    have h7 : (2 : Nat) ^ N ≤ 2 ^ 7 := Nat.pow_le_pow_right (by decide) (by omega)
    have e7 : (2 : Nat) ^ 7 = 128 := by decide
    have hS : S < 2 ^ N := by omega
    have sh := q_bits3 N (by omega)
    have c1 : ¬ nI (2 ^ N) ≤ nI S := nI_ge hS (by omega)
    have am := q_among f (by omega) hS
    have hT : tbf f N < 128 := Nat.lt_of_lt_of_le (tbf_lt f N) (by omega)
    have es : sm (wf f p N) (S + 1) = sm (wf f p N) S + wf f p N S := rfl
    have eL : X5_late_h58 (X5_late_l58 n2) (nI c) (nI p) v3 w (nI fav) (nI (sm (wf f p N) S)) (nI S) B = ob (X5_copies 0 220 B) (fun _ Ia14 => X5_late_l86 (X5_late_l58 n2) hF (nI c) (nI p) v3 w (nI fav) (nI (sm (wf f p N) S)) (nI S) 1 1 0 Ia14) := by
      unfold X5_late_h58
      rw [hSt.1.2.1.2, sh, if_neg c1]
    obtain ⟨ql1, ql2⟩ := q_late1 (c := c) (p := p) hSt (show S < 128 by omega) hp hc (X5_late_l58 n2) v3 w (nI fav) (nI (sm (wf f p N) S))
    rw [hf] at ql1 ql2
    by_cases q : sb f S.testBit N = true
    · obtain ⟨W, A2, B1, B2, B3, p1, p2, p3, p4, p5⟩ := ql1 q
      have ew : wf f p N S = wg f S.testBit p N := if_pos q
      have hch := q_chance (A := A2) (S := S) (T := tbf f N) (p := p) (q := 10 - p) (by omega) hT hp rfl
      rw [q_wgT f (show N ≤ 7 by omega)] at hch
      have e10 : 10 - nI p = nI (10 - p) := pk_sub (a := 10) hp
      by_cases qW : W < v3
      · obtain ⟨R, A4, B4, k1, k2, k3⟩ := ih (S + 1) fav A2 B3 n1 n2 (by omega) (by omega) (by omega) (by rw [es]; omega) (hSt.fr p5) (by rw [sO_fr p5]; exact hf)
        refine ⟨R, A4, B4, ?_, ?_, p5.tr k3⟩
        · show X4_late_h73 (X4_late_l73 n1) (nI c) (nI p) v3 w (nI (tbf f N)) (nI fav) (nI (tn f N)) (nI S) A = _
          unfold X4_late_h73
          rw [hSt.1.2.1.1, sh, if_neg c1, if_pos (am.mpr q), p1, ob_s, if_pos qW, nI_1]
          exact k1
        · show X5_late_h58 (X5_late_l58 n2) (nI c) (nI p) v3 w (nI fav) (nI (sm (wf f p N) S)) (nI S) B = _
          rw [eL, p2, ob_s, p3]
          unfold X5_late_b202
          rw [if_neg n10, p4, ob_s, if_pos qW, nI_1, nI_add, Int32.add_zero]
          rw [es, ew] at k2
          exact k2
      · obtain ⟨R, A4, B4, k1, k2, k3⟩ := ih (S + 1) (fav + wg f S.testBit p N) A2 B3 n1 n2 (by omega) (by omega) (by omega) (by rw [es, ew]; omega) (hSt.fr p5) (by rw [sO_fr p5]; exact hf)
        refine ⟨R, A4, B4, ?_, ?_, p5.tr k3⟩
        · show X4_late_h73 (X4_late_l73 n1) (nI c) (nI p) v3 w (nI (tbf f N)) (nI fav) (nI (tn f N)) (nI S) A = _
          unfold X4_late_h73
          rw [hSt.1.2.1.1, sh, if_neg c1, if_pos (am.mpr q), p1, ob_s, if_neg qW, e10, hch, ob_s, nI_1, nI_add]
          exact k1
        · show X5_late_h58 (X5_late_l58 n2) (nI c) (nI p) v3 w (nI fav) (nI (sm (wf f p N) S)) (nI S) B = _
          rw [eL, p2, ob_s, p3]
          unfold X5_late_b202
          rw [if_neg n10, p4, ob_s, if_neg qW, nI_1, nI_add, nI_add]
          rw [es, ew] at k2
          exact k2
    · obtain ⟨B1, B2, p2, p3, p5⟩ := ql2 q
      have ew : wf f p N S = 0 := if_neg q
      obtain ⟨R, A4, B4, k1, k2, k3⟩ := ih (S + 1) fav A B2 n1 n2 (by omega) (by omega) (by omega) (by rw [es, ew]; omega) (hSt.fr p5) hf
      refine ⟨R, A4, B4, ?_, ?_, p5.tr k3⟩
      · show X4_late_h73 (X4_late_l73 n1) (nI c) (nI p) v3 w (nI (tbf f N)) (nI fav) (nI (tn f N)) (nI S) A = _
        unfold X4_late_h73
        rw [hSt.1.2.1.1, sh, if_neg c1, if_neg (fun z => q (am.mp z)), nI_1]
        exact k1
      · show X5_late_h58 (X5_late_l58 n2) (nI c) (nI p) v3 w (nI fav) (nI (sm (wf f p N) S)) (nI S) B = _
        rw [eL, p2, ob_s, p3]
        unfold X5_late_b202
        rw [if_pos rfl, nI_1]
        rw [es, ew, Nat.add_zero] at k2
        exact k2
theorem op_late (v p x w : Int32) : Op (X4_late v p x w) (X5_late v p x w) := Op.tr (by
  intro A B hI
  obtain ⟨N, F, L, m, hSt⟩ := q_st hI
  have hb := hSt.1.1
  rcases q_r1 v 20 20 20 q_20.1 q_20.2 (by decide) with ⟨h, e⟩ | ⟨h0, h, e⟩ | ⟨c, hc1, hc, rfl, a0, a1, e⟩
  · refine ⟨-1, A, B, ?_, ?_, Fr.rf⟩
    · unfold X4_late
      rw [if_pos h]
    · unfold X5_late
      rw [e, ob_s, if_pos rfl]
  · refine ⟨-1, A, B, ?_, ?_, Fr.rf⟩
    · unfold X4_late
      rw [if_neg h0, if_pos h]
    · unfold X5_late
      rw [e, ob_s, if_pos rfl]
  · rcases q_r0 p 10 10 10 q_10.1 q_10.2 (by decide) with ⟨h, e2⟩ | ⟨h0, h, e2⟩ | ⟨p, hp, rfl, b0, b1, e2⟩
    · refine ⟨-1, A, B, ?_, ?_, Fr.rf⟩
      · unfold X4_late
        rw [if_neg a0, if_neg a1, if_pos h]
      · unfold X5_late
        rw [e, ob_s, if_neg n10, e2, ob_s, if_pos rfl]
    · refine ⟨-1, A, B, ?_, ?_, Fr.rf⟩
      · unfold X4_late
        rw [if_neg a0, if_neg a1, if_neg h0, if_pos h]
      · unfold X5_late
        rw [e, ob_s, if_neg n10, e2, ob_s, if_pos rfl]
    · rcases q_r0 x 999 999 999 q_999.1 q_999.2 (by decide) with ⟨h, e3⟩ | ⟨h0, h, e3⟩ | ⟨y, hy, -, c0, c1, e3⟩
      · refine ⟨-1, A, B, ?_, ?_, Fr.rf⟩
        · unfold X4_late
          rw [if_neg a0, if_neg a1, if_neg b0, if_neg b1, if_pos h]
        · unfold X5_late
          rw [e, ob_s, if_neg n10, e2, ob_s, if_neg n10, e3, ob_s, if_pos rfl]
      · refine ⟨-1, A, B, ?_, ?_, Fr.rf⟩
        · unfold X4_late
          rw [if_neg a0, if_neg a1, if_neg b0, if_neg b1, if_neg h0, if_pos h]
        · unfold X5_late
          rw [e, ob_s, if_neg n10, e2, ob_s, if_neg n10, e3, ob_s, if_pos rfl]
      · rcases q_either w A B with ⟨f1, f2, -⟩ | ⟨f1, f2, -⟩
        · refine ⟨-1, A, B, ?_, ?_, Fr.rf⟩
          · unfold X4_late
            rw [if_neg a0, if_neg a1, if_neg b0, if_neg b1, if_neg c0, if_neg c1, f1, ob_s, if_pos rfl]
          · unfold X5_late
            rw [e, ob_s, if_neg n10, e2, ob_s, if_neg n10, e3, ob_s, if_neg n10, f2, ob_s, if_pos rfl]
        · have h7 : (2 : Nat) ^ N ≤ 2 ^ 7 := Nat.pow_le_pow_right (by decide) (by omega)
          have e7 : (2 : Nat) ^ 7 = 128 := by decide
          have s1 := q_soonBits hSt
          have hT : tbf (sO A) N < 128 := Nat.lt_of_lt_of_le (tbf_lt _ N) (by omega)
          have s2 := q_chance0 (A := A) hT
          rw [q_tnT (sO A) (show N ≤ 7 by omega)] at s2
          obtain ⟨R, A2, B2, g1, g2, g3⟩ := q_late_loop hp hc (sO A) x w (2 ^ N) 0 0 A B hF hF (by omega) (show 2 ^ N < 1024 by omega) (show 2 ^ N < 1024 by omega) (Nat.zero_le _) hSt rfl
          rw [nI_0] at g1
          have g2 : X5_late_l58 hF (nI c) (nI p) x w (nI 0) (nI 0) (nI 0) B = some (R, B2) := g2
          rw [nI_0] at g2
          refine ⟨R, A2, B2, ?_, ?_, g3⟩
          · unfold X4_late
            rw [if_neg a0, if_neg a1, if_neg b0, if_neg b1, if_neg c0, if_neg c1, f1, ob_s, if_neg n10, s1, ob_s, s2, ob_s]
            exact g1
          · unfold X5_late
            rw [e, ob_s, if_neg n10, e2, ob_s, if_neg n10, e3, ob_s, if_neg n10, f2, ob_s, if_neg n10]
            exact g2)
