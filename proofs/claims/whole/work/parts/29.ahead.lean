theorem q239 : (239 : Int32).toNatClampNeg = 239 ∧ hx 239 240 = true := ⟨by decide, by decide⟩
theorem q238 : (238 : Int32).toNatClampNeg = 238 ∧ hx 238 240 = true := ⟨by decide, by decide⟩
theorem q_rng (v : Int32) {hi : Nat} (hh : hi < 2 ^ 31) : v < 0 ∨ (¬ v < 0 ∧ nI hi < v) ∨ ∃ c, c ≤ hi ∧ v = nI c := by
  by_cases h0 : v < 0
  · exact Or.inl h0
  · by_cases h1 : nI hi < v
    · exact Or.inr (Or.inl ⟨h0, h1⟩)
    · have e0 : (0 : Int32).toInt = 0 := by decide
      rw [q_lt] at h0 h1
      rw [nI_toInt hh] at h1
      obtain ⟨c, _, c2, c3⟩ := q_nat (x := v) (lo := 0) (hi := hi) (by rw [q_le, nI_toInt (by decide)]; omega) (by rw [q_le, nI_toInt hh]; omega) (by decide) hh
      exact Or.inr (Or.inr ⟨c, c2, c3⟩)
theorem q_onB {p s N F L m x : Nat} {A B : hM} (hs : s ≤ 220) (hE : Ev A B N F L) (hR : Rc A B p s m x N) : X2_onBits p 4 A = some (bt (A (p + 1)) N, A) ∧ X5_onNow (nI s) B = some (bt (A (p + 1)) N, B) := by
  have hb := hE.1
  refine ⟨q_onBits (by omega) hE.2.1.1, ?_⟩
  rw [q_onNow (by omega) hs hE.2.1.2, bt_congr N (fun g hg => (hR g hg).on.symm)]
theorem q_parts {A B : hM} (h : Inv A B) : ∃ N F L m, Ev A B N F L ∧ m ≤ 999 ∧ Sd A B 26 0 N L m N ∧ Ab B N N ∧ No A B := by
  obtain ⟨N, F, L, m, hE, hm, hS, hx, -, hNo, -, -⟩ := h
  exact ⟨N, F, L, m, hE, hm, hS, ⟨fun z => absurd z (by omega), fun _ => hx⟩, hNo⟩
theorem op_behind (v w : Int32) : Op (X4_behind v w) (X5_behind v w) := Op.tr (by
  intro A B hI
  obtain ⟨N, F, L, m, hE, hm, hS, hab, -⟩ := q_parts hI
  have n60 : (60 : Int32) = nI 60 := rfl
  rcases q_rng v (hi := 60) (by decide) with h | ⟨h0, h⟩ | ⟨c, hc, rfl⟩
  · have e : X5_in v.toInt64 0 60 B = some (0, B) := q_in0 (lo := 0) (hi := 60) (by decide) (by decide) (fun z => by have z1 := z.1; rw [q_le] at z1; rw [q_lt] at h; omega) B
    exact ⟨-1, A, B, by simp only [X4_behind, h, ↓reduceIte], by simp only [X5_behind, e, ob_s, ↓reduceIte], Fr.rf⟩
  · have e : X5_in v.toInt64 0 60 B = some (0, B) := q_in0 (lo := 0) (hi := 60) (by decide) (by decide) (fun z => by have z1 := z.2; rw [n60, q_le] at z1; rw [q_lt] at h; omega) B
    have h : (60 : Int32) < v := h
    exact ⟨-1, A, B, by simp only [X4_behind, h0, h, ↓reduceIte], by simp only [X5_behind, e, ob_s, ↓reduceIte], Fr.rf⟩
  · have c0 : ¬ nI c < 0 := nI_pos (by omega)
    have c1 : ¬ (60 : Int32) < nI c := nI_nlt (a := 60) hc (by decide)
    have e : X5_in (nI c).toInt64 0 60 B = some (1, B) := q_in1 (lo := 0) (hi := 60) (by decide) (by decide) ⟨nI_pos' (by omega), nI_le (b := 60) hc (by decide)⟩ B
    rcases q_either w A B with ⟨e1, e2, h0, h1⟩ | ⟨e1, e2, h⟩
    · exact ⟨-1, A, B, by simp only [X4_behind, c0, c1, e1, ob_s, ↓reduceIte], by simp only [X5_behind, e, e2, n10, ob_s, ↓reduceIte], Fr.rf⟩
    · obtain ⟨A1, B1, t1, t2, t3, t4⟩ := q_try hE hS
      obtain ⟨A2, B2, g1, g2, g3, g4⟩ := q_goBy (F := F) (n := c) (Or.inr rfl) (by decide) (by omega) (show m + c ≤ 2900 by omega) (hE.fr (Or.inr rfl) t4) t3 (hab.fr t4)
      have hE2 := (hE.fr (Or.inr rfl) t4).fr (Or.inr rfl) g4
      have g2 : X5_minutes 220 (nI c) B1 = some (0, B2) := g2
      have k2 : A2 31 1 = B2 113 239 := g3.2.1
      by_cases hw : w = 0
      · refine ⟨A2 31 1 + 10000, A2, B2, by simp only [X4_behind, c0, c1, e1, n10, t1, g1, ob_s, ↓reduceIte, if_pos hw], by simp only [X5_behind, e, e2, n10, t2, g2, q239, gd_t, k2, ob_s, ↓reduceIte, if_pos hw], t4.tr g4⟩
      · obtain ⟨o1, o2⟩ := q_onB (s := 220) (by decide) hE2 g3.2.2.2.1
        have o2 : X5_onNow 220 B2 = some (bt (A2 (31 + 1)) N, B2) := o2
        exact ⟨bt (A2 (31 + 1)) N, A2, B2, by simp only [X4_behind, c0, c1, e1, n10, t1, g1, hw, o1, ob_s, ↓reduceIte], by simp only [X5_behind, e, e2, n10, t2, g2, hw, o2, ob_s, ↓reduceIte], t4.tr g4⟩)
/-- one minute, written out -/
theorem q_min1 {s : Int32} {B B2 : hM} {V : Int32} (h : X5_goesOn s (hu B 92 38 0) = some (V, B2)) : X5_minutes s 1 B = some (0, hu B2 92 38 (hu B 92 38 0 92 38 ||| V)) := by
  have key : ∀ n, X5_minutes_l7 (n + 2) s 1 0 (hu B 92 38 0) = some (0, hu B2 92 38 (hu B 92 38 0 92 38 ||| V)) := by
    intro n
    have c1 : ¬ (1 : Int32) ≤ 0 := by decide
    have c2 : (1 : Int32) ≤ 1 := by decide
    have c3 : (0 : Int32) + 1 = 1 := by decide
    show X5_minutes_h7 (X5_minutes_l7 (n + 1)) s 1 0 _ = _
    simp only [X5_minutes_h7, c1, h, c3, ob_s, ↓reduceIte]
    show X5_minutes_h7 (X5_minutes_l7 n) s 1 1 _ = _
    simp only [X5_minutes_h7, c2, ↓reduceIte]
  exact key 1022
theorem q_one {p : Nat} {A A1 A2 : hM} {S : Int32} (h1 : X2_beginDue p 4 A = some (0, A1)) (h2 : X2_worthOfAll p 4 A1 = some (S, A1)) (h3 : X2_endMinute p 4 (hu A1 p 1 (A1 p 1 + S)) = some (0, A2)) : X2_goBy p 4 1 A = some (0, A2) := by
  have key : ∀ n, X2_goBy_l2 p 4 (n + 2) 1 0 A = some (0, A2) := by
    intro n
    have c1 : ¬ (1 : Int32) ≤ 0 := by decide
    have c2 : (1 : Int32) ≤ 1 := by decide
    have c3 : (0 : Int32) + 1 = 1 := by decide
    show X2_goBy_h2 p 4 (X2_goBy_l2 p 4 (n + 1)) 1 0 _ = _
    simp only [X2_goBy_h2, c1, h1, h2, h3, c3, ob_s, ↓reduceIte]
    show X2_goBy_h2 p 4 (X2_goBy_l2 p 4 n) 1 1 _ = _
    simp only [X2_goBy_h2, c2, ↓reduceIte]
  exact key 1022
/-- a minute of both, step by step -/
theorem q_step {p s N F L x m : Nat} {A B : hM} (hp : p = 26 ∨ p = 31) (hs : s ≤ 220) (hm : m ≤ 2899) (hE : Ev A B N F L) (hS : Sd A B p s N L m x) (hab : Ab B x N) :
    ∃ (A1 : hM) (S : Int32) (A2 B2 : hM), X2_beginDue p 4 A = some (0, A1) ∧ X2_worthOfAll p 4 A1 = some (S, A1) ∧ X2_endMinute p 4 (hu A1 p 1 (A1 p 1 + S)) = some (0, A2) ∧ X5_minutes (nI s) 1 B = some (0, B2) ∧ Sd A2 B2 p s N L (m + 1) x ∧ Fr A A2 B B2 p s := by
  have hb := hE.1
  obtain ⟨⟨m1, m2⟩, d1, d2, d3, d4⟩ := hS
  have hE0 : Ev A (hu B 92 38 0) N F L := hE.keep (fun _ _ _ => rfl) (q_hi _ _ (by decide)) (q_hi _ _ (by decide)) (q_hi _ _ (by decide)) (fun a _ _ => q_hr _ _ _ (by omega))
  have d30 : Rc A (hu B 92 38 0) p s m x N := fun g hg => (d3 g hg).keep rfl rfl rfl (q_ha _ _ _ _ (by decide)) (q_ha _ _ _ _ (by decide))
  have hab0 : Ab (hu B 92 38 0) x N := by
    unfold Ab
    rw [q_hi _ _ (show 37 ≠ 38 by decide)]
    exact hab
  obtain ⟨A1, S, A2, B2, e1, e2, -, e3, e4, e5, e6, e7, e8, e9, e10, e11, e12, e13⟩ := q_goesOn hp hs (show m ≤ 2900 by omega) hE0 d30 m1 (by rw [q_ha _ _ _ _ (by decide)]; exact m2) hab0 (fun a b => a + b)
  have ei : (A p 1 + S).toInt = (A p 1).toInt + S.toInt := q_addI (by omega) (by omega)
  rw [q_ha _ _ _ _ (show 113 ≠ 92 by decide)] at e7
  refine ⟨A1, S, A2, _, e1, e2, by rw [e3]; exact e4, q_min1 e5, ⟨⟨e9.1, ?_⟩, ?_, ?_, fun g hg => (e10 g hg).keep rfl rfl rfl ?_ ?_, fun l hl => ?_⟩, fun a ha => e11 a (by omega), fun a h1 h2 => ?_, fun i hi => ?_, fun i hi => ?_⟩
  · rw [q_ha _ _ _ _ (by decide)]
    exact e9.2
  · rw [q_ha _ _ _ _ (by decide), e6, e7, d1]
  · rw [e6, ei]
    omega
  · rw [q_ha _ _ _ _ (by decide)]
  · rw [q_ha _ _ _ _ (by decide)]
  · rw [q_ha _ _ _ _ (by decide), e13 _ (by omega) (by omega) (by omega), e11 (p + 4) (by omega), q_ha _ _ _ _ (by decide)]
    exact d4 l hl
  · rw [q_hr _ _ _ h2, e12 a h1, q_hr _ _ _ h2]
  · rw [q_hi _ _ hi, e12 92 (by decide), q_hi _ _ hi]
  · rw [q_ha _ _ _ _ (by decide), e13 i (by omega) (by omega) (by omega), q_ha _ _ _ _ (by decide)]
/-- one that is on is pinned, in both -/
theorem q_pinned {p s N F L m x g : Nat} {A B : hM} (hp : p = 26 ∨ p = 31) (hs : s ≤ 220) (hm2 : m ≤ 3000) (hE : Ev A B N F L) (hS : Sd A B p s N L m x) (hab : Ab B x N) (hg : g < N) (hon : A (p + 1) g = 1) :
    ∃ A1 B1 : hM, X2_finish p 4 (nI g) 3 A = some (0, A1) ∧ X5_ends (nI s) (nI g) 3 (nI m) B = some (0, B1) ∧ Sd A1 B1 p s N L m x ∧ Fr A A1 B B1 p s ∧ (∀ a, a ≠ p + 1 → a ≠ p + 2 → A1 a = A a) ∧ (∀ j, ¬ (s ≤ j ∧ j < s + 14) → B1 113 j = B 113 j) ∧ (∀ i, i ≠ g → A1 (p + 1) i = A (p + 1) i) := by
  have hb := hE.1
  obtain ⟨⟨m1, m2⟩, d1, d2, d3, d4⟩ := hS
  rcases d3 g hg with ⟨_, r1, _⟩ | ⟨hgx, ⟨r1, _⟩ | ⟨c, w, hc1, hc2, hw2, r1, r2, r3, r4⟩⟩
  · rw [r1] at hon
    exact absurd hon (by decide)
  · rw [r1] at hon
    exact absurd hon (by decide)
  · obtain ⟨A1, B1, f1, f2, f3, f4, f5, f6, f7⟩ := q_finS (c := 3) (w := w) hp hs hm2 hE d3 m1 hab hg hgx (by decide) hw2 r3 r4
    refine ⟨A1, B1, f1, f2, ⟨⟨?_, ?_⟩, ?_, ?_, f3, fun l hl => ?_⟩, ⟨fun a ha => f4 a (by omega) (by omega), fun a h1 _ => f5 a h1, fun i _ => by rw [f5 92 (by decide)], fun j hj => f6 j (by omega)⟩, f4, f6, f7⟩
    · rw [f4 p (by omega) (by omega)]
      exact m1
    · rw [f6 _ (by omega)]
      exact m2
    · rw [f4 p (by omega) (by omega), f6 _ (by omega)]
      exact d1
    · rw [f4 p (by omega) (by omega)]
      exact d2
    · rw [f4 (p + 4) (by omega) (by omega), f6 _ (by omega)]
      exact d4 l hl
/-- an hour of the trial, and what is had then -/
theorem q_hour {N F L m x : Nat} {A B : hM} (hm : m ≤ 2000) (hE : Ev A B N F L) (hS : Sd A B 31 220 N L m x) (hab : Ab B x N) : ∃ A1 B1 : hM, X2_goBy 31 4 60 A = some (0, A1) ∧ X5_hadThen B = some (A1 31 1, B1) ∧ Fr A A1 B B1 31 220 := by
  obtain ⟨A1, B1, g1, g2, g3, g4⟩ := q_goBy (F := F) (n := 60) (Or.inr rfl) (by decide) (by decide) (show m + 60 ≤ 2900 by omega) hE hS hab
  have g2 : X5_minutes 220 60 B = some (0, B1) := g2
  have k2 : A1 31 1 = B1 113 239 := g3.2.1
  exact ⟨A1, B1, g1, by simp only [X5_hadThen, g2, q239, k2, gd_t, ob_s], g4⟩
