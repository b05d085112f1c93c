/-- what a forecast needs, and keeps -/
def St (A B : hM) (N F L m : Nat) : Prop := Ev A B N F L ∧ m ≤ 999 ∧ Sd A B 26 0 N L m N ∧ Ab B N N
theorem St.fr {A A' B B' : hM} {N F L m : Nat} (h : St A B N F L m) (hF : Fr A A' B B' 31 220) : St A' B' N F L m := by
  obtain ⟨hE, hm, hS, hab⟩ := h
  have hb := hE.1
  exact ⟨hE.fr (Or.inr rfl) hF, hm, hS.keep (by omega) (by omega) (fun a _ h2 => hF.1 a (by omega)) (fun j _ h2 => hF.2.2.2 j (by omega)), hab.fr hF⟩
theorem q_st {A B : hM} (hI : Inv A B) : ∃ N F L m, St A B N F L m := by
  obtain ⟨N, F, L, m, hE, hm, hS, hab, -⟩ := q_parts hI
  exact ⟨N, F, L, m, hE, hm, hS, hab⟩
theorem q_mx1 {u h : Int32} (q : u ≤ h) : hmax u h = h := by
  rw [q_eq, q_hmax]
  rw [q_le] at q
  split <;> omega
theorem q_mx2 {u h : Int32} (q : ¬ u ≤ h) : hmax u h = u := by
  rw [q_eq, q_hmax]
  rw [q_le] at q
  split <;> omega
/-- which it is: none yet, or one -/
def Wh (x : Int32) : Prop := x = -4 ∨ ∃ j : Nat, j < 1000 ∧ x = nI j
theorem q_which {x : Int32} (h : Wh x) (had w : Int32) : ∃ r, (∀ A, X4_whichOrHad x had w A = some (r, A)) ∧ (∀ B, X5_stop_b89 w had x B = some (r, B)) ∧ (∀ B, X5_best_b130 w had x B = some (r, B)) ∧ (∀ B, X5_both_b173 w had x B = some (r, B)) ∧ (∀ B, X5_never_b106 w had x B = some (r, B)) := by
  rcases h with rfl | ⟨j, hj, rfl⟩
  · have c : (-4 : Int32) < 0 := by decide
    refine ⟨-4, fun A => ?_, fun B => ?_, fun B => ?_, fun B => ?_, fun B => ?_⟩
    · unfold X4_whichOrHad
      rw [if_pos rfl]
    · unfold X5_stop_b89
      rw [if_pos c]
    · unfold X5_best_b130
      rw [if_pos c]
    · unfold X5_both_b173
      rw [if_pos c]
    · unfold X5_never_b106
      rw [if_pos c]
  · have c : ¬ nI j < 0 := nI_pos (by omega)
    have c2 : ¬ nI j = -4 := by
      intro z
      have z2 : (-4 : Int32) < 0 := by decide
      rw [← z] at z2
      exact c z2
    by_cases hw : w = 0
    · refine ⟨nI j, fun A => ?_, fun B => ?_, fun B => ?_, fun B => ?_, fun B => ?_⟩
      · unfold X4_whichOrHad
        rw [if_neg c2, if_pos hw]
      · unfold X5_stop_b89
        rw [if_neg c, if_pos hw]
      · unfold X5_best_b130
        rw [if_neg c, if_pos hw]
      · unfold X5_both_b173
        rw [if_neg c, if_pos hw]
      · unfold X5_never_b106
        rw [if_neg c, if_pos hw]
    · refine ⟨had + 10000, fun A => ?_, fun B => ?_, fun B => ?_, fun B => ?_, fun B => ?_⟩
      · unfold X4_whichOrHad
        rw [if_neg c2, if_neg hw]
      · unfold X5_stop_b89
        rw [if_neg c, if_neg hw]
      · unfold X5_best_b130
        rw [if_neg c, if_neg hw]
      · unfold X5_both_b173
        rw [if_neg c, if_neg hw]
      · unfold X5_never_b106
        rw [if_neg c, if_neg hw]
theorem q_asItIs {A B : hM} {N F L m : Nat} (h : St A B N F L m) : ∃ W A1 B1, X4_hadAsItIs A = some (W, A1) ∧ X5_hadAsItIs B = some (W, B1) ∧ Fr A A1 B B1 31 220 := by
  obtain ⟨hE, hm, hS, hab⟩ := h
  obtain ⟨A1, B1, t1, t2, t3, t4⟩ := q_try hE hS
  obtain ⟨A2, B2, g1, g2, g3⟩ := q_hour (show m ≤ 2000 by omega) (hE.fr (Or.inr rfl) t4) t3 (hab.fr t4)
  exact ⟨A2 31 1, A2, B2, by simp only [X4_hadAsItIs, t1, g1, ob_s], by simp only [X5_hadAsItIs, t2, g2, ob_s], t4.tr g3⟩
theorem q_220 {g : Nat} (hg : g < 20) : (220 + nI g).toNatClampNeg = 220 + g ∧ hx (220 + nI g) 240 = true := by
  rw [show (220 : Int32) = nI 220 from rfl, nI_add]
  exact ⟨nI_clamp (by omega), q_hx (by omega) (by decide)⟩
theorem q_pre {N F L x g c : Nat} (hc : c ≤ 40) : ∀ (r j m : Nat) (A B : hM) (n1 n2 : Nat), j + r = c → r < n1 → m + r ≤ 2800 → Ev A B N F L → Sd A B 31 220 N L m x → Ab B x N →
    ∃ A1 B1 : hM, X2_goBy_l2 31 4 n1 (nI c) (nI j) A = some (0, A1) ∧ X5_hadStopped_l10 (n2 + r) (nI g) (nI c) (nI j) B = X5_hadStopped_l10 n2 (nI g) (nI c) (nI c) B1 ∧ Sd A1 B1 31 220 N L (m + r) x ∧ Fr A A1 B B1 31 220 := by
  intro r
  induction r with
  | zero =>
    intro j m A B n1 n2 hj h1 hm hE hS hab
    obtain ⟨n1, rfl⟩ : ∃ n, n1 = n + 1 := ⟨n1 - 1, by omega⟩
    obtain rfl : j = c := by omega
    have c1 : nI j ≤ nI j := nI_le (by omega) (by omega)
    refine ⟨A, B, ?_, rfl, hS, Fr.rf⟩
    show X2_goBy_h2 31 4 _ (nI j) (nI j) A = _
    simp only [X2_goBy_h2, c1, ↓reduceIte]
  | succ r ih =>
    intro j m A B n1 n2 hj h1 hm hE hS hab
    obtain ⟨n1, rfl⟩ : ∃ n, n1 = n + 1 := ⟨n1 - 1, by omega⟩
    have c1 : ¬ nI c ≤ nI j := nI_ge (by omega) (by omega)
    have c2 : nI j < nI c := nI_lt (by omega) (by omega)
    have c3 : ¬ (60 : Int32) ≤ nI j := nI_ge (b := 60) (by omega) (by decide)
    obtain ⟨A1, S, A2, B2, e1, e2, e3, e4, e5, e6⟩ := q_step (s := 220) (Or.inr rfl) (by decide) (by omega) hE hS hab
    have e4 : X5_minutes 220 1 B = some (0, B2) := e4
    obtain ⟨A3, B3, g1, g2, g3, g4⟩ := ih (j + 1) (m + 1) A2 B2 n1 n2 (by omega) (by omega) (by omega) (hE.fr (Or.inr rfl) e6) e5 (hab.fr e6)
    refine ⟨A3, B3, ?_, ?_, by rw [show m + (r + 1) = m + 1 + r by omega]; exact g3, e6.tr g4⟩
    · show X2_goBy_h2 31 4 (X2_goBy_l2 31 4 n1) (nI c) (nI j) A = _
      have e0 : A1 31 1 = A1 31 1 := rfl
      simp only [X2_goBy_h2, c1, e1, e2, e3, ob_s, nI_1, ↓reduceIte]
      exact g1
    · show X5_hadStopped_h10 (X5_hadStopped_l10 (n2 + r)) (nI g) (nI c) (nI j) B = _
      simp only [X5_hadStopped_h10, X5_hadStopped_b52, c2, c3, e4, ob_s, nI_1, ↓reduceIte]
      exact g2
theorem q_post {N F L x g c : Nat} (hg : g < N) : ∀ (r j m : Nat) (A B : hM) (n1 n2 : Nat), c ≤ j → j + r = 60 → r < n1 → r < n2 → m + r ≤ 2800 → Ev A B N F L → Sd A B 31 220 N L m x → Ab B x N →
    ∃ W A1 B1, X4_hadStopping_l25 n1 (nI g) (nI j) A = some (W, A1) ∧ X5_hadStopped_l10 n2 (nI g) (nI c) (nI j) B = some (W, B1) ∧ Fr A A1 B B1 31 220 := by
  intro r
  induction r with
  | zero =>
    intro j m A B n1 n2 hcj hj h1 h2 hm hE hS hab
    obtain ⟨n1, rfl⟩ : ∃ n, n1 = n + 1 := ⟨n1 - 1, by omega⟩
    obtain ⟨n2, rfl⟩ : ∃ n, n2 = n + 1 := ⟨n2 - 1, by omega⟩
    obtain rfl : j = 60 := by omega
    have c1 : (60 : Int32) ≤ nI 60 := by decide
    have k1 : A 31 1 = B 113 239 := hS.2.1
    refine ⟨A 31 1, A, B, ?_, ?_, Fr.rf⟩
    · show X4_hadStopping_h25 _ (nI g) (nI 60) A = _
      simp only [X4_hadStopping_h25, c1, ↓reduceIte]
    · show X5_hadStopped_h10 _ (nI g) (nI c) (nI 60) B = _
      simp only [X5_hadStopped_h10, c1, q239, k1, gd_t, ↓reduceIte]
  | succ r ih =>
    intro j m A B n1 n2 hcj hj h1 h2 hm hE hS hab
    obtain ⟨n1, rfl⟩ : ∃ n, n1 = n + 1 := ⟨n1 - 1, by omega⟩
    obtain ⟨n2, rfl⟩ : ∃ n, n2 = n + 1 := ⟨n2 - 1, by omega⟩
    have hb := hE.1
    have c2 : ¬ nI j < nI c := nI_nlt (by omega) (by omega)
    have c3 : ¬ (60 : Int32) ≤ nI j := nI_ge (b := 60) (by omega) (by decide)
    have x7 : hx (nI g) 7 = true := q_hx (by omega) (by decide)
    have i7 : (nI g).toNatClampNeg = g := nI_clamp (by omega)
    obtain ⟨s0, s0x⟩ := q_220 (g := g) (by omega)
    have on2 : A 32 g = 1 ↔ B 113 (220 + g) = 1 := (hS.2.2.2.1 g hg).on
    by_cases q : A 32 g = 1
    · have q2 := on2.mp q
      obtain ⟨A1, B1, f1, f2, f3, f4, -⟩ := q_pinned (s := 220) (Or.inr rfl) (by decide) (show m ≤ 3000 by omega) hE hS hab hg q
      have f2 : X5_ends 220 (nI g) 3 (nI m) B = some (0, B1) := f2
      have m2 : B 113 238 = nI m := hS.1.2
      obtain ⟨A1', S, A2, B2, e1, e2, e3, e4, e5, e6⟩ := q_step (s := 220) (Or.inr rfl) (by decide) (by omega) (hE.fr (Or.inr rfl) f4) f3 (hab.fr f4)
      have e4 : X5_minutes 220 1 B1 = some (0, B2) := e4
      have e3 := q_one e1 e2 e3
      have ff := f4.tr e6
      obtain ⟨W, A3, B3, g1, g2, g4⟩ := ih (j + 1) (m + 1) A2 B2 n1 n2 (by omega) (by omega) (by omega) (by omega) (by omega) (hE.fr (Or.inr rfl) ff) e5 (hab.fr ff)
      refine ⟨W, A3, B3, ?_, ?_, ff.tr g4⟩
      · show X4_hadStopping_h25 (X4_hadStopping_l25 n1) (nI g) (nI j) A = _
        simp only [X4_hadStopping_h25, X4_hadStopping_b57, c3, x7, i7, q, f1, e3, gd_t, ob_s, nI_1, ↓reduceIte]
        exact g1
      · show X5_hadStopped_h10 (X5_hadStopped_l10 n2) (nI g) (nI c) (nI j) B = _
        simp only [X5_hadStopped_h10, X5_hadStopped_b52, c2, c3, s0, s0x, q2, q238, m2, f2, e4, gd_t, ob_s, nI_1, ↓reduceIte]
        exact g2
    · have q2 : ¬ B 113 (220 + g) = 1 := fun z => q (on2.mpr z)
      obtain ⟨A1', S, A2, B2, e1, e2, e3, e4, e5, e6⟩ := q_step (s := 220) (Or.inr rfl) (by decide) (by omega) hE hS hab
      have e4 : X5_minutes 220 1 B = some (0, B2) := e4
      have e3 := q_one e1 e2 e3
      obtain ⟨W, A3, B3, g1, g2, g4⟩ := ih (j + 1) (m + 1) A2 B2 n1 n2 (by omega) (by omega) (by omega) (by omega) (by omega) (hE.fr (Or.inr rfl) e6) e5 (hab.fr e6)
      refine ⟨W, A3, B3, ?_, ?_, e6.tr g4⟩
      · show X4_hadStopping_h25 (X4_hadStopping_l25 n1) (nI g) (nI j) A = _
        simp only [X4_hadStopping_h25, X4_hadStopping_b57, c3, x7, i7, q, e3, gd_t, ob_s, nI_1, ↓reduceIte]
        exact g1
      · show X5_hadStopped_h10 (X5_hadStopped_l10 n2) (nI g) (nI c) (nI j) B = _
        simp only [X5_hadStopped_h10, X5_hadStopped_b52, c2, c3, s0, s0x, q2, e4, gd_t, ob_s, nI_1, ↓reduceIte]
        exact g2
theorem q_stopping {A B : hM} {N F L m g c : Nat} (h : St A B N F L m) (hg : g < N) (hc : c ≤ 40) : ∃ W A1 B1, X4_hadStopping (nI g) (nI c) A = some (W, A1) ∧ X5_hadStopped (nI g) (nI c) B = some (W, B1) ∧ Fr A A1 B B1 31 220 := by
  obtain ⟨hE, hm, hS, hab⟩ := h
  obtain ⟨A1, B1, t1, t2, t3, t4⟩ := q_try hE hS
  have hE1 := hE.fr (Or.inr rfl) t4
  obtain ⟨A2, B2, p1, p2, p3, p4⟩ := q_pre (N := N) (F := F) (L := L) (g := g) hc c 0 m A1 B1 hF (1024 - c) (by omega) (show c < 1024 by omega) (by omega) hE1 t3 (hab.fr t4)
  have ff := t4.tr p4
  obtain ⟨W, A3, B3, w1, w2, w3⟩ := q_post (N := N) (F := F) (L := L) (c := c) hg (60 - c) c (m + c) A2 B2 hF (1024 - c) (Nat.le_refl _) (by omega) (show 60 - c < 1024 by omega) (by omega) (by omega) (hE.fr (Or.inr rfl) ff) p3 (hab.fr ff)
  have hh : 1024 - c + c = hF := show 1024 - c + c = 1024 by omega
  rw [hh, nI_0] at p2
  rw [nI_0] at p1
  have p1 : X2_goBy 31 4 (nI c) A1 = some (0, A2) := p1
  refine ⟨W, A3, B3, ?_, ?_, ff.tr w3⟩
  · unfold X4_hadStopping
    rw [t1, ob_s, p1, ob_s]
    exact w1
  · unfold X5_hadStopped
    rw [t2, ob_s, p2]
    exact w2
theorem q_stop_loop {N F L m g : Nat} (hg : g < N) (w : Int32) : ∀ (r j : Nat) (wh had : Int32) (A B : hM) (n1 n2 : Nat), j + r = 41 → r < n1 → r < n2 → Wh wh → St A B N F L m →
    ∃ R A1 B1, X4_stop_l58 n1 (nI g) w wh had (nI j) A = some (R, A1) ∧ X5_stop_l45 n2 (nI g) w had wh (nI j) B = some (R, B1) ∧ Fr A A1 B B1 31 220 := by
  intro r
  induction r with
  | zero =>
    intro j wh had A B n1 n2 hj h1 h2 hwh hS
    obtain ⟨n1, rfl⟩ : ∃ n, n1 = n + 1 := ⟨n1 - 1, by omega⟩
    obtain ⟨n2, rfl⟩ : ∃ n, n2 = n + 1 := ⟨n2 - 1, by omega⟩
    obtain rfl : j = 41 := by omega
    have c1 : (40 : Int32) < nI 41 := by decide
    obtain ⟨R, r1, r2, -⟩ := q_which hwh had w
    refine ⟨R, A, B, ?_, ?_, Fr.rf⟩
    · show X4_stop_h58 _ (nI g) w wh had (nI 41) A = _
      simp only [X4_stop_h58, c1, r1, ob_s, ↓reduceIte]
    · show X5_stop_h45 _ (nI g) w had wh (nI 41) B = _
      simp only [X5_stop_h45, c1, r2, ↓reduceIte]
  | succ r ih =>
    intro j wh had A B n1 n2 hj h1 h2 hwh hS
    obtain ⟨n1, rfl⟩ : ∃ n, n1 = n + 1 := ⟨n1 - 1, by omega⟩
    obtain ⟨n2, rfl⟩ : ∃ n, n2 = n + 1 := ⟨n2 - 1, by omega⟩
    have c1 : ¬ (40 : Int32) < nI j := nI_nlt (a := 40) (by omega) (by decide)
    obtain ⟨W, A1, B1, w1, w2, w3⟩ := q_stopping hS hg (show j ≤ 40 by omega)
    by_cases q : W ≤ had
    · have q1 := q_mx1 q
      obtain ⟨R, A2, B2, g1, g2, g3⟩ := ih (j + 1) wh had A1 B1 n1 n2 (by omega) (by omega) (by omega) hwh (hS.fr w3)
      refine ⟨R, A2, B2, ?_, ?_, w3.tr g3⟩
      · show X4_stop_h58 (X4_stop_l58 n1) (nI g) w wh had (nI j) A = _
        simp only [X4_stop_h58, c1, w1, q, ob_s, nI_1, ↓reduceIte]
        exact g1
      · show X5_stop_h45 (X5_stop_l45 n2) (nI g) w had wh (nI j) B = _
        simp only [X5_stop_h45, X5_stop_b74, c1, w2, q, q_larger, q1, ob_s, nI_1, ↓reduceIte]
        exact g2
    · have q1 := q_mx2 q
      obtain ⟨R, A2, B2, g1, g2, g3⟩ := ih (j + 1) (nI j) W A1 B1 n1 n2 (by omega) (by omega) (by omega) (Or.inr ⟨j, by omega, rfl⟩) (hS.fr w3)
      refine ⟨R, A2, B2, ?_, ?_, w3.tr g3⟩
      · show X4_stop_h58 (X4_stop_l58 n1) (nI g) w wh had (nI j) A = _
        simp only [X4_stop_h58, c1, w1, q, ob_s, nI_1, ↓reduceIte]
        exact g1
      · show X5_stop_h45 (X5_stop_l45 n2) (nI g) w had wh (nI j) B = _
        simp only [X5_stop_h45, X5_stop_b74, c1, w2, q, q_larger, q1, ob_s, nI_1, ↓reduceIte]
        exact g2
theorem op_stop (v w : Int32) : Op (X4_stop v w) (X5_stop v w) := Op.tr (by
  intro A B hI
  obtain ⟨N, F, L, m, hSt⟩ := q_st hI
  obtain ⟨hE, hm, hS, hab⟩ := hSt
  have hb := hE.1
  have no : (v < 0 ∨ nI N ≤ v) → ∃ r A' B', X4_stop v w A = some (r, A') ∧ X5_stop v w B = some (r, B') ∧ Fr A A' B B' 31 220 := by
    intro h
    obtain ⟨e1, e2⟩ := q_gout hb.1 hE.2.1.1 hE.2.1.2 h
    exact ⟨-1, A, B, by simp only [X4_stop, e1, ob_s, ↓reduceIte], by simp only [X5_stop, e2, ob_s, ↓reduceIte], Fr.rf⟩
  rcases pk_ix v (n := N) (by omega) with h | h | ⟨g, hg, rfl⟩
  · exact no (Or.inl h)
  · exact no (Or.inr h)
  · obtain ⟨e1, e2⟩ := q_gin hb.1 hE.2.1.1 hE.2.1.2 hg
    rcases q_either w A B with ⟨f1, f2, -⟩ | ⟨f1, f2, -⟩
    · exact ⟨-1, A, B, by simp only [X4_stop, e1, f1, n10, ob_s, ↓reduceIte], by simp only [X5_stop, e2, f2, n10, ob_s, ↓reduceIte], Fr.rf⟩
    · have x7 : hx (nI g) 7 = true := q_hx (by omega) (by decide)
      have x240 : hx (nI g) 240 = true := q_hx (by omega) (by decide)
      have i7 : (nI g).toNatClampNeg = g := nI_clamp (by omega)
      have hR := hS.2.2.2.1 g hg
      have go : ¬ A 27 g = 2 → ¬ A 27 g = 3 → B 113 g ≤ 1 → ∃ r A' B', X4_stop (nI g) w A = some (r, A') ∧ X5_stop (nI g) w B = some (r, B') ∧ Fr A A' B B' 31 220 := by
        intro h2 h3 h1
        obtain ⟨W, A1, B1, w1, w2, w3⟩ := q_asItIs (A := A) (B := B) ⟨hE, hm, hS, hab⟩
        have hSt1 : St A1 B1 N F L m := St.fr ⟨hE, hm, hS, hab⟩ w3
        obtain ⟨R, A2, B2, g1, g2, g3⟩ := q_stop_loop hg w 41 0 (-4) W A1 B1 hF hF (by decide) (show 41 < 1024 by decide) (show 41 < 1024 by decide) (Or.inl rfl) hSt1
        rw [nI_0] at g1 g2
        refine ⟨R, A2, B2, ?_, ?_, w3.tr g3⟩
        · unfold X4_stop
          rw [e1, ob_s, if_neg n10, f1, ob_s, if_neg n10, x7, gd_t, i7, if_neg h2, gd_t, if_neg h3, w1, ob_s]
          exact g1
        · unfold X5_stop
          rw [e2, ob_s, if_neg n10, f2, ob_s, if_neg n10, x240, gd_t, i7, if_pos h1, w2, ob_s]
          exact g2
      have bad : (A 27 g = 2 ∨ A 27 g = 3) → ¬ B 113 g ≤ 1 → ∃ r A' B', X4_stop (nI g) w A = some (r, A') ∧ X5_stop (nI g) w B = some (r, B') ∧ Fr A A' B B' 31 220 := by
        intro h2 h1
        refine ⟨-2, A, B, ?_, by simp only [X5_stop, e2, f2, n10, x240, i7, h1, gd_t, ob_s, ↓reduceIte], Fr.rf⟩
        rcases h2 with h2 | h2
        · simp only [X4_stop, e1, f1, n10, x7, i7, h2, gd_t, ob_s, ↓reduceIte]
        · have h3 : ¬ (3 : Int32) = 2 := by decide
          simp only [X4_stop, e1, f1, n10, x7, i7, h2, h3, gd_t, ob_s, ↓reduceIte]
      unfold Rg Sg at hR
      rw [show 0 + g = g by omega] at hR
      rcases hR with ⟨z, _⟩ | ⟨_, ⟨r1, r2, _⟩ | ⟨c, w', hc1, hc2, _, r1, r2, _⟩⟩
      · exact absurd z (by omega)
      · have r1 : A 27 g = 0 := r1
        refine go ?_ ?_ ?_
        · rw [r1]; decide
        · rw [r1]; decide
        · rw [r2]; decide
      · have r1 : A 27 g = nI c := r1
        rcases (show c = 1 ∨ c = 2 ∨ c = 3 by omega) with rfl | rfl | rfl
        · refine go ?_ ?_ ?_
          · rw [r1]; decide
          · rw [r1]; decide
          · rw [r2]; decide
        · exact bad (Or.inl r1) (by rw [r2]; decide)
        · exact bad (Or.inr r1) (by rw [r2]; decide))
