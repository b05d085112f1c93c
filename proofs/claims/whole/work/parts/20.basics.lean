theorem q_hu (I : hM) (k j : Nat) (v : Int32) : hu I k j v k j = v := by
  unfold hu
  rw [if_pos rfl, if_pos rfl]
theorem q_hi (I : hM) {k j i : Nat} (v : Int32) (h : i ≠ j) : hu I k j v k i = I k i := by
  unfold hu
  rw [if_pos rfl, if_neg h]
theorem q_ha (I : hM) {k a : Nat} (j : Nat) (v : Int32) (i : Nat) (h : a ≠ k) : hu I k j v a i = I a i := by
  unfold hu
  rw [if_neg h]
theorem q_hr (I : hM) {k a : Nat} (j : Nat) (v : Int32) (h : a ≠ k) : hu I k j v a = I a := hu_ne I k j v a h
theorem q_g0 (k : Option (Int32 × hM)) : gd (decide ((0 : Int32) = 0) || decide ((0 : Int32) = 1)) k = k := rfl
theorem q_g1 (k : Option (Int32 × hM)) : gd (decide ((1 : Int32) = 0) || decide ((1 : Int32) = 1)) k = k := rfl
theorem q_hx {i n : Nat} (h : i < n) (hn : n < 2 ^ 31) : hx (nI i) n = true := decide_eq_true (nI_in h hn)
theorem q_le (x y : Int32) : x ≤ y ↔ x.toInt ≤ y.toInt := Int32.le_iff_toInt_le
theorem q_lt (x y : Int32) : x < y ↔ x.toInt < y.toInt := Int32.lt_iff_toInt_lt
theorem q_eq (x y : Int32) : x = y ↔ x.toInt = y.toInt := Int32.toInt_inj.symm
theorem q_hmax (x y : Int32) : (hmax x y).toInt = if x.toInt < y.toInt then y.toInt else x.toInt := by
  unfold hmax
  by_cases h : x < y
  · rw [if_pos h, if_pos ((q_lt x y).mp h)]
  · rw [if_neg h, if_neg (fun z => h ((q_lt x y).mpr z))]
theorem q_hmin (x y : Int32) : (hmin x y).toInt = if y.toInt < x.toInt then y.toInt else x.toInt := by
  unfold hmin
  by_cases h : y < x
  · rw [if_pos h, if_pos ((q_lt y x).mp h)]
  · rw [if_neg h, if_neg (fun z => h ((q_lt y x).mpr z))]
theorem q_larger (x y : Int32) (I : hM) : X5_larger x y I = some (hmax y x, I) := by
  unfold X5_larger hmax
  by_cases h : y ≤ x
  · rw [if_pos h]
    by_cases h2 : y < x
    · rw [if_pos h2]
    · rw [if_neg h2]
      have h3 : x = y := by
        rw [q_eq]
        rw [q_le] at h
        rw [q_lt] at h2
        omega
      rw [h3]
  · rw [if_neg h]
    have h2 : ¬ y < x := by
      rw [q_le] at h
      rw [q_lt]
      omega
    rw [if_neg h2]
theorem q_smaller (x y : Int32) (I : hM) : X5_smaller x y I = some (hmin x y, I) := by
  unfold X5_smaller hmin
  by_cases h : y ≤ x
  · rw [if_pos h]
    by_cases h2 : y < x
    · rw [if_pos h2]
    · rw [if_neg h2]
      have h3 : x = y := by
        rw [q_eq]
        rw [q_le] at h
        rw [q_lt] at h2
        omega
      rw [h3]
  · rw [if_neg h]
    have h2 : ¬ y < x := by
      rw [q_le] at h
      rw [q_lt]
      omega
    rw [if_neg h2]
theorem q_hmax_comm (x y : Int32) : hmax x y = hmax y x := by
  rw [q_eq, q_hmax, q_hmax]
  split <;> split <;> omega
theorem q_hmin_comm (x y : Int32) : hmin x y = hmin y x := by
  rw [q_eq, q_hmin, q_hmin]
  split <;> split <;> omega
def wv (k i w a : Int32) : Int32 := if k = 1 then hmax (i - w * (a / 2)) (-20) else if k = 2 then hmax (hmin (i + w * a) 40) (-20) else if k = 3 then hmax (hmax (i - w * a) 0) (-20) else hmax (i - w * a) (-20)
theorem q_worthC (k i w a : Int32) (I : hM) : X4_worth k i w a I = some (wv k i w a, I) := by
  unfold X4_worth wv
  by_cases h1 : k = 1
  · rw [if_pos h1, if_pos h1]
    rfl
  · rw [if_neg h1, if_neg h1]
    by_cases h2 : k = 2
    · rw [if_pos h2, if_pos h2]
    · rw [if_neg h2, if_neg h2]
      by_cases h3 : k = 3
      · rw [if_pos h3, if_pos h3]
      · rw [if_neg h3, if_neg h3]
theorem q_worthM (k i w a : Int32) (I : hM) : X5_worthOf k i w a I = some (wv k i w a, I) := by
  unfold X5_worthOf wv
  by_cases h1 : k = 1
  · rw [if_pos h1, if_pos h1]
    have h3 : ¬ k = 3 := by rw [h1]; decide
    show X5_worthOf_b38 k _ I = _
    unfold X5_worthOf_b38
    rw [if_neg h3, q_larger]
    rfl
  · rw [if_neg h1, if_neg h1]
    by_cases h2 : k = 2
    · have h3 : ¬ k = 3 := by rw [h2]; decide
      rw [if_pos h2, if_pos h2, q_smaller]
      show X5_worthOf_b38 k _ I = _
      unfold X5_worthOf_b38
      rw [if_neg h3, q_larger, q_hmin_comm]
      rfl
    · rw [if_neg h2, if_neg h2]
      unfold X5_worthOf_b38
      by_cases h3 : k = 3
      · rw [if_pos h3, if_pos h3, q_larger, ob_s, q_larger]
        rfl
      · rw [if_neg h3, if_neg h3, q_larger]
        rfl
theorem q_wv {k i w a : Nat} (hi : i ≤ 20) (hw : w ≤ 5) (ha : a ≤ 5000) : -20 ≤ (wv (nI k) (nI i) (nI w) (nI a)).toInt ∧ (wv (nI k) (nI i) (nI w) (nI a)).toInt ≤ 40 := by
  have m20 : (-20 : Int32).toInt = -20 := by decide
  have p40 : (40 : Int32).toInt = 40 := by decide
  have p0 : (0 : Int32).toInt = 0 := by decide
  have hwa : w * a ≤ 25000 := Nat.le_trans (Nat.mul_le_mul hw ha) (by decide)
  have hwa2 : w * (a / 2) ≤ 25000 := Nat.le_trans (Nat.mul_le_mul hw (Nat.le_trans (Nat.div_le_self a 2) ha)) (by decide)
  have e1 : (nI i - nI w * nI a).toInt = (i : Int) - (w * a : Nat) := by
    rw [pk_mul]
    exact pk_sub_toInt (by omega) (by omega)
  have e2 : (nI i - nI w * (nI a / 2)).toInt = (i : Int) - (w * (a / 2) : Nat) := by
    rw [show (2 : Int32) = nI 2 from rfl, pk_div (by omega) (by decide) (by decide), pk_mul]
    exact pk_sub_toInt (by omega) (by omega)
  unfold wv
  split
  · rw [q_hmax, m20, e2]
    split <;> omega
  · split
    · rw [q_hmax, q_hmin, m20, p40]
      split <;> split <;> omega
    · split
      · rw [q_hmax, q_hmax, m20, p0, e1]
        split <;> split <;> omega
      · rw [q_hmax, m20, e1]
        split <;> omega
theorem q_cmpn (a b : Int64) : lg_cmp a b < 0 ↔ a < b := by
  unfold lg_cmp
  by_cases h : a > b
  · rw [if_pos h]
    have h2 : b.toInt < a.toInt := Int64.lt_iff_toInt_lt.mp h
    rw [Int64.lt_iff_toInt_lt]
    exact ⟨fun z => absurd z (by decide), fun z => by omega⟩
  · rw [if_neg h]
    have h2 : ¬ b.toInt < a.toInt := fun z => h (Int64.lt_iff_toInt_lt.mpr z)
    by_cases h3 : a = b
    · rw [if_pos h3]
      subst h3
      rw [Int64.lt_iff_toInt_lt]
      exact ⟨fun z => absurd z (by decide), fun z => by omega⟩
    · rw [if_neg h3]
      rw [Int64.lt_iff_toInt_lt]
      have h4 : a.toInt ≠ b.toInt := fun z => h3 (Int64.toInt_inj.mp z)
      exact ⟨fun _ => by omega, fun _ => by decide⟩
theorem q_cmpp (a b : Int64) : 0 < lg_cmp a b ↔ b < a := by
  unfold lg_cmp
  by_cases h : a > b
  · rw [if_pos h]
    exact ⟨fun _ => h, fun _ => by decide⟩
  · rw [if_neg h]
    by_cases h3 : a = b
    · rw [if_pos h3]
      exact ⟨fun z => absurd z (by decide), fun z => absurd z h⟩
    · rw [if_neg h3]
      exact ⟨fun z => absurd z (by decide), fun z => absurd z h⟩
theorem q_in {x lo hi : Int32} {a b : Int64} (ha : a = lo.toInt64) (hb : b = hi.toInt64) (I : hM) : X5_in x.toInt64 a b I = some (if lo ≤ x ∧ x ≤ hi then 1 else 0, I) := by
  unfold X5_in
  rw [q_g0, q_g1, ha, hb]
  have e1 : (lg_cmp x.toInt64 lo.toInt64 < 0) ↔ ¬ lo ≤ x := by
    rw [q_cmpn, Int64.lt_iff_toInt_lt, Int32.toInt_toInt64, Int32.toInt_toInt64, q_le]
    omega
  have e2 : (0 < lg_cmp x.toInt64 hi.toInt64) ↔ ¬ x ≤ hi := by
    rw [q_cmpp, Int64.lt_iff_toInt_lt, Int32.toInt_toInt64, Int32.toInt_toInt64, q_le]
    omega
  by_cases h1 : lo ≤ x
  · rw [if_neg (fun z => e1.mp z h1)]
    by_cases h2 : x ≤ hi
    · rw [if_neg (fun z => e2.mp z h2), if_pos ⟨h1, h2⟩]
    · rw [if_pos (e2.mpr h2), if_neg (fun z => h2 z.2)]
  · rw [if_pos (e1.mpr h1), if_neg (fun z => h1 z.1)]
theorem q_in1 {x lo hi : Int32} {a b : Int64} (ha : a = lo.toInt64) (hb : b = hi.toInt64) (h : lo ≤ x ∧ x ≤ hi) (I : hM) : X5_in x.toInt64 a b I = some (1, I) := by
  rw [q_in ha hb, if_pos h]
theorem q_in0 {x lo hi : Int32} {a b : Int64} (ha : a = lo.toInt64) (hb : b = hi.toInt64) (h : ¬ (lo ≤ x ∧ x ≤ hi)) (I : hM) : X5_in x.toInt64 a b I = some (0, I) := by
  rw [q_in ha hb, if_neg h]
/-- the places of the rows -/
theorem q_s0 {s g : Nat} (hs : s ≤ 220) (hg : g < 20) : (nI s + nI g).toNatClampNeg = s + g ∧ hx (nI s + nI g) 240 = true := by
  rw [nI_add]
  exact ⟨nI_clamp (by omega), q_hx (by omega) (by decide)⟩
theorem q_s7 {s g : Nat} (hs : s ≤ 220) (hg : g < 13) : (nI s + 7 + nI g).toNatClampNeg = s + 7 + g ∧ hx (nI s + 7 + nI g) 240 = true := by
  rw [show (7 : Int32) = nI 7 from rfl, nI_add, nI_add]
  exact ⟨nI_clamp (by omega), q_hx (by omega) (by decide)⟩
theorem q_s14 {s g : Nat} (hs : s ≤ 220) (hg : g < 6) : (nI s + 14 + nI g).toNatClampNeg = s + 14 + g ∧ hx (nI s + 14 + nI g) 240 = true := by
  rw [show (14 : Int32) = nI 14 from rfl, nI_add, nI_add]
  exact ⟨nI_clamp (by omega), q_hx (by omega) (by decide)⟩
theorem q_s18 {s : Nat} (hs : s ≤ 220) : (nI s + 18).toNatClampNeg = s + 18 ∧ hx (nI s + 18) 240 = true := by
  rw [show (18 : Int32) = nI 18 from rfl, nI_add]
  exact ⟨nI_clamp (by omega), q_hx (by omega) (by decide)⟩
theorem q_s19 {s : Nat} (hs : s ≤ 220) : (nI s + 19).toNatClampNeg = s + 19 ∧ hx (nI s + 19) 240 = true := by
  rw [show (19 : Int32) = nI 19 from rfl, nI_add]
  exact ⟨nI_clamp (by omega), q_hx (by omega) (by decide)⟩
