/-! what the going-ons that come late weigh -/
def wg (T S : Nat → Bool) (p : Nat) : Nat → Nat
  | 0 => 1
  | n + 1 => wg T S p n * (if T n = true then (if S n = true then p else 10 - p) else 1)
def sb (T S : Nat → Bool) : Nat → Bool
  | 0 => true
  | n + 1 => sb T S n && (!(S n) || T n)
def tn (T : Nat → Bool) : Nat → Nat
  | 0 => 1
  | n + 1 => tn T n * (if T n = true then 10 else 1)
def sm (F : Nat → Nat) : Nat → Nat
  | 0 => 0
  | k + 1 => sm F k + F k
theorem wg_congr {T S S' : Nat → Bool} {p : Nat} : ∀ n, (∀ h, h < n → S h = S' h) → wg T S p n = wg T S' p n := by
  intro n
  induction n with
  | zero => intro _; rfl
  | succ n ih =>
    intro h
    show wg T S p n * _ = wg T S' p n * _
    rw [ih (fun k hk => h k (by omega)), h n (by omega)]
theorem sb_congr {T S S' : Nat → Bool} : ∀ n, (∀ h, h < n → S h = S' h) → sb T S n = sb T S' n := by
  intro n
  induction n with
  | zero => intro _; rfl
  | succ n ih =>
    intro h
    show (sb T S n && _) = (sb T S' n && _)
    rw [ih (fun k hk => h k (by omega)), h n (by omega)]
theorem sb_iff {T S : Nat → Bool} : ∀ n, sb T S n = true ↔ ∀ h, h < n → S h = true → T h = true := by
  intro n
  induction n with
  | zero => exact ⟨fun _ h hh => absurd hh (by omega), fun _ => rfl⟩
  | succ n ih =>
    show (sb T S n && (!(S n) || T n)) = true ↔ _
    rw [Bool.and_eq_true, ih]
    refine ⟨fun h k hk hS => ?_, fun h => ⟨fun k hk => h k (by omega), ?_⟩⟩
    · by_cases hkn : k = n
      · subst hkn
        have h2 := h.2
        rw [hS] at h2
        exact h2
      · exact h.1 k (by omega) hS
    · have h2 := h n (by omega)
      cases hS : S n
      · rfl
      · rw [h2 hS]
        rfl
theorem wg_le {T S : Nat → Bool} {p : Nat} (hp : p ≤ 10) : ∀ n, wg T S p n ≤ 10 ^ n := by
  intro n
  induction n with
  | zero => exact Nat.le_refl _
  | succ n ih =>
    show wg T S p n * _ ≤ 10 ^ n * 10
    refine Nat.mul_le_mul ih ?_
    split
    · split <;> omega
    · omega
theorem tn_le {T : Nat → Bool} : ∀ n, 1 ≤ tn T n ∧ tn T n ≤ 10 ^ n := by
  intro n
  induction n with
  | zero => exact ⟨Nat.le_refl _, Nat.le_refl _⟩
  | succ n ih =>
    show 1 ≤ tn T n * _ ∧ tn T n * _ ≤ 10 ^ n * 10
    refine ⟨?_, Nat.mul_le_mul ih.2 ?_⟩
    · have : 1 * 1 ≤ tn T n * (if T n = true then 10 else 1) := Nat.mul_le_mul ih.1 (by split <;> omega)
      exact this
    · split <;> omega
theorem sm_congr {F G : Nat → Nat} : ∀ k, (∀ i, i < k → F i = G i) → sm F k = sm G k := by
  intro k
  induction k with
  | zero => intro _; rfl
  | succ k ih =>
    intro h
    show sm F k + F k = sm G k + G k
    rw [ih (fun i hi => h i (by omega)), h k (by omega)]
theorem sm_add (F : Nat → Nat) (a : Nat) : ∀ b, sm F (a + b) = sm F a + sm (fun i => F (a + i)) b := by
  intro b
  induction b with
  | zero => rfl
  | succ b ih =>
    show sm F (a + b) + F (a + b) = sm F a + (sm (fun i => F (a + i)) b + F (a + b))
    rw [ih, Nat.add_assoc]
theorem sm_mul (F : Nat → Nat) (c : Nat) : ∀ k, sm (fun i => F i * c) k = sm F k * c := by
  intro k
  induction k with
  | zero => exact (Nat.zero_mul c).symm
  | succ k ih =>
    show sm (fun i => F i * c) k + F k * c = (sm F k + F k) * c
    rw [ih, Nat.add_mul]
theorem sm_zero : ∀ k, sm (fun _ => 0) k = 0 := by
  intro k
  induction k with
  | zero => rfl
  | succ k ih =>
    show sm (fun _ => 0) k + 0 = 0
    rw [ih]
theorem sm_mono (F : Nat → Nat) : ∀ a b, a ≤ b → sm F a ≤ sm F b := by
  intro a b h
  obtain ⟨c, rfl⟩ : ∃ c, b = a + c := ⟨b - a, by omega⟩
  rw [sm_add]
  omega
def wf (T : Nat → Bool) (p n : Nat) (S : Nat) : Nat := if sb T S.testBit n = true then wg T S.testBit p n else 0
/-- together they weigh as many tens as may be late -/
theorem q_total (T : Nat → Bool) {p : Nat} (hp : p ≤ 10) : ∀ n, sm (wf T p n) (2 ^ n) = tn T n := by
  intro n
  induction n with
  | zero => rfl
  | succ n ih =>
    rw [Nat.pow_succ, Nat.mul_two, sm_add]
    have lo : ∀ S, S < 2 ^ n → wf T p (n + 1) S = wf T p n S * (if T n = true then 10 - p else 1) := by
      intro S hS
      have hb : S.testBit n = false := Nat.testBit_lt_two_pow hS
      unfold wf
      show (if (sb T S.testBit n && (!(S.testBit n) || T n)) = true then wg T S.testBit p n * (if T n = true then (if S.testBit n = true then p else 10 - p) else 1) else 0) = _
      rw [hb]
      show (if (sb T S.testBit n && true) = true then wg T S.testBit p n * (if T n = true then (if false = true then p else 10 - p) else 1) else 0) = _
      rw [Bool.and_true, if_neg (show ¬ false = true by decide)]
      by_cases h : sb T S.testBit n = true
      · rw [if_pos h, if_pos h]
      · rw [if_neg h, if_neg h, Nat.zero_mul]
    have hi : ∀ S, S < 2 ^ n → wf T p (n + 1) (2 ^ n + S) = wf T p n S * (if T n = true then p else 0) := by
      intro S hS
      have hb : (2 ^ n + S).testBit n = true := by
        rw [Nat.testBit_two_pow_add_eq, Nat.testBit_lt_two_pow hS]
        rfl
      have hl : ∀ h, h < n → (2 ^ n + S).testBit h = S.testBit h := fun h hh => Nat.testBit_two_pow_add_gt hh S
      unfold wf
      show (if (sb T (2 ^ n + S).testBit n && (!((2 ^ n + S).testBit n) || T n)) = true then wg T (2 ^ n + S).testBit p n * (if T n = true then (if (2 ^ n + S).testBit n = true then p else 10 - p) else 1) else 0) = _
      rw [hb, sb_congr n hl, wg_congr n hl]
      show (if (sb T S.testBit n && T n) = true then wg T S.testBit p n * (if T n = true then (if true = true then p else 10 - p) else 1) else 0) = _
      rw [if_pos (show true = true from rfl)]
      by_cases h : sb T S.testBit n = true
      · rw [h, if_pos rfl]
        cases hT : T n
        · rw [if_neg (by decide), if_neg (by decide), Nat.mul_zero]
        · rw [if_pos (by decide), if_pos (by decide), if_pos (by decide)]
      · have h2 : sb T S.testBit n = false := by
          cases hx : sb T S.testBit n
          · rfl
          · exact absurd hx h
        rw [h2]
        show (if (false && T n) = true then _ else 0) = (if false = true then _ else 0) * _
        rw [Bool.false_and, if_neg (by decide), if_neg (by decide), Nat.zero_mul]
    rw [sm_congr (2 ^ n) lo, sm_congr (F := fun i => wf T p (n + 1) (2 ^ n + i)) (2 ^ n) hi, sm_mul, sm_mul, ih, ← Nat.mul_add]
    show tn T n * _ = tn T n * _
    congr 1
    cases T n
    · rfl
    · show 10 - p + p = 10
      omega
/-! the common divisor -/
theorem q_gcd {A B : hM} (w x y : Int32) : ∀ (k a b i n1 n2 : Nat), b < 2 ^ k → a < 2 ^ 30 → b < 2 ^ 30 → i + (2 * k + 1) ≤ 100 → 2 * k + 1 < n1 → 2 * k + 1 < n2 → (0 < a ∨ 0 < b) → ∃ G, 0 < G ∧ G < 2 ^ 30 ∧ X4_commonDivisor_l7 n1 (nI a) (nI b) (nI i) A = some (nI G, A) ∧ X5_late_l247 n2 w x y (nI a) (nI b) B = X5_late_b270 w x y (nI G) B := by
  have g0 : ∀ a i n1 n2, a < 2 ^ 30 → i < 100 → X4_commonDivisor_l7 (n1 + 1) (nI a) (nI 0) (nI i) A = some (nI a, A) ∧ X5_late_l247 (n2 + 1) w x y (nI a) (nI 0) B = X5_late_b270 w x y (nI a) B := by
    intro a i n1 n2 ha hi
    have c1 : ¬ (100 : Int32) ≤ nI i := nI_ge (b := 100) hi (by decide)
    refine ⟨?_, ?_⟩
    · show X4_commonDivisor_h7 _ (nI a) (nI 0) (nI i) A = _
      unfold X4_commonDivisor_h7
      rw [if_neg c1, if_pos nI_0]
    · show X5_late_h247 _ w x y (nI a) (nI 0) B = _
      unfold X5_late_h247
      rw [if_pos nI_0]
  have g1 : ∀ a b i n1 n2, a < 2 ^ 30 → b < 2 ^ 30 → 0 < b → i < 100 → X4_commonDivisor_l7 (n1 + 1) (nI a) (nI b) (nI i) A = X4_commonDivisor_l7 n1 (nI b) (nI (a % b)) (nI (i + 1)) A ∧ X5_late_l247 (n2 + 1) w x y (nI a) (nI b) B = X5_late_l247 n2 w x y (nI b) (nI (a % b)) B := by
    intro a b i n1 n2 ha hb hb0 hi
    have c1 : ¬ (100 : Int32) ≤ nI i := nI_ge (b := 100) hi (by decide)
    have c2 : ¬ nI b = 0 := nI_ne0 hb0 (by omega)
    have e := pk_rem (a := a) (d := b) (by omega) hb0 (by omega)
    refine ⟨?_, ?_⟩
    · show X4_commonDivisor_h7 (X4_commonDivisor_l7 n1) (nI a) (nI b) (nI i) A = _
      unfold X4_commonDivisor_h7
      rw [if_neg c1, if_neg c2, q_gn c2, e, nI_1]
    · show X5_late_h247 (X5_late_l247 n2) w x y (nI a) (nI b) B = _
      unfold X5_late_h247
      rw [if_neg c2, q_gn c2, e]
  intro k
  induction k with
  | zero =>
    intro a b i n1 n2 hb2 ha hb hi h1 h2 h0
    obtain ⟨n1, rfl⟩ : ∃ j, n1 = j + 1 := ⟨n1 - 1, by omega⟩
    obtain ⟨n2, rfl⟩ : ∃ j, n2 = j + 1 := ⟨n2 - 1, by omega⟩
    obtain rfl : b = 0 := by
      have : (2 : Nat) ^ 0 = 1 := rfl
      omega
    exact ⟨a, by omega, ha, g0 a i n1 n2 ha (by omega)⟩
  | succ k ih =>
    intro a b i n1 n2 hb2 ha hb hi h1 h2 h0
    obtain ⟨n1, rfl⟩ : ∃ j, n1 = j + 2 := ⟨n1 - 2, by omega⟩
    obtain ⟨n2, rfl⟩ : ∃ j, n2 = j + 2 := ⟨n2 - 2, by omega⟩
    by_cases hb0 : b = 0
    · subst hb0
      exact ⟨a, by omega, ha, g0 a i (n1 + 1) (n2 + 1) ha (by omega)⟩
    · obtain ⟨e1, e2⟩ := g1 a b i (n1 + 1) (n2 + 1) ha hb (by omega) (by omega)
      have hr : a % b < b := Nat.mod_lt _ (by omega)
      by_cases hr0 : a % b = 0
      · rw [hr0] at e1 e2
        obtain ⟨f1, f2⟩ := g0 b (i + 1) n1 n2 hb (by omega)
        exact ⟨b, by omega, hb, e1.trans f1, e2.trans f2⟩
      · obtain ⟨f1, f2⟩ := g1 b (a % b) (i + 1) n1 n2 hb (by omega) (by omega) (by omega)
        have h3 : b % (a % b) < a % b := Nat.mod_lt _ (by omega)
        have h4 : 2 * (b % (a % b)) < b := by
          have h5 := Nat.div_add_mod b (a % b)
          have h6 : 1 ≤ b / (a % b) := (Nat.one_le_div_iff (by omega)).mpr (by omega)
          have h7 : (a % b) * 1 ≤ (a % b) * (b / (a % b)) := Nat.mul_le_mul (Nat.le_refl _) h6
          omega
        have hp : (2 : Nat) ^ (k + 1) = 2 ^ k * 2 := Nat.pow_succ 2 k
        obtain ⟨G, q1, q2, q3, q4⟩ := ih (a % b) (b % (a % b)) (i + 1 + 1) n1 n2 (by omega) (by omega) (by omega) (by omega) (by omega) (by omega) (by omega)
        exact ⟨G, q1, q2, (e1.trans f1).trans q3, (e2.trans f2).trans q4⟩
theorem q_bits : (∀ S, S < 128 → ∀ g, g < 7 → ((nI S >>> (nI g &&& 31)) &&& 1 = 1 ↔ S.testBit g = true)) ∧ (∀ T, T < 128 → ∀ g, g < 7 → nI T ||| ((1 : Int32) <<< (nI g &&& 31)) = nI (T ||| 2 ^ g)) := by decide +kernel
theorem q_bits2 : ∀ S, S < 128 → ∀ T, T < 128 → ((nI S &&& (nI T ^^^ -1)) = 0 ↔ S &&& T = S) := by decide +kernel
theorem q_bits3 : ∀ n, n < 8 → (1 : Int32) <<< (nI n &&& 31) = nI (2 ^ n) := by decide +kernel
theorem q_chance {A : hM} {S T p q : Nat} (hS : S < 128) (hT : T < 128) (hp : p ≤ 10) (hq : q = 10 - p) : X4_chanceOf (nI S) (nI T) (nI p) (nI q) A = some (nI (wg T.testBit S.testBit p 7), A) := by
  have key : ∀ (k g n1 : Nat), g + k = 7 → k < n1 → X4_chanceOf_l6 n1 (nI S) (nI T) (nI p) (nI q) (nI (wg T.testBit S.testBit p g)) (nI g) A = some (nI (wg T.testBit S.testBit p 7), A) := by
    intro k
    induction k with
    | zero =>
      intro g n1 hg h1
      obtain ⟨n1, rfl⟩ : ∃ j, n1 = j + 1 := ⟨n1 - 1, by omega⟩
      obtain rfl : g = 7 := by omega
      have c1 : (7 : Int32) ≤ nI 7 := by decide
      show X4_chanceOf_h6 _ (nI S) (nI T) (nI p) (nI q) _ (nI 7) A = _
      unfold X4_chanceOf_h6
      rw [if_pos c1]
    | succ k ih =>
      intro g n1 hg h1
      obtain ⟨n1, rfl⟩ : ∃ j, n1 = j + 1 := ⟨n1 - 1, by omega⟩
      have c1 : ¬ (7 : Int32) ≤ nI g := nI_ge (b := 7) (by omega) (by decide)
      have hl := wg_le (T := T.testBit) (S := S.testBit) hp g
      have b1 := q_bits.1 S hS g (by omega)
      have b2 := q_bits.1 T hT g (by omega)
      have nx := ih (g + 1) n1 (by omega) (by omega)
      have ew : wg T.testBit S.testBit p (g + 1) = wg T.testBit S.testBit p g * (if T.testBit g = true then (if S.testBit g = true then p else 10 - p) else 1) := rfl
      show X4_chanceOf_h6 (X4_chanceOf_l6 n1) (nI S) (nI T) (nI p) (nI q) _ (nI g) A = _
      unfold X4_chanceOf_h6
      rw [if_neg c1, nI_1]
      by_cases hTg : T.testBit g = true
      · rw [if_pos (b2.mpr hTg)]
        by_cases hSg : S.testBit g = true
        · rw [if_pos (b1.mpr hSg), pk_mul]
          rw [ew, if_pos hTg, if_pos hSg] at nx
          exact nx
        · rw [if_neg (fun z => hSg (b1.mp z)), pk_mul, hq]
          rw [ew, if_pos hTg, if_neg hSg] at nx
          rw [hq] at nx
          exact nx
      · rw [if_neg (fun z => hTg (b2.mp z))]
        rw [ew, if_neg hTg, Nat.mul_one] at nx
        exact nx
  have h := key 7 0 hF (by decide) (show 7 < 1024 by decide)
  unfold X4_chanceOf
  rw [nI_0] at h
  exact h
theorem wg_tail {T S : Nat → Bool} {p N : Nat} : ∀ k, (∀ h, N ≤ h → T h = false) → wg T S p (N + k) = wg T S p N := by
  intro k h
  induction k with
  | zero => rfl
  | succ k ih =>
    show wg T S p (N + k) * (if T (N + k) = true then _ else 1) = _
    rw [h (N + k) (by omega), if_neg (by decide), Nat.mul_one, ih]
