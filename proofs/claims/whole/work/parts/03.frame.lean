theorem hp_e_put {E : Nat → ClassId} {b ci o j : Nat} {fs : List (Option (Option Nat))} {I : hM} {x : Int32} (hf : fs[j]? = some none) : hp_e E b (0, ci, fs) (hu I o j x o) = .inr (ci, (fs.mapIdx (fun i q => hp_f b (I o i) q)).set j (.int x)) := by
  show (Sum.inr (ci, fs.mapIdx (fun i q => hp_f b (hu I o j x o i) q)) : va_E) = _
  congr 2
  apply List.ext_getElem?
  intro i
  have hj : j < (fs.mapIdx (fun i q => hp_f b (I o i) q)).length := by
    rw [List.length_mapIdx]
    exact (List.getElem?_eq_some_iff.mp hf).1
  rw [hu_self, List.getElem?_mapIdx]
  by_cases hi : i = j
  · subst hi
    rw [List.getElem?_set_self hj, hf]
    show some (hp_f b (upd (I o) i x i) none) = some (Value.int x)
    unfold upd
    rw [if_pos rfl]
    rfl
  · rw [List.getElem?_set_ne (Ne.symm hi), List.getElem?_mapIdx]
    unfold upd
    rw [if_neg hi]
theorem hp_e_putR {E : Nat → ClassId} {b ci j q : Nat} {fs : List (Option (Option Nat))} {f : Nat → Int32} (hj : j < fs.length) : hp_e E b (0, ci, fs.set j (some (some q))) f = .inr (ci, (fs.mapIdx (fun i q => hp_f b (f i) q)).set j (.ref (b + q))) := by
  show (Sum.inr (ci, (fs.set j (some (some q))).mapIdx (fun i q => hp_f b (f i) q)) : va_E) = _
  congr 2
  apply List.ext_getElem?
  intro i
  have hj2 : j < (fs.mapIdx (fun i q => hp_f b (f i) q)).length := by
    rw [List.length_mapIdx]
    exact hj
  rw [List.getElem?_mapIdx]
  by_cases hi : i = j
  · subst hi
    rw [List.getElem?_set_self hj2, List.getElem?_set_self hj]
    rfl
  · rw [List.getElem?_set_ne (Ne.symm hi), List.getElem?_set_ne (Ne.symm hi), List.getElem?_mapIdx]
def hmin (x y : Int32) : Int32 := if y < x then y else x
def hmax (x y : Int32) : Int32 := if x < y then y else x
def hF : Nat := 1024
theorem hp_ite {c : Prop} [Decidable c] {A B : Option (Int32 × hM)} {rr : Int32 × hM} {P : Prop} (h : (if c then A else B) = some rr) (k1 : c → A = some rr → P) (k2 : ¬ c → B = some rr → P) : P := by
  by_cases q : c
  · rw [if_pos q] at h
    exact k1 q h
  · rw [if_neg q] at h
    exact k2 q h
section HJB
variable {p : Program} {l : Launch} {e : Env} {R : Room} {s : State} {m : MethodId} {args : Array Value} {below : List Frame} {meth : Method} {c : Code} {Q : State → Prop} {D : va_G} {E : Nat → ClassId} {b z nL : Nat} {own nm : String} {cc : ByteArray} {ws : List Cond} {ret : Option FieldType} {sh : List hS} {cells slots : Nat} {I : hM} {pc : Nat} {lv : List (Nat × Value)} {rest : List Value}
theorem hj_geti (hX : hp_X p s m args meth c own cc nL ws D E ret nm) {o ci j N index : Nat} {fs : List (Option (Option Nat))} {C : String} {T : u_T} (hs : sh[o]? = some (0, ci, fs)) (hf : fs[j]? = some none) (hc : vwCl[ci]? = some (C, T, N)) (hin : ∀ w ∈ u_ws C T N, w ∈ ws) (hj : j < N) (hT1 : (T j).1 = C) (hlk : Cond.fieldLink own index C (T j).2.1 (T j).2.2.1 ∈ ws) (hd : decode cc pc = .ok (.getfield index, 3)) (k : hp_J p l e R s m args below meth c Q D E b z nL sh cells slots I (pc + 3) lv (.int (I o j) :: rest)) : hp_J p l e R s m args below meth c Q D E b z nL sh cells slots I pc lv (.ref o :: rest) := fun hz H locs ls hP hS hl =>
  va_get (D := D) (ci := ci) (v := .int (I o j)) (C := C) (T := T) (N := N) (fs := fs.mapIdx (fun i q => hp_f b (I o i) q)) hX.1 hX.2.1 hX.2.2.2.2.1 hin hX.2.2.2.1 hX.2.2.2.2.2.1.1 hP o (hp_at hs) hc j hj (hX.2.2.2.2.1 _ hlk) (fun x h => by rw [hT1] at h; exact h) (by rw [List.getElem?_mapIdx, hf]; rfl) hd (k hz H locs ls hP hS hl)
theorem hj_getr (hX : hp_X p s m args meth c own cc nL ws D E ret nm) {q : Nat} {o ci j N index : Nat} {fs : List (Option (Option Nat))} {C : String} {T : u_T} (hs : sh[o]? = some (0, ci, fs)) (hf : fs[j]? = some (some (some q))) (hc : vwCl[ci]? = some (C, T, N)) (hin : ∀ w ∈ u_ws C T N, w ∈ ws) (hj : j < N) (hT1 : (T j).1 = C) (hlk : Cond.fieldLink own index C (T j).2.1 (T j).2.2.1 ∈ ws) (hd : decode cc pc = .ok (.getfield index, 3)) (k : hp_J p l e R s m args below meth c Q D E b z nL sh cells slots I (pc + 3) lv (.ref q :: rest)) : hp_J p l e R s m args below meth c Q D E b z nL sh cells slots I pc lv (.ref o :: rest) := fun hz H locs ls hP hS hl =>
  va_get (D := D) (ci := ci) (v := .ref (b + q)) (C := C) (T := T) (N := N) (fs := fs.mapIdx (fun i q => hp_f b (I o i) q)) hX.1 hX.2.1 hX.2.2.2.2.1 hin hX.2.2.2.1 hX.2.2.2.2.2.1.1 hP o (hp_at hs) hc j hj (hX.2.2.2.2.1 _ hlk) (fun x h => by rw [hT1] at h; exact h) (by rw [List.getElem?_mapIdx, hf]; rfl) hd (k hz H locs ls hP hS hl)
theorem hj_puti (hX : hp_X p s m args meth c own cc nL ws D E ret nm) {x : Int32} {o ci j N index : Nat} {fs : List (Option (Option Nat))} {C : String} {T : u_T} (hs : sh[o]? = some (0, ci, fs)) (hf : fs[j]? = some none) (hc : vwCl[ci]? = some (C, T, N)) (hin : ∀ w ∈ u_ws C T N, w ∈ ws) (hj : j < N) (hT1 : (T j).1 = C) (hlk : Cond.fieldLink own index C (T j).2.1 (T j).2.2.1 ∈ ws) {ty0 : Nat → FieldType} (hty : ∀ k, k < N → parseFieldDescriptor (T k).2.2.1 = some (ty0 k)) (hnm : ∀ a, a < N → ∀ b, b < N → a ≠ b → (T a).2.1 ≠ (T b).2.1) (hfin : (T j).2.2.2 = false) (hd0 : parseFieldDescriptor (T j).2.2.1 = some .int) (hd : decode cc pc = .ok (.putfield index, 3)) (k : hp_J p l e R s m args below meth c Q D E b z nL sh cells slots (hu I o j x) (pc + 3) lv rest) : hp_J p l e R s m args below meth c Q D E b z nL sh cells slots I pc lv (.int x :: .ref o :: rest) := fun hz H locs ls hP hS hl =>
  va_put (D := D) (ci := ci) (v := .int x) (C := C) (T := T) (N := N) (fs := fs.mapIdx (fun i q => hp_f b (I o i) q)) hX.1 hX.2.1 hX.2.2.2.2.1 hin ty0 hty hnm hX.2.2.2.1 hX.2.2.2.2.2.1.1 hP hp_D hS o (hp_at hs) hc j hj (hX.2.2.2.2.1 _ hlk) (fun x h => by rw [hT1] at h; exact h) hfin hd0 rfl rfl (by rw [List.length_mapIdx]; exact (List.getElem?_eq_some_iff.mp hf).1) hd (fun H1 locs1 hP1 _ hS1 => k hz H1 locs1 ls (by rw [hp_set (I' := hu I o j x) hs (hp_e_put hf) (hu_ne I o j x)] at hP1; exact hP1) hS1 hl)
theorem hp_bool {x : Int32} (h : (decide (x = 0) || decide (x = 1)) = true) : narrow .boolean (.int x) = .int x ∧ fits .boolean (.int x) = true := by
  rcases (Bool.or_eq_true _ _).mp h with h | h
  · rw [of_decide_eq_true h]
    exact ⟨rfl, rfl⟩
  · rw [of_decide_eq_true h]
    exact ⟨rfl, rfl⟩
theorem hj_putz (hX : hp_X p s m args meth c own cc nL ws D E ret nm) {x : Int32} {o ci j N index : Nat} {fs : List (Option (Option Nat))} {C : String} {T : u_T} (hs : sh[o]? = some (0, ci, fs)) (hf : fs[j]? = some none) (hc : vwCl[ci]? = some (C, T, N)) (hin : ∀ w ∈ u_ws C T N, w ∈ ws) (hj : j < N) (hT1 : (T j).1 = C) (hlk : Cond.fieldLink own index C (T j).2.1 (T j).2.2.1 ∈ ws) {ty0 : Nat → FieldType} (hty : ∀ k, k < N → parseFieldDescriptor (T k).2.2.1 = some (ty0 k)) (hnm : ∀ a, a < N → ∀ b, b < N → a ≠ b → (T a).2.1 ≠ (T b).2.1) (hfin : (T j).2.2.2 = false) (hd0 : parseFieldDescriptor (T j).2.2.1 = some .boolean) (hd : decode cc pc = .ok (.putfield index, 3)) {A : Option (Int32 × hM)} {rr : Int32 × hM} (h : gd (decide (x = 0) || decide (x = 1)) A = some rr) (k : A = some rr → hp_J p l e R s m args below meth c Q D E b z nL sh cells slots (hu I o j x) (pc + 3) lv rest) : hp_J p l e R s m args below meth c Q D E b z nL sh cells slots I pc lv (.int x :: .ref o :: rest) := fun hz H locs ls hP hS hl =>
  va_put (D := D) (ci := ci) (v := .int x) (C := C) (T := T) (N := N) (fs := fs.mapIdx (fun i q => hp_f b (I o i) q)) hX.1 hX.2.1 hX.2.2.2.2.1 hin ty0 hty hnm hX.2.2.2.1 hX.2.2.2.2.2.1.1 hP hp_D hS o (hp_at hs) hc j hj (hX.2.2.2.2.1 _ hlk) (fun x h => by rw [hT1] at h; exact h) hfin hd0 (hp_bool (gd_e h).1).1 (hp_bool (gd_e h).1).2 (by rw [List.length_mapIdx]; exact (List.getElem?_eq_some_iff.mp hf).1) hd (fun H1 locs1 hP1 _ hS1 => k (gd_e h).2 hz H1 locs1 ls (by rw [hp_set (I' := hu I o j x) hs (hp_e_put hf) (hu_ne I o j x)] at hP1; exact hP1) hS1 hl)
theorem hj_putr (hX : hp_X p s m args meth c own cc nL ws D E ret nm) {q : Nat} {o ci j N index : Nat} {fs : List (Option (Option Nat))} {C : String} {T : u_T} (hs : sh[o]? = some (0, ci, fs)) (hlj : j < fs.length) (hc : vwCl[ci]? = some (C, T, N)) (hin : ∀ w ∈ u_ws C T N, w ∈ ws) (hj : j < N) (hT1 : (T j).1 = C) (hlk : Cond.fieldLink own index C (T j).2.1 (T j).2.2.1 ∈ ws) {ty0 : Nat → FieldType} (hty : ∀ k, k < N → parseFieldDescriptor (T k).2.2.1 = some (ty0 k)) (hnm : ∀ a, a < N → ∀ b, b < N → a ≠ b → (T a).2.1 ≠ (T b).2.1) (hfin : (T j).2.2.2 = true) (hnm2 : nm = "<init>") (hdecl : (T j).1 = own) {ty : FieldType} (hd0 : parseFieldDescriptor (T j).2.2.1 = some ty) (hn : ∀ a, narrow ty (.ref a) = .ref a) (hft : ∀ a, fits ty (.ref a) = true) (hd : decode cc pc = .ok (.putfield index, 3)) (k : hp_J p l e R s m args below meth c Q D E b z nL (sh.set o (0, ci, fs.set j (some (some q)))) cells slots I (pc + 3) lv rest) : hp_J p l e R s m args below meth c Q D E b z nL sh cells slots I pc lv (.ref q :: .ref o :: rest) := fun hz H locs ls hP hS hl =>
  va_putF (D := D) (ci := ci) (v := .ref (b + q)) (C := C) (T := T) (N := N) (fs := fs.mapIdx (fun i q => hp_f b (I o i) q)) hX.1 hX.2.1 hX.2.2.2.2.1 hin ty0 hty hnm hX.2.2.2.1 hX.2.2.2.2.2.1.1 hP hp_D hS o (hp_at hs) hc j hj (hX.2.2.2.2.1 _ hlk) (fun x h => by rw [hT1] at h; exact h) hfin (by rw [hX.2.2.2.2.2.2.2.2]; exact hnm2) hdecl hd0 (hn _) (hft _) (by rw [List.length_mapIdx]; exact hlj) hd (fun H1 locs1 hP1 _ hS1 => k (by rw [List.length_set]; exact hz) H1 locs1 ls (by rw [hp_setS (c' := (0, ci, fs.set j (some (some q)))) hs (hp_e_putR hlj)] at hP1; exact hP1) hS1 hl)
theorem hj_iald (hX : hp_X p s m args meth c own cc nL ws D E ret nm) {a n : Nat} {i : Int32} (hs : sh[a]? = some (1, n, [])) {A : Option (Int32 × hM)} {rr : Int32 × hM} (hd : decode cc pc = .ok (.iaload, 1)) (h : gd (hx i n) A = some rr) (k : A = some rr → hp_J p l e R s m args below meth c Q D E b z nL sh cells slots I (pc + 1) lv (.int (I a i.toNatClampNeg) :: rest)) : hp_J p l e R s m args below meth c Q D E b z nL sh cells slots I pc lv (.int i :: .ref a :: rest) := fun hz H locs ls hP hS hl =>
  va_iald (D := D) (cA := E 0) (n := n) (f := I a) hX.1 hX.2.1 hX.2.2.2.2.2.1.1 hP a 0 (hp_at hs) rfl (hx_in (gd_e h).1) hd (k (gd_e h).2 hz H locs ls hP hS hl)
theorem hj_bald (hX : hp_X p s m args meth c own cc nL ws D E ret nm) {a n : Nat} {i : Int32} (hs : sh[a]? = some (2, n, [])) {A : Option (Int32 × hM)} {rr : Int32 × hM} (hd : decode cc pc = .ok (.baload, 1)) (h : gd (hx i n) A = some rr) (k : A = some rr → hp_J p l e R s m args below meth c Q D E b z nL sh cells slots I (pc + 1) lv (.int (I a i.toNatClampNeg) :: rest)) : hp_J p l e R s m args below meth c Q D E b z nL sh cells slots I pc lv (.int i :: .ref a :: rest) := fun hz H locs ls hP hS hl =>
  va_bald (D := D) (cA := E 1) (n := n) (f := I a) hX.1 hX.2.1 hX.2.2.2.2.2.1.1 hP a 1 (hp_at hs) rfl (hx_in (gd_e h).1) hd (k (gd_e h).2 hz H locs ls hP hS hl)
theorem hj_iast (hX : hp_X p s m args meth c own cc nL ws D E ret nm) {a n : Nat} {i : Int32} {x : Int32} (hs : sh[a]? = some (1, n, [])) {A : Option (Int32 × hM)} {rr : Int32 × hM} (hd : decode cc pc = .ok (.iastore, 1)) (h : gd (hx i n) A = some rr) (k : A = some rr → hp_J p l e R s m args below meth c Q D E b z nL sh cells slots (hu I a i.toNatClampNeg x) (pc + 1) lv rest) : hp_J p l e R s m args below meth c Q D E b z nL sh cells slots I pc lv (.int x :: .int i :: .ref a :: rest) := fun hz H locs ls hP hS hl =>
  va_iast (D := D) (cA := E 0) (n := n) (f := I a) hX.1 hX.2.1 hX.2.2.2.2.2.1.1 hP hp_D hS a 0 (hp_at hs) rfl (hx_in (gd_e h).1) hd (fun H1 locs1 hP1 _ hS1 => k (gd_e h).2 hz H1 locs1 ls (by rw [hp_set (I' := hu I a i.toNatClampNeg x) hs (by show (Sum.inl (E 0, n, Sum.inl (hu I a i.toNatClampNeg x a)) : va_E) = _; rw [hu_self]) (hu_ne I a _ _)] at hP1; exact hP1) hS1 hl)
theorem hj_bast (hX : hp_X p s m args meth c own cc nL ws D E ret nm) {a n : Nat} {i : Int32} {x : Int32} (hs : sh[a]? = some (2, n, [])) {A : Option (Int32 × hM)} {rr : Int32 × hM} (hd : decode cc pc = .ok (.bastore, 1)) (h : gd (hx i n) A = some rr) (k : A = some rr → hp_J p l e R s m args below meth c Q D E b z nL sh cells slots (hu I a i.toNatClampNeg (vp_nar .byte x)) (pc + 1) lv rest) : hp_J p l e R s m args below meth c Q D E b z nL sh cells slots I pc lv (.int x :: .int i :: .ref a :: rest) := fun hz H locs ls hP hS hl =>
  va_bast (D := D) (cA := E 1) (n := n) (f := I a) hX.1 hX.2.1 hX.2.2.2.2.2.1.1 hP hp_D hS a 1 (hp_at hs) rfl (hx_in (gd_e h).1) hd (fun H1 locs1 hP1 _ hS1 => k (gd_e h).2 hz H1 locs1 ls (by rw [hp_set (I' := hu I a i.toNatClampNeg (vp_nar .byte x)) hs (by show (Sum.inl (E 1, n, Sum.inl (hu I a i.toNatClampNeg (vp_nar .byte x) a)) : va_E) = _; rw [hu_self]) (hu_ne I a _ _)] at hP1; exact hP1) hS1 hl)
theorem hp_r_some {b : Nat} {x : Int32} (h : ¬ x < 0) : hp_r b x = some (b + x.toNatClampNeg) := by
  unfold hp_r
  rw [if_neg h]
theorem hj_aald (hX : hp_X p s m args meth c own cc nL ws D E ret nm) {a n : Nat} {i : Int32} (hs : sh[a]? = some (3, n, [])) {A : Option (Int32 × hM)} {rr : Int32 × hM} (hd : decode cc pc = .ok (.aaload, 1)) (h : gd (hx i n && decide (¬ I a i.toNatClampNeg < 0)) A = some rr) (k : A = some rr → hp_J p l e R s m args below meth c Q D E b z nL sh cells slots I (pc + 1) lv (.ref (I a i.toNatClampNeg).toNatClampNeg :: rest)) : hp_J p l e R s m args below meth c Q D E b z nL sh cells slots I pc lv (.int i :: .ref a :: rest) := fun hz H locs ls hP hS hl => by
  have h1 := (Bool.and_eq_true _ _).mp (gd_e h).1
  refine va_aldq (D := D) (cA := E 2) (C := RX2) (n := n) (f := fun j => hp_r b (I a j)) hX.1 hX.2.1 hX.2.2.2.2.2.1.1 hP a 2 (hp_at hs) rfl (hx_in h1.1) hd ?_
  have h2 := k (gd_e h).2 hz H locs ls hP hS hl
  have e1 : va_rf (hp_r b (I a i.toNatClampNeg)) = Value.ref (b + (I a i.toNatClampNeg).toNatClampNeg) := by
    rw [hp_r_some (of_decide_eq_true h1.2)]
    rfl
  rw [e1]
  exact h2
theorem hp_r_up {b q j : Nat} {f : Nat → Int32} (hq : q < 2147483648) : (fun i => hp_r b (upd f j (nI q) i)) = va_up (fun i => hp_r b (f i)) j (some (b + q)) := by
  funext i
  unfold upd va_up
  by_cases hi : i = j
  · rw [if_pos hi, if_pos hi]
    have h0 : ¬ nI q < 0 := by
      rw [Int32.lt_iff_toInt_lt, nI_toInt hq, Int32.toInt_zero]
      omega
    rw [hp_r_some h0, nI_clamp hq]
  · rw [if_neg hi, if_neg hi]
theorem hj_aast (hX : hp_X p s m args meth c own cc nL ws D E ret nm) {a n : Nat} {i : Int32} {q : Nat} {fs : List (Option (Option Nat))} (hs : sh[a]? = some (3, n, [])) (hq : sh[q]? = some (0, 2, fs)) {A : Option (Int32 × hM)} {rr : Int32 × hM} (hd : decode cc pc = .ok (.aastore, 1)) (h : gd (hx i n && decide (q < 2147483648)) A = some rr) (k : A = some rr → hp_J p l e R s m args below meth c Q D E b z nL sh cells slots (hu I a i.toNatClampNeg (nI q)) (pc + 1) lv rest) : hp_J p l e R s m args below meth c Q D E b z nL sh cells slots I pc lv (.ref q :: .int i :: .ref a :: rest) := fun hz H locs ls hP hS hl => by
  have h1 := (Bool.and_eq_true _ _).mp (gd_e h).1
  refine va_astq (D := D) (r := (RX2, TX2, 6)) (cA := E 2) (n := n) (ci := 2) (vs := fs.mapIdx (fun i o => hp_f b (I q i) o)) (f := fun j => hp_r b (I a j)) hX.1 hX.2.1 hX.2.2.2.2.2.1.1 hP hp_D hS a 2 q (hp_at hs) rfl (hp_at hq) rfl (hx_in h1.1) hd (fun H1 locs1 hP1 _ hS1 => ?_)
  refine k (gd_e h).2 hz H1 locs1 ls ?_ hS1 hl
  rw [hp_set (I' := hu I a i.toNatClampNeg (nI q)) hs ?_ (hu_ne I a _ _)] at hP1
  · exact hP1
  · show (Sum.inl (E 2, n, Sum.inr (Sum.inr (Sum.inr (Sum.inr (fun j => hp_r b (hu I a i.toNatClampNeg (nI q) a j)))))) : va_E) = _
    rw [hu_self, hp_r_up (of_decide_eq_true h1.2)]
theorem hj_alen1 (hX : hp_X p s m args meth c own cc nL ws D E ret nm) {a n : Nat} (hs : sh[a]? = some (1, n, [])) (hd : decode cc pc = .ok (.arraylength, 1)) (k : hp_J p l e R s m args below meth c Q D E b z nL sh cells slots I (pc + 1) lv (.int (nI n) :: rest)) : hp_J p l e R s m args below meth c Q D E b z nL sh cells slots I pc lv (.ref a :: rest) := fun hz H locs ls hP hS hl =>
  va_alen (D := D) (cA := E 0) (x := (n, .inl (I a))) (ty := .int) hX.1 hX.2.1 hX.2.2.2.2.2.1.1 hP a 0 (hp_at hs) rfl rfl hd (k hz H locs ls hP hS hl)
theorem hj_alen2 (hX : hp_X p s m args meth c own cc nL ws D E ret nm) {a n : Nat} (hs : sh[a]? = some (2, n, [])) (hd : decode cc pc = .ok (.arraylength, 1)) (k : hp_J p l e R s m args below meth c Q D E b z nL sh cells slots I (pc + 1) lv (.int (nI n) :: rest)) : hp_J p l e R s m args below meth c Q D E b z nL sh cells slots I pc lv (.ref a :: rest) := fun hz H locs ls hP hS hl =>
  va_alen (D := D) (cA := E 1) (x := (n, .inl (I a))) (ty := .byte) hX.1 hX.2.1 hX.2.2.2.2.2.1.1 hP a 1 (hp_at hs) rfl rfl hd (k hz H locs ls hP hS hl)
theorem hj_alen3 (hX : hp_X p s m args meth c own cc nL ws D E ret nm) {a n : Nat} (hs : sh[a]? = some (3, n, [])) (hd : decode cc pc = .ok (.arraylength, 1)) (k : hp_J p l e R s m args below meth c Q D E b z nL sh cells slots I (pc + 1) lv (.int (nI n) :: rest)) : hp_J p l e R s m args below meth c Q D E b z nL sh cells slots I pc lv (.ref a :: rest) := fun hz H locs ls hP hS hl =>
  va_alen (D := D) (cA := E 2) (x := (n, .inr (.inr (.inr (.inr (fun j => hp_r b (I a j))))))) (ty := .object RX2) hX.1 hX.2.1 hX.2.2.2.2.2.1.1 hP a 2 (hp_at hs) rfl rfl hd (k hz H locs ls hP hS hl)
theorem hj_mmin (hX : hp_X p s m args meth c own cc nL ws D E ret nm) {x y : Int32} {index : Nat} (hlk : Cond.methodLink own index Lib.Math.min.name ∈ ws) (h1 : Cond.static Lib.Math.min.name ∈ ws) (h2 : Cond.initialized "java/lang/Math" ∈ ws) (h3 : Cond.code Lib.Math.min.name Lib.Math.min.code 2 (some .int) ∈ ws) (hR : 1 ≤ R.frames) (hR2 : (rest.map fun v => v.category).sum + 13 ≤ R.locals) (hR3 : cells ≤ R.cells ∧ slots ≤ R.slots) (hd : decode cc pc = .ok (.invokestatic index, 3)) (k : hp_J p l e R s m args below meth c Q D E b z nL sh cells slots I (pc + 3) lv (.int (hmin x y) :: rest)) : hp_J p l e R s m args below meth c Q D E b z nL sh cells slots I pc lv (.int y :: .int x :: rest) := fun hz H locs ls hP hS hl =>
  va_mmin hX.1 hX.2.1 (by rw [hX.2.2.1]; exact hl.1.symm) hX.2.2.2.1 (hX.2.2.2.2.1 _ hlk) (hX.2.2.2.2.1 _ h1) (hX.2.2.2.2.1 _ h2) (hX.2.2.2.2.1 _ h3) hR (by rw [hp_v_cats]; exact hR2) hR3.1 hR3.2 hd (k hz H locs ls hP hS hl)
theorem hj_mmax (hX : hp_X p s m args meth c own cc nL ws D E ret nm) {x y : Int32} {index : Nat} (hlk : Cond.methodLink own index Lib.Math.max.name ∈ ws) (h1 : Cond.static Lib.Math.max.name ∈ ws) (h2 : Cond.initialized "java/lang/Math" ∈ ws) (h3 : Cond.code Lib.Math.max.name Lib.Math.max.code 2 (some .int) ∈ ws) (hR : 1 ≤ R.frames) (hR2 : (rest.map fun v => v.category).sum + 13 ≤ R.locals) (hR3 : cells ≤ R.cells ∧ slots ≤ R.slots) (hd : decode cc pc = .ok (.invokestatic index, 3)) (k : hp_J p l e R s m args below meth c Q D E b z nL sh cells slots I (pc + 3) lv (.int (hmax x y) :: rest)) : hp_J p l e R s m args below meth c Q D E b z nL sh cells slots I pc lv (.int y :: .int x :: rest) := fun hz H locs ls hP hS hl =>
  va_mmax hX.1 hX.2.1 (by rw [hX.2.2.1]; exact hl.1.symm) hX.2.2.2.1 (hX.2.2.2.2.1 _ hlk) (hX.2.2.2.2.1 _ h1) (hX.2.2.2.2.1 _ h2) (hX.2.2.2.2.1 _ h3) hR (by rw [hp_v_cats]; exact hR2) hR3.1 hR3.2 hd (k hz H locs ls hP hS hl)
theorem hj_acopy (hX : hp_X p s m args meth c own cc nL ws D E ret nm) {a0 a n0 n1 index : Nat} {sp dp n : Int32} (hlk : Cond.methodLink own index arraycopyName ∈ ws) (g1 : Cond.native arraycopyName ∈ ws) (g2 : Cond.static arraycopyName ∈ ws) (g3 : Cond.initialized "java/lang/System" ∈ ws) (hs0 : sh[a0]? = some (1, n0, [])) (hs1 : sh[a]? = some (1, n1, [])) (h1 : ¬ sp < 0) (h2 : ¬ dp < 0) (h3 : ¬ n < 0) (h4 : sp.toNatClampNeg + n.toNatClampNeg ≤ n0) (h5 : dp.toNatClampNeg + n.toNatClampNeg ≤ n1) (hR : 1 ≤ R.frames) (hR2 : (rest.map fun v => v.category).sum + (nativeFrameWords "java/lang/System" "arraycopy" 5 + 11) ≤ R.locals) (hd : decode cc pc = .ok (.invokestatic index, 3)) (k : hp_J p l e R s m args below meth c Q D E b z nL sh cells slots (hcp I a (va_cpy (I a0) (I a) sp.toNatClampNeg dp.toNatClampNeg n.toNatClampNeg)) (pc + 3) lv rest) : hp_J p l e R s m args below meth c Q D E b z nL sh cells slots I pc lv (.int n :: .int dp :: .ref a :: .int sp :: .ref a0 :: rest) := fun hz H locs ls hP hS hl =>
  va_copyi (D := D) (c0 := E 0) (c1 := E 0) (n0 := n0) (n1 := n1) (f := I a0) (g := I a) (ty := .int) hX.1 hX.2.1 (by rw [hX.2.2.1]; exact hl.1.symm) hX.2.2.2.1 (hX.2.2.2.2.1 _ hlk) (hX.2.2.2.2.1 _ g1) (hX.2.2.2.2.1 _ g2) (hX.2.2.2.2.1 _ g3) hX.2.2.2.2.2.1.1 hP hp_D hS a0 a 0 0 (hp_at hs0) (hp_at hs1) rfl rfl rfl h1 h2 h3 h4 h5 (fun _ _ => rfl) hR (by rw [hp_v_cats]; exact hR2) hd (fun H1 locs1 hP1 _ hS1 => k hz H1 locs1 ls (by rw [hp_set (I' := hcp I a (va_cpy (I a0) (I a) sp.toNatClampNeg dp.toNatClampNeg n.toNatClampNeg)) hs1 (by show (Sum.inl (E 0, n1, Sum.inl (hcp I a _ a)) : va_E) = _; rw [hcp_self]) (hcp_ne I a _)] at hP1; exact hP1) hS1 hl)
theorem hj_acopy0 (hX : hp_X p s m args meth c own cc nL ws D E ret nm) {a0 a n0 n1 N index : Nat} {n : Int32} (hlk : Cond.methodLink own index arraycopyName ∈ ws) (g1 : Cond.native arraycopyName ∈ ws) (g2 : Cond.static arraycopyName ∈ ws) (g3 : Cond.initialized "java/lang/System" ∈ ws) (hs0 : sh[a0]? = some (1, n0, [])) (hs1 : sh[a]? = some (1, n1, [])) (h3 : ¬ n < 0) (hN : n.toNatClampNeg = N) (h4 : N ≤ n0) (h5 : N ≤ n1) (hR : 1 ≤ R.frames) (hR2 : (rest.map fun v => v.category).sum + (nativeFrameWords "java/lang/System" "arraycopy" 5 + 11) ≤ R.locals) (hd : decode cc pc = .ok (.invokestatic index, 3)) (k : hp_J p l e R s m args below meth c Q D E b z nL sh cells slots (hcp I a (va_cpy (I a0) (I a) 0 0 N)) (pc + 3) lv rest) : hp_J p l e R s m args below meth c Q D E b z nL sh cells slots I pc lv (.int n :: .int (0 : Int32) :: .ref a :: .int (0 : Int32) :: .ref a0 :: rest) := by
  subst hN
  have z0 : (0 : Int32).toNatClampNeg = 0 := by decide
  refine hj_acopy hX hlk g1 g2 g3 hs0 hs1 (by decide) (by decide) h3 (by rw [z0]; omega) (by rw [z0]; omega) hR hR2 hd ?_
  rw [z0]
  exact k
theorem hj_tabIn (hX : hp_X p s m args meth c own cc nL ws D E ret nm) {dflt lo hi : Int} {offs : Array Int} {len : Nat} {x : Int32} {off : Int} {tgt : Nat} {kx : Int32} (hk : x = kx) (h1 : ¬ kx.toInt < lo) (h2 : ¬ hi < kx.toInt) (ho : offs[(kx.toInt - lo).toNat]? = some off) (ht : (pc : Int) + off = (tgt : Int)) (hd : decode cc pc = .ok (.tableswitch dflt lo hi offs, len)) (k : hp_J p l e R s m args below meth c Q D E b z nL sh cells slots I tgt lv rest) : hp_J p l e R s m args below meth c Q D E b z nL sh cells slots I pc lv (.int x :: rest) := fun hz H locs ls hP hS hl =>
  lv_tableIn hX.1 hX.2.1 hd (by rw [hk]; exact h1) (by rw [hk]; exact h2) (by rw [hk]; exact ho) ht (k hz H locs ls hP hS hl)
theorem hj_tabOut (hX : hp_X p s m args meth c own cc nL ws D E ret nm) {dflt lo hi : Int} {offs : Array Int} {len : Nat} {x : Int32} {tgt : Nat} (h : x.toInt < lo ∨ hi < x.toInt) (ht : (pc : Int) + dflt = (tgt : Int)) (hd : decode cc pc = .ok (.tableswitch dflt lo hi offs, len)) (k : hp_J p l e R s m args below meth c Q D E b z nL sh cells slots I tgt lv rest) : hp_J p l e R s m args below meth c Q D E b z nL sh cells slots I pc lv (.int x :: rest) := fun hz H locs ls hP hS hl =>
  lv_tableOut hX.1 hX.2.1 hd h ht (k hz H locs ls hP hS hl)
theorem hj_look (hX : hp_X p s m args meth c own cc nL ws D E ret nm) {dflt : Int} {ps : Array (Int × Int)} {len : Nat} {x : Int32} {off : Int} {tgt : Nat} (hp : (ps.toList.zip (ps.toList.drop 1)).all (fun (a, next) => a.1 < next.1) = true) (ho : Op.lookupswitch.offset ps.toList dflt x.toInt = off) (ht : (pc : Int) + off = (tgt : Int)) (hd : decode cc pc = .ok (.lookupswitch dflt ps, len)) (k : hp_J p l e R s m args below meth c Q D E b z nL sh cells slots I tgt lv rest) : hp_J p l e R s m args below meth c Q D E b z nL sh cells slots I pc lv (.int x :: rest) := fun hz H locs ls hP hS hl =>
  lv_lookup hX.1 hX.2.1 hd hp ho ht (k hz H locs ls hP hS hl)
theorem hj_iret (hX : hp_X p s m args meth c own cc nL ws D E (some .int) nm) {v r : Int32} {I' : hM} (hd : decode cc pc = .ok (.ireturn, 1)) (h : (some (v, I) : Option (Int32 × hM)) = some (r, I')) : hp_J p l e R s m args below meth c (MQ below (hp_Q D E b z (some (.int r)) sh I') args s cells slots (fun q : Nat => b ≤ q)) D E b z nL sh cells slots I pc lv [.int v] := by
  cases h
  exact fun hz H locs ls hP hS hl => W.iret hX.1 hX.2.1 hX.2.2.2.2.2.2.2.1 (fun t ht _ => ⟨⟨rfl, by rw [ht]; exact hP⟩, hS.F ht⟩) hS.2.2 hd hX.2.2.2.2.2.2.1
theorem hj_zret (hX : hp_X p s m args meth c own cc nL ws D E (some .boolean) nm) {v r : Int32} {I' : hM} (hd : decode cc pc = .ok (.ireturn, 1)) (h : gd (decide (v = 0) || decide (v = 1)) (some (v, I)) = some (r, I')) : hp_J p l e R s m args below meth c (MQ below (hp_Q D E b z (some (.int r)) sh I') args s cells slots (fun q : Nat => b ≤ q)) D E b z nL sh cells slots I pc lv [.int v] := by
  obtain ⟨h0, h⟩ := gd_e h
  cases h
  exact fun hz H locs ls hP hS hl => W.zret hX.1 hX.2.1 hX.2.2.2.2.2.2.2.1 (hp_bool h0).1 (fun t ht _ => ⟨⟨rfl, by rw [ht]; exact hP⟩, hS.F ht⟩) hS.2.2 hd hX.2.2.2.2.2.2.1
theorem hj_vret (hX : hp_X p s m args meth c own cc nL ws D E none nm) {r : Int32} {I' : hM} (hd : decode cc pc = .ok (.return_, 1)) (h : (some (0, I) : Option (Int32 × hM)) = some (r, I')) : hp_J p l e R s m args below meth c (MQ below (hp_Q D E b z none sh I') args s cells slots (fun q : Nat => b ≤ q)) D E b z nL sh cells slots I pc lv [] := by
  cases h
  exact fun hz H locs ls hP hS hl => W.vret hX.1 hX.2.1 hX.2.2.2.2.2.2.2.1 (fun t ht _ => ⟨⟨rfl, by rw [ht]; exact hP⟩, hS.F ht⟩) hS.2.2 hd hX.2.2.2.2.2.2.1
theorem hp_ret {r : Option Value} {sh2 : List hS} {I2 : hM} {mc ms : Nat} {H : Heap} {locs : List Loc} {ls : Array Slot} {st0 : List Value} {a : Array Value} (run : va_Run p l e R s m args below meth c H locs cells slots mc ms (F0 m pc ls st0) (rest.map (hp_v b z)) (hp_Q D E b z r sh2 I2 a) (fun q : Nat => b ≤ q)) (hz : b ≤ s.heap.size ∧ s.heap.size + cells = b + sh.length) (hlen : sh2.length = sh.length + mc) (hS : va_S (fun q : Nat => b ≤ q) s.heap H locs) (hl : lv_has ls nL (lv.map (hp_l b z))) (k : hp_J p l e R s m args below meth c Q D E b z nL sh2 (cells + mc) (slots + ms) I2 (pc + 3) lv (r.toList ++ rest)) : W p l e R s m args below meth c H locs cells slots Q (F0 m pc ls st0) := by
  intro T hT X
  obtain ⟨v, st₀, t, T2, L, h0, X2, hL, e1, e2, ⟨⟨hv, hPt⟩, hz1, hk⟩, st⟩ := run T hT X
  cases hv
  rw [h0] at hz1 hk
  have hS2 : va_S (fun q : Nat => b ≤ q) s.heap T2.heap (locs ++ L) := ⟨Nat.le_trans hS.1 (by rw [e1]; exact hz1), fun q g1 g2 => by rw [e1, hk q (Nat.lt_of_lt_of_le g1 hS.1) g2]; exact hS.2.1 q g1 g2, fun q hq => by
    rcases List.mem_append.mp hq with h | h
    · exact hS.2.2 q h
    · exact hL q h⟩
  obtain ⟨t2, a1, b1⟩ := k ⟨hz.1, by have := hz.2; omega⟩ T2.heap (locs ++ L) ls (by rw [e1]; exact hPt) hS2 hl T2 rfl X2
  refine ⟨t2, st t2 ?_, b1⟩
  have e9 : (r.toList ++ rest).map (hp_v b z) = (r.map (hp_v b z)).toList ++ rest.map (hp_v b z) := by
    cases r <;> rfl
  rw [e9] at a1
  exact a1
theorem hp_blind {Kx : Nat → Nat → State → Prop} (hKx : ∀ U U2 : State, U.heap = U2.heap → U.vm = U2.vm → Kx b z U → Kx b z U2) {as : List Value} : FrameBlind (va_Pc (as.map (hp_v b z)) (hp_B D E b z Kx sh I)) := fun a U g mk q => ⟨q.1, q.2.1, q.2.2.1, hp_K.same (u := U) (U := U.calling g mk a) rfl q.2.2.2.1, hKx U (U.calling g mk a) rfl rfl q.2.2.2.2⟩
theorem hp_blindT {as : List Value} : FrameBlind (va_Pc (as.map (hp_v b z)) (hp_B D E b z hp_T sh I)) := hp_blind (fun _ _ _ _ h => h)
theorem hj_callV (hX : hp_X p s m args meth c own cc nL ws D E ret nm) {y : MethodName} {wsy wsy2 : List Cond} {d mc ms n index maxL : Nat} {bytes : ByteArray} {rt : Option FieldType} {r : Option Value} {sh2 : List hS} {I2 : hM} {As st0 st2 : List Value} {o ci N : Nat} {C : String} {T : u_T} {fs : List (Option (Option Nat))} (hC : hp_C y wsy d mc ms sh I (.ref o :: As) r sh2 I2) (hG : GoodIn ws (wsV own index C y wsy)) (hw : wsy = Cond.code y bytes maxL rt :: wsy2) (hy : y.cls = C ∧ y.cls ≠ "java/lang/invoke/MethodHandle" ∧ y.cls ≠ "java/lang/invoke/VarHandle" ∧ (parseMethodDescriptor y.desc).map (fun d => d.parameters.length) = some n) (hR : d + 1 ≤ R.frames ∧ 8 + (maxL + 11) + 44 * d ≤ R.locals) (hc : vwCl[ci]? = some (C, T, N)) (hs : sh[o]? = some (0, ci, fs)) (hn : As.length = n) (hst : (rest.map fun v => v.category).sum ≤ 8) (hf : cells + mc ≤ R.cells ∧ slots + ms ≤ R.slots) (hlen : sh2.length = sh.length + mc) (hstk : st0 = As.reverse ++ .ref o :: rest) (hs2 : st2 = r.toList ++ rest) (hd : decode cc pc = .ok (.invokevirtual index, 3)) (k : hp_J p l e R s m args below meth c Q D E b z nL sh2 (cells + mc) (slots + ms) I2 (pc + 3) lv st2) : hp_J p l e R s m args below meth c Q D E b z nL sh cells slots I pc lv st0 := by
  intro hz H locs ls hP hS hl
  refine hp_sz hz hP hS (fun hsz => ?_)
  have run := va_runV (l := l) (e := e) (R := R) (below := below) (meth := meth) (H := H) (locs := locs) (cells := cells) (slots := slots) (b := b + o) (As := As.map (hp_v b z)) (rest := rest.map (hp_v b z)) (g := F0 m pc ls (st0.map (hp_v b z))) ⟨hX.1, hX.2.1, hX.2.2.1, hX.2.2.2.1, hX.2.2.2.2.1⟩ (hC l D E b z) (cwV n hX.2.2.2.2.1 hG hw rfl rfl hy hR) ⟨hp_blindT, va_recv hX.2.2.2.2.2.1.1 hP hc (hp_at hs), fun U hU hW => ⟨rfl, by rw [hU]; exact hsz, by rw [hU]; exact hP, hp_K.moved hW hX.2.2.2.2.2.1, trivial⟩⟩ rfl (by rw [List.length_map]; exact hn) hl.1 (by
    rw [hstk, List.map_append, List.map_reverse]
    rfl) (lv_room (by rw [hp_v_cats]; exact hst)) hd hf
  subst hs2
  exact hp_ret run hz hlen hS hl k
theorem hj_callS (hX : hp_X p s m args meth c own cc nL ws D E ret nm) {y : MethodName} {wsy wsy2 : List Cond} {d mc ms n index maxL : Nat} {bytes : ByteArray} {rt : Option FieldType} {r : Option Value} {sh2 : List hS} {I2 : hM} {As st0 st2 : List Value} (hC : hp_C y wsy d mc ms sh I As r sh2 I2) (hG : GoodIn ws (va_wsS own index y wsy)) (hw : wsy = Cond.code y bytes maxL rt :: wsy2) (hy : y.cls ≠ "java/lang/invoke/MethodHandle" ∧ y.cls ≠ "java/lang/invoke/VarHandle" ∧ (parseMethodDescriptor y.desc).map (fun d => d.parameters.length) = some n) (hR : d + 1 ≤ R.frames ∧ 8 + (maxL + 11) + 44 * d ≤ R.locals) (hn : As.length = n) (hst : (rest.map fun v => v.category).sum ≤ 8) (hf : cells + mc ≤ R.cells ∧ slots + ms ≤ R.slots) (hlen : sh2.length = sh.length + mc) (hstk : st0 = As.reverse ++ rest) (hs2 : st2 = r.toList ++ rest) (hd : decode cc pc = .ok (.invokestatic index, 3)) (k : hp_J p l e R s m args below meth c Q D E b z nL sh2 (cells + mc) (slots + ms) I2 (pc + 3) lv st2) : hp_J p l e R s m args below meth c Q D E b z nL sh cells slots I pc lv st0 := by
  intro hz H locs ls hP hS hl
  refine hp_sz hz hP hS (fun hsz => ?_)
  have run := va_runS (l := l) (e := e) (R := R) (below := below) (meth := meth) (H := H) (locs := locs) (cells := cells) (slots := slots) (As := As.map (hp_v b z)) (rest := rest.map (hp_v b z)) (g := F0 m pc ls (st0.map (hp_v b z))) ⟨hX.1, hX.2.1, hX.2.2.1, hX.2.2.2.1, hX.2.2.2.2.1⟩ (hC l D E b z) (va_cwS n hX.2.2.2.2.1 hG hw rfl rfl hy hR) ⟨hp_blindT, fun U hU hW => ⟨rfl, by rw [hU]; exact hsz, by rw [hU]; exact hP, hp_K.moved hW hX.2.2.2.2.2.1, trivial⟩⟩ rfl (by rw [List.length_map]; exact hn) hl.1 (by rw [hstk, List.map_append, List.map_reverse]) (lv_room (by rw [hp_v_cats]; exact hst)) hd hf
  subst hs2
  exact hp_ret run hz hlen hS hl k
theorem hj_callSN (hX : hp_X p s m args meth c own cc nL ws D E ret nm) {y : MethodName} {wsy wsy2 : List Cond} {d mc ms n index maxL : Nat} {bytes : ByteArray} {rt : Option FieldType} {r : Option Value} {sh2 : List hS} {I2 : hM} {As st0 st2 : List Value} {host : String} (hC : hp_C y wsy d mc ms sh I As r sh2 I2) (hG : GoodIn ws wsy) (hw : wsy = Cond.code y bytes maxL rt :: wsy2) (hst1 : Cond.static y ∈ ws) (hini : Cond.initialized y.cls ∈ ws) (hNw : hp_K D E s → va_Nw (.methodLinkNest own index y host) s) (hy : y.cls ≠ "java/lang/invoke/MethodHandle" ∧ y.cls ≠ "java/lang/invoke/VarHandle" ∧ (parseMethodDescriptor y.desc).map (fun d => d.parameters.length) = some n) (hR : d + 1 ≤ R.frames ∧ 8 + (maxL + 11) + 44 * d ≤ R.locals) (hn : As.length = n) (hst : (rest.map fun v => v.category).sum ≤ 8) (hf : cells + mc ≤ R.cells ∧ slots + ms ≤ R.slots) (hlen : sh2.length = sh.length + mc) (hstk : st0 = As.reverse ++ rest) (hs2 : st2 = r.toList ++ rest) (hd : decode cc pc = .ok (.invokestatic index, 3)) (k : hp_J p l e R s m args below meth c Q D E b z nL sh2 (cells + mc) (slots + ms) I2 (pc + 3) lv st2) : hp_J p l e R s m args below meth c Q D E b z nL sh cells slots I pc lv st0 := by
  intro hz H locs ls hP hS hl
  refine hp_sz hz hP hS (fun hsz => ?_)
  have run := va_runSN (l := l) (e := e) (R := R) (below := below) (meth := meth) (H := H) (locs := locs) (cells := cells) (slots := slots) (As := As.map (hp_v b z)) (rest := rest.map (hp_v b z)) (g := F0 m pc ls (st0.map (hp_v b z))) ⟨hX.1, hX.2.1, hX.2.2.1, hX.2.2.2.1, hX.2.2.2.2.1⟩ (hC l D E b z) ⟨va_cnB n hX.2.2.2.2.1 hG hw rfl rfl (hNw hX.2.2.2.2.2.1) (hX.2.2.2.2.1 _ hini) hy hR, hX.2.2.2.2.1 _ hst1, trivial⟩ ⟨hp_blindT, fun U hU hW => ⟨rfl, by rw [hU]; exact hsz, by rw [hU]; exact hP, hp_K.moved hW hX.2.2.2.2.2.1, trivial⟩⟩ rfl (by rw [List.length_map]; exact hn) hl.1 (by rw [hstk, List.map_append, List.map_reverse]) (lv_room (by rw [hp_v_cats]; exact hst)) hd hf
  subst hs2
  exact hp_ret run hz hlen hS hl k
theorem hj_callIN (hX : hp_X p s m args meth c own cc nL ws D E ret nm) {y : MethodName} {wsy wsy2 : List Cond} {d mc ms n index maxL : Nat} {bytes : ByteArray} {rt : Option FieldType} {r : Option Value} {sh2 : List hS} {I2 : hM} {As st0 st2 : List Value} {o : Nat} {host : String} (hC : hp_C y wsy d mc ms sh I (.ref o :: As) r sh2 I2) (hG : GoodIn ws wsy) (hw : wsy = Cond.code y bytes maxL none :: wsy2) (hini : Cond.initialized y.cls ∈ ws) (hin : Cond.instanceMethod y ∈ ws) (hy1 : y.name = "<init>") (hNw : hp_K D E s → va_Nw (.methodLinkNest own index y host) s) (hy : y.cls ≠ "java/lang/invoke/MethodHandle" ∧ y.cls ≠ "java/lang/invoke/VarHandle" ∧ (parseMethodDescriptor y.desc).map (fun d => d.parameters.length) = some n) (hR : d + 1 ≤ R.frames ∧ 8 + (maxL + 11) + 44 * d ≤ R.locals) (hn : As.length = n) (hst : (rest.map fun v => v.category).sum ≤ 8) (hf : cells + mc ≤ R.cells ∧ slots + ms ≤ R.slots) (hlen : sh2.length = sh.length + mc) (hstk : st0 = As.reverse ++ .ref o :: rest) (hs2 : st2 = r.toList ++ rest) (hd : decode cc pc = .ok (.invokespecial index, 3)) (k : hp_J p l e R s m args below meth c Q D E b z nL sh2 (cells + mc) (slots + ms) I2 (pc + 3) lv st2) : hp_J p l e R s m args below meth c Q D E b z nL sh cells slots I pc lv st0 := by
  intro hz H locs ls hP hS hl
  refine hp_sz hz hP hS (fun hsz => ?_)
  have run := va_runIN (l := l) (e := e) (R := R) (below := below) (meth := meth) (H := H) (locs := locs) (cells := cells) (slots := slots) (b := b + o) (As := As.map (hp_v b z)) (rest := rest.map (hp_v b z)) (g := F0 m pc ls (st0.map (hp_v b z))) ⟨hX.1, hX.2.1, hX.2.2.1, hX.2.2.2.1, hX.2.2.2.2.1⟩ (hC l D E b z) ⟨va_cnB n hX.2.2.2.2.1 hG hw rfl rfl (hNw hX.2.2.2.2.2.1) (hX.2.2.2.2.1 _ hini) hy hR, hy1, hX.2.2.2.2.1 _ hin⟩ ⟨hp_blindT, fun U hU hW => ⟨rfl, by rw [hU]; exact hsz, by rw [hU]; exact hP, hp_K.moved hW hX.2.2.2.2.2.1, trivial⟩⟩ rfl (by rw [List.length_map]; exact hn) hl.1 (by
    rw [hstk, List.map_append, List.map_reverse]
    rfl) (lv_room (by rw [hp_v_cats]; exact hst)) hd hf
  subst hs2
  exact hp_ret run hz hlen hS hl k
theorem hj_callI (hX : hp_X p s m args meth c own cc nL ws D E ret nm) {y : MethodName} {wsy wsy2 : List Cond} {d mc ms n index maxL : Nat} {bytes : ByteArray} {rt : Option FieldType} {r : Option Value} {sh2 : List hS} {I2 : hM} {As st0 st2 : List Value} {o : Nat} (hC : hp_C y wsy d mc ms sh I (.ref o :: As) r sh2 I2) (hG : GoodIn ws wsy) (hw : wsy = Cond.code y bytes maxL none :: wsy2) (hini : Cond.initialized y.cls ∈ ws) (hlk : Cond.methodLink own index y ∈ ws) (hin : Cond.instanceMethod y ∈ ws) (hy1 : y.name = "<init>") (hy : y.cls ≠ "java/lang/invoke/MethodHandle" ∧ y.cls ≠ "java/lang/invoke/VarHandle" ∧ (parseMethodDescriptor y.desc).map (fun d => d.parameters.length) = some n) (hR : d + 1 ≤ R.frames ∧ 8 + (maxL + 11) + 44 * d ≤ R.locals) (hn : As.length = n) (hst : (rest.map fun v => v.category).sum ≤ 8) (hf : cells + mc ≤ R.cells ∧ slots + ms ≤ R.slots) (hlen : sh2.length = sh.length + mc) (hstk : st0 = As.reverse ++ .ref o :: rest) (hs2 : st2 = r.toList ++ rest) (hd : decode cc pc = .ok (.invokespecial index, 3)) (k : hp_J p l e R s m args below meth c Q D E b z nL sh2 (cells + mc) (slots + ms) I2 (pc + 3) lv st2) : hp_J p l e R s m args below meth c Q D E b z nL sh cells slots I pc lv st0 := by
  intro hz H locs ls hP hS hl
  refine hp_sz hz hP hS (fun hsz => ?_)
  have run := va_runI (l := l) (e := e) (R := R) (below := below) (meth := meth) (H := H) (locs := locs) (cells := cells) (slots := slots) (b := b + o) (As := As.map (hp_v b z)) (rest := rest.map (hp_v b z)) (g := F0 m pc ls (st0.map (hp_v b z))) ⟨hX.1, hX.2.1, hX.2.2.1, hX.2.2.2.1, hX.2.2.2.2.1⟩ (hC l D E b z) (cwI n hX.2.2.2.2.1 hG hw rfl rfl (hX.2.2.2.2.1 _ hini) (hX.2.2.2.2.1 _ hlk) (hX.2.2.2.2.1 _ hin) hy1 hy hR) ⟨hp_blindT, fun U hU hW => ⟨rfl, by rw [hU]; exact hsz, by rw [hU]; exact hP, hp_K.moved hW hX.2.2.2.2.2.1, trivial⟩⟩ rfl (by rw [List.length_map]; exact hn) hl.1 (by
    rw [hstk, List.map_append, List.map_reverse]
    rfl) (lv_room (by rw [hp_v_cats]; exact hst)) hd hf
  subst hs2
  exact hp_ret run hz hlen hS hl k
theorem hj_callIx (hX : hp_X p s m args meth c own cc nL ws D E ret nm) {y : MethodName} {wsy wsy2 : List Cond} {d mc ms n index maxL : Nat} {bytes : ByteArray} {rt : Option FieldType} {r : Option Value} {sh2 : List hS} {I2 : hM} {As st0 st2 : List Value} {o : Nat} {Kx : Nat → Nat → State → Prop} (z2 : Nat) (hKx : ∀ U U2 : State, U.heap = U2.heap → U.vm = U2.vm → Kx b z2 U → Kx b z2 U2) (hKw : ∀ (H : Heap) (locs : List Loc) (U : State), va_S (fun q : Nat => b ≤ q) s.heap H locs → U.heap = H → s.WarmedH U.vm → Kx b z2 U) (hC : hp_Cx Kx y wsy d mc ms sh I [.ref o] r sh2 I2) (hr : r = none) (hG : GoodIn ws wsy) (hw : wsy = Cond.code y bytes maxL none :: wsy2) (hini : Cond.initialized y.cls ∈ ws) (hlk : Cond.methodLink own index y ∈ ws) (hin : Cond.instanceMethod y ∈ ws) (hy1 : y.name = "<init>") (hy : y.cls ≠ "java/lang/invoke/MethodHandle" ∧ y.cls ≠ "java/lang/invoke/VarHandle" ∧ (parseMethodDescriptor y.desc).map (fun d => d.parameters.length) = some 0) (hR : d + 1 ≤ R.frames ∧ 8 + (maxL + 11) + 44 * d ≤ R.locals) (hst : (rest.map fun v => v.category).sum ≤ 8) (hf : cells + mc ≤ R.cells ∧ slots + ms ≤ R.slots) (hlen : sh2.length = sh.length + mc) (hstk : st0 = .ref o :: rest) (hd : decode cc pc = .ok (.invokespecial index, 3)) (k : hp_J p l e R s m args below meth c Q D E b z nL sh2 (cells + mc) (slots + ms) I2 (pc + 3) lv rest) : hp_J p l e R s m args below meth c Q D E b z nL sh cells slots I pc lv st0 := by
  intro hz H locs ls hP hS hl
  refine hp_sz hz hP hS (fun hsz => ?_)
  subst hr
  have run := va_runI (l := l) (e := e) (R := R) (below := below) (meth := meth) (H := H) (locs := locs) (cells := cells) (slots := slots) (b := b + o) (As := []) (rest := rest.map (hp_v b z)) (g := F0 m pc ls (st0.map (hp_v b z))) ⟨hX.1, hX.2.1, hX.2.2.1, hX.2.2.2.1, hX.2.2.2.2.1⟩ (hC l D E b z2) (cwI 0 hX.2.2.2.2.1 hG hw rfl rfl (hX.2.2.2.2.1 _ hini) (hX.2.2.2.2.1 _ hlk) (hX.2.2.2.2.1 _ hin) hy1 hy hR) ⟨hp_blind hKx, fun U hU hW => ⟨rfl, by rw [hU]; exact hsz, by rw [hU]; exact hP, hp_K.moved hW hX.2.2.2.2.2.1, hKw H locs U hS hU hW⟩⟩ rfl rfl hl.1 (by rw [hstk]; rfl) (lv_room (by rw [hp_v_cats]; exact hst)) hd hf
  have run2 : va_Run p l e R s m args below meth c H locs cells slots mc ms (F0 m pc ls (st0.map (hp_v b z))) (rest.map (hp_v b z)) (hp_Q D E b z none sh2 I2 (Value.ref (b + o) :: []).toArray) (fun q : Nat => b ≤ q) := run
  exact hp_ret (r := none) run2 hz hlen hS hl k
theorem hj_objInit (hX : hp_X p s m args meth c own cc nL ws D E ret nm) {o index : Nat} (h1 : Cond.methodLink own index Lib.objectInit ∈ ws) (h2 : Cond.instanceMethod Lib.objectInit ∈ ws) (h3 : Cond.code Lib.objectInit ⟨#[0xb1]⟩ 1 none ∈ ws) (hR : 1 ≤ R.frames) (hR2 : (rest.map fun v => v.category).sum + 12 ≤ R.locals) (hd : decode cc pc = .ok (.invokespecial index, 3)) (k : hp_J p l e R s m args below meth c Q D E b z nL sh cells slots I (pc + 3) lv rest) : hp_J p l e R s m args below meth c Q D E b z nL sh cells slots I pc lv (.ref o :: rest) := fun hz H locs ls hP hS hl =>
  W.objInit hX.1 hX.2.1 hX.2.2.2.1 (hX.2.2.2.2.1 _ h1) (hX.2.2.2.2.1 _ h2) (hX.2.2.2.2.1 _ h3) rfl (by rw [hX.2.2.1]; exact hl.1) rfl hd hR (by show 2 * 0 + _ + 12 ≤ _; rw [hp_v_cats]; omega) (k hz H locs ls hP hS hl)
theorem hj_new (hX : hp_X p s m args meth c own cc nL ws D E ret nm) {ci N index : Nat} {C : String} {T : u_T} (ty : Nat → FieldType) (hty : ∀ k, k < N → parseFieldDescriptor (T k).2.2.1 = some (ty k)) (hin : ∀ w ∈ u_ws C T N, w ∈ ws) (h1 : Cond.classLink own index C ∈ ws) (h2 : Cond.instantiable C N ∈ ws) (h3 : Cond.initialized C ∈ ws) (hc : vwCl[ci]? = some (C, T, N)) (fs : List (Option (Option Nat))) (hfs : ∀ (b : Nat) (j : Nat), j < N → defaultValue (ty j) = vp_V (fs.mapIdx (fun _ q => hp_f b 0 q)) j) (hf : cells + 1 ≤ R.cells ∧ slots + N ≤ R.slots) (hd : decode cc pc = .ok (.new index, 3)) (k : hp_J p l e R s m args below meth c Q D E b z nL (sh ++ [(0, ci, fs)]) (cells + 1) (slots + N) (hz I sh.length) (pc + 3) lv (.ref sh.length :: rest)) : hp_J p l e R s m args below meth c Q D E b z nL sh cells slots I pc lv rest := by
  intro hzz H locs ls hP hS hl
  refine hp_sz hzz hP hS (fun hsz => ?_)
  have hKn := hX.2.2.2.2.2.1.1.1 ci _ hc
  refine W.newcK hX.1 hX.2.1 hX.2.2.2.1 (hX.2.2.2.2.1 _ h1) (hX.2.2.2.2.1 _ h2) (hX.2.2.2.2.1 _ h3) rfl hd hf.1 hf.2 hKn.2.1 rfl fun H1 kC hkC e1 z1 o1 => ?_
  have hk : ∀ (k : Nat) (x : Nat × va_E), (hp_w E b sh I)[k]? = some x → H1[x.1]? = H[x.1]? := fun k x hx => o1 x.1 ((hP k x hx).lt)
  have hP1 : va_P D vwCl (hp_w E b (sh ++ [(0, ci, fs)]) (hz I sh.length)) H1 := by
    rw [← hp_push (I := I) (c := (0, ci, fs)) (x := .inr (ci, fs.mapIdx (fun _ q => hp_f b 0 q))) ?_ (fun j hj => hz_ne I sh.length j (by omega))]
    · refine (hP.kept hk).app (fun k x hx => ?_)
      have hz1 : k < 1 := (List.getElem?_eq_some_iff.mp hx).1
      rw [show k = 0 by omega] at hx
      cases hx
      rw [← hsz]
      exact ⟨_, hc, (u_born ty hX.2.2.2.2.1 hin hKn hkC e1 hty).to (hfs b)⟩
    · show (Sum.inr (ci, fs.mapIdx (fun i q => hp_f b (hz I sh.length sh.length i) q)) : va_E) = _
      congr 2
      congr 1
      funext i q
      unfold hz
      rw [if_pos rfl]
  have hS1 : va_S (fun q : Nat => b ≤ q) s.heap H1 locs := ⟨Nat.le_trans hS.1 (by omega), fun x g1 g2 => (o1 x (Nat.lt_of_lt_of_le g1 hS.1)).trans (hS.2.1 x g1 g2), hS.2.2⟩
  have h9 := k ⟨hzz.1, by have := hzz.2; rw [List.length_append]; show s.heap.size + (cells + 1) = b + (sh.length + 1); omega⟩ H1 locs ls hP1 hS1 hl
  have e9 : (F0 m (pc + 3) ls ((Value.ref sh.length :: rest).map (hp_v b z))) = (F0 m (pc + 3) ls (Value.ref H.size :: rest.map (hp_v b z))) := by
    rw [hsz]
    rfl
  rw [e9] at h9
  exact h9
theorem hj_newi (hX : hp_X p s m args meth c own cc nL ws D E ret nm) {n : Int32} {N : Nat} (h1 : Cond.arrayClass .int ∈ ws) (hn : ¬ n < 0) (hN : n.toNatClampNeg = N) (hb : N * componentBytes .int ≤ 536870912) (hf : cells + 1 ≤ R.cells ∧ slots + N ≤ R.slots) (hd : decode cc pc = .ok (.newarray .int, 2)) (k : hp_J p l e R s m args below meth c Q D E b z nL (sh ++ [(1, N, [])]) (cells + 1) (slots + N) (hz I sh.length) (pc + 2) lv (.ref sh.length :: rest)) : hp_J p l e R s m args below meth c Q D E b z nL sh cells slots I pc lv (.int n :: rest) := by
  intro hzz H locs ls hP hS hl
  refine hp_sz hzz hP hS (fun hsz => ?_)
  refine va_newaK (atype := .int) hX.1 hX.2.1 (hX.2.2.2.2.1 _ h1) rfl hd rfl hn hN hb hf.1 hf.2 rfl (fun H1 cA e1 z1 o1 hAr hNm => ?_)
  have hcA : cA = E 0 := by
    have g1 : s.vm.findClass ("[" ++ (FieldType.toString .int)) = some (E 0) := (hX.2.2.2.2.2.1.1.2 0 _ rfl).2
    exact Option.some.inj (hNm.symm.trans g1)
  subst hcA
  have hk : ∀ (k : Nat) (x : Nat × va_E), (hp_w E b sh I)[k]? = some x → H1[x.1]? = H[x.1]? := fun k x hx => o1 x.1 ((hP k x hx).lt)
  have hP1 : va_P D vwCl (hp_w E b (sh ++ [(1, N, [])]) (hz I sh.length)) H1 := by
    rw [← hp_push (I := I) (c := (1, N, [])) (x := .inl (E 0, N, .inl (fun _ => 0))) ?_ (fun j hj => hz_ne I sh.length j (by omega))]
    · refine (hP.kept hk).app (fun k x hx => ?_)
      have hz1 : k < 1 := (List.getElem?_eq_some_iff.mp hx).1
      rw [show k = 0 by omega] at hx
      cases hx
      rw [← hsz]
      exact e1
    · show (Sum.inl (E 0, N, Sum.inl (hz I sh.length sh.length)) : va_E) = _
      have e9 : hz I sh.length sh.length = fun _ => 0 := by
        funext i
        unfold hz
        rw [if_pos rfl]
      rw [e9]
  have hS1 : va_S (fun q : Nat => b ≤ q) s.heap H1 locs := ⟨Nat.le_trans hS.1 (by omega), fun x g1 g2 => (o1 x (Nat.lt_of_lt_of_le g1 hS.1)).trans (hS.2.1 x g1 g2), hS.2.2⟩
  have h9 := k ⟨hzz.1, by have := hzz.2; rw [List.length_append]; show s.heap.size + (cells + 1) = b + (sh.length + 1); omega⟩ H1 locs ls hP1 hS1 hl
  have e9 : (F0 m (pc + 2) ls ((Value.ref sh.length :: rest).map (hp_v b z))) = (F0 m (pc + 2) ls (Value.ref H.size :: rest.map (hp_v b z))) := by
    rw [hsz]
    rfl
  rw [e9] at h9
  exact h9
theorem hj_newb (hX : hp_X p s m args meth c own cc nL ws D E ret nm) {n : Int32} {N : Nat} (h1 : Cond.arrayClass .byte ∈ ws) (hn : ¬ n < 0) (hN : n.toNatClampNeg = N) (hb : N * componentBytes .byte ≤ 536870912) (hf : cells + 1 ≤ R.cells ∧ slots + N ≤ R.slots) (hd : decode cc pc = .ok (.newarray .byte, 2)) (k : hp_J p l e R s m args below meth c Q D E b z nL (sh ++ [(2, N, [])]) (cells + 1) (slots + N) (hz I sh.length) (pc + 2) lv (.ref sh.length :: rest)) : hp_J p l e R s m args below meth c Q D E b z nL sh cells slots I pc lv (.int n :: rest) := by
  intro hzz H locs ls hP hS hl
  refine hp_sz hzz hP hS (fun hsz => ?_)
  refine va_newaK (atype := .byte) hX.1 hX.2.1 (hX.2.2.2.2.1 _ h1) rfl hd rfl hn hN hb hf.1 hf.2 rfl (fun H1 cA e1 z1 o1 hAr hNm => ?_)
  have hcA : cA = E 1 := by
    have g1 : s.vm.findClass ("[" ++ (FieldType.toString .byte)) = some (E 1) := (hX.2.2.2.2.2.1.1.2 1 _ rfl).2
    exact Option.some.inj (hNm.symm.trans g1)
  subst hcA
  have hk : ∀ (k : Nat) (x : Nat × va_E), (hp_w E b sh I)[k]? = some x → H1[x.1]? = H[x.1]? := fun k x hx => o1 x.1 ((hP k x hx).lt)
  have hP1 : va_P D vwCl (hp_w E b (sh ++ [(2, N, [])]) (hz I sh.length)) H1 := by
    rw [← hp_push (I := I) (c := (2, N, [])) (x := .inl (E 1, N, .inl (fun _ => 0))) ?_ (fun j hj => hz_ne I sh.length j (by omega))]
    · refine (hP.kept hk).app (fun k x hx => ?_)
      have hz1 : k < 1 := (List.getElem?_eq_some_iff.mp hx).1
      rw [show k = 0 by omega] at hx
      cases hx
      rw [← hsz]
      exact e1
    · show (Sum.inl (E 1, N, Sum.inl (hz I sh.length sh.length)) : va_E) = _
      have e9 : hz I sh.length sh.length = fun _ => 0 := by
        funext i
        unfold hz
        rw [if_pos rfl]
      rw [e9]
  have hS1 : va_S (fun q : Nat => b ≤ q) s.heap H1 locs := ⟨Nat.le_trans hS.1 (by omega), fun x g1 g2 => (o1 x (Nat.lt_of_lt_of_le g1 hS.1)).trans (hS.2.1 x g1 g2), hS.2.2⟩
  have h9 := k ⟨hzz.1, by have := hzz.2; rw [List.length_append]; show s.heap.size + (cells + 1) = b + (sh.length + 1); omega⟩ H1 locs ls hP1 hS1 hl
  have e9 : (F0 m (pc + 2) ls ((Value.ref sh.length :: rest).map (hp_v b z))) = (F0 m (pc + 2) ls (Value.ref H.size :: rest.map (hp_v b z))) := by
    rw [hsz]
    rfl
  rw [e9] at h9
  exact h9
theorem hj_newq (hX : hp_X p s m args meth c own cc nL ws D E ret nm) {n : Int32} {N index : Nat} (h1 : Cond.classLink own index RX2 ∈ ws) (hn0 : ¬ n < 0) (hN : n.toNatClampNeg = N) (hb : N * 4 ≤ 536870912) (hf : cells + 1 ≤ R.cells ∧ slots + N ≤ R.slots) (hd : decode cc pc = .ok (.anewarray index, 3)) (k : hp_J p l e R s m args below meth c Q D E b z nL (sh ++ [(3, N, [])]) (cells + 1) (slots + N) (hn I sh.length) (pc + 3) lv (.ref sh.length :: rest)) : hp_J p l e R s m args below meth c Q D E b z nL sh cells slots I pc lv (.int n :: rest) := by
  intro hzz H locs ls hP hS hl
  refine hp_sz hzz hP hS (fun hsz => ?_)
  subst hN
  refine W.anew hX.1 hX.2.1 hX.2.2.2.1 (hX.2.2.2.2.1 _ h1) (va_AO.use hX.2.2.2.2.2.1.2.2.2.2.2.2) rfl hd rfl hn0 hb hf.1 hf.2 (fun cA kA comp f1 f2 f3 f4 => ?_)
  have hcA : cA = E 2 := by
    obtain ⟨kB, comp2, g1, g2, g3, g4⟩ := (hX.2.2.2.2.2.1.1.2 2 _ rfl).2
    exact Option.some.inj (f1.symm.trans g4)
  subst hcA
  generalize hH1 : H.push ({ cls := E 2, slots := Array.replicate n.toNatClampNeg .null, vm := .none } : Cell) = H1
  have e1 : H1[H.size]? = some (vp_cell (E 2) (n.toNatClampNeg, .inr (.inr (.inr (.inr (fun _ => none)))))) := by
    show H1[H.size]? = some (vp_cell _ _)
    rw [vp_cell_q, ← hH1, Array.getElem?_push_size]
    exact congrArg some (arrV_new _ _ _)
  have z1 : H1.size = H.size + 1 := by rw [← hH1]; simp
  have o1 : ∀ q, q < H.size → H1[q]? = H[q]? := fun q hq => by
    rw [← hH1, Array.getElem?_push, if_neg (Nat.ne_of_lt hq)]
  have hk : ∀ (k : Nat) (x : Nat × va_E), (hp_w E b sh I)[k]? = some x → H1[x.1]? = H[x.1]? := fun k x hx => o1 x.1 ((hP k x hx).lt)
  have hP1 : va_P D vwCl (hp_w E b (sh ++ [(3, n.toNatClampNeg, [])]) (hn I sh.length)) H1 := by
    rw [← hp_push (I := I) (c := (3, n.toNatClampNeg, [])) (x := .inl (E 2, n.toNatClampNeg, .inr (.inr (.inr (.inr (fun _ => none)))))) ?_ (fun j hj => hn_ne I sh.length j (by omega))]
    · refine (hP.kept hk).app (fun k x hx => ?_)
      have hz1 : k < 1 := (List.getElem?_eq_some_iff.mp hx).1
      rw [show k = 0 by omega] at hx
      cases hx
      rw [← hsz]
      exact e1
    · show (Sum.inl (E 2, n.toNatClampNeg, Sum.inr (Sum.inr (Sum.inr (Sum.inr (fun j => hp_r b (hn I sh.length sh.length j)))))) : va_E) = _
      have e9 : (fun j => hp_r b (hn I sh.length sh.length j)) = fun _ => none := by
        funext i
        unfold hn hp_r
        rw [if_pos rfl]
        rfl
      rw [e9]
  have hS1 : va_S (fun q : Nat => b ≤ q) s.heap H1 locs := ⟨Nat.le_trans hS.1 (by omega), fun x g1 g2 => (o1 x (Nat.lt_of_lt_of_le g1 hS.1)).trans (hS.2.1 x g1 g2), hS.2.2⟩
  have h9 := k ⟨hzz.1, by have := hzz.2; rw [List.length_append]; show s.heap.size + (cells + 1) = b + (sh.length + 1); omega⟩ H1 locs ls hP1 hS1 hl
  have e9 : (F0 m (pc + 3) ls ((Value.ref sh.length :: rest).map (hp_v b z))) = (F0 m (pc + 3) ls (Value.ref H.size :: rest.map (hp_v b z))) := by
    rw [hsz]
    rfl
  rw [e9] at h9
  exact h9
theorem hj_eqs {sh2 : List hS} {I2 : hM} {st st2 : List Value} (h1 : sh = sh2) (h2 : I = I2) (h3 : st = st2) (k : hp_J p l e R s m args below meth c Q D E b z nL sh2 cells slots I2 pc lv st2) : hp_J p l e R s m args below meth c Q D E b z nL sh cells slots I pc lv st := by
  subst h1
  subst h2
  subst h3
  exact k
theorem hj_sld (hX : hp_X p s m args meth c own cc nL ws D E ret nm) {L : Nat} {xs : Nat → Int32} {i : Int32} (hs : va_X z L xs s s.heap) (h1 : z < s.heap.size) (h2 : z < b) {A : Option (Int32 × hM)} {rr : Int32 × hM} (hd : decode cc pc = .ok (.iaload, 1)) (h : gd (hx i L) A = some rr) (k : A = some rr → hp_J p l e R s m args below meth c Q D E b z nL sh cells slots I (pc + 1) lv (.int (xs i.toNatClampNeg) :: rest)) : hp_J p l e R s m args below meth c Q D E b z nL sh cells slots I pc lv (.int i :: .null :: rest) := fun hz H locs ls hP hS hl =>
  va_sld hX.1 hX.2.1 hs h1 (Nat.not_le.mpr h2) hS (hx_in (gd_e h).1) hd (k (gd_e h).2 hz H locs ls hP hS hl)
theorem hj_slen (hX : hp_X p s m args meth c own cc nL ws D E ret nm) {L : Nat} {xs : Nat → Int32} (hs : va_X z L xs s s.heap) (h1 : z < s.heap.size) (h2 : z < b) (hd : decode cc pc = .ok (.arraylength, 1)) (k : hp_J p l e R s m args below meth c Q D E b z nL sh cells slots I (pc + 1) lv (.int (nI L) :: rest)) : hp_J p l e R s m args below meth c Q D E b z nL sh cells slots I pc lv (.null :: rest) := fun hz H locs ls hP hS hl =>
  va_slen hX.1 hX.2.1 hs h1 (Nat.not_le.mpr h2) hS hd (k hz H locs ls hP hS hl)
theorem hp_start {y : MethodName} {wsy wsy2 : List Cond} {maxL d mc ms : Nat} {as : List Value} {r : Option Value} {sh2 : List hS} {I2 : hM} {Kx : Nat → Nat → State → Prop} (lv0 : List (Nat × Value)) (hy : plainName y.cls = true) (hw : wsy = Cond.code y cc maxL ret :: wsy2) (hlv : ∀ b z, lv_args 0 (as.map (hp_v b z)) = lv0.map (hp_l b z)) (hlen : ∀ b z, (lg_sl (as.map (hp_v b z))).length ≤ maxL)
    (body : ∀ (p : Program) (l : Launch) (e : Env) (s : State) (m : MethodId) (below : List Frame) (meth : Method) (c : Code) (D : va_G) (E : Nat → ClassId) (b z : Nat), hp_X p s m (as.map (hp_v b z)).toArray meth c y.cls cc maxL wsy D E ret y.name → Kx b z s →
      hp_J p l e ({ frames := d, cells := mc, slots := ms, locals := 44 * d }) s m (as.map (hp_v b z)).toArray below meth c (MQ below (hp_Q D E b z r sh2 I2) (as.map (hp_v b z)).toArray s mc ms (fun q : Nat => b ≤ q)) D E b z maxL sh 0 0 I 0 lv0 []) : hp_Cx Kx y wsy d mc ms sh I as r sh2 I2 := by
  intro l D E b z
  refine Met.ofW (cc := cc) (maxL := maxL) (ret := ret) hy hw ?_
  intro p e s m args0 below meth c s₁ B hml hv
  obtain ⟨rfl, hsz, hP, hK, hKx⟩ := hv
  have hts := atoms_spec (ws := wsy) B.pre
  have hl := lv_entry (as.map (hp_v b z)) (n := maxL) (hlen b z)
  rw [lg_entry_eq]
  generalize (lg_sl (as.map (hp_v b z)) ++ List.replicate (maxL - (lg_sl (as.map (hp_v b z))).length) Slot.unset).toArray = ls at hl ⊢
  rw [hlv] at hl
  exact body p l e s m below meth c D E b z ⟨B.exec, B.bytes, hml, findClass_of_methodNamed B.named, hts, hK, B.notSynchronized, B.returns, (name_of_methodNamed B.named B.method).1⟩ hKx ⟨by omega, by omega⟩ s.heap [] ls hP va_S.rf hl
end HJB
