abbrev hS : Type := Nat × Nat × List (Option (Option Nat))
abbrev hM : Type := Nat → Nat → Int32
def hp_v (b z : Nat) : Value → Value
  | .ref k => .ref (b + k)
  | .null => .ref z
  | .int x => .int x
  | .long x => .long x
  | .float x => .float x
  | .double x => .double x
  | .retAddr x => .retAddr x
theorem hp_v_cat (b z : Nat) (v : Value) : (hp_v b z v).category = v.category := by cases v <;> rfl
theorem hp_v_cats (b z : Nat) (st : List Value) : ((st.map (hp_v b z)).map fun v => v.category) = st.map fun v => v.category := by
  rw [List.map_map]
  exact List.map_congr_left fun v _ => hp_v_cat b z v
def hp_f (b : Nat) (x : Int32) : Option (Option Nat) → Value
  | none => .int x
  | some none => .null
  | some (some k) => .ref (b + k)
def hp_r (b : Nat) (x : Int32) : Option Nat := if x < 0 then none else some (b + x.toNatClampNeg)
def hp_e (E : Nat → ClassId) (b : Nat) (c : hS) (f : Nat → Int32) : va_E := match c.1 with
  | 0 => .inr (c.2.1, c.2.2.mapIdx (fun j o => hp_f b (f j) o))
  | 1 => .inl (E 0, c.2.1, .inl f)
  | 2 => .inl (E 1, c.2.1, .inl f)
  | _ => .inl (E 2, c.2.1, .inr (.inr (.inr (.inr (fun j => hp_r b (f j))))))
def hp_w (E : Nat → ClassId) (b : Nat) (sh : List hS) (I : hM) : va_W := sh.mapIdx (fun k c => (b + k, hp_e E b c (I k)))
theorem hp_at {E : Nat → ClassId} {b : Nat} {sh : List hS} {I : hM} {k : Nat} {c : hS} (h : sh[k]? = some c) : (hp_w E b sh I)[k]? = some (b + k, hp_e E b c (I k)) := by
  unfold hp_w
  rw [List.getElem?_mapIdx, h]
  rfl
theorem hp_get {E : Nat → ClassId} {b : Nat} {sh : List hS} {I : hM} {k : Nat} {q : Nat × va_E} (h : (hp_w E b sh I)[k]? = some q) : q.1 = b + k ∧ k < sh.length := by
  unfold hp_w at h
  rw [List.getElem?_mapIdx] at h
  cases hs : sh[k]? with
  | none => rw [hs] at h; cases h
  | some c =>
    rw [hs] at h
    cases h
    exact ⟨rfl, (List.getElem?_eq_some_iff.mp hs).1⟩
theorem hp_D {E : Nat → ClassId} {b : Nat} {sh : List hS} {I : hM} : va_D (fun q : Nat => b ≤ q) (hp_w E b sh I) := by
  refine ⟨fun i j p q hi hj e => ?_, fun k q hk => ?_⟩
  · have h1 := (hp_get hi).1
    have h2 := (hp_get hj).1
    omega
  · have h1 := (hp_get hk).1
    show b ≤ q.1
    omega
theorem hp_len {E : Nat → ClassId} {b : Nat} {sh : List hS} {I : hM} : (hp_w E b sh I).length = sh.length := by
  unfold hp_w
  exact List.length_mapIdx
theorem hp_set {E : Nat → ClassId} {b : Nat} {sh : List hS} {I I' : hM} {k : Nat} {c : hS} {x : va_E} (hs : sh[k]? = some c) (he : hp_e E b c (I' k) = x) (ho : ∀ j, j ≠ k → I' j = I j) : (hp_w E b sh I).set k (b + k, x) = hp_w E b sh I' := by
  apply List.ext_getElem?
  intro i
  have hk : k < (hp_w E b sh I).length := by rw [hp_len]; exact (List.getElem?_eq_some_iff.mp hs).1
  by_cases hi : i = k
  · subst hi
    rw [List.getElem?_set_self hk, hp_at hs, he]
  · rw [List.getElem?_set_ne (Ne.symm hi)]
    unfold hp_w
    rw [List.getElem?_mapIdx, List.getElem?_mapIdx, ho i hi]
theorem hp_setS {E : Nat → ClassId} {b : Nat} {sh : List hS} {I : hM} {k : Nat} {c c' : hS} {x : va_E} (hs : sh[k]? = some c) (he : hp_e E b c' (I k) = x) : (hp_w E b sh I).set k (b + k, x) = hp_w E b (sh.set k c') I := by
  apply List.ext_getElem?
  intro i
  have hk0 : k < sh.length := (List.getElem?_eq_some_iff.mp hs).1
  have hk : k < (hp_w E b sh I).length := by rw [hp_len]; exact hk0
  by_cases hi : i = k
  · subst hi
    rw [List.getElem?_set_self hk, hp_at (List.getElem?_set_self hk0), he]
  · rw [List.getElem?_set_ne (Ne.symm hi)]
    unfold hp_w
    rw [List.getElem?_mapIdx, List.getElem?_mapIdx, List.getElem?_set_ne (Ne.symm hi)]
theorem hp_push {E : Nat → ClassId} {b : Nat} {sh : List hS} {I I' : hM} {c : hS} {x : va_E} (he : hp_e E b c (I' sh.length) = x) (ho : ∀ j, j < sh.length → I' j = I j) : hp_w E b sh I ++ [(b + sh.length, x)] = hp_w E b (sh ++ [c]) I' := by
  apply List.ext_getElem?
  intro i
  by_cases hi : i < sh.length
  · rw [List.getElem?_append_left (by rw [hp_len]; exact hi)]
    unfold hp_w
    rw [List.getElem?_mapIdx, List.getElem?_mapIdx, List.getElem?_append_left hi, ho i hi]
  · rw [List.getElem?_append_right (by rw [hp_len]; omega), hp_len]
    unfold hp_w
    rw [List.getElem?_mapIdx, List.getElem?_append_right (by omega)]
    by_cases h0 : i = sh.length
    · subst h0
      rw [Nat.sub_self]
      show some (b + sh.length, x) = some (b + sh.length, hp_e E b c (I' sh.length))
      rw [he]
    · have h1 : i - sh.length = (i - sh.length - 1) + 1 := by omega
      rw [h1]
      rfl
def hu (I : hM) (k j : Nat) (v : Int32) : hM := fun a i => if a = k then (if i = j then v else I a i) else I a i
def hz (I : hM) (k : Nat) : hM := fun a i => if a = k then 0 else I a i
def hn (I : hM) (k : Nat) : hM := fun a i => if a = k then -1 else I a i
def hcp (I : hM) (k : Nat) (g : Nat → Int32) : hM := fun a i => if a = k then g i else I a i
theorem hu_self (I : hM) (k j : Nat) (v : Int32) : hu I k j v k = upd (I k) j v := by
  funext i
  unfold hu upd
  rw [if_pos rfl]
theorem hu_ne (I : hM) (k j : Nat) (v : Int32) : ∀ a, a ≠ k → hu I k j v a = I a := by
  intro a h
  funext i
  unfold hu
  rw [if_neg h]
theorem hz_ne (I : hM) (k : Nat) : ∀ a, a ≠ k → hz I k a = I a := by
  intro a h
  funext i
  unfold hz
  rw [if_neg h]
theorem hn_ne (I : hM) (k : Nat) : ∀ a, a ≠ k → hn I k a = I a := by
  intro a h
  funext i
  unfold hn
  rw [if_neg h]
theorem hcp_ne (I : hM) (k : Nat) (g : Nat → Int32) : ∀ a, a ≠ k → hcp I k g a = I a := by
  intro a h
  funext i
  unfold hcp
  rw [if_neg h]
theorem hcp_self (I : hM) (k : Nat) (g : Nat → Int32) : hcp I k g k = g := by
  funext i
  unfold hcp
  rw [if_pos rfl]
/-- what a method's start and every state of it give of the tables -/
def hp_K (D : va_G) (E : Nat → ClassId) (U : State) : Prop := va_K D vwCl [(E 0, .int), (E 1, .byte), (E 2, .object RX2)] U ∧ va_Nw (.methodLinkNest RX4 9 yX3_init RX4) U ∧ va_Nw (.methodLinkNest RX4 18 yX0_init RX4) U ∧ va_Nw (.methodLinkNest RX4 28 yX2_init RX4) U ∧ va_Nw (.methodLinkNest RX1 21 yX2_init RX4) U ∧ va_Nw (.methodLinkNest RX2 71 yX4_worth RX4) U ∧ va_AO RX2 U
theorem hp_K.moved {D : va_G} {E : Nat → ClassId} {u U : State} (hW : u.WarmedH U.vm) (h : hp_K D E u) : hp_K D E U :=
  ⟨va_K.moved hW.alike h.1, va_Nw.warmM hW h.2.1, va_Nw.warmM hW h.2.2.1, va_Nw.warmM hW h.2.2.2.1, va_Nw.warmM hW h.2.2.2.2.1, va_Nw.warmM hW h.2.2.2.2.2.1, va_AO.moved hW.alike h.2.2.2.2.2.2⟩
theorem hp_K.same {D : va_G} {E : Nat → ClassId} {u U : State} (e : u.vm = U.vm) (h : hp_K D E u) : hp_K D E U :=
  ⟨va_K.moved (by rw [← e]; exact Vm.Alike.refl u.vm) h.1, va_Nw.same rfl e h.2.1, va_Nw.same rfl e h.2.2.1, va_Nw.same rfl e h.2.2.2.1, va_Nw.same rfl e h.2.2.2.2.1, va_Nw.same rfl e h.2.2.2.2.2.1, va_AO.moved (by rw [← e]; exact Vm.Alike.refl u.vm) h.2.2.2.2.2.2⟩
def hp_Q (D : va_G) (E : Nat → ClassId) (b z : Nat) (r : Option Value) (sh' : List hS) (I' : hM) : Array Value → State → Outcome → State → Prop := fun _ st oc t => (oc = .returned (r.map (hp_v b z)) ∧ va_P D vwCl (hp_w E b sh' I') t.heap) ∧ va_F (fun q : Nat => b ≤ q) st t
def hp_B (D : va_G) (E : Nat → ClassId) (b z : Nat) (Kx : Nat → Nat → State → Prop) (sh : List hS) (I : hM) : State → Prop := fun U => U.heap.size = b + sh.length ∧ va_P D vwCl (hp_w E b sh I) U.heap ∧ hp_K D E U ∧ Kx b z U
/-- a contract: from these arguments and this world, that answer and that world -/
def hp_Cx (Kx : Nat → Nat → State → Prop) (y : MethodName) (ws : List Cond) (d mc ms : Nat) (sh : List hS) (I : hM) (as : List Value) (r : Option Value) (sh' : List hS) (I' : hM) : Prop :=
  ∀ (l : Launch) (D : va_G) (E : Nat → ClassId) (b z : Nat), Met l y ws ({ frames := d, cells := mc, slots := ms, locals := 44 * d }) (va_Pc (as.map (hp_v b z)) (hp_B D E b z Kx sh I)) (hp_Q D E b z r sh' I') mc ms (fun q : Nat => b ≤ q)
def hp_T : Nat → Nat → State → Prop := fun _ _ _ => True
abbrev hp_C (y : MethodName) (ws : List Cond) (d mc ms : Nat) (sh : List hS) (I : hM) (as : List Value) (r : Option Value) (sh' : List hS) (I' : hM) : Prop := hp_Cx hp_T y ws d mc ms sh I as r sh' I'
def hp_X (p : Program) (s : State) (m : MethodId) (args : Array Value) (meth : Method) (c : Code) (own : String) (cc : ByteArray) (nL : Nat) (ws : List Cond) (D : va_G) (E : Nat → ClassId) (ret : Option FieldType) (nm : String) : Prop :=
  p.tables.exec = Jvm.exec ∧ c.code = cc ∧ c.maxLocals = nL ∧ s.vm.findClass own = some m.cls ∧ (∀ w ∈ ws, w.before args s = true) ∧ hp_K D E s ∧ meth.locks = false ∧ meth.sig.returnType = ret ∧ meth.name = nm
def hp_l (b z : Nat) (q : Nat × Value) : Nat × Value := (q.1, hp_v b z q.2)
def hp_J (p : Program) (l : Launch) (e : Env) (R : Room) (s : State) (m : MethodId) (args : Array Value) (below : List Frame) (meth : Method) (c : Code) (Q : State → Prop) (D : va_G) (E : Nat → ClassId) (b z nL : Nat) (sh : List hS) (cells slots : Nat) (I : hM) (pc : Nat) (lv : List (Nat × Value)) (st : List Value) : Prop :=
  (b ≤ s.heap.size ∧ s.heap.size + cells = b + sh.length) → ∀ (H : Heap) (locs : List Loc) (ls : Array Slot), va_P D vwCl (hp_w E b sh I) H → va_S (fun q : Nat => b ≤ q) s.heap H locs → lv_has ls nL (lv.map (hp_l b z)) →
    W p l e R s m args below meth c H locs cells slots Q (F0 m pc ls (st.map (hp_v b z)))
theorem hp_lat {b z : Nat} {lv : List (Nat × Value)} {k i : Nat} {v : Value} (h : lv[k]? = some (i, v)) : (lv.map (hp_l b z))[k]? = some (i, hp_v b z v) := by
  rw [List.getElem?_map, h]
  rfl
def hp_keep1 (i : Nat) (q : Nat × Value) : Bool := !(q.1 == i) && !(q.1 + 1 == i && q.2.category == 2)
def hp_keep2 (i : Nat) (q : Nat × Value) : Bool := !(q.1 == i) && (!(q.1 == i + 1) && !(q.1 + 1 == i && q.2.category == 2))
theorem hp_keep1_l (b z i : Nat) (lv : List (Nat × Value)) : (lv.map (hp_l b z)).filter (fun q => !(q.1 == i) && !(q.1 + 1 == i && q.2.category == 2)) = (lv.filter (hp_keep1 i)).map (hp_l b z) := by
  rw [List.filter_map]
  congr 1
  apply List.filter_congr
  intro q _
  show (!(q.1 == i) && !(q.1 + 1 == i && (hp_v b z q.2).category == 2)) = hp_keep1 i q
  rw [hp_v_cat]
  rfl
theorem hp_keep2_l (b z i : Nat) (lv : List (Nat × Value)) : (lv.map (hp_l b z)).filter (fun q => !(q.1 == i) && (!(q.1 == i + 1) && !(q.1 + 1 == i && q.2.category == 2))) = (lv.filter (hp_keep2 i)).map (hp_l b z) := by
  rw [List.filter_map]
  congr 1
  apply List.filter_congr
  intro q _
  show (!(q.1 == i) && (!(q.1 == i + 1) && !(q.1 + 1 == i && (hp_v b z q.2).category == 2))) = hp_keep2 i q
  rw [hp_v_cat]
  rfl
theorem hp_lw {E : Nat → ClassId} {D : va_G} {b n : Nat} {sh : List hS} {I : hM} {H H0 : Heap} {locs : List Loc} {A : Nat → Prop} (hn : sh.length = n) (hP : va_P D vwCl (hp_w E b sh I) H) (hS : va_S A H0 H locs) (h0 : n = 0 → b ≤ H0.size) : b + n ≤ H.size := by
  cases n with
  | zero => exact Nat.le_trans (h0 rfl) hS.1
  | succ k =>
    have hk : k < sh.length := by omega
    have h1 := (hP k _ (hp_at (List.getElem?_eq_getElem hk))).lt
    dsimp only at h1
    omega
/-- an index that lies within -/
def hx (x : Int32) (n : Nat) : Bool := decide (¬ (x < 0 ∨ n ≤ x.toNatClampNeg))
theorem hx_in {x : Int32} {n : Nat} (h : hx x n = true) : vp_in x n := of_decide_eq_true (p := ¬ (x < 0 ∨ n ≤ x.toNatClampNeg)) h
def gd (c : Bool) (k : Option (Int32 × hM)) : Option (Int32 × hM) := match c with
  | true => k
  | false => none
def ob (x : Option (Int32 × hM)) (f : Int32 → hM → Option (Int32 × hM)) : Option (Int32 × hM) := match x with
  | none => none
  | some q => f q.1 q.2
theorem gd_e {c : Bool} {k : Option (Int32 × hM)} {r : Int32 × hM} (h : gd c k = some r) : c = true ∧ k = some r := by
  cases c with
  | true => exact ⟨rfl, h⟩
  | false => cases h
theorem ob_e {x : Option (Int32 × hM)} {f : Int32 → hM → Option (Int32 × hM)} {r : Int32 × hM} (h : ob x f = some r) : ∃ (v : Int32) (I1 : hM), x = some (v, I1) ∧ f v I1 = some r := by
  cases x with
  | none => cases h
  | some q => exact ⟨q.1, q.2, rfl, h⟩
theorem gd_t (k : Option (Int32 × hM)) : gd true k = k := rfl
theorem ob_s (v : Int32) (I : hM) (f : Int32 → hM → Option (Int32 × hM)) : ob (some (v, I)) f = f v I := rfl
section HPW
variable {p : Program} {l : Launch} {e : Env} {R : Room} {s : State} {m : MethodId} {args : Array Value} {below : List Frame} {meth : Method} {c : Code} {H : Heap} {locs : List Loc} {cells slots : Nat} {Q : State → Prop} {g : JFrame}
theorem hp_sz {D : va_G} {E : Nat → ClassId} {b : Nat} {sh : List hS} {I : hM} {A : Nat → Prop} (hz : b ≤ s.heap.size ∧ s.heap.size + cells = b + sh.length) (hP : va_P D vwCl (hp_w E b sh I) H) (hS : va_S A s.heap H locs) (k : H.size = b + sh.length → W p l e R s m args below meth c H locs cells slots Q g) : W p l e R s m args below meth c H locs cells slots Q g := by
  intro T hT X
  have h1 := X.heapSize
  rw [hT] at h1
  refine k ?_ T hT X
  have h2 := hp_lw (n := sh.length) rfl hP hS (fun _ => hz.1)
  have h3 := hz.2
  omega
end HPW

section HJA
variable {p : Program} {l : Launch} {e : Env} {R : Room} {s : State} {m : MethodId} {args : Array Value} {below : List Frame} {meth : Method} {c : Code} {Q : State → Prop} {D : va_G} {E : Nat → ClassId} {b z nL : Nat} {own nm : String} {cc : ByteArray} {ws : List Cond} {ret : Option FieldType} {sh : List hS} {cells slots : Nat} {I : hM} {pc : Nat} {lv : List (Nat × Value)} {rest : List Value}
theorem hj_iconst (hX : hp_X p s m args meth c own cc nL ws D E ret nm) {n : Int} {v : Int32} (hv : Int32.ofInt n = v) (hd : decode cc pc = .ok (.iconst n, 1)) (k : hp_J p l e R s m args below meth c Q D E b z nL sh cells slots I (pc + 1) lv (.int v :: rest)) : hp_J p l e R s m args below meth c Q D E b z nL sh cells slots I pc lv rest := fun hz H locs ls hP hS hl => lv_iconst hX.1 hX.2.1 hd hv (k hz H locs ls hP hS hl)
theorem hj_bipush (hX : hp_X p s m args meth c own cc nL ws D E ret nm) {n : Int} {v : Int32} (hv : (Int8.ofInt n).toInt32 = v) (hd : decode cc pc = .ok (.bipush n, 2)) (k : hp_J p l e R s m args below meth c Q D E b z nL sh cells slots I (pc + 2) lv (.int v :: rest)) : hp_J p l e R s m args below meth c Q D E b z nL sh cells slots I pc lv rest := fun hz H locs ls hP hS hl => lv_bipush hX.1 hX.2.1 hd hv (k hz H locs ls hP hS hl)
theorem hj_sipush (hX : hp_X p s m args meth c own cc nL ws D E ret nm) {n : Int} {v : Int32} (hv : (Int16.ofInt n).toInt32 = v) (hd : decode cc pc = .ok (.sipush n, 3)) (k : hp_J p l e R s m args below meth c Q D E b z nL sh cells slots I (pc + 3) lv (.int v :: rest)) : hp_J p l e R s m args below meth c Q D E b z nL sh cells slots I pc lv rest := fun hz H locs ls hP hS hl => lv_sipush hX.1 hX.2.1 hd hv (k hz H locs ls hP hS hl)
theorem hj_lconst (hX : hp_X p s m args meth c own cc nL ws D E ret nm) {n : Fin 2} {v : Int64} (hv : Int64.ofNat (n : Nat) = v) (hd : decode cc pc = .ok (.lconst n, 1)) (k : hp_J p l e R s m args below meth c Q D E b z nL sh cells slots I (pc + 1) lv (.long v :: rest)) : hp_J p l e R s m args below meth c Q D E b z nL sh cells slots I pc lv rest := fun hz H locs ls hP hS hl => lv_lconst hX.1 hX.2.1 hd hv (k hz H locs ls hP hS hl)
theorem hj_ldc (hX : hp_X p s m args meth c own cc nL ws D E ret nm) {index : Nat} {v : Int32} (hc : Jvm.Cond.constant own index v ∈ ws) (hd : decode cc pc = .ok (.ldc index, 2)) (k : hp_J p l e R s m args below meth c Q D E b z nL sh cells slots I (pc + 2) lv (.int v :: rest)) : hp_J p l e R s m args below meth c Q D E b z nL sh cells slots I pc lv rest := fun hz H locs ls hP hS hl => lv_ldc hX.1 hX.2.1 hX.2.2.2.1 (hX.2.2.2.2.1 _ hc) hd (k hz H locs ls hP hS hl)
theorem hj_ldc2 (hX : hp_X p s m args meth c own cc nL ws D E ret nm) {index : Nat} {v : Int64} (hc : Jvm.Cond.constantLong own index v ∈ ws) (hd : decode cc pc = .ok (.ldc2_w index, 3)) (k : hp_J p l e R s m args below meth c Q D E b z nL sh cells slots I (pc + 3) lv (.long v :: rest)) : hp_J p l e R s m args below meth c Q D E b z nL sh cells slots I pc lv rest := fun hz H locs ls hP hS hl => lv_ldc2 hX.1 hX.2.1 hX.2.2.2.1 (hX.2.2.2.2.1 _ hc) hd (k hz H locs ls hP hS hl)
theorem hj_iload_n (hX : hp_X p s m args meth c own cc nL ws D E ret nm) {k0 : Fin 4} {i : Nat} {x : Int32} (hi : (k0 : Nat) = i) (k1 : Nat) (hk : lv[k1]? = some (i, .int x)) (hd : decode cc pc = .ok (.iload_n k0, 1)) (k : hp_J p l e R s m args below meth c Q D E b z nL sh cells slots I (pc + 1) lv (.int x :: rest)) : hp_J p l e R s m args below meth c Q D E b z nL sh cells slots I pc lv rest := fun hz H locs ls hP hS hl => lv_iload_n hX.1 hX.2.1 hd hi (lv_at hl k1 (hp_lat hk)) (k hz H locs ls hP hS hl)
theorem hj_iload (hX : hp_X p s m args meth c own cc nL ws D E ret nm) {i : Nat} {x : Int32} (k1 : Nat) (hk : lv[k1]? = some (i, .int x)) (hd : decode cc pc = .ok (.iload i, 2)) (k : hp_J p l e R s m args below meth c Q D E b z nL sh cells slots I (pc + 2) lv (.int x :: rest)) : hp_J p l e R s m args below meth c Q D E b z nL sh cells slots I pc lv rest := fun hz H locs ls hP hS hl => lv_iload hX.1 hX.2.1 hd (lv_at hl k1 (hp_lat hk)) (k hz H locs ls hP hS hl)
theorem hj_lload_n (hX : hp_X p s m args meth c own cc nL ws D E ret nm) {k0 : Fin 4} {i : Nat} {x : Int64} (hi : (k0 : Nat) = i) (k1 : Nat) (hk : lv[k1]? = some (i, .long x)) (hd : decode cc pc = .ok (.lload_n k0, 1)) (k : hp_J p l e R s m args below meth c Q D E b z nL sh cells slots I (pc + 1) lv (.long x :: rest)) : hp_J p l e R s m args below meth c Q D E b z nL sh cells slots I pc lv rest := fun hz H locs ls hP hS hl => lv_lload_n hX.1 hX.2.1 hd hi (lv_at hl k1 (hp_lat hk)) (k hz H locs ls hP hS hl)
theorem hj_lload (hX : hp_X p s m args meth c own cc nL ws D E ret nm) {i : Nat} {x : Int64} (k1 : Nat) (hk : lv[k1]? = some (i, .long x)) (hd : decode cc pc = .ok (.lload i, 2)) (k : hp_J p l e R s m args below meth c Q D E b z nL sh cells slots I (pc + 2) lv (.long x :: rest)) : hp_J p l e R s m args below meth c Q D E b z nL sh cells slots I pc lv rest := fun hz H locs ls hP hS hl => lv_lload hX.1 hX.2.1 hd (lv_at hl k1 (hp_lat hk)) (k hz H locs ls hP hS hl)
theorem hj_aload_n (hX : hp_X p s m args meth c own cc nL ws D E ret nm) {k0 : Fin 4} {i : Nat} {x : Nat} (hi : (k0 : Nat) = i) (k1 : Nat) (hk : lv[k1]? = some (i, .ref x)) (hd : decode cc pc = .ok (.aload_n k0, 1)) (k : hp_J p l e R s m args below meth c Q D E b z nL sh cells slots I (pc + 1) lv (.ref x :: rest)) : hp_J p l e R s m args below meth c Q D E b z nL sh cells slots I pc lv rest := fun hz H locs ls hP hS hl => lv_aload_n hX.1 hX.2.1 hd hi (lv_at hl k1 (hp_lat hk)) (k hz H locs ls hP hS hl)
theorem hj_aload (hX : hp_X p s m args meth c own cc nL ws D E ret nm) {i : Nat} {x : Nat} (k1 : Nat) (hk : lv[k1]? = some (i, .ref x)) (hd : decode cc pc = .ok (.aload i, 2)) (k : hp_J p l e R s m args below meth c Q D E b z nL sh cells slots I (pc + 2) lv (.ref x :: rest)) : hp_J p l e R s m args below meth c Q D E b z nL sh cells slots I pc lv rest := fun hz H locs ls hP hS hl => lv_aload hX.1 hX.2.1 hd (lv_at hl k1 (hp_lat hk)) (k hz H locs ls hP hS hl)
theorem hj_zload_n (hX : hp_X p s m args meth c own cc nL ws D E ret nm) {k0 : Fin 4} {i : Nat} (hi : (k0 : Nat) = i) (k1 : Nat) (hk : lv[k1]? = some (i, .null)) (hd : decode cc pc = .ok (.aload_n k0, 1)) (k : hp_J p l e R s m args below meth c Q D E b z nL sh cells slots I (pc + 1) lv (.null :: rest)) : hp_J p l e R s m args below meth c Q D E b z nL sh cells slots I pc lv rest := fun hz H locs ls hP hS hl => lv_aload_n hX.1 hX.2.1 hd hi (lv_at hl k1 (hp_lat hk)) (k hz H locs ls hP hS hl)
theorem hj_istore_n (hX : hp_X p s m args meth c own cc nL ws D E ret nm) {k0 : Fin 4} {i : Nat} {x : Int32} (hi : (k0 : Nat) = i) (hn : i < nL) {lv2 : List (Nat × Value)} (hl2 : (i, Value.int x) :: lv.filter (hp_keep1 i) = lv2) (hd : decode cc pc = .ok (.istore_n k0, 1)) (k : hp_J p l e R s m args below meth c Q D E b z nL sh cells slots I (pc + 1) lv2 rest) : hp_J p l e R s m args below meth c Q D E b z nL sh cells slots I pc lv (Value.int x :: rest) := by
  intro hz H locs ls hP hS hl
  refine lv_istore_n hX.1 hX.2.1 hd hi hl hn rfl (fun ls2 hl3 => k hz H locs ls2 hP hS ?_)
  rw [hp_keep1_l] at hl3
  rw [← hl2]
  exact hl3
theorem hj_istore (hX : hp_X p s m args meth c own cc nL ws D E ret nm) {i : Nat} {x : Int32} (hn : i < nL) {lv2 : List (Nat × Value)} (hl2 : (i, Value.int x) :: lv.filter (hp_keep1 i) = lv2) (hd : decode cc pc = .ok (.istore i, 2)) (k : hp_J p l e R s m args below meth c Q D E b z nL sh cells slots I (pc + 2) lv2 rest) : hp_J p l e R s m args below meth c Q D E b z nL sh cells slots I pc lv (Value.int x :: rest) := by
  intro hz H locs ls hP hS hl
  refine lv_istore hX.1 hX.2.1 hd hl hn rfl (fun ls2 hl3 => k hz H locs ls2 hP hS ?_)
  rw [hp_keep1_l] at hl3
  rw [← hl2]
  exact hl3
theorem hj_lstore_n (hX : hp_X p s m args meth c own cc nL ws D E ret nm) {k0 : Fin 4} {i : Nat} {x : Int64} (hi : (k0 : Nat) = i) (hn : i + 1 < nL) {lv2 : List (Nat × Value)} (hl2 : (i, Value.long x) :: lv.filter (hp_keep2 i) = lv2) (hd : decode cc pc = .ok (.lstore_n k0, 1)) (k : hp_J p l e R s m args below meth c Q D E b z nL sh cells slots I (pc + 1) lv2 rest) : hp_J p l e R s m args below meth c Q D E b z nL sh cells slots I pc lv (Value.long x :: rest) := by
  intro hz H locs ls hP hS hl
  refine lv_lstore_n hX.1 hX.2.1 hd hi hl hn rfl (fun ls2 hl3 => k hz H locs ls2 hP hS ?_)
  rw [hp_keep2_l] at hl3
  rw [← hl2]
  exact hl3
theorem hj_lstore (hX : hp_X p s m args meth c own cc nL ws D E ret nm) {i : Nat} {x : Int64} (hn : i + 1 < nL) {lv2 : List (Nat × Value)} (hl2 : (i, Value.long x) :: lv.filter (hp_keep2 i) = lv2) (hd : decode cc pc = .ok (.lstore i, 2)) (k : hp_J p l e R s m args below meth c Q D E b z nL sh cells slots I (pc + 2) lv2 rest) : hp_J p l e R s m args below meth c Q D E b z nL sh cells slots I pc lv (Value.long x :: rest) := by
  intro hz H locs ls hP hS hl
  refine lv_lstore hX.1 hX.2.1 hd hl hn rfl (fun ls2 hl3 => k hz H locs ls2 hP hS ?_)
  rw [hp_keep2_l] at hl3
  rw [← hl2]
  exact hl3
theorem hj_astore_n (hX : hp_X p s m args meth c own cc nL ws D E ret nm) {k0 : Fin 4} {i : Nat} {x : Nat} (hi : (k0 : Nat) = i) (hn : i < nL) {lv2 : List (Nat × Value)} (hl2 : (i, Value.ref x) :: lv.filter (hp_keep1 i) = lv2) (hd : decode cc pc = .ok (.astore_n k0, 1)) (k : hp_J p l e R s m args below meth c Q D E b z nL sh cells slots I (pc + 1) lv2 rest) : hp_J p l e R s m args below meth c Q D E b z nL sh cells slots I pc lv (Value.ref x :: rest) := by
  intro hz H locs ls hP hS hl
  refine lv_astore_n hX.1 hX.2.1 hd hi hl hn rfl (fun ls2 hl3 => k hz H locs ls2 hP hS ?_)
  rw [hp_keep1_l] at hl3
  rw [← hl2]
  exact hl3
theorem hj_astore (hX : hp_X p s m args meth c own cc nL ws D E ret nm) {i : Nat} {x : Nat} (hn : i < nL) {lv2 : List (Nat × Value)} (hl2 : (i, Value.ref x) :: lv.filter (hp_keep1 i) = lv2) (hd : decode cc pc = .ok (.astore i, 2)) (k : hp_J p l e R s m args below meth c Q D E b z nL sh cells slots I (pc + 2) lv2 rest) : hp_J p l e R s m args below meth c Q D E b z nL sh cells slots I pc lv (Value.ref x :: rest) := by
  intro hz H locs ls hP hS hl
  refine lv_astore hX.1 hX.2.1 hd hl hn rfl (fun ls2 hl3 => k hz H locs ls2 hP hS ?_)
  rw [hp_keep1_l] at hl3
  rw [← hl2]
  exact hl3
theorem hj_iinc (hX : hp_X p s m args meth c own cc nL ws D E ret nm) {i k1 : Nat} {n : Int} {x v : Int32} (hk : lv[k1]? = some (i, .int x)) (hv : x + Int32.ofInt n = v) (hn : i < nL) {lv2 : List (Nat × Value)} (hl2 : (i, Value.int v) :: lv.filter (hp_keep1 i) = lv2) (hd : decode cc pc = .ok (.iinc i n, 3)) (k : hp_J p l e R s m args below meth c Q D E b z nL sh cells slots I (pc + 3) lv2 rest) : hp_J p l e R s m args below meth c Q D E b z nL sh cells slots I pc lv rest := by
  intro hz H locs ls hP hS hl
  refine lv_iinc hX.1 hX.2.1 hd hl (hp_lat hk) hv hn rfl (fun ls2 hl3 => k hz H locs ls2 hP hS ?_)
  rw [hp_keep1_l] at hl3
  rw [← hl2]
  exact hl3
theorem hj_lv (hX : hp_X p s m args meth c own cc nL ws D E ret nm) (ks : List Nat) {lv2 : List (Nat × Value)} (hl2 : lv_pick lv ks = lv2) (k : hp_J p l e R s m args below meth c Q D E b z nL sh cells slots I pc lv2 rest) : hp_J p l e R s m args below meth c Q D E b z nL sh cells slots I pc lv rest := by
  intro hz H locs ls hP hS hl
  refine k hz H locs ls hP hS (lv_sub hl ks ?_)
  rw [← hl2]
  unfold lv_pick
  rw [List.map_filterMap]
  congr 1
  funext j
  rw [List.getElem?_map]
theorem hj_iadd (hX : hp_X p s m args meth c own cc nL ws D E ret nm) {x y : Int32} (hd : decode cc pc = .ok (.iadd, 1)) (k : hp_J p l e R s m args below meth c Q D E b z nL sh cells slots I (pc + 1) lv (.int (x + y) :: rest)) : hp_J p l e R s m args below meth c Q D E b z nL sh cells slots I pc lv (.int y :: .int x :: rest) := fun hz H locs ls hP hS hl => lv_iadd hX.1 hX.2.1 hd (k hz H locs ls hP hS hl)
theorem hj_isub (hX : hp_X p s m args meth c own cc nL ws D E ret nm) {x y : Int32} (hd : decode cc pc = .ok (.isub, 1)) (k : hp_J p l e R s m args below meth c Q D E b z nL sh cells slots I (pc + 1) lv (.int (x - y) :: rest)) : hp_J p l e R s m args below meth c Q D E b z nL sh cells slots I pc lv (.int y :: .int x :: rest) := fun hz H locs ls hP hS hl => lv_isub hX.1 hX.2.1 hd (k hz H locs ls hP hS hl)
theorem hj_imul (hX : hp_X p s m args meth c own cc nL ws D E ret nm) {x y : Int32} (hd : decode cc pc = .ok (.imul, 1)) (k : hp_J p l e R s m args below meth c Q D E b z nL sh cells slots I (pc + 1) lv (.int (x * y) :: rest)) : hp_J p l e R s m args below meth c Q D E b z nL sh cells slots I pc lv (.int y :: .int x :: rest) := fun hz H locs ls hP hS hl => lv_imul hX.1 hX.2.1 hd (k hz H locs ls hP hS hl)
theorem hj_iand (hX : hp_X p s m args meth c own cc nL ws D E ret nm) {x y : Int32} (hd : decode cc pc = .ok (.iand, 1)) (k : hp_J p l e R s m args below meth c Q D E b z nL sh cells slots I (pc + 1) lv (.int (x &&& y) :: rest)) : hp_J p l e R s m args below meth c Q D E b z nL sh cells slots I pc lv (.int y :: .int x :: rest) := fun hz H locs ls hP hS hl => lv_iand hX.1 hX.2.1 hd (k hz H locs ls hP hS hl)
theorem hj_ior (hX : hp_X p s m args meth c own cc nL ws D E ret nm) {x y : Int32} (hd : decode cc pc = .ok (.ior, 1)) (k : hp_J p l e R s m args below meth c Q D E b z nL sh cells slots I (pc + 1) lv (.int (x ||| y) :: rest)) : hp_J p l e R s m args below meth c Q D E b z nL sh cells slots I pc lv (.int y :: .int x :: rest) := fun hz H locs ls hP hS hl => lv_ior hX.1 hX.2.1 hd (k hz H locs ls hP hS hl)
theorem hj_ixor (hX : hp_X p s m args meth c own cc nL ws D E ret nm) {x y : Int32} (hd : decode cc pc = .ok (.ixor, 1)) (k : hp_J p l e R s m args below meth c Q D E b z nL sh cells slots I (pc + 1) lv (.int (x ^^^ y) :: rest)) : hp_J p l e R s m args below meth c Q D E b z nL sh cells slots I pc lv (.int y :: .int x :: rest) := fun hz H locs ls hP hS hl => lv_ixor hX.1 hX.2.1 hd (k hz H locs ls hP hS hl)
theorem hj_ishl (hX : hp_X p s m args meth c own cc nL ws D E ret nm) {x y : Int32} (hd : decode cc pc = .ok (.ishl, 1)) (k : hp_J p l e R s m args below meth c Q D E b z nL sh cells slots I (pc + 1) lv (.int (x <<< (y &&& 31)) :: rest)) : hp_J p l e R s m args below meth c Q D E b z nL sh cells slots I pc lv (.int y :: .int x :: rest) := fun hz H locs ls hP hS hl => lv_ishl hX.1 hX.2.1 hd (k hz H locs ls hP hS hl)
theorem hj_ishr (hX : hp_X p s m args meth c own cc nL ws D E ret nm) {x y : Int32} (hd : decode cc pc = .ok (.ishr, 1)) (k : hp_J p l e R s m args below meth c Q D E b z nL sh cells slots I (pc + 1) lv (.int (x >>> (y &&& 31)) :: rest)) : hp_J p l e R s m args below meth c Q D E b z nL sh cells slots I pc lv (.int y :: .int x :: rest) := fun hz H locs ls hP hS hl => lv_ishr hX.1 hX.2.1 hd (k hz H locs ls hP hS hl)
theorem hj_ladd (hX : hp_X p s m args meth c own cc nL ws D E ret nm) {x y : Int64} (hd : decode cc pc = .ok (.ladd, 1)) (k : hp_J p l e R s m args below meth c Q D E b z nL sh cells slots I (pc + 1) lv (.long (x + y) :: rest)) : hp_J p l e R s m args below meth c Q D E b z nL sh cells slots I pc lv (.long y :: .long x :: rest) := fun hz H locs ls hP hS hl => lv_ladd hX.1 hX.2.1 hd (k hz H locs ls hP hS hl)
theorem hj_lmul (hX : hp_X p s m args meth c own cc nL ws D E ret nm) {x y : Int64} (hd : decode cc pc = .ok (.lmul, 1)) (k : hp_J p l e R s m args below meth c Q D E b z nL sh cells slots I (pc + 1) lv (.long (x * y) :: rest)) : hp_J p l e R s m args below meth c Q D E b z nL sh cells slots I pc lv (.long y :: .long x :: rest) := fun hz H locs ls hP hS hl => lv_lmul hX.1 hX.2.1 hd (k hz H locs ls hP hS hl)
theorem hj_idiv (hX : hp_X p s m args meth c own cc nL ws D E ret nm) {x y : Int32} {A : Option (Int32 × hM)} {rr : Int32 × hM} (hd : decode cc pc = .ok (.idiv, 1)) (h : gd (decide (¬ y = 0)) A = some rr) (k : A = some rr → hp_J p l e R s m args below meth c Q D E b z nL sh cells slots I (pc + 1) lv (.int (x / y) :: rest)) : hp_J p l e R s m args below meth c Q D E b z nL sh cells slots I pc lv (.int y :: .int x :: rest) := fun hz H locs ls hP hS hl => lv_idiv hX.1 hX.2.1 hd (of_decide_eq_true (gd_e h).1) (k (gd_e h).2 hz H locs ls hP hS hl)
theorem hj_irem (hX : hp_X p s m args meth c own cc nL ws D E ret nm) {x y : Int32} {A : Option (Int32 × hM)} {rr : Int32 × hM} (hd : decode cc pc = .ok (.irem, 1)) (h : gd (decide (¬ y = 0)) A = some rr) (k : A = some rr → hp_J p l e R s m args below meth c Q D E b z nL sh cells slots I (pc + 1) lv (.int (x - x / y * y) :: rest)) : hp_J p l e R s m args below meth c Q D E b z nL sh cells slots I pc lv (.int y :: .int x :: rest) := fun hz H locs ls hP hS hl => lv_irem hX.1 hX.2.1 hd (of_decide_eq_true (gd_e h).1) (k (gd_e h).2 hz H locs ls hP hS hl)
theorem hj_lrem (hX : hp_X p s m args meth c own cc nL ws D E ret nm) {x y : Int64} {A : Option (Int32 × hM)} {rr : Int32 × hM} (hd : decode cc pc = .ok (.lrem, 1)) (h : gd (decide (¬ y = 0)) A = some rr) (k : A = some rr → hp_J p l e R s m args below meth c Q D E b z nL sh cells slots I (pc + 1) lv (.long (x - x / y * y) :: rest)) : hp_J p l e R s m args below meth c Q D E b z nL sh cells slots I pc lv (.long y :: .long x :: rest) := fun hz H locs ls hP hS hl => lv_lrem hX.1 hX.2.1 hd (of_decide_eq_true (gd_e h).1) (k (gd_e h).2 hz H locs ls hP hS hl)
theorem hj_i2l (hX : hp_X p s m args meth c own cc nL ws D E ret nm) {x : Int32} (hd : decode cc pc = .ok (.i2l, 1)) (k : hp_J p l e R s m args below meth c Q D E b z nL sh cells slots I (pc + 1) lv (.long x.toInt64 :: rest)) : hp_J p l e R s m args below meth c Q D E b z nL sh cells slots I pc lv (.int x :: rest) := fun hz H locs ls hP hS hl => lv_i2l hX.1 hX.2.1 hd rfl (k hz H locs ls hP hS hl)
theorem hj_l2i (hX : hp_X p s m args meth c own cc nL ws D E ret nm) {x : Int64} (hd : decode cc pc = .ok (.l2i, 1)) (k : hp_J p l e R s m args below meth c Q D E b z nL sh cells slots I (pc + 1) lv (.int x.toInt32 :: rest)) : hp_J p l e R s m args below meth c Q D E b z nL sh cells slots I pc lv (.long x :: rest) := fun hz H locs ls hP hS hl => lv_l2i hX.1 hX.2.1 hd rfl (k hz H locs ls hP hS hl)
theorem hj_i2b (hX : hp_X p s m args meth c own cc nL ws D E ret nm) {x : Int32} (hd : decode cc pc = .ok (.i2b, 1)) (k : hp_J p l e R s m args below meth c Q D E b z nL sh cells slots I (pc + 1) lv (.int x.toInt8.toInt32 :: rest)) : hp_J p l e R s m args below meth c Q D E b z nL sh cells slots I pc lv (.int x :: rest) := fun hz H locs ls hP hS hl => lv_i2b hX.1 hX.2.1 hd rfl (k hz H locs ls hP hS hl)
theorem hj_lcmp (hX : hp_X p s m args meth c own cc nL ws D E ret nm) {x y : Int64} (hd : decode cc pc = .ok (.lcmp, 1)) (k : hp_J p l e R s m args below meth c Q D E b z nL sh cells slots I (pc + 1) lv (.int (lg_cmp x y) :: rest)) : hp_J p l e R s m args below meth c Q D E b z nL sh cells slots I pc lv (.long y :: .long x :: rest) := fun hz H locs ls hP hS hl => W.lcmp hX.1 hX.2.1 hd (k hz H locs ls hP hS hl)
theorem hj_dup (hX : hp_X p s m args meth c own cc nL ws D E ret nm) {va : Value} (hv : va.category = 1) (hd : decode cc pc = .ok (.dup, 1)) (k : hp_J p l e R s m args below meth c Q D E b z nL sh cells slots I (pc + 1) lv (va :: va :: rest)) : hp_J p l e R s m args below meth c Q D E b z nL sh cells slots I pc lv (va :: rest) := fun hz H locs ls hP hS hl => lv_dup hX.1 hX.2.1 hd (by rw [hp_v_cat]; exact hv) (k hz H locs ls hP hS hl)
theorem hj_dup2 (hX : hp_X p s m args meth c own cc nL ws D E ret nm) {va vb : Value} (hv : va.category = 1) (hv2 : vb.category = 1) (hd : decode cc pc = .ok (.dup2, 1)) (k : hp_J p l e R s m args below meth c Q D E b z nL sh cells slots I (pc + 1) lv (va :: vb :: va :: vb :: rest)) : hp_J p l e R s m args below meth c Q D E b z nL sh cells slots I pc lv (va :: vb :: rest) := fun hz H locs ls hP hS hl => lv_dup2_11 hX.1 hX.2.1 hd (by rw [hp_v_cat]; exact hv) (by rw [hp_v_cat]; exact hv2) (k hz H locs ls hP hS hl)
theorem hj_pop (hX : hp_X p s m args meth c own cc nL ws D E ret nm) {va : Value} (hv : va.category = 1) (hd : decode cc pc = .ok (.pop, 1)) (k : hp_J p l e R s m args below meth c Q D E b z nL sh cells slots I (pc + 1) lv rest) : hp_J p l e R s m args below meth c Q D E b z nL sh cells slots I pc lv (va :: rest) := fun hz H locs ls hP hS hl => lv_pop hX.1 hX.2.1 hd (by rw [hp_v_cat]; exact hv) (k hz H locs ls hP hS hl)
theorem hj_goto (hX : hp_X p s m args meth c own cc nL ws D E ret nm) {off : Int} {tgt : Nat} (ht : (pc : Int) + off = (tgt : Int)) (hd : decode cc pc = .ok (.goto off, 3)) (k : hp_J p l e R s m args below meth c Q D E b z nL sh cells slots I tgt lv rest) : hp_J p l e R s m args below meth c Q D E b z nL sh cells slots I pc lv rest := fun hz H locs ls hP hS hl => lv_goto hX.1 hX.2.1 hd ht (k hz H locs ls hP hS hl)
theorem hj_if_eq (hX : hp_X p s m args meth c own cc nL ws D E ret nm) {x : Int32} {off : Int} {tgt : Nat} (ht : (pc : Int) + off = (tgt : Int)) {A B : Option (Int32 × hM)} {rr : Int32 × hM} (hd : decode cc pc = .ok (.ifCond .eq off, 3)) (h : (if x = 0 then A else B) = some rr) (kt : A = some rr → hp_J p l e R s m args below meth c Q D E b z nL sh cells slots I tgt lv rest) (kf : B = some rr → hp_J p l e R s m args below meth c Q D E b z nL sh cells slots I (pc + 3) lv rest) : hp_J p l e R s m args below meth c Q D E b z nL sh cells slots I pc lv (.int x :: rest) := fun hz H locs ls hP hS hl => lv_if_eq hX.1 hX.2.1 hd ht (fun q => kt (by rw [if_pos q] at h; exact h) hz H locs ls hP hS hl) (fun q => kf (by rw [if_neg q] at h; exact h) hz H locs ls hP hS hl)
theorem hj_icmp_eq (hX : hp_X p s m args meth c own cc nL ws D E ret nm) {x y : Int32} {off : Int} {tgt : Nat} (ht : (pc : Int) + off = (tgt : Int)) {A B : Option (Int32 × hM)} {rr : Int32 × hM} (hd : decode cc pc = .ok (.if_icmp .eq off, 3)) (h : (if x = y then A else B) = some rr) (kt : A = some rr → hp_J p l e R s m args below meth c Q D E b z nL sh cells slots I tgt lv rest) (kf : B = some rr → hp_J p l e R s m args below meth c Q D E b z nL sh cells slots I (pc + 3) lv rest) : hp_J p l e R s m args below meth c Q D E b z nL sh cells slots I pc lv (.int y :: .int x :: rest) := fun hz H locs ls hP hS hl => lv_icmp_eq hX.1 hX.2.1 hd ht (fun q => kt (by rw [if_pos q] at h; exact h) hz H locs ls hP hS hl) (fun q => kf (by rw [if_neg q] at h; exact h) hz H locs ls hP hS hl)
theorem hj_if_ne (hX : hp_X p s m args meth c own cc nL ws D E ret nm) {x : Int32} {off : Int} {tgt : Nat} (ht : (pc : Int) + off = (tgt : Int)) {A B : Option (Int32 × hM)} {rr : Int32 × hM} (hd : decode cc pc = .ok (.ifCond .ne off, 3)) (h : (if x = 0 then A else B) = some rr) (kt : B = some rr → hp_J p l e R s m args below meth c Q D E b z nL sh cells slots I tgt lv rest) (kf : A = some rr → hp_J p l e R s m args below meth c Q D E b z nL sh cells slots I (pc + 3) lv rest) : hp_J p l e R s m args below meth c Q D E b z nL sh cells slots I pc lv (.int x :: rest) := fun hz H locs ls hP hS hl => lv_if_ne hX.1 hX.2.1 hd ht (fun q => kt (by rw [if_neg q] at h; exact h) hz H locs ls hP hS hl) (fun q => kf (by rw [if_pos q] at h; exact h) hz H locs ls hP hS hl)
theorem hj_icmp_ne (hX : hp_X p s m args meth c own cc nL ws D E ret nm) {x y : Int32} {off : Int} {tgt : Nat} (ht : (pc : Int) + off = (tgt : Int)) {A B : Option (Int32 × hM)} {rr : Int32 × hM} (hd : decode cc pc = .ok (.if_icmp .ne off, 3)) (h : (if x = y then A else B) = some rr) (kt : B = some rr → hp_J p l e R s m args below meth c Q D E b z nL sh cells slots I tgt lv rest) (kf : A = some rr → hp_J p l e R s m args below meth c Q D E b z nL sh cells slots I (pc + 3) lv rest) : hp_J p l e R s m args below meth c Q D E b z nL sh cells slots I pc lv (.int y :: .int x :: rest) := fun hz H locs ls hP hS hl => lv_icmp_ne hX.1 hX.2.1 hd ht (fun q => kt (by rw [if_neg q] at h; exact h) hz H locs ls hP hS hl) (fun q => kf (by rw [if_pos q] at h; exact h) hz H locs ls hP hS hl)
theorem hj_if_lt (hX : hp_X p s m args meth c own cc nL ws D E ret nm) {x : Int32} {off : Int} {tgt : Nat} (ht : (pc : Int) + off = (tgt : Int)) {A B : Option (Int32 × hM)} {rr : Int32 × hM} (hd : decode cc pc = .ok (.ifCond .lt off, 3)) (h : (if x < 0 then A else B) = some rr) (kt : A = some rr → hp_J p l e R s m args below meth c Q D E b z nL sh cells slots I tgt lv rest) (kf : B = some rr → hp_J p l e R s m args below meth c Q D E b z nL sh cells slots I (pc + 3) lv rest) : hp_J p l e R s m args below meth c Q D E b z nL sh cells slots I pc lv (.int x :: rest) := fun hz H locs ls hP hS hl => lv_if_lt hX.1 hX.2.1 hd ht (fun q => kt (by rw [if_pos q] at h; exact h) hz H locs ls hP hS hl) (fun q => kf (by rw [if_neg q] at h; exact h) hz H locs ls hP hS hl)
theorem hj_icmp_lt (hX : hp_X p s m args meth c own cc nL ws D E ret nm) {x y : Int32} {off : Int} {tgt : Nat} (ht : (pc : Int) + off = (tgt : Int)) {A B : Option (Int32 × hM)} {rr : Int32 × hM} (hd : decode cc pc = .ok (.if_icmp .lt off, 3)) (h : (if x < y then A else B) = some rr) (kt : A = some rr → hp_J p l e R s m args below meth c Q D E b z nL sh cells slots I tgt lv rest) (kf : B = some rr → hp_J p l e R s m args below meth c Q D E b z nL sh cells slots I (pc + 3) lv rest) : hp_J p l e R s m args below meth c Q D E b z nL sh cells slots I pc lv (.int y :: .int x :: rest) := fun hz H locs ls hP hS hl => lv_icmp_lt hX.1 hX.2.1 hd ht (fun q => kt (by rw [if_pos q] at h; exact h) hz H locs ls hP hS hl) (fun q => kf (by rw [if_neg q] at h; exact h) hz H locs ls hP hS hl)
theorem hj_if_ge (hX : hp_X p s m args meth c own cc nL ws D E ret nm) {x : Int32} {off : Int} {tgt : Nat} (ht : (pc : Int) + off = (tgt : Int)) {A B : Option (Int32 × hM)} {rr : Int32 × hM} (hd : decode cc pc = .ok (.ifCond .ge off, 3)) (h : (if 0 ≤ x then A else B) = some rr) (kt : A = some rr → hp_J p l e R s m args below meth c Q D E b z nL sh cells slots I tgt lv rest) (kf : B = some rr → hp_J p l e R s m args below meth c Q D E b z nL sh cells slots I (pc + 3) lv rest) : hp_J p l e R s m args below meth c Q D E b z nL sh cells slots I pc lv (.int x :: rest) := fun hz H locs ls hP hS hl => lv_if_ge hX.1 hX.2.1 hd ht (fun q => kt (by rw [if_pos q] at h; exact h) hz H locs ls hP hS hl) (fun q => kf (by rw [if_neg q] at h; exact h) hz H locs ls hP hS hl)
theorem hj_icmp_ge (hX : hp_X p s m args meth c own cc nL ws D E ret nm) {x y : Int32} {off : Int} {tgt : Nat} (ht : (pc : Int) + off = (tgt : Int)) {A B : Option (Int32 × hM)} {rr : Int32 × hM} (hd : decode cc pc = .ok (.if_icmp .ge off, 3)) (h : (if y ≤ x then A else B) = some rr) (kt : A = some rr → hp_J p l e R s m args below meth c Q D E b z nL sh cells slots I tgt lv rest) (kf : B = some rr → hp_J p l e R s m args below meth c Q D E b z nL sh cells slots I (pc + 3) lv rest) : hp_J p l e R s m args below meth c Q D E b z nL sh cells slots I pc lv (.int y :: .int x :: rest) := fun hz H locs ls hP hS hl => lv_icmp_ge hX.1 hX.2.1 hd ht (fun q => kt (by rw [if_pos q] at h; exact h) hz H locs ls hP hS hl) (fun q => kf (by rw [if_neg q] at h; exact h) hz H locs ls hP hS hl)
theorem hj_if_gt (hX : hp_X p s m args meth c own cc nL ws D E ret nm) {x : Int32} {off : Int} {tgt : Nat} (ht : (pc : Int) + off = (tgt : Int)) {A B : Option (Int32 × hM)} {rr : Int32 × hM} (hd : decode cc pc = .ok (.ifCond .gt off, 3)) (h : (if 0 < x then A else B) = some rr) (kt : A = some rr → hp_J p l e R s m args below meth c Q D E b z nL sh cells slots I tgt lv rest) (kf : B = some rr → hp_J p l e R s m args below meth c Q D E b z nL sh cells slots I (pc + 3) lv rest) : hp_J p l e R s m args below meth c Q D E b z nL sh cells slots I pc lv (.int x :: rest) := fun hz H locs ls hP hS hl => lv_if_gt hX.1 hX.2.1 hd ht (fun q => kt (by rw [if_pos q] at h; exact h) hz H locs ls hP hS hl) (fun q => kf (by rw [if_neg q] at h; exact h) hz H locs ls hP hS hl)
theorem hj_icmp_gt (hX : hp_X p s m args meth c own cc nL ws D E ret nm) {x y : Int32} {off : Int} {tgt : Nat} (ht : (pc : Int) + off = (tgt : Int)) {A B : Option (Int32 × hM)} {rr : Int32 × hM} (hd : decode cc pc = .ok (.if_icmp .gt off, 3)) (h : (if y < x then A else B) = some rr) (kt : A = some rr → hp_J p l e R s m args below meth c Q D E b z nL sh cells slots I tgt lv rest) (kf : B = some rr → hp_J p l e R s m args below meth c Q D E b z nL sh cells slots I (pc + 3) lv rest) : hp_J p l e R s m args below meth c Q D E b z nL sh cells slots I pc lv (.int y :: .int x :: rest) := fun hz H locs ls hP hS hl => lv_icmp_gt hX.1 hX.2.1 hd ht (fun q => kt (by rw [if_pos q] at h; exact h) hz H locs ls hP hS hl) (fun q => kf (by rw [if_neg q] at h; exact h) hz H locs ls hP hS hl)
theorem hj_if_le (hX : hp_X p s m args meth c own cc nL ws D E ret nm) {x : Int32} {off : Int} {tgt : Nat} (ht : (pc : Int) + off = (tgt : Int)) {A B : Option (Int32 × hM)} {rr : Int32 × hM} (hd : decode cc pc = .ok (.ifCond .le off, 3)) (h : (if x ≤ 0 then A else B) = some rr) (kt : A = some rr → hp_J p l e R s m args below meth c Q D E b z nL sh cells slots I tgt lv rest) (kf : B = some rr → hp_J p l e R s m args below meth c Q D E b z nL sh cells slots I (pc + 3) lv rest) : hp_J p l e R s m args below meth c Q D E b z nL sh cells slots I pc lv (.int x :: rest) := fun hz H locs ls hP hS hl => lv_if_le hX.1 hX.2.1 hd ht (fun q => kt (by rw [if_pos q] at h; exact h) hz H locs ls hP hS hl) (fun q => kf (by rw [if_neg q] at h; exact h) hz H locs ls hP hS hl)
theorem hj_icmp_le (hX : hp_X p s m args meth c own cc nL ws D E ret nm) {x y : Int32} {off : Int} {tgt : Nat} (ht : (pc : Int) + off = (tgt : Int)) {A B : Option (Int32 × hM)} {rr : Int32 × hM} (hd : decode cc pc = .ok (.if_icmp .le off, 3)) (h : (if x ≤ y then A else B) = some rr) (kt : A = some rr → hp_J p l e R s m args below meth c Q D E b z nL sh cells slots I tgt lv rest) (kf : B = some rr → hp_J p l e R s m args below meth c Q D E b z nL sh cells slots I (pc + 3) lv rest) : hp_J p l e R s m args below meth c Q D E b z nL sh cells slots I pc lv (.int y :: .int x :: rest) := fun hz H locs ls hP hS hl => lv_icmp_le hX.1 hX.2.1 hd ht (fun q => kt (by rw [if_pos q] at h; exact h) hz H locs ls hP hS hl) (fun q => kf (by rw [if_neg q] at h; exact h) hz H locs ls hP hS hl)
end HJA
