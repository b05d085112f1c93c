def X5_dull_h10 (k10 : Int32 → hM → Option (Int32 × hM)) (v1 : Int32) (I : hM) : Option (Int32 × hM) := if (60 : Int32) < v1 then (some ((-4 : Int32), I)) else (gd (hx (239 : Int32) 240) (ob (X5_minutes (220 : Int32) (1 : Int32) I) (fun u4 Ia5 => gd (hx (239 : Int32) 240) (if (I 113 ((239 : Int32)).toNatClampNeg) ≤ (Ia5 113 ((239 : Int32)).toNatClampNeg) then ((k10 (v1 + (1 : Int32)) Ia5)) else (some (v1, Ia5))))))
def X5_dull_l10 : Nat → Int32 → hM → Option (Int32 × hM)
  | 0 => fun _ _ => none
  | n + 1 => X5_dull_h10   (X5_dull_l10   n)
def X5_dull (I : hM) : Option (Int32 × hM) := ob (X5_copies (0 : Int32) (220 : Int32) I) (fun u1 Ia2 => (X5_dull_l10 hF (0 : Int32) Ia2))
theorem X5_dull_hy : yX5_dull.cls = RX5 ∧ yX5_dull.cls ≠ "java/lang/invoke/MethodHandle" ∧ yX5_dull.cls ≠ "java/lang/invoke/VarHandle" ∧ (parseMethodDescriptor yX5_dull.desc).map (fun d => d.parameters.length) = some 0 := by decide +kernel
theorem X5_dull_k70 : Cond.fieldLink RX5 70 "HatPinsModel" "slot" "[I" ∈ wsX5_dull := by decide +kernel
theorem X5_dull_w5 : ∀ w ∈ wsX50, w ∈ wsX5_dull := by decide +kernel
set_option maxHeartbeats 4000000 in
set_option maxRecDepth 100000 in
theorem X5_dull_h10_ok {p : Program} {l : Launch} {e : Env} {s : State} {m : MethodId} {args : Array Value} {below : List Frame} {meth : Method} {c : Code} {D : va_G} {E : Nat → ClassId} {b z : Nat} {sh : List hS} {r : Int32} {I2 : hM} {k10 : Int32 → hM → Option (Int32 × hM)} {v1 : Int32} {I : hM} (hX : hp_X p s m args meth c yX5_dull.cls cX5_dull 3 wsX5_dull D E (some .int) yX5_dull.name) (hf0 : hq_X5 sh) (hk10 : ∀ (v1 : Int32) (I : hM), k10 v1 I = some (r, I2) → hp_J p l e ({ frames := 6, cells := 0, slots := 0, locals := 44 * 6 }) s m args below meth c (MQ below (hp_Q D E b z (some (.int r)) sh I2) args s 0 0 (fun q : Nat => b ≤ q)) D E b z 3 sh 0 0 I 10 [(0, .ref 92), (1, .int v1)] []) (h : X5_dull_h10 k10 v1 I = some (r, I2)) : hp_J p l e ({ frames := 6, cells := 0, slots := 0, locals := 44 * 6 }) s m args below meth c (MQ below (hp_Q D E b z (some (.int r)) sh I2) args s 0 0 (fun q : Nat => b ≤ q)) D E b z 3 sh 0 0 I 10 [(0, .ref 92), (1, .int v1)] [] := by
  unfold X5_dull_h10 at h
  refine hj_iload_n hX rfl 1 rfl dX5_dull_10 ?_
  refine hj_bipush hX (v := (60 : Int32)) (by decide) dX5_dull_11 ?_
  refine hj_icmp_gt hX (tgt := 53) (by decide) dX5_dull_13 h (fun h => ?_) (fun h => ?_)
  · refine hj_bipush hX (v := (-4 : Int32)) (by decide) dX5_dull_53 ?_
    exact hj_iret hX dX5_dull_55 h
  · refine hj_aload_n hX rfl 0 rfl dX5_dull_16 ?_
    refine hj_getr hX (j := 26) hf0.1 rfl rfl X5_dull_w5 (Nat.le_of_ble_eq_true rfl) rfl X5_dull_k70 dX5_dull_17 ?_
    refine hj_sipush hX (v := (239 : Int32)) (by decide) dX5_dull_20 ?_
    refine hj_iald hX hf0.2.2.2.2.2.2.2.2.2.2.2.2.2.2.2.2.2.2.2.2.2.1 dX5_dull_23 h (fun h => ?_)
    refine hj_istore_n hX rfl (Nat.le_of_ble_eq_true rfl) (lv2 := [(2, .int (I 113 ((239 : Int32)).toNatClampNeg)), (0, .ref 92), (1, .int v1)]) rfl dX5_dull_24 ?_
    refine hj_aload_n hX rfl 1 rfl dX5_dull_25 ?_
    refine hj_sipush hX (v := (220 : Int32)) (by decide) dX5_dull_26 ?_
    refine hj_iconst hX (v := (1 : Int32)) (by decide) dX5_dull_29 ?_
    obtain ⟨u4, Ia5, hc6, h⟩ := ob_e h
    refine hj_callV hX (sh2 := sh) (I2 := Ia5) (r := none) (As := [.int (220 : Int32), .int (1 : Int32)]) (rest := []) (st2 := []) (X5_minutes_ok hf0 hc6) gX5_dull_X5_minutes rfl X5_minutes_hy ⟨(Nat.le_of_ble_eq_true rfl), (Nat.le_of_ble_eq_true rfl)⟩ rfl hf0.1 rfl (Nat.le_of_ble_eq_true rfl) ⟨(Nat.le_of_ble_eq_true rfl), (Nat.le_of_ble_eq_true rfl)⟩ rfl rfl rfl dX5_dull_30 ?_
    refine hj_aload_n hX rfl 1 rfl dX5_dull_33 ?_
    refine hj_getr hX (j := 26) hf0.1 rfl rfl X5_dull_w5 (Nat.le_of_ble_eq_true rfl) rfl X5_dull_k70 dX5_dull_34 ?_
    refine hj_sipush hX (v := (239 : Int32)) (by decide) dX5_dull_37 ?_
    refine hj_iald hX hf0.2.2.2.2.2.2.2.2.2.2.2.2.2.2.2.2.2.2.2.2.2.1 dX5_dull_40 h (fun h => ?_)
    refine hj_iload_n hX rfl 0 rfl dX5_dull_41 ?_
    refine hj_icmp_ge hX (tgt := 47) (by decide) dX5_dull_42 h (fun h => ?_) (fun h => ?_)
    · refine hj_iinc hX (k1 := 2) (v := (v1 + (1 : Int32))) rfl rfl (Nat.le_of_ble_eq_true rfl) (lv2 := [(1, .int (v1 + (1 : Int32))), (2, .int (I 113 ((239 : Int32)).toNatClampNeg)), (0, .ref 92)]) rfl dX5_dull_47 ?_
      refine hj_goto hX (tgt := 10) (by decide) dX5_dull_50 ?_
      refine hj_lv hX [2, 0] (lv2 := [(0, .ref 92), (1, .int (v1 + (1 : Int32)))]) rfl ?_
      exact hk10 _ _ h
    · refine hj_iload_n hX rfl 2 rfl dX5_dull_45 ?_
      exact hj_iret hX dX5_dull_46 h
set_option maxHeartbeats 4000000 in
set_option maxRecDepth 100000 in
theorem X5_dull_l10_ok {p : Program} {l : Launch} {e : Env} {s : State} {m : MethodId} {args : Array Value} {below : List Frame} {meth : Method} {c : Code} {D : va_G} {E : Nat → ClassId} {b z : Nat} {sh : List hS} {r : Int32} {I2 : hM} (hX : hp_X p s m args meth c yX5_dull.cls cX5_dull 3 wsX5_dull D E (some .int) yX5_dull.name) (hf0 : hq_X5 sh) : ∀ (n : Nat) (v1 : Int32) (I : hM), X5_dull_l10 n v1 I = some (r, I2) → hp_J p l e ({ frames := 6, cells := 0, slots := 0, locals := 44 * 6 }) s m args below meth c (MQ below (hp_Q D E b z (some (.int r)) sh I2) args s 0 0 (fun q : Nat => b ≤ q)) D E b z 3 sh 0 0 I 10 [(0, .ref 92), (1, .int v1)] [] := by
  intro n
  induction n with
  | zero => exact fun _ _ h => nomatch h
  | succ n ih => exact fun _ _ h => X5_dull_h10_ok hX hf0 ih h
set_option maxHeartbeats 4000000 in
set_option maxRecDepth 100000 in
theorem X5_dull_ok {sh : List hS} {r : Int32} {I I2 : hM} (hf0 : hq_X5 sh) (h : X5_dull I = some (r, I2)) : hp_C yX5_dull wsX5_dull 6 0 0 sh I [.ref 92] (some (.int r)) sh I2 := hp_start (cc := cX5_dull) (maxL := 3) (ret := (some .int)) [(0, .ref 92)] (by decide) rfl (fun _ _ => rfl) (fun _ _ => Nat.le_of_ble_eq_true rfl) (fun p l e s m below meth c D E b z hX _ => by
  unfold X5_dull at h
  refine hj_aload_n hX rfl 0 rfl dX5_dull_0 ?_
  refine hj_iconst hX (v := (0 : Int32)) (by decide) dX5_dull_1 ?_
  refine hj_sipush hX (v := (220 : Int32)) (by decide) dX5_dull_2 ?_
  obtain ⟨u1, Ia2, hc3, h⟩ := ob_e h
  refine hj_callV hX (sh2 := sh) (I2 := Ia2) (r := none) (As := [.int (0 : Int32), .int (220 : Int32)]) (rest := []) (st2 := []) (X5_copies_ok hf0 hc3) gX5_dull_X5_copies rfl X5_copies_hy ⟨(Nat.le_of_ble_eq_true rfl), (Nat.le_of_ble_eq_true rfl)⟩ rfl hf0.1 rfl (Nat.le_of_ble_eq_true rfl) ⟨(Nat.le_of_ble_eq_true rfl), (Nat.le_of_ble_eq_true rfl)⟩ rfl rfl rfl dX5_dull_5 ?_
  refine hj_iconst hX (v := (0 : Int32)) (by decide) dX5_dull_8 ?_
  refine hj_istore_n hX rfl (Nat.le_of_ble_eq_true rfl) (lv2 := [(1, .int (0 : Int32)), (0, .ref 92)]) rfl dX5_dull_9 ?_
  refine hj_lv hX [1, 0] (lv2 := [(0, .ref 92), (1, .int (0 : Int32))]) rfl ?_
  exact X5_dull_l10_ok hX hf0 hF _ _ h)
def X5_quiet_b37 (k14 : Int32 → Int32 → Int32 → hM → Option (Int32 × hM)) (v1 : Int32) (v3 : Int32) (t0 : Int32) (I : hM) : Option (Int32 × hM) := ob (X5_larger v1 t0 I) (fun u7 Ia8 => (k14 u7 t0 (v3 + (1 : Int32)) Ia8))
def X5_quiet_h14 (k14 : Int32 → Int32 → Int32 → hM → Option (Int32 × hM)) (v1 : Int32) (v2 : Int32) (v3 : Int32) (I : hM) : Option (Int32 × hM) := if (60 : Int32) ≤ v3 then (some (v1, I)) else (ob (X5_goesOn (220 : Int32) I) (fun u4 Ia5 => if u4 = 0 then ((X5_quiet_b37 k14 v1 v3 (v2 + (1 : Int32)) Ia5)) else ((X5_quiet_b37 k14 v1 v3 (0 : Int32) Ia5))))
def X5_quiet_l14 : Nat → Int32 → Int32 → Int32 → hM → Option (Int32 × hM)
  | 0 => fun _ _ _ _ => none
  | n + 1 => X5_quiet_h14   (X5_quiet_l14   n)
def X5_quiet (I : hM) : Option (Int32 × hM) := ob (X5_copies (0 : Int32) (220 : Int32) I) (fun u1 Ia2 => (X5_quiet_l14 hF (0 : Int32) (0 : Int32) (0 : Int32) Ia2))
theorem X5_quiet_hy : yX5_quiet.cls = RX5 ∧ yX5_quiet.cls ≠ "java/lang/invoke/MethodHandle" ∧ yX5_quiet.cls ≠ "java/lang/invoke/VarHandle" ∧ (parseMethodDescriptor yX5_quiet.desc).map (fun d => d.parameters.length) = some 0 := by decide +kernel
set_option maxHeartbeats 4000000 in
set_option maxRecDepth 100000 in
theorem X5_quiet_b37_ok {p : Program} {l : Launch} {e : Env} {s : State} {m : MethodId} {args : Array Value} {below : List Frame} {meth : Method} {c : Code} {D : va_G} {E : Nat → ClassId} {b z : Nat} {sh : List hS} {r : Int32} {I2 : hM} {k14 : Int32 → Int32 → Int32 → hM → Option (Int32 × hM)} {v1 : Int32} {v3 : Int32} {t0 : Int32} {I : hM} (hX : hp_X p s m args meth c yX5_quiet.cls cX5_quiet 4 wsX5_quiet D E (some .int) yX5_quiet.name) (hf0 : hq_X5 sh) (hk14 : ∀ (v1 : Int32) (v2 : Int32) (v3 : Int32) (I : hM), k14 v1 v2 v3 I = some (r, I2) → hp_J p l e ({ frames := 5, cells := 0, slots := 0, locals := 44 * 5 }) s m args below meth c (MQ below (hp_Q D E b z (some (.int r)) sh I2) args s 0 0 (fun q : Nat => b ≤ q)) D E b z 4 sh 0 0 I 14 [(0, .ref 92), (1, .int v1), (2, .int v2), (3, .int v3)] []) (h : X5_quiet_b37 k14 v1 v3 t0 I = some (r, I2)) : hp_J p l e ({ frames := 5, cells := 0, slots := 0, locals := 44 * 5 }) s m args below meth c (MQ below (hp_Q D E b z (some (.int r)) sh I2) args s 0 0 (fun q : Nat => b ≤ q)) D E b z 4 sh 0 0 I 37 [(0, .ref 92), (1, .int v1), (3, .int v3)] [.int t0] := by
  unfold X5_quiet_b37 at h
  refine hj_istore_n hX rfl (Nat.le_of_ble_eq_true rfl) (lv2 := [(2, .int t0), (0, .ref 92), (1, .int v1), (3, .int v3)]) rfl dX5_quiet_37 ?_
  refine hj_iload_n hX rfl 2 rfl dX5_quiet_38 ?_
  refine hj_iload_n hX rfl 0 rfl dX5_quiet_39 ?_
  obtain ⟨u7, Ia8, hc9, h⟩ := ob_e h
  refine hj_callS hX (sh2 := sh) (I2 := Ia8) (r := (some (.int u7))) (As := [.int v1, .int t0]) (rest := []) (st2 := [.int u7]) (X5_larger_ok hc9) gX5_quiet_X5_larger rfl X5_larger_hy.2 ⟨(Nat.le_of_ble_eq_true rfl), (Nat.le_of_ble_eq_true rfl)⟩ rfl (Nat.le_of_ble_eq_true rfl) ⟨(Nat.le_of_ble_eq_true rfl), (Nat.le_of_ble_eq_true rfl)⟩ rfl rfl rfl dX5_quiet_40 ?_
  refine hj_istore_n hX rfl (Nat.le_of_ble_eq_true rfl) (lv2 := [(1, .int u7), (2, .int t0), (0, .ref 92), (3, .int v3)]) rfl dX5_quiet_43 ?_
  refine hj_iinc hX (k1 := 3) (v := (v3 + (1 : Int32))) rfl rfl (Nat.le_of_ble_eq_true rfl) (lv2 := [(3, .int (v3 + (1 : Int32))), (1, .int u7), (2, .int t0), (0, .ref 92)]) rfl dX5_quiet_44 ?_
  refine hj_goto hX (tgt := 14) (by decide) dX5_quiet_47 ?_
  refine hj_lv hX [3, 1, 2, 0] (lv2 := [(0, .ref 92), (1, .int u7), (2, .int t0), (3, .int (v3 + (1 : Int32)))]) rfl ?_
  exact hk14 _ _ _ _ h
set_option maxHeartbeats 4000000 in
set_option maxRecDepth 100000 in
theorem X5_quiet_h14_ok {p : Program} {l : Launch} {e : Env} {s : State} {m : MethodId} {args : Array Value} {below : List Frame} {meth : Method} {c : Code} {D : va_G} {E : Nat → ClassId} {b z : Nat} {sh : List hS} {r : Int32} {I2 : hM} {k14 : Int32 → Int32 → Int32 → hM → Option (Int32 × hM)} {v1 : Int32} {v2 : Int32} {v3 : Int32} {I : hM} (hX : hp_X p s m args meth c yX5_quiet.cls cX5_quiet 4 wsX5_quiet D E (some .int) yX5_quiet.name) (hf0 : hq_X5 sh) (hk14 : ∀ (v1 : Int32) (v2 : Int32) (v3 : Int32) (I : hM), k14 v1 v2 v3 I = some (r, I2) → hp_J p l e ({ frames := 5, cells := 0, slots := 0, locals := 44 * 5 }) s m args below meth c (MQ below (hp_Q D E b z (some (.int r)) sh I2) args s 0 0 (fun q : Nat => b ≤ q)) D E b z 4 sh 0 0 I 14 [(0, .ref 92), (1, .int v1), (2, .int v2), (3, .int v3)] []) (h : X5_quiet_h14 k14 v1 v2 v3 I = some (r, I2)) : hp_J p l e ({ frames := 5, cells := 0, slots := 0, locals := 44 * 5 }) s m args below meth c (MQ below (hp_Q D E b z (some (.int r)) sh I2) args s 0 0 (fun q : Nat => b ≤ q)) D E b z 4 sh 0 0 I 14 [(0, .ref 92), (1, .int v1), (2, .int v2), (3, .int v3)] [] := by
  unfold X5_quiet_h14 at h
  refine hj_iload_n hX rfl 3 rfl dX5_quiet_14 ?_
  refine hj_bipush hX (v := (60 : Int32)) (by decide) dX5_quiet_15 ?_
  refine hj_icmp_ge hX (tgt := 50) (by decide) dX5_quiet_17 h (fun h => ?_) (fun h => ?_)
  · refine hj_iload_n hX rfl 1 rfl dX5_quiet_50 ?_
    exact hj_iret hX dX5_quiet_51 h
  · refine hj_aload_n hX rfl 0 rfl dX5_quiet_20 ?_
    refine hj_sipush hX (v := (220 : Int32)) (by decide) dX5_quiet_21 ?_
    obtain ⟨u4, Ia5, hc6, h⟩ := ob_e h
    refine hj_callV hX (sh2 := sh) (I2 := Ia5) (r := (some (.int u4))) (As := [.int (220 : Int32)]) (rest := []) (st2 := [.int u4]) (X5_goesOn_ok hf0 hc6) gX5_quiet_X5_goesOn rfl X5_goesOn_hy ⟨(Nat.le_of_ble_eq_true rfl), (Nat.le_of_ble_eq_true rfl)⟩ rfl hf0.1 rfl (Nat.le_of_ble_eq_true rfl) ⟨(Nat.le_of_ble_eq_true rfl), (Nat.le_of_ble_eq_true rfl)⟩ rfl rfl rfl dX5_quiet_24 ?_
    refine hj_if_ne hX (tgt := 36) (by decide) dX5_quiet_27 h (fun h => ?_) (fun h => ?_)
    · refine hj_iconst hX (v := (0 : Int32)) (by decide) dX5_quiet_36 ?_
      refine hj_lv hX [0, 1, 3] (lv2 := [(0, .ref 92), (1, .int v1), (3, .int v3)]) rfl ?_
      exact X5_quiet_b37_ok hX hf0 hk14 h
    · refine hj_iload_n hX rfl 2 rfl dX5_quiet_30 ?_
      refine hj_iconst hX (v := (1 : Int32)) (by decide) dX5_quiet_31 ?_
      refine hj_iadd hX dX5_quiet_32 ?_
      refine hj_goto hX (tgt := 37) (by decide) dX5_quiet_33 ?_
      refine hj_lv hX [0, 1, 3] (lv2 := [(0, .ref 92), (1, .int v1), (3, .int v3)]) rfl ?_
      exact X5_quiet_b37_ok hX hf0 hk14 h
set_option maxHeartbeats 4000000 in
set_option maxRecDepth 100000 in
theorem X5_quiet_l14_ok {p : Program} {l : Launch} {e : Env} {s : State} {m : MethodId} {args : Array Value} {below : List Frame} {meth : Method} {c : Code} {D : va_G} {E : Nat → ClassId} {b z : Nat} {sh : List hS} {r : Int32} {I2 : hM} (hX : hp_X p s m args meth c yX5_quiet.cls cX5_quiet 4 wsX5_quiet D E (some .int) yX5_quiet.name) (hf0 : hq_X5 sh) : ∀ (n : Nat) (v1 : Int32) (v2 : Int32) (v3 : Int32) (I : hM), X5_quiet_l14 n v1 v2 v3 I = some (r, I2) → hp_J p l e ({ frames := 5, cells := 0, slots := 0, locals := 44 * 5 }) s m args below meth c (MQ below (hp_Q D E b z (some (.int r)) sh I2) args s 0 0 (fun q : Nat => b ≤ q)) D E b z 4 sh 0 0 I 14 [(0, .ref 92), (1, .int v1), (2, .int v2), (3, .int v3)] [] := by
  intro n
  induction n with
  | zero => exact fun _ _ _ _ h => nomatch h
  | succ n ih => exact fun _ _ _ _ h => X5_quiet_h14_ok hX hf0 ih h
set_option maxHeartbeats 4000000 in
set_option maxRecDepth 100000 in
theorem X5_quiet_ok {sh : List hS} {r : Int32} {I I2 : hM} (hf0 : hq_X5 sh) (h : X5_quiet I = some (r, I2)) : hp_C yX5_quiet wsX5_quiet 5 0 0 sh I [.ref 92] (some (.int r)) sh I2 := hp_start (cc := cX5_quiet) (maxL := 4) (ret := (some .int)) [(0, .ref 92)] (by decide) rfl (fun _ _ => rfl) (fun _ _ => Nat.le_of_ble_eq_true rfl) (fun p l e s m below meth c D E b z hX _ => by
  unfold X5_quiet at h
  refine hj_aload_n hX rfl 0 rfl dX5_quiet_0 ?_
  refine hj_iconst hX (v := (0 : Int32)) (by decide) dX5_quiet_1 ?_
  refine hj_sipush hX (v := (220 : Int32)) (by decide) dX5_quiet_2 ?_
  obtain ⟨u1, Ia2, hc3, h⟩ := ob_e h
  refine hj_callV hX (sh2 := sh) (I2 := Ia2) (r := none) (As := [.int (0 : Int32), .int (220 : Int32)]) (rest := []) (st2 := []) (X5_copies_ok hf0 hc3) gX5_quiet_X5_copies rfl X5_copies_hy ⟨(Nat.le_of_ble_eq_true rfl), (Nat.le_of_ble_eq_true rfl)⟩ rfl hf0.1 rfl (Nat.le_of_ble_eq_true rfl) ⟨(Nat.le_of_ble_eq_true rfl), (Nat.le_of_ble_eq_true rfl)⟩ rfl rfl rfl dX5_quiet_5 ?_
  refine hj_iconst hX (v := (0 : Int32)) (by decide) dX5_quiet_8 ?_
  refine hj_istore_n hX rfl (Nat.le_of_ble_eq_true rfl) (lv2 := [(1, .int (0 : Int32)), (0, .ref 92)]) rfl dX5_quiet_9 ?_
  refine hj_iconst hX (v := (0 : Int32)) (by decide) dX5_quiet_10 ?_
  refine hj_istore_n hX rfl (Nat.le_of_ble_eq_true rfl) (lv2 := [(2, .int (0 : Int32)), (1, .int (0 : Int32)), (0, .ref 92)]) rfl dX5_quiet_11 ?_
  refine hj_iconst hX (v := (0 : Int32)) (by decide) dX5_quiet_12 ?_
  refine hj_istore_n hX rfl (Nat.le_of_ble_eq_true rfl) (lv2 := [(3, .int (0 : Int32)), (2, .int (0 : Int32)), (1, .int (0 : Int32)), (0, .ref 92)]) rfl dX5_quiet_13 ?_
  refine hj_lv hX [3, 2, 1, 0] (lv2 := [(0, .ref 92), (1, .int (0 : Int32)), (2, .int (0 : Int32)), (3, .int (0 : Int32))]) rfl ?_
  exact X5_quiet_l14_ok hX hf0 hF _ _ _ _ h)
def X5_hadThen (I : hM) : Option (Int32 × hM) := ob (X5_minutes (220 : Int32) (60 : Int32) I) (fun u1 Ia2 => gd (hx (239 : Int32) 240) (some ((Ia2 113 ((239 : Int32)).toNatClampNeg), Ia2)))
theorem X5_hadThen_hy : yX5_hadThen.cls = RX5 ∧ yX5_hadThen.cls ≠ "java/lang/invoke/MethodHandle" ∧ yX5_hadThen.cls ≠ "java/lang/invoke/VarHandle" ∧ (parseMethodDescriptor yX5_hadThen.desc).map (fun d => d.parameters.length) = some 0 := by decide +kernel
theorem X5_hadThen_k70 : Cond.fieldLink RX5 70 "HatPinsModel" "slot" "[I" ∈ wsX5_hadThen := by decide +kernel
theorem X5_hadThen_w5 : ∀ w ∈ wsX50, w ∈ wsX5_hadThen := by decide +kernel
set_option maxHeartbeats 4000000 in
set_option maxRecDepth 100000 in
theorem X5_hadThen_ok {sh : List hS} {r : Int32} {I I2 : hM} (hf0 : hq_X5 sh) (h : X5_hadThen I = some (r, I2)) : hp_C yX5_hadThen wsX5_hadThen 6 0 0 sh I [.ref 92] (some (.int r)) sh I2 := hp_start (cc := cX5_hadThen) (maxL := 1) (ret := (some .int)) [(0, .ref 92)] (by decide) rfl (fun _ _ => rfl) (fun _ _ => Nat.le_of_ble_eq_true rfl) (fun p l e s m below meth c D E b z hX _ => by
  unfold X5_hadThen at h
  refine hj_aload_n hX rfl 0 rfl dX5_hadThen_0 ?_
  refine hj_sipush hX (v := (220 : Int32)) (by decide) dX5_hadThen_1 ?_
  refine hj_bipush hX (v := (60 : Int32)) (by decide) dX5_hadThen_4 ?_
  obtain ⟨u1, Ia2, hc3, h⟩ := ob_e h
  refine hj_callV hX (sh2 := sh) (I2 := Ia2) (r := none) (As := [.int (220 : Int32), .int (60 : Int32)]) (rest := []) (st2 := []) (X5_minutes_ok hf0 hc3) gX5_hadThen_X5_minutes rfl X5_minutes_hy ⟨(Nat.le_of_ble_eq_true rfl), (Nat.le_of_ble_eq_true rfl)⟩ rfl hf0.1 rfl (Nat.le_of_ble_eq_true rfl) ⟨(Nat.le_of_ble_eq_true rfl), (Nat.le_of_ble_eq_true rfl)⟩ rfl rfl rfl dX5_hadThen_6 ?_
  refine hj_aload_n hX rfl 0 rfl dX5_hadThen_9 ?_
  refine hj_getr hX (j := 26) hf0.1 rfl rfl X5_hadThen_w5 (Nat.le_of_ble_eq_true rfl) rfl X5_hadThen_k70 dX5_hadThen_10 ?_
  refine hj_sipush hX (v := (239 : Int32)) (by decide) dX5_hadThen_13 ?_
  refine hj_iald hX hf0.2.2.2.2.2.2.2.2.2.2.2.2.2.2.2.2.2.2.2.2.2.1 dX5_hadThen_16 h (fun h => ?_)
  exact hj_iret hX dX5_hadThen_17 h)
def X5_hadAsItIs (I : hM) : Option (Int32 × hM) := ob (X5_copies (0 : Int32) (220 : Int32) I) (fun u1 Ia2 => ob (X5_hadThen Ia2) (fun u4 Ia5 => some (u4, Ia5)))
theorem X5_hadAsItIs_hy : yX5_hadAsItIs.cls = RX5 ∧ yX5_hadAsItIs.cls ≠ "java/lang/invoke/MethodHandle" ∧ yX5_hadAsItIs.cls ≠ "java/lang/invoke/VarHandle" ∧ (parseMethodDescriptor yX5_hadAsItIs.desc).map (fun d => d.parameters.length) = some 0 := by decide +kernel
set_option maxHeartbeats 4000000 in
set_option maxRecDepth 100000 in
theorem X5_hadAsItIs_ok {sh : List hS} {r : Int32} {I I2 : hM} (hf0 : hq_X5 sh) (h : X5_hadAsItIs I = some (r, I2)) : hp_C yX5_hadAsItIs wsX5_hadAsItIs 7 0 0 sh I [.ref 92] (some (.int r)) sh I2 := hp_start (cc := cX5_hadAsItIs) (maxL := 1) (ret := (some .int)) [(0, .ref 92)] (by decide) rfl (fun _ _ => rfl) (fun _ _ => Nat.le_of_ble_eq_true rfl) (fun p l e s m below meth c D E b z hX _ => by
  unfold X5_hadAsItIs at h
  refine hj_aload_n hX rfl 0 rfl dX5_hadAsItIs_0 ?_
  refine hj_iconst hX (v := (0 : Int32)) (by decide) dX5_hadAsItIs_1 ?_
  refine hj_sipush hX (v := (220 : Int32)) (by decide) dX5_hadAsItIs_2 ?_
  obtain ⟨u1, Ia2, hc3, h⟩ := ob_e h
  refine hj_callV hX (sh2 := sh) (I2 := Ia2) (r := none) (As := [.int (0 : Int32), .int (220 : Int32)]) (rest := []) (st2 := []) (X5_copies_ok hf0 hc3) gX5_hadAsItIs_X5_copies rfl X5_copies_hy ⟨(Nat.le_of_ble_eq_true rfl), (Nat.le_of_ble_eq_true rfl)⟩ rfl hf0.1 rfl (Nat.le_of_ble_eq_true rfl) ⟨(Nat.le_of_ble_eq_true rfl), (Nat.le_of_ble_eq_true rfl)⟩ rfl rfl rfl dX5_hadAsItIs_5 ?_
  refine hj_aload_n hX rfl 0 rfl dX5_hadAsItIs_8 ?_
  obtain ⟨u4, Ia5, hc6, h⟩ := ob_e h
  refine hj_callV hX (sh2 := sh) (I2 := Ia5) (r := (some (.int u4))) (As := []) (rest := []) (st2 := [.int u4]) (X5_hadThen_ok hf0 hc6) gX5_hadAsItIs_X5_hadThen rfl X5_hadThen_hy ⟨(Nat.le_of_ble_eq_true rfl), (Nat.le_of_ble_eq_true rfl)⟩ rfl hf0.1 rfl (Nat.le_of_ble_eq_true rfl) ⟨(Nat.le_of_ble_eq_true rfl), (Nat.le_of_ble_eq_true rfl)⟩ rfl rfl rfl dX5_hadAsItIs_9 ?_
  exact hj_iret hX dX5_hadAsItIs_12 h)
def X5_hadStopped_b52 (k10 : Int32 → Int32 → Int32 → hM → Option (Int32 × hM)) (v1 : Int32) (v2 : Int32) (v3 : Int32) (I : hM) : Option (Int32 × hM) := ob (X5_minutes (220 : Int32) (1 : Int32) I) (fun u7 Ia8 => (k10 v1 v2 (v3 + (1 : Int32)) Ia8))
def X5_hadStopped_h10 (k10 : Int32 → Int32 → Int32 → hM → Option (Int32 × hM)) (v1 : Int32) (v2 : Int32) (v3 : Int32) (I : hM) : Option (Int32 × hM) := if (60 : Int32) ≤ v3 then (gd (hx (239 : Int32) 240) (some ((I 113 ((239 : Int32)).toNatClampNeg), I))) else (if v3 < v2 then (X5_hadStopped_b52 k10 v1 v2 v3 I) else (gd (hx ((220 : Int32) + v1) 240) (if (I 113 (((220 : Int32) + v1)).toNatClampNeg) = (1 : Int32) then (gd (hx (238 : Int32) 240) (ob (X5_ends (220 : Int32) v1 (3 : Int32) (I 113 ((238 : Int32)).toNatClampNeg) I) (fun u4 Ia5 => (X5_hadStopped_b52 k10 v1 v2 v3 Ia5)))) else (X5_hadStopped_b52 k10 v1 v2 v3 I))))
def X5_hadStopped_l10 : Nat → Int32 → Int32 → Int32 → hM → Option (Int32 × hM)
  | 0 => fun _ _ _ _ => none
  | n + 1 => X5_hadStopped_h10   (X5_hadStopped_l10   n)
def X5_hadStopped (v1 : Int32) (v2 : Int32) (I : hM) : Option (Int32 × hM) := ob (X5_copies (0 : Int32) (220 : Int32) I) (fun u1 Ia2 => (X5_hadStopped_l10 hF v1 v2 (0 : Int32) Ia2))
theorem X5_hadStopped_hy : yX5_hadStopped.cls = RX5 ∧ yX5_hadStopped.cls ≠ "java/lang/invoke/MethodHandle" ∧ yX5_hadStopped.cls ≠ "java/lang/invoke/VarHandle" ∧ (parseMethodDescriptor yX5_hadStopped.desc).map (fun d => d.parameters.length) = some 2 := by decide +kernel
theorem X5_hadStopped_k70 : Cond.fieldLink RX5 70 "HatPinsModel" "slot" "[I" ∈ wsX5_hadStopped := by decide +kernel
theorem X5_hadStopped_w5 : ∀ w ∈ wsX50, w ∈ wsX5_hadStopped := by decide +kernel
set_option maxHeartbeats 4000000 in
set_option maxRecDepth 100000 in
theorem X5_hadStopped_b52_ok {p : Program} {l : Launch} {e : Env} {s : State} {m : MethodId} {args : Array Value} {below : List Frame} {meth : Method} {c : Code} {D : va_G} {E : Nat → ClassId} {b z : Nat} {sh : List hS} {r : Int32} {I2 : hM} {k10 : Int32 → Int32 → Int32 → hM → Option (Int32 × hM)} {v1 : Int32} {v2 : Int32} {v3 : Int32} {I : hM} (hX : hp_X p s m args meth c yX5_hadStopped.cls cX5_hadStopped 4 wsX5_hadStopped D E (some .int) yX5_hadStopped.name) (hf0 : hq_X5 sh) (hk10 : ∀ (v1 : Int32) (v2 : Int32) (v3 : Int32) (I : hM), k10 v1 v2 v3 I = some (r, I2) → hp_J p l e ({ frames := 6, cells := 0, slots := 0, locals := 44 * 6 }) s m args below meth c (MQ below (hp_Q D E b z (some (.int r)) sh I2) args s 0 0 (fun q : Nat => b ≤ q)) D E b z 4 sh 0 0 I 10 [(0, .ref 92), (1, .int v1), (2, .int v2), (3, .int v3)] []) (h : X5_hadStopped_b52 k10 v1 v2 v3 I = some (r, I2)) : hp_J p l e ({ frames := 6, cells := 0, slots := 0, locals := 44 * 6 }) s m args below meth c (MQ below (hp_Q D E b z (some (.int r)) sh I2) args s 0 0 (fun q : Nat => b ≤ q)) D E b z 4 sh 0 0 I 52 [(0, .ref 92), (1, .int v1), (2, .int v2), (3, .int v3)] [] := by
  unfold X5_hadStopped_b52 at h
  refine hj_aload_n hX rfl 0 rfl dX5_hadStopped_52 ?_
  refine hj_sipush hX (v := (220 : Int32)) (by decide) dX5_hadStopped_53 ?_
  refine hj_iconst hX (v := (1 : Int32)) (by decide) dX5_hadStopped_56 ?_
  obtain ⟨u7, Ia8, hc9, h⟩ := ob_e h
  refine hj_callV hX (sh2 := sh) (I2 := Ia8) (r := none) (As := [.int (220 : Int32), .int (1 : Int32)]) (rest := []) (st2 := []) (X5_minutes_ok hf0 hc9) gX5_hadStopped_X5_minutes rfl X5_minutes_hy ⟨(Nat.le_of_ble_eq_true rfl), (Nat.le_of_ble_eq_true rfl)⟩ rfl hf0.1 rfl (Nat.le_of_ble_eq_true rfl) ⟨(Nat.le_of_ble_eq_true rfl), (Nat.le_of_ble_eq_true rfl)⟩ rfl rfl rfl dX5_hadStopped_57 ?_
  refine hj_iinc hX (k1 := 3) (v := (v3 + (1 : Int32))) rfl rfl (Nat.le_of_ble_eq_true rfl) (lv2 := [(3, .int (v3 + (1 : Int32))), (0, .ref 92), (1, .int v1), (2, .int v2)]) rfl dX5_hadStopped_60 ?_
  refine hj_goto hX (tgt := 10) (by decide) dX5_hadStopped_63 ?_
  refine hj_lv hX [1, 2, 3, 0] (lv2 := [(0, .ref 92), (1, .int v1), (2, .int v2), (3, .int (v3 + (1 : Int32)))]) rfl ?_
  exact hk10 _ _ _ _ h
set_option maxHeartbeats 4000000 in
set_option maxRecDepth 100000 in
theorem X5_hadStopped_h10_ok {p : Program} {l : Launch} {e : Env} {s : State} {m : MethodId} {args : Array Value} {below : List Frame} {meth : Method} {c : Code} {D : va_G} {E : Nat → ClassId} {b z : Nat} {sh : List hS} {r : Int32} {I2 : hM} {k10 : Int32 → Int32 → Int32 → hM → Option (Int32 × hM)} {v1 : Int32} {v2 : Int32} {v3 : Int32} {I : hM} (hX : hp_X p s m args meth c yX5_hadStopped.cls cX5_hadStopped 4 wsX5_hadStopped D E (some .int) yX5_hadStopped.name) (hf0 : hq_X5 sh) (hk10 : ∀ (v1 : Int32) (v2 : Int32) (v3 : Int32) (I : hM), k10 v1 v2 v3 I = some (r, I2) → hp_J p l e ({ frames := 6, cells := 0, slots := 0, locals := 44 * 6 }) s m args below meth c (MQ below (hp_Q D E b z (some (.int r)) sh I2) args s 0 0 (fun q : Nat => b ≤ q)) D E b z 4 sh 0 0 I 10 [(0, .ref 92), (1, .int v1), (2, .int v2), (3, .int v3)] []) (h : X5_hadStopped_h10 k10 v1 v2 v3 I = some (r, I2)) : hp_J p l e ({ frames := 6, cells := 0, slots := 0, locals := 44 * 6 }) s m args below meth c (MQ below (hp_Q D E b z (some (.int r)) sh I2) args s 0 0 (fun q : Nat => b ≤ q)) D E b z 4 sh 0 0 I 10 [(0, .ref 92), (1, .int v1), (2, .int v2), (3, .int v3)] [] := by
  unfold X5_hadStopped_h10 at h
  refine hj_iload_n hX rfl 3 rfl dX5_hadStopped_10 ?_
  refine hj_bipush hX (v := (60 : Int32)) (by decide) dX5_hadStopped_11 ?_
  refine hj_icmp_ge hX (tgt := 66) (by decide) dX5_hadStopped_13 h (fun h => ?_) (fun h => ?_)
  · refine hj_aload_n hX rfl 0 rfl dX5_hadStopped_66 ?_
    refine hj_getr hX (j := 26) hf0.1 rfl rfl X5_hadStopped_w5 (Nat.le_of_ble_eq_true rfl) rfl X5_hadStopped_k70 dX5_hadStopped_67 ?_
    refine hj_sipush hX (v := (239 : Int32)) (by decide) dX5_hadStopped_70 ?_
    refine hj_iald hX hf0.2.2.2.2.2.2.2.2.2.2.2.2.2.2.2.2.2.2.2.2.2.1 dX5_hadStopped_73 h (fun h => ?_)
    exact hj_iret hX dX5_hadStopped_74 h
  · refine hj_iload_n hX rfl 3 rfl dX5_hadStopped_16 ?_
    refine hj_iload_n hX rfl 2 rfl dX5_hadStopped_17 ?_
    refine hj_icmp_lt hX (tgt := 52) (by decide) dX5_hadStopped_18 h (fun h => ?_) (fun h => ?_)
    · exact X5_hadStopped_b52_ok hX hf0 hk10 h
    · refine hj_aload_n hX rfl 0 rfl dX5_hadStopped_21 ?_
      refine hj_getr hX (j := 26) hf0.1 rfl rfl X5_hadStopped_w5 (Nat.le_of_ble_eq_true rfl) rfl X5_hadStopped_k70 dX5_hadStopped_22 ?_
      refine hj_sipush hX (v := (220 : Int32)) (by decide) dX5_hadStopped_25 ?_
      refine hj_iload_n hX rfl 1 rfl dX5_hadStopped_28 ?_
      refine hj_iadd hX dX5_hadStopped_29 ?_
      refine hj_iald hX hf0.2.2.2.2.2.2.2.2.2.2.2.2.2.2.2.2.2.2.2.2.2.1 dX5_hadStopped_30 h (fun h => ?_)
      refine hj_iconst hX (v := (1 : Int32)) (by decide) dX5_hadStopped_31 ?_
      refine hj_icmp_ne hX (tgt := 52) (by decide) dX5_hadStopped_32 h (fun h => ?_) (fun h => ?_)
      · exact X5_hadStopped_b52_ok hX hf0 hk10 h
      · refine hj_aload_n hX rfl 0 rfl dX5_hadStopped_35 ?_
        refine hj_sipush hX (v := (220 : Int32)) (by decide) dX5_hadStopped_36 ?_
        refine hj_iload_n hX rfl 1 rfl dX5_hadStopped_39 ?_
        refine hj_iconst hX (v := (3 : Int32)) (by decide) dX5_hadStopped_40 ?_
        refine hj_aload_n hX rfl 0 rfl dX5_hadStopped_41 ?_
        refine hj_getr hX (j := 26) hf0.1 rfl rfl X5_hadStopped_w5 (Nat.le_of_ble_eq_true rfl) rfl X5_hadStopped_k70 dX5_hadStopped_42 ?_
        refine hj_sipush hX (v := (238 : Int32)) (by decide) dX5_hadStopped_45 ?_
        refine hj_iald hX hf0.2.2.2.2.2.2.2.2.2.2.2.2.2.2.2.2.2.2.2.2.2.1 dX5_hadStopped_48 h (fun h => ?_)
        obtain ⟨u4, Ia5, hc6, h⟩ := ob_e h
        refine hj_callV hX (sh2 := sh) (I2 := Ia5) (r := none) (As := [.int (220 : Int32), .int v1, .int (3 : Int32), .int (I 113 ((238 : Int32)).toNatClampNeg)]) (rest := []) (st2 := []) (X5_ends_ok hf0 hc6) gX5_hadStopped_X5_ends rfl X5_ends_hy ⟨(Nat.le_of_ble_eq_true rfl), (Nat.le_of_ble_eq_true rfl)⟩ rfl hf0.1 rfl (Nat.le_of_ble_eq_true rfl) ⟨(Nat.le_of_ble_eq_true rfl), (Nat.le_of_ble_eq_true rfl)⟩ rfl rfl rfl dX5_hadStopped_49 ?_
        exact X5_hadStopped_b52_ok hX hf0 hk10 h
set_option maxHeartbeats 4000000 in
set_option maxRecDepth 100000 in
theorem X5_hadStopped_l10_ok {p : Program} {l : Launch} {e : Env} {s : State} {m : MethodId} {args : Array Value} {below : List Frame} {meth : Method} {c : Code} {D : va_G} {E : Nat → ClassId} {b z : Nat} {sh : List hS} {r : Int32} {I2 : hM} (hX : hp_X p s m args meth c yX5_hadStopped.cls cX5_hadStopped 4 wsX5_hadStopped D E (some .int) yX5_hadStopped.name) (hf0 : hq_X5 sh) : ∀ (n : Nat) (v1 : Int32) (v2 : Int32) (v3 : Int32) (I : hM), X5_hadStopped_l10 n v1 v2 v3 I = some (r, I2) → hp_J p l e ({ frames := 6, cells := 0, slots := 0, locals := 44 * 6 }) s m args below meth c (MQ below (hp_Q D E b z (some (.int r)) sh I2) args s 0 0 (fun q : Nat => b ≤ q)) D E b z 4 sh 0 0 I 10 [(0, .ref 92), (1, .int v1), (2, .int v2), (3, .int v3)] [] := by
  intro n
  induction n with
  | zero => exact fun _ _ _ _ h => nomatch h
  | succ n ih => exact fun _ _ _ _ h => X5_hadStopped_h10_ok hX hf0 ih h
set_option maxHeartbeats 4000000 in
set_option maxRecDepth 100000 in
theorem X5_hadStopped_ok {sh : List hS} {r : Int32} {I I2 : hM} {v1 : Int32} {v2 : Int32} (hf0 : hq_X5 sh) (h : X5_hadStopped v1 v2 I = some (r, I2)) : hp_C yX5_hadStopped wsX5_hadStopped 6 0 0 sh I [.ref 92, .int v1, .int v2] (some (.int r)) sh I2 := hp_start (cc := cX5_hadStopped) (maxL := 4) (ret := (some .int)) [(0, .ref 92), (1, .int v1), (2, .int v2)] (by decide) rfl (fun _ _ => rfl) (fun _ _ => Nat.le_of_ble_eq_true rfl) (fun p l e s m below meth c D E b z hX _ => by
  unfold X5_hadStopped at h
  refine hj_aload_n hX rfl 0 rfl dX5_hadStopped_0 ?_
  refine hj_iconst hX (v := (0 : Int32)) (by decide) dX5_hadStopped_1 ?_
  refine hj_sipush hX (v := (220 : Int32)) (by decide) dX5_hadStopped_2 ?_
  obtain ⟨u1, Ia2, hc3, h⟩ := ob_e h
  refine hj_callV hX (sh2 := sh) (I2 := Ia2) (r := none) (As := [.int (0 : Int32), .int (220 : Int32)]) (rest := []) (st2 := []) (X5_copies_ok hf0 hc3) gX5_hadStopped_X5_copies rfl X5_copies_hy ⟨(Nat.le_of_ble_eq_true rfl), (Nat.le_of_ble_eq_true rfl)⟩ rfl hf0.1 rfl (Nat.le_of_ble_eq_true rfl) ⟨(Nat.le_of_ble_eq_true rfl), (Nat.le_of_ble_eq_true rfl)⟩ rfl rfl rfl dX5_hadStopped_5 ?_
  refine hj_iconst hX (v := (0 : Int32)) (by decide) dX5_hadStopped_8 ?_
  refine hj_istore_n hX rfl (Nat.le_of_ble_eq_true rfl) (lv2 := [(3, .int (0 : Int32)), (0, .ref 92), (1, .int v1), (2, .int v2)]) rfl dX5_hadStopped_9 ?_
  refine hj_lv hX [1, 2, 3, 0] (lv2 := [(0, .ref 92), (1, .int v1), (2, .int v2), (3, .int (0 : Int32))]) rfl ?_
  exact X5_hadStopped_l10_ok hX hf0 hF _ _ _ _ h)
def X5_stop_b74 (k45 : Int32 → Int32 → Int32 → Int32 → Int32 → hM → Option (Int32 × hM)) (v1 : Int32) (v2 : Int32) (v3 : Int32) (v5 : Int32) (v6 : Int32) (t0 : Int32) (I : hM) : Option (Int32 × hM) := ob (X5_larger v3 v6 I) (fun u13 Ia14 => (k45 v1 v2 u13 t0 (v5 + (1 : Int32)) Ia14))
def X5_stop_b89 (v2 : Int32) (v3 : Int32) (v4 : Int32) (I : hM) : Option (Int32 × hM) := if v4 < 0 then (some (v4, I)) else (if v2 = 0 then (some (v4, I)) else (some ((v3 + (10000 : Int32)), I)))
def X5_stop_h45 (k45 : Int32 → Int32 → Int32 → Int32 → Int32 → hM → Option (Int32 × hM)) (v1 : Int32) (v2 : Int32) (v3 : Int32) (v4 : Int32) (v5 : Int32) (I : hM) : Option (Int32 × hM) := if (40 : Int32) < v5 then (X5_stop_b89 v2 v3 v4 I) else (ob (X5_hadStopped v1 v5 I) (fun u10 Ia11 => if u10 ≤ v3 then (X5_stop_b74 k45 v1 v2 v3 v5 u10 v4 Ia11) else (X5_stop_b74 k45 v1 v2 v3 v5 u10 v5 Ia11)))
def X5_stop_l45 : Nat → Int32 → Int32 → Int32 → Int32 → Int32 → hM → Option (Int32 × hM)
  | 0 => fun _ _ _ _ _ _ => none
  | n + 1 => X5_stop_h45   (X5_stop_l45   n)
def X5_stop (v1 : Int32) (v2 : Int32) (I : hM) : Option (Int32 × hM) := ob (X5_isGoing v1 I) (fun u1 Ia2 => if u1 = 0 then (some ((-1 : Int32), Ia2)) else (ob (X5_in (v2).toInt64 (0 : Int64) (1 : Int64) Ia2) (fun u4 Ia5 => if u4 = 0 then (some ((-1 : Int32), Ia5)) else (gd (hx v1 240) (if (Ia5 113 (v1).toNatClampNeg) ≤ (1 : Int32) then (ob (X5_hadAsItIs Ia5) (fun u7 Ia8 => (X5_stop_l45 hF v1 v2 u7 (-4 : Int32) (0 : Int32) Ia8))) else (some ((-2 : Int32), Ia5)))))))
theorem X5_stop_hy : yX5_stop.cls = RX5 ∧ yX5_stop.cls ≠ "java/lang/invoke/MethodHandle" ∧ yX5_stop.cls ≠ "java/lang/invoke/VarHandle" ∧ (parseMethodDescriptor yX5_stop.desc).map (fun d => d.parameters.length) = some 2 := by decide +kernel
theorem X5_stop_k70 : Cond.fieldLink RX5 70 "HatPinsModel" "slot" "[I" ∈ wsX5_stop := by decide +kernel
theorem X5_stop_w5 : ∀ w ∈ wsX50, w ∈ wsX5_stop := by decide +kernel
set_option maxHeartbeats 4000000 in
set_option maxRecDepth 100000 in
theorem X5_stop_b74_ok {p : Program} {l : Launch} {e : Env} {s : State} {m : MethodId} {args : Array Value} {below : List Frame} {meth : Method} {c : Code} {D : va_G} {E : Nat → ClassId} {b z : Nat} {sh : List hS} {r : Int32} {I2 : hM} {k45 : Int32 → Int32 → Int32 → Int32 → Int32 → hM → Option (Int32 × hM)} {v1 : Int32} {v2 : Int32} {v3 : Int32} {v5 : Int32} {v6 : Int32} {t0 : Int32} {I : hM} (hX : hp_X p s m args meth c yX5_stop.cls cX5_stop 7 wsX5_stop D E (some .int) yX5_stop.name) (hf0 : hq_X5 sh) (hk45 : ∀ (v1 : Int32) (v2 : Int32) (v3 : Int32) (v4 : Int32) (v5 : Int32) (I : hM), k45 v1 v2 v3 v4 v5 I = some (r, I2) → hp_J p l e ({ frames := 8, cells := 0, slots := 0, locals := 44 * 8 }) s m args below meth c (MQ below (hp_Q D E b z (some (.int r)) sh I2) args s 0 0 (fun q : Nat => b ≤ q)) D E b z 7 sh 0 0 I 45 [(0, .ref 92), (1, .int v1), (2, .int v2), (3, .int v3), (4, .int v4), (5, .int v5)] []) (h : X5_stop_b74 k45 v1 v2 v3 v5 v6 t0 I = some (r, I2)) : hp_J p l e ({ frames := 8, cells := 0, slots := 0, locals := 44 * 8 }) s m args below meth c (MQ below (hp_Q D E b z (some (.int r)) sh I2) args s 0 0 (fun q : Nat => b ≤ q)) D E b z 7 sh 0 0 I 74 [(0, .ref 92), (1, .int v1), (2, .int v2), (3, .int v3), (5, .int v5), (6, .int v6)] [.int t0] := by
  unfold X5_stop_b74 at h
  refine hj_istore hX (Nat.le_of_ble_eq_true rfl) (lv2 := [(4, .int t0), (0, .ref 92), (1, .int v1), (2, .int v2), (3, .int v3), (5, .int v5), (6, .int v6)]) rfl dX5_stop_74 ?_
  refine hj_iload_n hX rfl 4 rfl dX5_stop_76 ?_
  refine hj_iload hX 6 rfl dX5_stop_77 ?_
  obtain ⟨u13, Ia14, hc15, h⟩ := ob_e h
  refine hj_callS hX (sh2 := sh) (I2 := Ia14) (r := (some (.int u13))) (As := [.int v3, .int v6]) (rest := []) (st2 := [.int u13]) (X5_larger_ok hc15) gX5_stop_X5_larger rfl X5_larger_hy.2 ⟨(Nat.le_of_ble_eq_true rfl), (Nat.le_of_ble_eq_true rfl)⟩ rfl (Nat.le_of_ble_eq_true rfl) ⟨(Nat.le_of_ble_eq_true rfl), (Nat.le_of_ble_eq_true rfl)⟩ rfl rfl rfl dX5_stop_79 ?_
  refine hj_istore_n hX rfl (Nat.le_of_ble_eq_true rfl) (lv2 := [(3, .int u13), (4, .int t0), (0, .ref 92), (1, .int v1), (2, .int v2), (5, .int v5), (6, .int v6)]) rfl dX5_stop_82 ?_
  refine hj_iinc hX (k1 := 5) (v := (v5 + (1 : Int32))) rfl rfl (Nat.le_of_ble_eq_true rfl) (lv2 := [(5, .int (v5 + (1 : Int32))), (3, .int u13), (4, .int t0), (0, .ref 92), (1, .int v1), (2, .int v2), (6, .int v6)]) rfl dX5_stop_83 ?_
  refine hj_goto hX (tgt := 45) (by decide) dX5_stop_86 ?_
  refine hj_lv hX [3, 4, 5, 1, 2, 0] (lv2 := [(0, .ref 92), (1, .int v1), (2, .int v2), (3, .int u13), (4, .int t0), (5, .int (v5 + (1 : Int32)))]) rfl ?_
  exact hk45 _ _ _ _ _ _ h
set_option maxHeartbeats 4000000 in
set_option maxRecDepth 100000 in
theorem X5_stop_b89_ok {p : Program} {l : Launch} {e : Env} {s : State} {m : MethodId} {args : Array Value} {below : List Frame} {meth : Method} {c : Code} {D : va_G} {E : Nat → ClassId} {b z : Nat} {sh : List hS} {r : Int32} {I2 : hM} {v2 : Int32} {v3 : Int32} {v4 : Int32} {I : hM} (hX : hp_X p s m args meth c yX5_stop.cls cX5_stop 7 wsX5_stop D E (some .int) yX5_stop.name) (hf0 : hq_X5 sh) (h : X5_stop_b89 v2 v3 v4 I = some (r, I2)) : hp_J p l e ({ frames := 8, cells := 0, slots := 0, locals := 44 * 8 }) s m args below meth c (MQ below (hp_Q D E b z (some (.int r)) sh I2) args s 0 0 (fun q : Nat => b ≤ q)) D E b z 7 sh 0 0 I 89 [(2, .int v2), (3, .int v3), (4, .int v4)] [] := by
  unfold X5_stop_b89 at h
  refine hj_iload hX 2 rfl dX5_stop_89 ?_
  refine hj_if_lt hX (tgt := 98) (by decide) dX5_stop_91 h (fun h => ?_) (fun h => ?_)
  · refine hj_iload hX 2 rfl dX5_stop_98 ?_
    refine hj_goto hX (tgt := 108) (by decide) dX5_stop_100 ?_
    exact hj_iret hX dX5_stop_108 h
  · refine hj_iload_n hX rfl 0 rfl dX5_stop_94 ?_
    refine hj_if_ne hX (tgt := 103) (by decide) dX5_stop_95 h (fun h => ?_) (fun h => ?_)
    · refine hj_iload_n hX rfl 1 rfl dX5_stop_103 ?_
      refine hj_sipush hX (v := (10000 : Int32)) (by decide) dX5_stop_104 ?_
      refine hj_iadd hX dX5_stop_107 ?_
      exact hj_iret hX dX5_stop_108 h
    · refine hj_iload hX 2 rfl dX5_stop_98 ?_
      refine hj_goto hX (tgt := 108) (by decide) dX5_stop_100 ?_
      exact hj_iret hX dX5_stop_108 h
set_option maxHeartbeats 4000000 in
set_option maxRecDepth 100000 in
theorem X5_stop_h45_ok {p : Program} {l : Launch} {e : Env} {s : State} {m : MethodId} {args : Array Value} {below : List Frame} {meth : Method} {c : Code} {D : va_G} {E : Nat → ClassId} {b z : Nat} {sh : List hS} {r : Int32} {I2 : hM} {k45 : Int32 → Int32 → Int32 → Int32 → Int32 → hM → Option (Int32 × hM)} {v1 : Int32} {v2 : Int32} {v3 : Int32} {v4 : Int32} {v5 : Int32} {I : hM} (hX : hp_X p s m args meth c yX5_stop.cls cX5_stop 7 wsX5_stop D E (some .int) yX5_stop.name) (hf0 : hq_X5 sh) (hk45 : ∀ (v1 : Int32) (v2 : Int32) (v3 : Int32) (v4 : Int32) (v5 : Int32) (I : hM), k45 v1 v2 v3 v4 v5 I = some (r, I2) → hp_J p l e ({ frames := 8, cells := 0, slots := 0, locals := 44 * 8 }) s m args below meth c (MQ below (hp_Q D E b z (some (.int r)) sh I2) args s 0 0 (fun q : Nat => b ≤ q)) D E b z 7 sh 0 0 I 45 [(0, .ref 92), (1, .int v1), (2, .int v2), (3, .int v3), (4, .int v4), (5, .int v5)] []) (h : X5_stop_h45 k45 v1 v2 v3 v4 v5 I = some (r, I2)) : hp_J p l e ({ frames := 8, cells := 0, slots := 0, locals := 44 * 8 }) s m args below meth c (MQ below (hp_Q D E b z (some (.int r)) sh I2) args s 0 0 (fun q : Nat => b ≤ q)) D E b z 7 sh 0 0 I 45 [(0, .ref 92), (1, .int v1), (2, .int v2), (3, .int v3), (4, .int v4), (5, .int v5)] [] := by
  unfold X5_stop_h45 at h
  refine hj_iload hX 5 rfl dX5_stop_45 ?_
  refine hj_bipush hX (v := (40 : Int32)) (by decide) dX5_stop_47 ?_
  refine hj_icmp_gt hX (tgt := 89) (by decide) dX5_stop_49 h (fun h => ?_) (fun h => ?_)
  · refine hj_lv hX [2, 3, 4] (lv2 := [(2, .int v2), (3, .int v3), (4, .int v4)]) rfl ?_
    exact X5_stop_b89_ok hX hf0 h
  · refine hj_aload_n hX rfl 0 rfl dX5_stop_52 ?_
    refine hj_iload_n hX rfl 1 rfl dX5_stop_53 ?_
    refine hj_iload hX 5 rfl dX5_stop_54 ?_
    obtain ⟨u10, Ia11, hc12, h⟩ := ob_e h
    refine hj_callV hX (sh2 := sh) (I2 := Ia11) (r := (some (.int u10))) (As := [.int v1, .int v5]) (rest := []) (st2 := [.int u10]) (X5_hadStopped_ok hf0 hc12) gX5_stop_X5_hadStopped rfl X5_hadStopped_hy ⟨(Nat.le_of_ble_eq_true rfl), (Nat.le_of_ble_eq_true rfl)⟩ rfl hf0.1 rfl (Nat.le_of_ble_eq_true rfl) ⟨(Nat.le_of_ble_eq_true rfl), (Nat.le_of_ble_eq_true rfl)⟩ rfl rfl rfl dX5_stop_56 ?_
    refine hj_istore hX (Nat.le_of_ble_eq_true rfl) (lv2 := [(6, .int u10), (0, .ref 92), (1, .int v1), (2, .int v2), (3, .int v3), (4, .int v4), (5, .int v5)]) rfl dX5_stop_59 ?_
    refine hj_iload hX 0 rfl dX5_stop_61 ?_
    refine hj_iload_n hX rfl 4 rfl dX5_stop_63 ?_
    refine hj_icmp_le hX (tgt := 72) (by decide) dX5_stop_64 h (fun h => ?_) (fun h => ?_)
    · refine hj_iload hX 5 rfl dX5_stop_72 ?_
      refine hj_lv hX [1, 2, 3, 4, 6, 0] (lv2 := [(0, .ref 92), (1, .int v1), (2, .int v2), (3, .int v3), (5, .int v5), (6, .int u10)]) rfl ?_
      exact X5_stop_b74_ok hX hf0 hk45 h
    · refine hj_iload hX 6 rfl dX5_stop_67 ?_
      refine hj_goto hX (tgt := 74) (by decide) dX5_stop_69 ?_
      refine hj_lv hX [1, 2, 3, 4, 6, 0] (lv2 := [(0, .ref 92), (1, .int v1), (2, .int v2), (3, .int v3), (5, .int v5), (6, .int u10)]) rfl ?_
      exact X5_stop_b74_ok hX hf0 hk45 h
set_option maxHeartbeats 4000000 in
set_option maxRecDepth 100000 in
theorem X5_stop_l45_ok {p : Program} {l : Launch} {e : Env} {s : State} {m : MethodId} {args : Array Value} {below : List Frame} {meth : Method} {c : Code} {D : va_G} {E : Nat → ClassId} {b z : Nat} {sh : List hS} {r : Int32} {I2 : hM} (hX : hp_X p s m args meth c yX5_stop.cls cX5_stop 7 wsX5_stop D E (some .int) yX5_stop.name) (hf0 : hq_X5 sh) : ∀ (n : Nat) (v1 : Int32) (v2 : Int32) (v3 : Int32) (v4 : Int32) (v5 : Int32) (I : hM), X5_stop_l45 n v1 v2 v3 v4 v5 I = some (r, I2) → hp_J p l e ({ frames := 8, cells := 0, slots := 0, locals := 44 * 8 }) s m args below meth c (MQ below (hp_Q D E b z (some (.int r)) sh I2) args s 0 0 (fun q : Nat => b ≤ q)) D E b z 7 sh 0 0 I 45 [(0, .ref 92), (1, .int v1), (2, .int v2), (3, .int v3), (4, .int v4), (5, .int v5)] [] := by
  intro n
  induction n with
  | zero => exact fun _ _ _ _ _ _ h => nomatch h
  | succ n ih => exact fun _ _ _ _ _ _ h => X5_stop_h45_ok hX hf0 ih h
set_option maxHeartbeats 4000000 in
set_option maxRecDepth 100000 in
theorem X5_stop_ok {sh : List hS} {r : Int32} {I I2 : hM} {v1 : Int32} {v2 : Int32} (hf0 : hq_X5 sh) (h : X5_stop v1 v2 I = some (r, I2)) : hp_C yX5_stop wsX5_stop 8 0 0 sh I [.ref 92, .int v1, .int v2] (some (.int r)) sh I2 := hp_start (cc := cX5_stop) (maxL := 7) (ret := (some .int)) [(0, .ref 92), (1, .int v1), (2, .int v2)] (by decide) rfl (fun _ _ => rfl) (fun _ _ => Nat.le_of_ble_eq_true rfl) (fun p l e s m below meth c D E b z hX _ => by
  unfold X5_stop at h
  refine hj_aload_n hX rfl 0 rfl dX5_stop_0 ?_
  refine hj_iload_n hX rfl 1 rfl dX5_stop_1 ?_
  obtain ⟨u1, Ia2, hc3, h⟩ := ob_e h
  refine hj_callV hX (sh2 := sh) (I2 := Ia2) (r := (some (.int u1))) (As := [.int v1]) (rest := []) (st2 := [.int u1]) (X5_isGoing_ok hf0 hc3) gX5_stop_X5_isGoing rfl X5_isGoing_hy ⟨(Nat.le_of_ble_eq_true rfl), (Nat.le_of_ble_eq_true rfl)⟩ rfl hf0.1 rfl (Nat.le_of_ble_eq_true rfl) ⟨(Nat.le_of_ble_eq_true rfl), (Nat.le_of_ble_eq_true rfl)⟩ rfl rfl rfl dX5_stop_2 ?_
  refine hj_if_eq hX (tgt := 18) (by decide) dX5_stop_5 h (fun h => ?_) (fun h => ?_)
  · refine hj_iconst hX (v := (-1 : Int32)) (by decide) dX5_stop_18 ?_
    exact hj_iret hX dX5_stop_19 h
  · refine hj_iload_n hX rfl 2 rfl dX5_stop_8 ?_
    refine hj_i2l hX dX5_stop_9 ?_
    refine hj_lconst hX (v := (0 : Int64)) (by decide) dX5_stop_10 ?_
    refine hj_lconst hX (v := (1 : Int64)) (by decide) dX5_stop_11 ?_
    obtain ⟨u4, Ia5, hc6, h⟩ := ob_e h
    refine hj_callS hX (sh2 := sh) (I2 := Ia5) (r := (some (.int u4))) (As := [.long (v2).toInt64, .long (0 : Int64), .long (1 : Int64)]) (rest := []) (st2 := [.int u4]) (X5_in_ok hc6) gX5_stop_X5_in rfl X5_in_hy.2 ⟨(Nat.le_of_ble_eq_true rfl), (Nat.le_of_ble_eq_true rfl)⟩ rfl (Nat.le_of_ble_eq_true rfl) ⟨(Nat.le_of_ble_eq_true rfl), (Nat.le_of_ble_eq_true rfl)⟩ rfl rfl rfl dX5_stop_12 ?_
    refine hj_if_ne hX (tgt := 20) (by decide) dX5_stop_15 h (fun h => ?_) (fun h => ?_)
    · refine hj_aload_n hX rfl 0 rfl dX5_stop_20 ?_
      refine hj_getr hX (j := 26) hf0.1 rfl rfl X5_stop_w5 (Nat.le_of_ble_eq_true rfl) rfl X5_stop_k70 dX5_stop_21 ?_
      refine hj_iload_n hX rfl 1 rfl dX5_stop_24 ?_
      refine hj_iald hX hf0.2.2.2.2.2.2.2.2.2.2.2.2.2.2.2.2.2.2.2.2.2.1 dX5_stop_25 h (fun h => ?_)
      refine hj_iconst hX (v := (1 : Int32)) (by decide) dX5_stop_26 ?_
      refine hj_icmp_le hX (tgt := 33) (by decide) dX5_stop_27 h (fun h => ?_) (fun h => ?_)
      · refine hj_aload_n hX rfl 0 rfl dX5_stop_33 ?_
        obtain ⟨u7, Ia8, hc9, h⟩ := ob_e h
        refine hj_callV hX (sh2 := sh) (I2 := Ia8) (r := (some (.int u7))) (As := []) (rest := []) (st2 := [.int u7]) (X5_hadAsItIs_ok hf0 hc9) gX5_stop_X5_hadAsItIs rfl X5_hadAsItIs_hy ⟨(Nat.le_of_ble_eq_true rfl), (Nat.le_of_ble_eq_true rfl)⟩ rfl hf0.1 rfl (Nat.le_of_ble_eq_true rfl) ⟨(Nat.le_of_ble_eq_true rfl), (Nat.le_of_ble_eq_true rfl)⟩ rfl rfl rfl dX5_stop_34 ?_
        refine hj_istore_n hX rfl (Nat.le_of_ble_eq_true rfl) (lv2 := [(3, .int u7), (0, .ref 92), (1, .int v1), (2, .int v2)]) rfl dX5_stop_37 ?_
        refine hj_bipush hX (v := (-4 : Int32)) (by decide) dX5_stop_38 ?_
        refine hj_istore hX (Nat.le_of_ble_eq_true rfl) (lv2 := [(4, .int (-4 : Int32)), (3, .int u7), (0, .ref 92), (1, .int v1), (2, .int v2)]) rfl dX5_stop_40 ?_
        refine hj_iconst hX (v := (0 : Int32)) (by decide) dX5_stop_42 ?_
        refine hj_istore hX (Nat.le_of_ble_eq_true rfl) (lv2 := [(5, .int (0 : Int32)), (4, .int (-4 : Int32)), (3, .int u7), (0, .ref 92), (1, .int v1), (2, .int v2)]) rfl dX5_stop_43 ?_
        refine hj_lv hX [3, 4, 5, 2, 1, 0] (lv2 := [(0, .ref 92), (1, .int v1), (2, .int v2), (3, .int u7), (4, .int (-4 : Int32)), (5, .int (0 : Int32))]) rfl ?_
        exact X5_stop_l45_ok hX hf0 hF _ _ _ _ _ _ h
      · refine hj_bipush hX (v := (-2 : Int32)) (by decide) dX5_stop_30 ?_
        exact hj_iret hX dX5_stop_32 h
    · refine hj_iconst hX (v := (-1 : Int32)) (by decide) dX5_stop_18 ?_
      exact hj_iret hX dX5_stop_19 h)
def X5_best_b116 (k23 : Int32 → Int32 → Int32 → Int32 → hM → Option (Int32 × hM)) (v1 : Int32) (v2 : Int32) (v4 : Int32) (v7 : Int32) (t0 : Int32) (I : hM) : Option (Int32 × hM) := ob (X5_larger v2 v7 I) (fun u19 Ia20 => (k23 v1 u19 t0 (v4 + (1 : Int32)) Ia20))
def X5_best_b130 (v1 : Int32) (v2 : Int32) (v3 : Int32) (I : hM) : Option (Int32 × hM) := if v3 < 0 then (some (v3, I)) else (if v1 = 0 then (some (v3, I)) else (some ((v2 + (10000 : Int32)), I)))
def X5_best_h23 (k23 : Int32 → Int32 → Int32 → Int32 → hM → Option (Int32 × hM)) (v1 : Int32) (v2 : Int32) (v3 : Int32) (v4 : Int32) (I : hM) : Option (Int32 × hM) := if ((I 92 10) * (I 92 0)) ≤ v4 then (X5_best_b130 v1 v2 v3 I) else (gd (decide (¬ (I 92 0) = 0)) (gd (decide (¬ (I 92 0) = 0)) (ob (X5_canPin (0 : Int32) (v4 / (I 92 0)) (v4 - v4 / (I 92 0) * (I 92 0)) I) (fun u7 Ia8 => if u7 = 0 then ((k23 v1 v2 v3 (v4 + (1 : Int32)) Ia8)) else (ob (X5_copies (0 : Int32) (220 : Int32) Ia8) (fun u10 Ia11 => gd (hx (18 : Int32) 240) (ob (X5_ends (220 : Int32) (v4 - v4 / (I 92 0) * (I 92 0)) (3 : Int32) (Ia11 113 ((18 : Int32)).toNatClampNeg) Ia11) (fun u13 Ia14 => ob (X5_hadThen Ia14) (fun u16 Ia17 => if u16 ≤ v2 then (X5_best_b116 k23 v1 v2 v4 u16 v3 Ia17) else ((X5_best_b116 k23 v1 v2 v4 u16 (((10 : Int32) * (v4 / (I 92 0))) + (v4 - v4 / (I 92 0) * (I 92 0))) Ia17)))))))))))
def X5_best_l23 : Nat → Int32 → Int32 → Int32 → Int32 → hM → Option (Int32 × hM)
  | 0 => fun _ _ _ _ _ => none
  | n + 1 => X5_best_h23   (X5_best_l23   n)
def X5_best (v1 : Int32) (I : hM) : Option (Int32 × hM) := ob (X5_in (v1).toInt64 (0 : Int64) (1 : Int64) I) (fun u1 Ia2 => if u1 = 0 then (some ((-1 : Int32), Ia2)) else (ob (X5_hadAsItIs Ia2) (fun u4 Ia5 => (X5_best_l23 hF v1 u4 (-4 : Int32) (0 : Int32) Ia5))))
theorem X5_best_hy : yX5_best.cls = RX5 ∧ yX5_best.cls ≠ "java/lang/invoke/MethodHandle" ∧ yX5_best.cls ≠ "java/lang/invoke/VarHandle" ∧ (parseMethodDescriptor yX5_best.desc).map (fun d => d.parameters.length) = some 1 := by decide +kernel
theorem X5_best_k116 : Cond.fieldLink RX5 116 "HatPinsModel" "ladies" "I" ∈ wsX5_best := by decide +kernel
theorem X5_best_k110 : Cond.fieldLink RX5 110 "HatPinsModel" "many" "I" ∈ wsX5_best := by decide +kernel
theorem X5_best_k70 : Cond.fieldLink RX5 70 "HatPinsModel" "slot" "[I" ∈ wsX5_best := by decide +kernel
theorem X5_best_w5 : ∀ w ∈ wsX50, w ∈ wsX5_best := by decide +kernel
set_option maxHeartbeats 4000000 in
set_option maxRecDepth 100000 in
theorem X5_best_b116_ok {p : Program} {l : Launch} {e : Env} {s : State} {m : MethodId} {args : Array Value} {below : List Frame} {meth : Method} {c : Code} {D : va_G} {E : Nat → ClassId} {b z : Nat} {sh : List hS} {r : Int32} {I2 : hM} {k23 : Int32 → Int32 → Int32 → Int32 → hM → Option (Int32 × hM)} {v1 : Int32} {v2 : Int32} {v4 : Int32} {v7 : Int32} {t0 : Int32} {I : hM} (hX : hp_X p s m args meth c yX5_best.cls cX5_best 8 wsX5_best D E (some .int) yX5_best.name) (hf0 : hq_X5 sh) (hk23 : ∀ (v1 : Int32) (v2 : Int32) (v3 : Int32) (v4 : Int32) (I : hM), k23 v1 v2 v3 v4 I = some (r, I2) → hp_J p l e ({ frames := 8, cells := 0, slots := 0, locals := 44 * 8 }) s m args below meth c (MQ below (hp_Q D E b z (some (.int r)) sh I2) args s 0 0 (fun q : Nat => b ≤ q)) D E b z 8 sh 0 0 I 23 [(0, .ref 92), (1, .int v1), (2, .int v2), (3, .int v3), (4, .int v4)] []) (h : X5_best_b116 k23 v1 v2 v4 v7 t0 I = some (r, I2)) : hp_J p l e ({ frames := 8, cells := 0, slots := 0, locals := 44 * 8 }) s m args below meth c (MQ below (hp_Q D E b z (some (.int r)) sh I2) args s 0 0 (fun q : Nat => b ≤ q)) D E b z 8 sh 0 0 I 116 [(0, .ref 92), (1, .int v1), (2, .int v2), (4, .int v4), (7, .int v7)] [.int t0] := by
  unfold X5_best_b116 at h
  refine hj_istore_n hX rfl (Nat.le_of_ble_eq_true rfl) (lv2 := [(3, .int t0), (0, .ref 92), (1, .int v1), (2, .int v2), (4, .int v4), (7, .int v7)]) rfl dX5_best_116 ?_
  refine hj_iload_n hX rfl 3 rfl dX5_best_117 ?_
  refine hj_iload hX 5 rfl dX5_best_118 ?_
  obtain ⟨u19, Ia20, hc21, h⟩ := ob_e h
  refine hj_callS hX (sh2 := sh) (I2 := Ia20) (r := (some (.int u19))) (As := [.int v2, .int v7]) (rest := []) (st2 := [.int u19]) (X5_larger_ok hc21) gX5_best_X5_larger rfl X5_larger_hy.2 ⟨(Nat.le_of_ble_eq_true rfl), (Nat.le_of_ble_eq_true rfl)⟩ rfl (Nat.le_of_ble_eq_true rfl) ⟨(Nat.le_of_ble_eq_true rfl), (Nat.le_of_ble_eq_true rfl)⟩ rfl rfl rfl dX5_best_120 ?_
  refine hj_istore_n hX rfl (Nat.le_of_ble_eq_true rfl) (lv2 := [(2, .int u19), (3, .int t0), (0, .ref 92), (1, .int v1), (4, .int v4), (7, .int v7)]) rfl dX5_best_123 ?_
  refine hj_iinc hX (k1 := 4) (v := (v4 + (1 : Int32))) rfl rfl (Nat.le_of_ble_eq_true rfl) (lv2 := [(4, .int (v4 + (1 : Int32))), (2, .int u19), (3, .int t0), (0, .ref 92), (1, .int v1), (7, .int v7)]) rfl dX5_best_124 ?_
  refine hj_goto hX (tgt := 23) (by decide) dX5_best_127 ?_
  refine hj_lv hX [3, 4, 1, 2, 0] (lv2 := [(0, .ref 92), (1, .int v1), (2, .int u19), (3, .int t0), (4, .int (v4 + (1 : Int32)))]) rfl ?_
  exact hk23 _ _ _ _ _ h
set_option maxHeartbeats 4000000 in
set_option maxRecDepth 100000 in
theorem X5_best_b130_ok {p : Program} {l : Launch} {e : Env} {s : State} {m : MethodId} {args : Array Value} {below : List Frame} {meth : Method} {c : Code} {D : va_G} {E : Nat → ClassId} {b z : Nat} {sh : List hS} {r : Int32} {I2 : hM} {v1 : Int32} {v2 : Int32} {v3 : Int32} {I : hM} (hX : hp_X p s m args meth c yX5_best.cls cX5_best 8 wsX5_best D E (some .int) yX5_best.name) (hf0 : hq_X5 sh) (h : X5_best_b130 v1 v2 v3 I = some (r, I2)) : hp_J p l e ({ frames := 8, cells := 0, slots := 0, locals := 44 * 8 }) s m args below meth c (MQ below (hp_Q D E b z (some (.int r)) sh I2) args s 0 0 (fun q : Nat => b ≤ q)) D E b z 8 sh 0 0 I 130 [(1, .int v1), (2, .int v2), (3, .int v3)] [] := by
  unfold X5_best_b130 at h
  refine hj_iload_n hX rfl 2 rfl dX5_best_130 ?_
  refine hj_if_lt hX (tgt := 138) (by decide) dX5_best_131 h (fun h => ?_) (fun h => ?_)
  · refine hj_iload_n hX rfl 2 rfl dX5_best_138 ?_
    refine hj_goto hX (tgt := 147) (by decide) dX5_best_139 ?_
    exact hj_iret hX dX5_best_147 h
  · refine hj_iload_n hX rfl 0 rfl dX5_best_134 ?_
    refine hj_if_ne hX (tgt := 142) (by decide) dX5_best_135 h (fun h => ?_) (fun h => ?_)
    · refine hj_iload_n hX rfl 1 rfl dX5_best_142 ?_
      refine hj_sipush hX (v := (10000 : Int32)) (by decide) dX5_best_143 ?_
      refine hj_iadd hX dX5_best_146 ?_
      exact hj_iret hX dX5_best_147 h
    · refine hj_iload_n hX rfl 2 rfl dX5_best_138 ?_
      refine hj_goto hX (tgt := 147) (by decide) dX5_best_139 ?_
      exact hj_iret hX dX5_best_147 h
set_option maxHeartbeats 4000000 in
set_option maxRecDepth 100000 in
theorem X5_best_h23_ok {p : Program} {l : Launch} {e : Env} {s : State} {m : MethodId} {args : Array Value} {below : List Frame} {meth : Method} {c : Code} {D : va_G} {E : Nat → ClassId} {b z : Nat} {sh : List hS} {r : Int32} {I2 : hM} {k23 : Int32 → Int32 → Int32 → Int32 → hM → Option (Int32 × hM)} {v1 : Int32} {v2 : Int32} {v3 : Int32} {v4 : Int32} {I : hM} (hX : hp_X p s m args meth c yX5_best.cls cX5_best 8 wsX5_best D E (some .int) yX5_best.name) (hf0 : hq_X5 sh) (hk23 : ∀ (v1 : Int32) (v2 : Int32) (v3 : Int32) (v4 : Int32) (I : hM), k23 v1 v2 v3 v4 I = some (r, I2) → hp_J p l e ({ frames := 8, cells := 0, slots := 0, locals := 44 * 8 }) s m args below meth c (MQ below (hp_Q D E b z (some (.int r)) sh I2) args s 0 0 (fun q : Nat => b ≤ q)) D E b z 8 sh 0 0 I 23 [(0, .ref 92), (1, .int v1), (2, .int v2), (3, .int v3), (4, .int v4)] []) (h : X5_best_h23 k23 v1 v2 v3 v4 I = some (r, I2)) : hp_J p l e ({ frames := 8, cells := 0, slots := 0, locals := 44 * 8 }) s m args below meth c (MQ below (hp_Q D E b z (some (.int r)) sh I2) args s 0 0 (fun q : Nat => b ≤ q)) D E b z 8 sh 0 0 I 23 [(0, .ref 92), (1, .int v1), (2, .int v2), (3, .int v3), (4, .int v4)] [] := by
  unfold X5_best_h23 at h
  refine hj_iload hX 4 rfl dX5_best_23 ?_
  refine hj_aload_n hX rfl 0 rfl dX5_best_25 ?_
  refine hj_geti hX (j := 10) hf0.1 rfl rfl X5_best_w5 (Nat.le_of_ble_eq_true rfl) rfl X5_best_k116 dX5_best_26 ?_
  refine hj_aload_n hX rfl 0 rfl dX5_best_29 ?_
  refine hj_geti hX (j := 0) hf0.1 rfl rfl X5_best_w5 (Nat.le_of_ble_eq_true rfl) rfl X5_best_k110 dX5_best_30 ?_
  refine hj_imul hX dX5_best_33 ?_
  refine hj_icmp_ge hX (tgt := 130) (by decide) dX5_best_34 h (fun h => ?_) (fun h => ?_)
  · refine hj_lv hX [1, 2, 3] (lv2 := [(1, .int v1), (2, .int v2), (3, .int v3)]) rfl ?_
    exact X5_best_b130_ok hX hf0 h
  · refine hj_iload hX 4 rfl dX5_best_37 ?_
    refine hj_aload_n hX rfl 0 rfl dX5_best_39 ?_
    refine hj_geti hX (j := 0) hf0.1 rfl rfl X5_best_w5 (Nat.le_of_ble_eq_true rfl) rfl X5_best_k110 dX5_best_40 ?_
    refine hj_idiv hX dX5_best_43 h (fun h => ?_)
    refine hj_istore hX (Nat.le_of_ble_eq_true rfl) (lv2 := [(5, .int (v4 / (I 92 0))), (0, .ref 92), (1, .int v1), (2, .int v2), (3, .int v3), (4, .int v4)]) rfl dX5_best_44 ?_
    refine hj_iload hX 5 rfl dX5_best_46 ?_
    refine hj_aload_n hX rfl 1 rfl dX5_best_48 ?_
    refine hj_geti hX (j := 0) hf0.1 rfl rfl X5_best_w5 (Nat.le_of_ble_eq_true rfl) rfl X5_best_k110 dX5_best_49 ?_
    refine hj_irem hX dX5_best_52 h (fun h => ?_)
    refine hj_istore hX (Nat.le_of_ble_eq_true rfl) (lv2 := [(6, .int (v4 - v4 / (I 92 0) * (I 92 0))), (5, .int (v4 / (I 92 0))), (0, .ref 92), (1, .int v1), (2, .int v2), (3, .int v3), (4, .int v4)]) rfl dX5_best_53 ?_
    refine hj_aload_n hX rfl 2 rfl dX5_best_55 ?_
    refine hj_iconst hX (v := (0 : Int32)) (by decide) dX5_best_56 ?_
    refine hj_iload hX 1 rfl dX5_best_57 ?_
    refine hj_iload hX 0 rfl dX5_best_59 ?_
    obtain ⟨u7, Ia8, hc9, h⟩ := ob_e h
    refine hj_callV hX (sh2 := sh) (I2 := Ia8) (r := (some (.int u7))) (As := [.int (0 : Int32), .int (v4 / (I 92 0)), .int (v4 - v4 / (I 92 0) * (I 92 0))]) (rest := []) (st2 := [.int u7]) (X5_canPin_ok hf0 hc9) gX5_best_X5_canPin rfl X5_canPin_hy ⟨(Nat.le_of_ble_eq_true rfl), (Nat.le_of_ble_eq_true rfl)⟩ rfl hf0.1 rfl (Nat.le_of_ble_eq_true rfl) ⟨(Nat.le_of_ble_eq_true rfl), (Nat.le_of_ble_eq_true rfl)⟩ rfl rfl rfl dX5_best_61 ?_
    refine hj_if_eq hX (tgt := 124) (by decide) dX5_best_64 h (fun h => ?_) (fun h => ?_)
    · refine hj_iinc hX (k1 := 6) (v := (v4 + (1 : Int32))) rfl rfl (Nat.le_of_ble_eq_true rfl) (lv2 := [(4, .int (v4 + (1 : Int32))), (6, .int (v4 - v4 / (I 92 0) * (I 92 0))), (5, .int (v4 / (I 92 0))), (0, .ref 92), (1, .int v1), (2, .int v2), (3, .int v3)]) rfl dX5_best_124 ?_
      refine hj_goto hX (tgt := 23) (by decide) dX5_best_127 ?_
      refine hj_lv hX [3, 4, 5, 6, 0] (lv2 := [(0, .ref 92), (1, .int v1), (2, .int v2), (3, .int v3), (4, .int (v4 + (1 : Int32)))]) rfl ?_
      exact hk23 _ _ _ _ _ h
    · refine hj_aload_n hX rfl 2 rfl dX5_best_67 ?_
      refine hj_iconst hX (v := (0 : Int32)) (by decide) dX5_best_68 ?_
      refine hj_sipush hX (v := (220 : Int32)) (by decide) dX5_best_69 ?_
      obtain ⟨u10, Ia11, hc12, h⟩ := ob_e h
      refine hj_callV hX (sh2 := sh) (I2 := Ia11) (r := none) (As := [.int (0 : Int32), .int (220 : Int32)]) (rest := []) (st2 := []) (X5_copies_ok hf0 hc12) gX5_best_X5_copies rfl X5_copies_hy ⟨(Nat.le_of_ble_eq_true rfl), (Nat.le_of_ble_eq_true rfl)⟩ rfl hf0.1 rfl (Nat.le_of_ble_eq_true rfl) ⟨(Nat.le_of_ble_eq_true rfl), (Nat.le_of_ble_eq_true rfl)⟩ rfl rfl rfl dX5_best_72 ?_
      refine hj_aload_n hX rfl 2 rfl dX5_best_75 ?_
      refine hj_sipush hX (v := (220 : Int32)) (by decide) dX5_best_76 ?_
      refine hj_iload hX 0 rfl dX5_best_79 ?_
      refine hj_iconst hX (v := (3 : Int32)) (by decide) dX5_best_81 ?_
      refine hj_aload_n hX rfl 2 rfl dX5_best_82 ?_
      refine hj_getr hX (j := 26) hf0.1 rfl rfl X5_best_w5 (Nat.le_of_ble_eq_true rfl) rfl X5_best_k70 dX5_best_83 ?_
      refine hj_bipush hX (v := (18 : Int32)) (by decide) dX5_best_86 ?_
      refine hj_iald hX hf0.2.2.2.2.2.2.2.2.2.2.2.2.2.2.2.2.2.2.2.2.2.1 dX5_best_88 h (fun h => ?_)
      obtain ⟨u13, Ia14, hc15, h⟩ := ob_e h
      refine hj_callV hX (sh2 := sh) (I2 := Ia14) (r := none) (As := [.int (220 : Int32), .int (v4 - v4 / (I 92 0) * (I 92 0)), .int (3 : Int32), .int (Ia11 113 ((18 : Int32)).toNatClampNeg)]) (rest := []) (st2 := []) (X5_ends_ok hf0 hc15) gX5_best_X5_ends rfl X5_ends_hy ⟨(Nat.le_of_ble_eq_true rfl), (Nat.le_of_ble_eq_true rfl)⟩ rfl hf0.1 rfl (Nat.le_of_ble_eq_true rfl) ⟨(Nat.le_of_ble_eq_true rfl), (Nat.le_of_ble_eq_true rfl)⟩ rfl rfl rfl dX5_best_89 ?_
      refine hj_aload_n hX rfl 2 rfl dX5_best_92 ?_
      obtain ⟨u16, Ia17, hc18, h⟩ := ob_e h
      refine hj_callV hX (sh2 := sh) (I2 := Ia17) (r := (some (.int u16))) (As := []) (rest := []) (st2 := [.int u16]) (X5_hadThen_ok hf0 hc18) gX5_best_X5_hadThen rfl X5_hadThen_hy ⟨(Nat.le_of_ble_eq_true rfl), (Nat.le_of_ble_eq_true rfl)⟩ rfl hf0.1 rfl (Nat.le_of_ble_eq_true rfl) ⟨(Nat.le_of_ble_eq_true rfl), (Nat.le_of_ble_eq_true rfl)⟩ rfl rfl rfl dX5_best_93 ?_
      refine hj_istore hX (Nat.le_of_ble_eq_true rfl) (lv2 := [(7, .int u16), (6, .int (v4 - v4 / (I 92 0) * (I 92 0))), (5, .int (v4 / (I 92 0))), (0, .ref 92), (1, .int v1), (2, .int v2), (3, .int v3), (4, .int v4)]) rfl dX5_best_96 ?_
      refine hj_iload hX 0 rfl dX5_best_98 ?_
      refine hj_iload_n hX rfl 5 rfl dX5_best_100 ?_
      refine hj_icmp_le hX (tgt := 115) (by decide) dX5_best_101 h (fun h => ?_) (fun h => ?_)
      · refine hj_iload_n hX rfl 6 rfl dX5_best_115 ?_
        refine hj_lv hX [3, 4, 5, 7, 0] (lv2 := [(0, .ref 92), (1, .int v1), (2, .int v2), (4, .int v4), (7, .int u16)]) rfl ?_
        exact X5_best_b116_ok hX hf0 hk23 h
      · refine hj_bipush hX (v := (10 : Int32)) (by decide) dX5_best_104 ?_
        refine hj_iload hX 2 rfl dX5_best_106 ?_
        refine hj_imul hX dX5_best_108 ?_
        refine hj_iload hX 1 rfl dX5_best_109 ?_
        refine hj_iadd hX dX5_best_111 ?_
        refine hj_goto hX (tgt := 116) (by decide) dX5_best_112 ?_
        refine hj_lv hX [3, 4, 5, 7, 0] (lv2 := [(0, .ref 92), (1, .int v1), (2, .int v2), (4, .int v4), (7, .int u16)]) rfl ?_
        exact X5_best_b116_ok hX hf0 hk23 h
set_option maxHeartbeats 4000000 in
set_option maxRecDepth 100000 in
theorem X5_best_l23_ok {p : Program} {l : Launch} {e : Env} {s : State} {m : MethodId} {args : Array Value} {below : List Frame} {meth : Method} {c : Code} {D : va_G} {E : Nat → ClassId} {b z : Nat} {sh : List hS} {r : Int32} {I2 : hM} (hX : hp_X p s m args meth c yX5_best.cls cX5_best 8 wsX5_best D E (some .int) yX5_best.name) (hf0 : hq_X5 sh) : ∀ (n : Nat) (v1 : Int32) (v2 : Int32) (v3 : Int32) (v4 : Int32) (I : hM), X5_best_l23 n v1 v2 v3 v4 I = some (r, I2) → hp_J p l e ({ frames := 8, cells := 0, slots := 0, locals := 44 * 8 }) s m args below meth c (MQ below (hp_Q D E b z (some (.int r)) sh I2) args s 0 0 (fun q : Nat => b ≤ q)) D E b z 8 sh 0 0 I 23 [(0, .ref 92), (1, .int v1), (2, .int v2), (3, .int v3), (4, .int v4)] [] := by
  intro n
  induction n with
  | zero => exact fun _ _ _ _ _ h => nomatch h
  | succ n ih => exact fun _ _ _ _ _ h => X5_best_h23_ok hX hf0 ih h
set_option maxHeartbeats 4000000 in
set_option maxRecDepth 100000 in
theorem X5_best_ok {sh : List hS} {r : Int32} {I I2 : hM} {v1 : Int32} (hf0 : hq_X5 sh) (h : X5_best v1 I = some (r, I2)) : hp_C yX5_best wsX5_best 8 0 0 sh I [.ref 92, .int v1] (some (.int r)) sh I2 := hp_start (cc := cX5_best) (maxL := 8) (ret := (some .int)) [(0, .ref 92), (1, .int v1)] (by decide) rfl (fun _ _ => rfl) (fun _ _ => Nat.le_of_ble_eq_true rfl) (fun p l e s m below meth c D E b z hX _ => by
  unfold X5_best at h
  refine hj_iload_n hX rfl 1 rfl dX5_best_0 ?_
  refine hj_i2l hX dX5_best_1 ?_
  refine hj_lconst hX (v := (0 : Int64)) (by decide) dX5_best_2 ?_
  refine hj_lconst hX (v := (1 : Int64)) (by decide) dX5_best_3 ?_
  obtain ⟨u1, Ia2, hc3, h⟩ := ob_e h
  refine hj_callS hX (sh2 := sh) (I2 := Ia2) (r := (some (.int u1))) (As := [.long (v1).toInt64, .long (0 : Int64), .long (1 : Int64)]) (rest := []) (st2 := [.int u1]) (X5_in_ok hc3) gX5_best_X5_in rfl X5_in_hy.2 ⟨(Nat.le_of_ble_eq_true rfl), (Nat.le_of_ble_eq_true rfl)⟩ rfl (Nat.le_of_ble_eq_true rfl) ⟨(Nat.le_of_ble_eq_true rfl), (Nat.le_of_ble_eq_true rfl)⟩ rfl rfl rfl dX5_best_4 ?_
  refine hj_if_ne hX (tgt := 12) (by decide) dX5_best_7 h (fun h => ?_) (fun h => ?_)
  · refine hj_aload_n hX rfl 0 rfl dX5_best_12 ?_
    obtain ⟨u4, Ia5, hc6, h⟩ := ob_e h
    refine hj_callV hX (sh2 := sh) (I2 := Ia5) (r := (some (.int u4))) (As := []) (rest := []) (st2 := [.int u4]) (X5_hadAsItIs_ok hf0 hc6) gX5_best_X5_hadAsItIs rfl X5_hadAsItIs_hy ⟨(Nat.le_of_ble_eq_true rfl), (Nat.le_of_ble_eq_true rfl)⟩ rfl hf0.1 rfl (Nat.le_of_ble_eq_true rfl) ⟨(Nat.le_of_ble_eq_true rfl), (Nat.le_of_ble_eq_true rfl)⟩ rfl rfl rfl dX5_best_13 ?_
    refine hj_istore_n hX rfl (Nat.le_of_ble_eq_true rfl) (lv2 := [(2, .int u4), (0, .ref 92), (1, .int v1)]) rfl dX5_best_16 ?_
    refine hj_bipush hX (v := (-4 : Int32)) (by decide) dX5_best_17 ?_
    refine hj_istore_n hX rfl (Nat.le_of_ble_eq_true rfl) (lv2 := [(3, .int (-4 : Int32)), (2, .int u4), (0, .ref 92), (1, .int v1)]) rfl dX5_best_19 ?_
    refine hj_iconst hX (v := (0 : Int32)) (by decide) dX5_best_20 ?_
    refine hj_istore hX (Nat.le_of_ble_eq_true rfl) (lv2 := [(4, .int (0 : Int32)), (3, .int (-4 : Int32)), (2, .int u4), (0, .ref 92), (1, .int v1)]) rfl dX5_best_21 ?_
    refine hj_lv hX [3, 4, 2, 1, 0] (lv2 := [(0, .ref 92), (1, .int v1), (2, .int u4), (3, .int (-4 : Int32)), (4, .int (0 : Int32))]) rfl ?_
    exact X5_best_l23_ok hX hf0 hF _ _ _ _ _ h
  · refine hj_iconst hX (v := (-1 : Int32)) (by decide) dX5_best_10 ?_
    exact hj_iret hX dX5_best_11 h)
def X5_both_b148 (k20 : Int32 → Int32 → Int32 → Int32 → hM → Option (Int32 × hM)) (k35 : Int32 → Int32 → Int32 → Int32 → Int32 → hM → Option (Int32 × hM)) (v1 : Int32) (v2 : Int32) (v4 : Int32) (v5 : Int32) (v6 : Int32) (v7 : Int32) (t0 : Int32) (I : hM) : Option (Int32 × hM) := if v7 = 0 then ((k35 v1 v2 t0 v4 (v5 + (1 : Int32)) I)) else ((k35 v1 v6 t0 v4 (v5 + (1 : Int32)) I))
def X5_both_b129 (k20 : Int32 → Int32 → Int32 → Int32 → hM → Option (Int32 × hM)) (k35 : Int32 → Int32 → Int32 → Int32 → Int32 → hM → Option (Int32 × hM)) (v1 : Int32) (v2 : Int32) (v3 : Int32) (v4 : Int32) (v5 : Int32) (v6 : Int32) (t0 : Int32) (I : hM) : Option (Int32 × hM) := if t0 = 0 then (X5_both_b148 k20 k35 v1 v2 v4 v5 v6 t0 v3 I) else ((X5_both_b148 k20 k35 v1 v2 v4 v5 v6 t0 (((10 : Int32) * v4) + v5) I))
def X5_both_h35 (k20 : Int32 → Int32 → Int32 → Int32 → hM → Option (Int32 × hM)) (k35 : Int32 → Int32 → Int32 → Int32 → Int32 → hM → Option (Int32 × hM)) (v1 : Int32) (v2 : Int32) (v3 : Int32) (v4 : Int32) (v5 : Int32) (I : hM) : Option (Int32 × hM) := if (I 92 0) ≤ v5 then ((k20 v1 v2 v3 (v4 + (1 : Int32)) I)) else (gd (hx v4 240) (if (I 113 (v4).toNatClampNeg) = (1 : Int32) then (gd (hx v5 240) (if (I 113 (v5).toNatClampNeg) = (1 : Int32) then (ob (X5_copies (0 : Int32) (220 : Int32) I) (fun u4 Ia5 => gd (hx (18 : Int32) 240) (ob (X5_ends (220 : Int32) v4 (3 : Int32) (Ia5 113 ((18 : Int32)).toNatClampNeg) Ia5) (fun u7 Ia8 => gd (hx (18 : Int32) 240) (ob (X5_ends (220 : Int32) v5 (3 : Int32) (Ia8 113 ((18 : Int32)).toNatClampNeg) Ia8) (fun u10 Ia11 => ob (X5_hadThen Ia11) (fun u13 Ia14 => if v3 < 0 then ((X5_both_b129 k20 k35 v1 v2 v3 v4 v5 u13 (1 : Int32) Ia14)) else (if u13 ≤ v2 then ((X5_both_b129 k20 k35 v1 v2 v3 v4 v5 u13 (0 : Int32) Ia14)) else ((X5_both_b129 k20 k35 v1 v2 v3 v4 v5 u13 (1 : Int32) Ia14)))))))))) else ((k35 v1 v2 v3 v4 (v5 + (1 : Int32)) I)))) else ((k35 v1 v2 v3 v4 (v5 + (1 : Int32)) I))))
def X5_both_l35 (k20 : Int32 → Int32 → Int32 → Int32 → hM → Option (Int32 × hM)) : Nat → Int32 → Int32 → Int32 → Int32 → Int32 → hM → Option (Int32 × hM)
  | 0 => fun _ _ _ _ _ _ => none
  | n + 1 => X5_both_h35  k20 (X5_both_l35  k20 n)
def X5_both_b173 (v1 : Int32) (v2 : Int32) (v3 : Int32) (I : hM) : Option (Int32 × hM) := if v3 < 0 then (some (v3, I)) else (if v1 = 0 then (some (v3, I)) else (some ((v2 + (10000 : Int32)), I)))
def X5_both_h20 (k20 : Int32 → Int32 → Int32 → Int32 → hM → Option (Int32 × hM)) (v1 : Int32) (v2 : Int32) (v3 : Int32) (v4 : Int32) (I : hM) : Option (Int32 × hM) := if (I 92 0) ≤ v4 then (X5_both_b173 v1 v2 v3 I) else ((X5_both_l35 k20 hF v1 v2 v3 v4 (v4 + (1 : Int32)) I))
def X5_both_l20 : Nat → Int32 → Int32 → Int32 → Int32 → hM → Option (Int32 × hM)
  | 0 => fun _ _ _ _ _ => none
  | n + 1 => X5_both_h20   (X5_both_l20   n)
def X5_both (v1 : Int32) (I : hM) : Option (Int32 × hM) := ob (X5_in (v1).toInt64 (0 : Int64) (1 : Int64) I) (fun u1 Ia2 => if u1 = 0 then (some ((-1 : Int32), Ia2)) else ((X5_both_l20 hF v1 (0 : Int32) (-4 : Int32) (0 : Int32) Ia2)))
theorem X5_both_hy : yX5_both.cls = RX5 ∧ yX5_both.cls ≠ "java/lang/invoke/MethodHandle" ∧ yX5_both.cls ≠ "java/lang/invoke/VarHandle" ∧ (parseMethodDescriptor yX5_both.desc).map (fun d => d.parameters.length) = some 1 := by decide +kernel
theorem X5_both_k110 : Cond.fieldLink RX5 110 "HatPinsModel" "many" "I" ∈ wsX5_both := by decide +kernel
theorem X5_both_k70 : Cond.fieldLink RX5 70 "HatPinsModel" "slot" "[I" ∈ wsX5_both := by decide +kernel
theorem X5_both_w5 : ∀ w ∈ wsX50, w ∈ wsX5_both := by decide +kernel
set_option maxHeartbeats 4000000 in
set_option maxRecDepth 100000 in
theorem X5_both_b148_ok {p : Program} {l : Launch} {e : Env} {s : State} {m : MethodId} {args : Array Value} {below : List Frame} {meth : Method} {c : Code} {D : va_G} {E : Nat → ClassId} {b z : Nat} {sh : List hS} {r : Int32} {I2 : hM} {k20 : Int32 → Int32 → Int32 → Int32 → hM → Option (Int32 × hM)} {k35 : Int32 → Int32 → Int32 → Int32 → Int32 → hM → Option (Int32 × hM)} {v1 : Int32} {v2 : Int32} {v4 : Int32} {v5 : Int32} {v6 : Int32} {v7 : Int32} {t0 : Int32} {I : hM} (hX : hp_X p s m args meth c yX5_both.cls cX5_both 8 wsX5_both D E (some .int) yX5_both.name) (hf0 : hq_X5 sh) (hk20 : ∀ (v1 : Int32) (v2 : Int32) (v3 : Int32) (v4 : Int32) (I : hM), k20 v1 v2 v3 v4 I = some (r, I2) → hp_J p l e ({ frames := 7, cells := 0, slots := 0, locals := 44 * 7 }) s m args below meth c (MQ below (hp_Q D E b z (some (.int r)) sh I2) args s 0 0 (fun q : Nat => b ≤ q)) D E b z 8 sh 0 0 I 20 [(0, .ref 92), (1, .int v1), (2, .int v2), (3, .int v3), (4, .int v4)] []) (hk35 : ∀ (v1 : Int32) (v2 : Int32) (v3 : Int32) (v4 : Int32) (v5 : Int32) (I : hM), k35 v1 v2 v3 v4 v5 I = some (r, I2) → hp_J p l e ({ frames := 7, cells := 0, slots := 0, locals := 44 * 7 }) s m args below meth c (MQ below (hp_Q D E b z (some (.int r)) sh I2) args s 0 0 (fun q : Nat => b ≤ q)) D E b z 8 sh 0 0 I 35 [(0, .ref 92), (1, .int v1), (2, .int v2), (3, .int v3), (4, .int v4), (5, .int v5)] []) (h : X5_both_b148 k20 k35 v1 v2 v4 v5 v6 v7 t0 I = some (r, I2)) : hp_J p l e ({ frames := 7, cells := 0, slots := 0, locals := 44 * 7 }) s m args below meth c (MQ below (hp_Q D E b z (some (.int r)) sh I2) args s 0 0 (fun q : Nat => b ≤ q)) D E b z 8 sh 0 0 I 148 [(0, .ref 92), (1, .int v1), (2, .int v2), (4, .int v4), (5, .int v5), (6, .int v6), (7, .int v7)] [.int t0] := by
  unfold X5_both_b148 at h
  refine hj_istore_n hX rfl (Nat.le_of_ble_eq_true rfl) (lv2 := [(3, .int t0), (0, .ref 92), (1, .int v1), (2, .int v2), (4, .int v4), (5, .int v5), (6, .int v6), (7, .int v7)]) rfl dX5_both_148 ?_
  refine hj_iload hX 7 rfl dX5_both_149 ?_
  refine hj_if_eq hX (tgt := 159) (by decide) dX5_both_151 h (fun h => ?_) (fun h => ?_)
  · refine hj_iload_n hX rfl 3 rfl dX5_both_159 ?_
    refine hj_istore_n hX rfl (Nat.le_of_ble_eq_true rfl) (lv2 := [(2, .int v2), (3, .int t0), (0, .ref 92), (1, .int v1), (4, .int v4), (5, .int v5), (6, .int v6), (7, .int v7)]) rfl dX5_both_160 ?_
    refine hj_iinc hX (k1 := 5) (v := (v5 + (1 : Int32))) rfl rfl (Nat.le_of_ble_eq_true rfl) (lv2 := [(5, .int (v5 + (1 : Int32))), (2, .int v2), (3, .int t0), (0, .ref 92), (1, .int v1), (4, .int v4), (6, .int v6), (7, .int v7)]) rfl dX5_both_161 ?_
    refine hj_goto hX (tgt := 35) (by decide) dX5_both_164 ?_
    refine hj_lv hX [3, 4, 1, 2, 5, 0] (lv2 := [(0, .ref 92), (1, .int v1), (2, .int v2), (3, .int t0), (4, .int v4), (5, .int (v5 + (1 : Int32)))]) rfl ?_
    exact hk35 _ _ _ _ _ _ h
  · refine hj_iload hX 6 rfl dX5_both_154 ?_
    refine hj_goto hX (tgt := 160) (by decide) dX5_both_156 ?_
    refine hj_istore_n hX rfl (Nat.le_of_ble_eq_true rfl) (lv2 := [(2, .int v6), (3, .int t0), (0, .ref 92), (1, .int v1), (4, .int v4), (5, .int v5), (6, .int v6), (7, .int v7)]) rfl dX5_both_160 ?_
    refine hj_iinc hX (k1 := 5) (v := (v5 + (1 : Int32))) rfl rfl (Nat.le_of_ble_eq_true rfl) (lv2 := [(5, .int (v5 + (1 : Int32))), (2, .int v6), (3, .int t0), (0, .ref 92), (1, .int v1), (4, .int v4), (6, .int v6), (7, .int v7)]) rfl dX5_both_161 ?_
    refine hj_goto hX (tgt := 35) (by decide) dX5_both_164 ?_
    refine hj_lv hX [3, 4, 1, 2, 5, 0] (lv2 := [(0, .ref 92), (1, .int v1), (2, .int v6), (3, .int t0), (4, .int v4), (5, .int (v5 + (1 : Int32)))]) rfl ?_
    exact hk35 _ _ _ _ _ _ h
set_option maxHeartbeats 4000000 in
set_option maxRecDepth 100000 in
theorem X5_both_b129_ok {p : Program} {l : Launch} {e : Env} {s : State} {m : MethodId} {args : Array Value} {below : List Frame} {meth : Method} {c : Code} {D : va_G} {E : Nat → ClassId} {b z : Nat} {sh : List hS} {r : Int32} {I2 : hM} {k20 : Int32 → Int32 → Int32 → Int32 → hM → Option (Int32 × hM)} {k35 : Int32 → Int32 → Int32 → Int32 → Int32 → hM → Option (Int32 × hM)} {v1 : Int32} {v2 : Int32} {v3 : Int32} {v4 : Int32} {v5 : Int32} {v6 : Int32} {t0 : Int32} {I : hM} (hX : hp_X p s m args meth c yX5_both.cls cX5_both 8 wsX5_both D E (some .int) yX5_both.name) (hf0 : hq_X5 sh) (hk20 : ∀ (v1 : Int32) (v2 : Int32) (v3 : Int32) (v4 : Int32) (I : hM), k20 v1 v2 v3 v4 I = some (r, I2) → hp_J p l e ({ frames := 7, cells := 0, slots := 0, locals := 44 * 7 }) s m args below meth c (MQ below (hp_Q D E b z (some (.int r)) sh I2) args s 0 0 (fun q : Nat => b ≤ q)) D E b z 8 sh 0 0 I 20 [(0, .ref 92), (1, .int v1), (2, .int v2), (3, .int v3), (4, .int v4)] []) (hk35 : ∀ (v1 : Int32) (v2 : Int32) (v3 : Int32) (v4 : Int32) (v5 : Int32) (I : hM), k35 v1 v2 v3 v4 v5 I = some (r, I2) → hp_J p l e ({ frames := 7, cells := 0, slots := 0, locals := 44 * 7 }) s m args below meth c (MQ below (hp_Q D E b z (some (.int r)) sh I2) args s 0 0 (fun q : Nat => b ≤ q)) D E b z 8 sh 0 0 I 35 [(0, .ref 92), (1, .int v1), (2, .int v2), (3, .int v3), (4, .int v4), (5, .int v5)] []) (h : X5_both_b129 k20 k35 v1 v2 v3 v4 v5 v6 t0 I = some (r, I2)) : hp_J p l e ({ frames := 7, cells := 0, slots := 0, locals := 44 * 7 }) s m args below meth c (MQ below (hp_Q D E b z (some (.int r)) sh I2) args s 0 0 (fun q : Nat => b ≤ q)) D E b z 8 sh 0 0 I 129 [(0, .ref 92), (1, .int v1), (2, .int v2), (3, .int v3), (4, .int v4), (5, .int v5), (6, .int v6)] [.int t0] := by
  unfold X5_both_b129 at h
  refine hj_istore hX (Nat.le_of_ble_eq_true rfl) (lv2 := [(7, .int t0), (0, .ref 92), (1, .int v1), (2, .int v2), (3, .int v3), (4, .int v4), (5, .int v5), (6, .int v6)]) rfl dX5_both_129 ?_
  refine hj_iload hX 0 rfl dX5_both_131 ?_
  refine hj_if_eq hX (tgt := 147) (by decide) dX5_both_133 h (fun h => ?_) (fun h => ?_)
  · refine hj_iload_n hX rfl 4 rfl dX5_both_147 ?_
    refine hj_lv hX [1, 2, 3, 5, 6, 7, 0] (lv2 := [(0, .ref 92), (1, .int v1), (2, .int v2), (4, .int v4), (5, .int v5), (6, .int v6), (7, .int t0)]) rfl ?_
    exact X5_both_b148_ok hX hf0 hk20 hk35 h
  · refine hj_bipush hX (v := (10 : Int32)) (by decide) dX5_both_136 ?_
    refine hj_iload hX 5 rfl dX5_both_138 ?_
    refine hj_imul hX dX5_both_140 ?_
    refine hj_iload hX 6 rfl dX5_both_141 ?_
    refine hj_iadd hX dX5_both_143 ?_
    refine hj_goto hX (tgt := 148) (by decide) dX5_both_144 ?_
    refine hj_lv hX [1, 2, 3, 5, 6, 7, 0] (lv2 := [(0, .ref 92), (1, .int v1), (2, .int v2), (4, .int v4), (5, .int v5), (6, .int v6), (7, .int t0)]) rfl ?_
    exact X5_both_b148_ok hX hf0 hk20 hk35 h
set_option maxHeartbeats 4000000 in
set_option maxRecDepth 100000 in
theorem X5_both_h35_ok {p : Program} {l : Launch} {e : Env} {s : State} {m : MethodId} {args : Array Value} {below : List Frame} {meth : Method} {c : Code} {D : va_G} {E : Nat → ClassId} {b z : Nat} {sh : List hS} {r : Int32} {I2 : hM} {k20 : Int32 → Int32 → Int32 → Int32 → hM → Option (Int32 × hM)} {k35 : Int32 → Int32 → Int32 → Int32 → Int32 → hM → Option (Int32 × hM)} {v1 : Int32} {v2 : Int32} {v3 : Int32} {v4 : Int32} {v5 : Int32} {I : hM} (hX : hp_X p s m args meth c yX5_both.cls cX5_both 8 wsX5_both D E (some .int) yX5_both.name) (hf0 : hq_X5 sh) (hk20 : ∀ (v1 : Int32) (v2 : Int32) (v3 : Int32) (v4 : Int32) (I : hM), k20 v1 v2 v3 v4 I = some (r, I2) → hp_J p l e ({ frames := 7, cells := 0, slots := 0, locals := 44 * 7 }) s m args below meth c (MQ below (hp_Q D E b z (some (.int r)) sh I2) args s 0 0 (fun q : Nat => b ≤ q)) D E b z 8 sh 0 0 I 20 [(0, .ref 92), (1, .int v1), (2, .int v2), (3, .int v3), (4, .int v4)] []) (hk35 : ∀ (v1 : Int32) (v2 : Int32) (v3 : Int32) (v4 : Int32) (v5 : Int32) (I : hM), k35 v1 v2 v3 v4 v5 I = some (r, I2) → hp_J p l e ({ frames := 7, cells := 0, slots := 0, locals := 44 * 7 }) s m args below meth c (MQ below (hp_Q D E b z (some (.int r)) sh I2) args s 0 0 (fun q : Nat => b ≤ q)) D E b z 8 sh 0 0 I 35 [(0, .ref 92), (1, .int v1), (2, .int v2), (3, .int v3), (4, .int v4), (5, .int v5)] []) (h : X5_both_h35 k20 k35 v1 v2 v3 v4 v5 I = some (r, I2)) : hp_J p l e ({ frames := 7, cells := 0, slots := 0, locals := 44 * 7 }) s m args below meth c (MQ below (hp_Q D E b z (some (.int r)) sh I2) args s 0 0 (fun q : Nat => b ≤ q)) D E b z 8 sh 0 0 I 35 [(0, .ref 92), (1, .int v1), (2, .int v2), (3, .int v3), (4, .int v4), (5, .int v5)] [] := by
  unfold X5_both_h35 at h
  refine hj_iload hX 5 rfl dX5_both_35 ?_
  refine hj_aload_n hX rfl 0 rfl dX5_both_37 ?_
  refine hj_geti hX (j := 0) hf0.1 rfl rfl X5_both_w5 (Nat.le_of_ble_eq_true rfl) rfl X5_both_k110 dX5_both_38 ?_
  refine hj_icmp_ge hX (tgt := 167) (by decide) dX5_both_41 h (fun h => ?_) (fun h => ?_)
  · refine hj_iinc hX (k1 := 4) (v := (v4 + (1 : Int32))) rfl rfl (Nat.le_of_ble_eq_true rfl) (lv2 := [(4, .int (v4 + (1 : Int32))), (0, .ref 92), (1, .int v1), (2, .int v2), (3, .int v3), (5, .int v5)]) rfl dX5_both_167 ?_
    refine hj_goto hX (tgt := 20) (by decide) dX5_both_170 ?_
    refine hj_lv hX [1, 2, 3, 4, 0] (lv2 := [(0, .ref 92), (1, .int v1), (2, .int v2), (3, .int v3), (4, .int (v4 + (1 : Int32)))]) rfl ?_
    exact hk20 _ _ _ _ _ h
  · refine hj_aload_n hX rfl 0 rfl dX5_both_44 ?_
    refine hj_getr hX (j := 26) hf0.1 rfl rfl X5_both_w5 (Nat.le_of_ble_eq_true rfl) rfl X5_both_k70 dX5_both_45 ?_
    refine hj_iload hX 4 rfl dX5_both_48 ?_
    refine hj_iald hX hf0.2.2.2.2.2.2.2.2.2.2.2.2.2.2.2.2.2.2.2.2.2.1 dX5_both_50 h (fun h => ?_)
    refine hj_iconst hX (v := (1 : Int32)) (by decide) dX5_both_51 ?_
    refine hj_icmp_ne hX (tgt := 161) (by decide) dX5_both_52 h (fun h => ?_) (fun h => ?_)
    · refine hj_iinc hX (k1 := 5) (v := (v5 + (1 : Int32))) rfl rfl (Nat.le_of_ble_eq_true rfl) (lv2 := [(5, .int (v5 + (1 : Int32))), (0, .ref 92), (1, .int v1), (2, .int v2), (3, .int v3), (4, .int v4)]) rfl dX5_both_161 ?_
      refine hj_goto hX (tgt := 35) (by decide) dX5_both_164 ?_
      refine hj_lv hX [1, 2, 3, 4, 5, 0] (lv2 := [(0, .ref 92), (1, .int v1), (2, .int v2), (3, .int v3), (4, .int v4), (5, .int (v5 + (1 : Int32)))]) rfl ?_
      exact hk35 _ _ _ _ _ _ h
    · refine hj_aload_n hX rfl 0 rfl dX5_both_55 ?_
      refine hj_getr hX (j := 26) hf0.1 rfl rfl X5_both_w5 (Nat.le_of_ble_eq_true rfl) rfl X5_both_k70 dX5_both_56 ?_
      refine hj_iload hX 5 rfl dX5_both_59 ?_
      refine hj_iald hX hf0.2.2.2.2.2.2.2.2.2.2.2.2.2.2.2.2.2.2.2.2.2.1 dX5_both_61 h (fun h => ?_)
      refine hj_iconst hX (v := (1 : Int32)) (by decide) dX5_both_62 ?_
      refine hj_icmp_ne hX (tgt := 161) (by decide) dX5_both_63 h (fun h => ?_) (fun h => ?_)
      · refine hj_iinc hX (k1 := 5) (v := (v5 + (1 : Int32))) rfl rfl (Nat.le_of_ble_eq_true rfl) (lv2 := [(5, .int (v5 + (1 : Int32))), (0, .ref 92), (1, .int v1), (2, .int v2), (3, .int v3), (4, .int v4)]) rfl dX5_both_161 ?_
        refine hj_goto hX (tgt := 35) (by decide) dX5_both_164 ?_
        refine hj_lv hX [1, 2, 3, 4, 5, 0] (lv2 := [(0, .ref 92), (1, .int v1), (2, .int v2), (3, .int v3), (4, .int v4), (5, .int (v5 + (1 : Int32)))]) rfl ?_
        exact hk35 _ _ _ _ _ _ h
      · refine hj_aload_n hX rfl 0 rfl dX5_both_66 ?_
        refine hj_iconst hX (v := (0 : Int32)) (by decide) dX5_both_67 ?_
        refine hj_sipush hX (v := (220 : Int32)) (by decide) dX5_both_68 ?_
        obtain ⟨u4, Ia5, hc6, h⟩ := ob_e h
        refine hj_callV hX (sh2 := sh) (I2 := Ia5) (r := none) (As := [.int (0 : Int32), .int (220 : Int32)]) (rest := []) (st2 := []) (X5_copies_ok hf0 hc6) gX5_both_X5_copies rfl X5_copies_hy ⟨(Nat.le_of_ble_eq_true rfl), (Nat.le_of_ble_eq_true rfl)⟩ rfl hf0.1 rfl (Nat.le_of_ble_eq_true rfl) ⟨(Nat.le_of_ble_eq_true rfl), (Nat.le_of_ble_eq_true rfl)⟩ rfl rfl rfl dX5_both_71 ?_
        refine hj_aload_n hX rfl 0 rfl dX5_both_74 ?_
        refine hj_sipush hX (v := (220 : Int32)) (by decide) dX5_both_75 ?_
        refine hj_iload hX 4 rfl dX5_both_78 ?_
        refine hj_iconst hX (v := (3 : Int32)) (by decide) dX5_both_80 ?_
        refine hj_aload_n hX rfl 0 rfl dX5_both_81 ?_
        refine hj_getr hX (j := 26) hf0.1 rfl rfl X5_both_w5 (Nat.le_of_ble_eq_true rfl) rfl X5_both_k70 dX5_both_82 ?_
        refine hj_bipush hX (v := (18 : Int32)) (by decide) dX5_both_85 ?_
        refine hj_iald hX hf0.2.2.2.2.2.2.2.2.2.2.2.2.2.2.2.2.2.2.2.2.2.1 dX5_both_87 h (fun h => ?_)
        obtain ⟨u7, Ia8, hc9, h⟩ := ob_e h
        refine hj_callV hX (sh2 := sh) (I2 := Ia8) (r := none) (As := [.int (220 : Int32), .int v4, .int (3 : Int32), .int (Ia5 113 ((18 : Int32)).toNatClampNeg)]) (rest := []) (st2 := []) (X5_ends_ok hf0 hc9) gX5_both_X5_ends rfl X5_ends_hy ⟨(Nat.le_of_ble_eq_true rfl), (Nat.le_of_ble_eq_true rfl)⟩ rfl hf0.1 rfl (Nat.le_of_ble_eq_true rfl) ⟨(Nat.le_of_ble_eq_true rfl), (Nat.le_of_ble_eq_true rfl)⟩ rfl rfl rfl dX5_both_88 ?_
        refine hj_aload_n hX rfl 0 rfl dX5_both_91 ?_
        refine hj_sipush hX (v := (220 : Int32)) (by decide) dX5_both_92 ?_
        refine hj_iload hX 5 rfl dX5_both_95 ?_
        refine hj_iconst hX (v := (3 : Int32)) (by decide) dX5_both_97 ?_
        refine hj_aload_n hX rfl 0 rfl dX5_both_98 ?_
        refine hj_getr hX (j := 26) hf0.1 rfl rfl X5_both_w5 (Nat.le_of_ble_eq_true rfl) rfl X5_both_k70 dX5_both_99 ?_
        refine hj_bipush hX (v := (18 : Int32)) (by decide) dX5_both_102 ?_
        refine hj_iald hX hf0.2.2.2.2.2.2.2.2.2.2.2.2.2.2.2.2.2.2.2.2.2.1 dX5_both_104 h (fun h => ?_)
        obtain ⟨u10, Ia11, hc12, h⟩ := ob_e h
        refine hj_callV hX (sh2 := sh) (I2 := Ia11) (r := none) (As := [.int (220 : Int32), .int v5, .int (3 : Int32), .int (Ia8 113 ((18 : Int32)).toNatClampNeg)]) (rest := []) (st2 := []) (X5_ends_ok hf0 hc12) gX5_both_X5_ends rfl X5_ends_hy ⟨(Nat.le_of_ble_eq_true rfl), (Nat.le_of_ble_eq_true rfl)⟩ rfl hf0.1 rfl (Nat.le_of_ble_eq_true rfl) ⟨(Nat.le_of_ble_eq_true rfl), (Nat.le_of_ble_eq_true rfl)⟩ rfl rfl rfl dX5_both_105 ?_
        refine hj_aload_n hX rfl 0 rfl dX5_both_108 ?_
        obtain ⟨u13, Ia14, hc15, h⟩ := ob_e h
        refine hj_callV hX (sh2 := sh) (I2 := Ia14) (r := (some (.int u13))) (As := []) (rest := []) (st2 := [.int u13]) (X5_hadThen_ok hf0 hc15) gX5_both_X5_hadThen rfl X5_hadThen_hy ⟨(Nat.le_of_ble_eq_true rfl), (Nat.le_of_ble_eq_true rfl)⟩ rfl hf0.1 rfl (Nat.le_of_ble_eq_true rfl) ⟨(Nat.le_of_ble_eq_true rfl), (Nat.le_of_ble_eq_true rfl)⟩ rfl rfl rfl dX5_both_109 ?_
        refine hj_istore hX (Nat.le_of_ble_eq_true rfl) (lv2 := [(6, .int u13), (0, .ref 92), (1, .int v1), (2, .int v2), (3, .int v3), (4, .int v4), (5, .int v5)]) rfl dX5_both_112 ?_
        refine hj_iload_n hX rfl 4 rfl dX5_both_114 ?_
        refine hj_if_lt hX (tgt := 124) (by decide) dX5_both_115 h (fun h => ?_) (fun h => ?_)
        · refine hj_iconst hX (v := (1 : Int32)) (by decide) dX5_both_124 ?_
          refine hj_goto hX (tgt := 129) (by decide) dX5_both_125 ?_
          refine hj_lv hX [1, 2, 3, 4, 5, 6, 0] (lv2 := [(0, .ref 92), (1, .int v1), (2, .int v2), (3, .int v3), (4, .int v4), (5, .int v5), (6, .int u13)]) rfl ?_
          exact X5_both_b129_ok hX hf0 hk20 hk35 h
        · refine hj_iload hX 0 rfl dX5_both_118 ?_
          refine hj_iload_n hX rfl 3 rfl dX5_both_120 ?_
          refine hj_icmp_le hX (tgt := 128) (by decide) dX5_both_121 h (fun h => ?_) (fun h => ?_)
          · refine hj_iconst hX (v := (0 : Int32)) (by decide) dX5_both_128 ?_
            refine hj_lv hX [1, 2, 3, 4, 5, 6, 0] (lv2 := [(0, .ref 92), (1, .int v1), (2, .int v2), (3, .int v3), (4, .int v4), (5, .int v5), (6, .int u13)]) rfl ?_
            exact X5_both_b129_ok hX hf0 hk20 hk35 h
          · refine hj_iconst hX (v := (1 : Int32)) (by decide) dX5_both_124 ?_
            refine hj_goto hX (tgt := 129) (by decide) dX5_both_125 ?_
            refine hj_lv hX [1, 2, 3, 4, 5, 6, 0] (lv2 := [(0, .ref 92), (1, .int v1), (2, .int v2), (3, .int v3), (4, .int v4), (5, .int v5), (6, .int u13)]) rfl ?_
            exact X5_both_b129_ok hX hf0 hk20 hk35 h
set_option maxHeartbeats 4000000 in
set_option maxRecDepth 100000 in
theorem X5_both_l35_ok {p : Program} {l : Launch} {e : Env} {s : State} {m : MethodId} {args : Array Value} {below : List Frame} {meth : Method} {c : Code} {D : va_G} {E : Nat → ClassId} {b z : Nat} {sh : List hS} {r : Int32} {I2 : hM} {k20 : Int32 → Int32 → Int32 → Int32 → hM → Option (Int32 × hM)} (hX : hp_X p s m args meth c yX5_both.cls cX5_both 8 wsX5_both D E (some .int) yX5_both.name) (hf0 : hq_X5 sh) (hk20 : ∀ (v1 : Int32) (v2 : Int32) (v3 : Int32) (v4 : Int32) (I : hM), k20 v1 v2 v3 v4 I = some (r, I2) → hp_J p l e ({ frames := 7, cells := 0, slots := 0, locals := 44 * 7 }) s m args below meth c (MQ below (hp_Q D E b z (some (.int r)) sh I2) args s 0 0 (fun q : Nat => b ≤ q)) D E b z 8 sh 0 0 I 20 [(0, .ref 92), (1, .int v1), (2, .int v2), (3, .int v3), (4, .int v4)] []) : ∀ (n : Nat) (v1 : Int32) (v2 : Int32) (v3 : Int32) (v4 : Int32) (v5 : Int32) (I : hM), X5_both_l35 k20 n v1 v2 v3 v4 v5 I = some (r, I2) → hp_J p l e ({ frames := 7, cells := 0, slots := 0, locals := 44 * 7 }) s m args below meth c (MQ below (hp_Q D E b z (some (.int r)) sh I2) args s 0 0 (fun q : Nat => b ≤ q)) D E b z 8 sh 0 0 I 35 [(0, .ref 92), (1, .int v1), (2, .int v2), (3, .int v3), (4, .int v4), (5, .int v5)] [] := by
  intro n
  induction n with
  | zero => exact fun _ _ _ _ _ _ h => nomatch h
  | succ n ih => exact fun _ _ _ _ _ _ h => X5_both_h35_ok hX hf0 hk20 ih h
set_option maxHeartbeats 4000000 in
set_option maxRecDepth 100000 in
theorem X5_both_b173_ok {p : Program} {l : Launch} {e : Env} {s : State} {m : MethodId} {args : Array Value} {below : List Frame} {meth : Method} {c : Code} {D : va_G} {E : Nat → ClassId} {b z : Nat} {sh : List hS} {r : Int32} {I2 : hM} {v1 : Int32} {v2 : Int32} {v3 : Int32} {I : hM} (hX : hp_X p s m args meth c yX5_both.cls cX5_both 8 wsX5_both D E (some .int) yX5_both.name) (hf0 : hq_X5 sh) (h : X5_both_b173 v1 v2 v3 I = some (r, I2)) : hp_J p l e ({ frames := 7, cells := 0, slots := 0, locals := 44 * 7 }) s m args below meth c (MQ below (hp_Q D E b z (some (.int r)) sh I2) args s 0 0 (fun q : Nat => b ≤ q)) D E b z 8 sh 0 0 I 173 [(1, .int v1), (2, .int v2), (3, .int v3)] [] := by
  unfold X5_both_b173 at h
  refine hj_iload_n hX rfl 2 rfl dX5_both_173 ?_
  refine hj_if_lt hX (tgt := 181) (by decide) dX5_both_174 h (fun h => ?_) (fun h => ?_)
  · refine hj_iload_n hX rfl 2 rfl dX5_both_181 ?_
    refine hj_goto hX (tgt := 190) (by decide) dX5_both_182 ?_
    exact hj_iret hX dX5_both_190 h
  · refine hj_iload_n hX rfl 0 rfl dX5_both_177 ?_
    refine hj_if_ne hX (tgt := 185) (by decide) dX5_both_178 h (fun h => ?_) (fun h => ?_)
    · refine hj_iload_n hX rfl 1 rfl dX5_both_185 ?_
      refine hj_sipush hX (v := (10000 : Int32)) (by decide) dX5_both_186 ?_
      refine hj_iadd hX dX5_both_189 ?_
      exact hj_iret hX dX5_both_190 h
    · refine hj_iload_n hX rfl 2 rfl dX5_both_181 ?_
      refine hj_goto hX (tgt := 190) (by decide) dX5_both_182 ?_
      exact hj_iret hX dX5_both_190 h
set_option maxHeartbeats 4000000 in
set_option maxRecDepth 100000 in
theorem X5_both_h20_ok {p : Program} {l : Launch} {e : Env} {s : State} {m : MethodId} {args : Array Value} {below : List Frame} {meth : Method} {c : Code} {D : va_G} {E : Nat → ClassId} {b z : Nat} {sh : List hS} {r : Int32} {I2 : hM} {k20 : Int32 → Int32 → Int32 → Int32 → hM → Option (Int32 × hM)} {v1 : Int32} {v2 : Int32} {v3 : Int32} {v4 : Int32} {I : hM} (hX : hp_X p s m args meth c yX5_both.cls cX5_both 8 wsX5_both D E (some .int) yX5_both.name) (hf0 : hq_X5 sh) (hk20 : ∀ (v1 : Int32) (v2 : Int32) (v3 : Int32) (v4 : Int32) (I : hM), k20 v1 v2 v3 v4 I = some (r, I2) → hp_J p l e ({ frames := 7, cells := 0, slots := 0, locals := 44 * 7 }) s m args below meth c (MQ below (hp_Q D E b z (some (.int r)) sh I2) args s 0 0 (fun q : Nat => b ≤ q)) D E b z 8 sh 0 0 I 20 [(0, .ref 92), (1, .int v1), (2, .int v2), (3, .int v3), (4, .int v4)] []) (h : X5_both_h20 k20 v1 v2 v3 v4 I = some (r, I2)) : hp_J p l e ({ frames := 7, cells := 0, slots := 0, locals := 44 * 7 }) s m args below meth c (MQ below (hp_Q D E b z (some (.int r)) sh I2) args s 0 0 (fun q : Nat => b ≤ q)) D E b z 8 sh 0 0 I 20 [(0, .ref 92), (1, .int v1), (2, .int v2), (3, .int v3), (4, .int v4)] [] := by
  unfold X5_both_h20 at h
  refine hj_iload hX 4 rfl dX5_both_20 ?_
  refine hj_aload_n hX rfl 0 rfl dX5_both_22 ?_
  refine hj_geti hX (j := 0) hf0.1 rfl rfl X5_both_w5 (Nat.le_of_ble_eq_true rfl) rfl X5_both_k110 dX5_both_23 ?_
  refine hj_icmp_ge hX (tgt := 173) (by decide) dX5_both_26 h (fun h => ?_) (fun h => ?_)
  · refine hj_lv hX [1, 2, 3] (lv2 := [(1, .int v1), (2, .int v2), (3, .int v3)]) rfl ?_
    exact X5_both_b173_ok hX hf0 h
  · refine hj_iload hX 4 rfl dX5_both_29 ?_
    refine hj_iconst hX (v := (1 : Int32)) (by decide) dX5_both_31 ?_
    refine hj_iadd hX dX5_both_32 ?_
    refine hj_istore hX (Nat.le_of_ble_eq_true rfl) (lv2 := [(5, .int (v4 + (1 : Int32))), (0, .ref 92), (1, .int v1), (2, .int v2), (3, .int v3), (4, .int v4)]) rfl dX5_both_33 ?_
    refine hj_lv hX [1, 2, 3, 4, 5, 0] (lv2 := [(0, .ref 92), (1, .int v1), (2, .int v2), (3, .int v3), (4, .int v4), (5, .int (v4 + (1 : Int32)))]) rfl ?_
    exact X5_both_l35_ok hX hf0 hk20 hF _ _ _ _ _ _ h
set_option maxHeartbeats 4000000 in
set_option maxRecDepth 100000 in
theorem X5_both_l20_ok {p : Program} {l : Launch} {e : Env} {s : State} {m : MethodId} {args : Array Value} {below : List Frame} {meth : Method} {c : Code} {D : va_G} {E : Nat → ClassId} {b z : Nat} {sh : List hS} {r : Int32} {I2 : hM} (hX : hp_X p s m args meth c yX5_both.cls cX5_both 8 wsX5_both D E (some .int) yX5_both.name) (hf0 : hq_X5 sh) : ∀ (n : Nat) (v1 : Int32) (v2 : Int32) (v3 : Int32) (v4 : Int32) (I : hM), X5_both_l20 n v1 v2 v3 v4 I = some (r, I2) → hp_J p l e ({ frames := 7, cells := 0, slots := 0, locals := 44 * 7 }) s m args below meth c (MQ below (hp_Q D E b z (some (.int r)) sh I2) args s 0 0 (fun q : Nat => b ≤ q)) D E b z 8 sh 0 0 I 20 [(0, .ref 92), (1, .int v1), (2, .int v2), (3, .int v3), (4, .int v4)] [] := by
  intro n
  induction n with
  | zero => exact fun _ _ _ _ _ h => nomatch h
  | succ n ih => exact fun _ _ _ _ _ h => X5_both_h20_ok hX hf0 ih h
set_option maxHeartbeats 4000000 in
set_option maxRecDepth 100000 in
theorem X5_both_ok {sh : List hS} {r : Int32} {I I2 : hM} {v1 : Int32} (hf0 : hq_X5 sh) (h : X5_both v1 I = some (r, I2)) : hp_C yX5_both wsX5_both 7 0 0 sh I [.ref 92, .int v1] (some (.int r)) sh I2 := hp_start (cc := cX5_both) (maxL := 8) (ret := (some .int)) [(0, .ref 92), (1, .int v1)] (by decide) rfl (fun _ _ => rfl) (fun _ _ => Nat.le_of_ble_eq_true rfl) (fun p l e s m below meth c D E b z hX _ => by
  unfold X5_both at h
  refine hj_iload_n hX rfl 1 rfl dX5_both_0 ?_
  refine hj_i2l hX dX5_both_1 ?_
  refine hj_lconst hX (v := (0 : Int64)) (by decide) dX5_both_2 ?_
  refine hj_lconst hX (v := (1 : Int64)) (by decide) dX5_both_3 ?_
  obtain ⟨u1, Ia2, hc3, h⟩ := ob_e h
  refine hj_callS hX (sh2 := sh) (I2 := Ia2) (r := (some (.int u1))) (As := [.long (v1).toInt64, .long (0 : Int64), .long (1 : Int64)]) (rest := []) (st2 := [.int u1]) (X5_in_ok hc3) gX5_both_X5_in rfl X5_in_hy.2 ⟨(Nat.le_of_ble_eq_true rfl), (Nat.le_of_ble_eq_true rfl)⟩ rfl (Nat.le_of_ble_eq_true rfl) ⟨(Nat.le_of_ble_eq_true rfl), (Nat.le_of_ble_eq_true rfl)⟩ rfl rfl rfl dX5_both_4 ?_
  refine hj_if_ne hX (tgt := 12) (by decide) dX5_both_7 h (fun h => ?_) (fun h => ?_)
  · refine hj_iconst hX (v := (0 : Int32)) (by decide) dX5_both_12 ?_
    refine hj_istore_n hX rfl (Nat.le_of_ble_eq_true rfl) (lv2 := [(2, .int (0 : Int32)), (0, .ref 92), (1, .int v1)]) rfl dX5_both_13 ?_
    refine hj_bipush hX (v := (-4 : Int32)) (by decide) dX5_both_14 ?_
    refine hj_istore_n hX rfl (Nat.le_of_ble_eq_true rfl) (lv2 := [(3, .int (-4 : Int32)), (2, .int (0 : Int32)), (0, .ref 92), (1, .int v1)]) rfl dX5_both_16 ?_
    refine hj_iconst hX (v := (0 : Int32)) (by decide) dX5_both_17 ?_
    refine hj_istore hX (Nat.le_of_ble_eq_true rfl) (lv2 := [(4, .int (0 : Int32)), (3, .int (-4 : Int32)), (2, .int (0 : Int32)), (0, .ref 92), (1, .int v1)]) rfl dX5_both_18 ?_
    refine hj_lv hX [3, 4, 2, 1, 0] (lv2 := [(0, .ref 92), (1, .int v1), (2, .int (0 : Int32)), (3, .int (-4 : Int32)), (4, .int (0 : Int32))]) rfl ?_
    exact X5_both_l20_ok hX hf0 hF _ _ _ _ _ h
  · refine hj_iconst hX (v := (-1 : Int32)) (by decide) dX5_both_10 ?_
    exact hj_iret hX dX5_both_11 h)
def X5_never_b92 (k23 : Int32 → Int32 → Int32 → Int32 → hM → Option (Int32 × hM)) (v1 : Int32) (v2 : Int32) (v4 : Int32) (v5 : Int32) (t0 : Int32) (I : hM) : Option (Int32 × hM) := ob (X5_larger v2 v5 I) (fun u13 Ia14 => (k23 v1 u13 t0 (v4 + (1 : Int32)) Ia14))
def X5_never_b106 (v1 : Int32) (v2 : Int32) (v3 : Int32) (I : hM) : Option (Int32 × hM) := if v3 < 0 then (some (v3, I)) else (if v1 = 0 then (some (v3, I)) else (some ((v2 + (10000 : Int32)), I)))
def X5_never_h23 (k23 : Int32 → Int32 → Int32 → Int32 → hM → Option (Int32 × hM)) (v1 : Int32) (v2 : Int32) (v3 : Int32) (v4 : Int32) (I : hM) : Option (Int32 × hM) := if (I 92 0) ≤ v4 then (X5_never_b106 v1 v2 v3 I) else (gd (hx v4 240) (if (I 113 (v4).toNatClampNeg) = 0 then (ob (X5_copies (0 : Int32) (220 : Int32) I) (fun u7 Ia8 => gd (hx ((227 : Int32) + v4) 240) (ob (X5_hadThen (hu (hu Ia8 113 (((227 : Int32) + v4)).toNatClampNeg (-1 : Int32)) 92 37 v4)) (fun u10 Ia11 => if u10 ≤ v2 then ((X5_never_b92 k23 v1 v2 v4 u10 v3 (hu Ia11 92 37 (-4 : Int32)))) else ((X5_never_b92 k23 v1 v2 v4 u10 v4 (hu Ia11 92 37 (-4 : Int32)))))))) else ((k23 v1 v2 v3 (v4 + (1 : Int32)) I))))
def X5_never_l23 : Nat → Int32 → Int32 → Int32 → Int32 → hM → Option (Int32 × hM)
  | 0 => fun _ _ _ _ _ => none
  | n + 1 => X5_never_h23   (X5_never_l23   n)
def X5_never (v1 : Int32) (I : hM) : Option (Int32 × hM) := ob (X5_in (v1).toInt64 (0 : Int64) (1 : Int64) I) (fun u1 Ia2 => if u1 = 0 then (some ((-1 : Int32), Ia2)) else (ob (X5_hadAsItIs Ia2) (fun u4 Ia5 => (X5_never_l23 hF v1 u4 (-4 : Int32) (0 : Int32) Ia5))))
theorem X5_never_hy : yX5_never.cls = RX5 ∧ yX5_never.cls ≠ "java/lang/invoke/MethodHandle" ∧ yX5_never.cls ≠ "java/lang/invoke/VarHandle" ∧ (parseMethodDescriptor yX5_never.desc).map (fun d => d.parameters.length) = some 1 := by decide +kernel
theorem X5_never_k110 : Cond.fieldLink RX5 110 "HatPinsModel" "many" "I" ∈ wsX5_never := by decide +kernel
theorem X5_never_k70 : Cond.fieldLink RX5 70 "HatPinsModel" "slot" "[I" ∈ wsX5_never := by decide +kernel
theorem X5_never_k83 : Cond.fieldLink RX5 83 "HatPinsModel" "absent" "I" ∈ wsX5_never := by decide +kernel
theorem X5_never_w5 : ∀ w ∈ wsX50, w ∈ wsX5_never := by decide +kernel
set_option maxHeartbeats 4000000 in
set_option maxRecDepth 100000 in
theorem X5_never_b92_ok {p : Program} {l : Launch} {e : Env} {s : State} {m : MethodId} {args : Array Value} {below : List Frame} {meth : Method} {c : Code} {D : va_G} {E : Nat → ClassId} {b z : Nat} {sh : List hS} {r : Int32} {I2 : hM} {k23 : Int32 → Int32 → Int32 → Int32 → hM → Option (Int32 × hM)} {v1 : Int32} {v2 : Int32} {v4 : Int32} {v5 : Int32} {t0 : Int32} {I : hM} (hX : hp_X p s m args meth c yX5_never.cls cX5_never 6 wsX5_never D E (some .int) yX5_never.name) (hf0 : hq_X5 sh) (hk23 : ∀ (v1 : Int32) (v2 : Int32) (v3 : Int32) (v4 : Int32) (I : hM), k23 v1 v2 v3 v4 I = some (r, I2) → hp_J p l e ({ frames := 8, cells := 0, slots := 0, locals := 44 * 8 }) s m args below meth c (MQ below (hp_Q D E b z (some (.int r)) sh I2) args s 0 0 (fun q : Nat => b ≤ q)) D E b z 6 sh 0 0 I 23 [(0, .ref 92), (1, .int v1), (2, .int v2), (3, .int v3), (4, .int v4)] []) (h : X5_never_b92 k23 v1 v2 v4 v5 t0 I = some (r, I2)) : hp_J p l e ({ frames := 8, cells := 0, slots := 0, locals := 44 * 8 }) s m args below meth c (MQ below (hp_Q D E b z (some (.int r)) sh I2) args s 0 0 (fun q : Nat => b ≤ q)) D E b z 6 sh 0 0 I 92 [(0, .ref 92), (1, .int v1), (2, .int v2), (4, .int v4), (5, .int v5)] [.int t0] := by
  unfold X5_never_b92 at h
  refine hj_istore_n hX rfl (Nat.le_of_ble_eq_true rfl) (lv2 := [(3, .int t0), (0, .ref 92), (1, .int v1), (2, .int v2), (4, .int v4), (5, .int v5)]) rfl dX5_never_92 ?_
  refine hj_iload_n hX rfl 3 rfl dX5_never_93 ?_
  refine hj_iload hX 5 rfl dX5_never_94 ?_
  obtain ⟨u13, Ia14, hc15, h⟩ := ob_e h
  refine hj_callS hX (sh2 := sh) (I2 := Ia14) (r := (some (.int u13))) (As := [.int v2, .int v5]) (rest := []) (st2 := [.int u13]) (X5_larger_ok hc15) gX5_never_X5_larger rfl X5_larger_hy.2 ⟨(Nat.le_of_ble_eq_true rfl), (Nat.le_of_ble_eq_true rfl)⟩ rfl (Nat.le_of_ble_eq_true rfl) ⟨(Nat.le_of_ble_eq_true rfl), (Nat.le_of_ble_eq_true rfl)⟩ rfl rfl rfl dX5_never_96 ?_
  refine hj_istore_n hX rfl (Nat.le_of_ble_eq_true rfl) (lv2 := [(2, .int u13), (3, .int t0), (0, .ref 92), (1, .int v1), (4, .int v4), (5, .int v5)]) rfl dX5_never_99 ?_
  refine hj_iinc hX (k1 := 4) (v := (v4 + (1 : Int32))) rfl rfl (Nat.le_of_ble_eq_true rfl) (lv2 := [(4, .int (v4 + (1 : Int32))), (2, .int u13), (3, .int t0), (0, .ref 92), (1, .int v1), (5, .int v5)]) rfl dX5_never_100 ?_
  refine hj_goto hX (tgt := 23) (by decide) dX5_never_103 ?_
  refine hj_lv hX [3, 4, 1, 2, 0] (lv2 := [(0, .ref 92), (1, .int v1), (2, .int u13), (3, .int t0), (4, .int (v4 + (1 : Int32)))]) rfl ?_
  exact hk23 _ _ _ _ _ h
set_option maxHeartbeats 4000000 in
set_option maxRecDepth 100000 in
theorem X5_never_b106_ok {p : Program} {l : Launch} {e : Env} {s : State} {m : MethodId} {args : Array Value} {below : List Frame} {meth : Method} {c : Code} {D : va_G} {E : Nat → ClassId} {b z : Nat} {sh : List hS} {r : Int32} {I2 : hM} {v1 : Int32} {v2 : Int32} {v3 : Int32} {I : hM} (hX : hp_X p s m args meth c yX5_never.cls cX5_never 6 wsX5_never D E (some .int) yX5_never.name) (hf0 : hq_X5 sh) (h : X5_never_b106 v1 v2 v3 I = some (r, I2)) : hp_J p l e ({ frames := 8, cells := 0, slots := 0, locals := 44 * 8 }) s m args below meth c (MQ below (hp_Q D E b z (some (.int r)) sh I2) args s 0 0 (fun q : Nat => b ≤ q)) D E b z 6 sh 0 0 I 106 [(1, .int v1), (2, .int v2), (3, .int v3)] [] := by
  unfold X5_never_b106 at h
  refine hj_iload_n hX rfl 2 rfl dX5_never_106 ?_
  refine hj_if_lt hX (tgt := 114) (by decide) dX5_never_107 h (fun h => ?_) (fun h => ?_)
  · refine hj_iload_n hX rfl 2 rfl dX5_never_114 ?_
    refine hj_goto hX (tgt := 123) (by decide) dX5_never_115 ?_
    exact hj_iret hX dX5_never_123 h
  · refine hj_iload_n hX rfl 0 rfl dX5_never_110 ?_
    refine hj_if_ne hX (tgt := 118) (by decide) dX5_never_111 h (fun h => ?_) (fun h => ?_)
    · refine hj_iload_n hX rfl 1 rfl dX5_never_118 ?_
      refine hj_sipush hX (v := (10000 : Int32)) (by decide) dX5_never_119 ?_
      refine hj_iadd hX dX5_never_122 ?_
      exact hj_iret hX dX5_never_123 h
    · refine hj_iload_n hX rfl 2 rfl dX5_never_114 ?_
      refine hj_goto hX (tgt := 123) (by decide) dX5_never_115 ?_
      exact hj_iret hX dX5_never_123 h
set_option maxHeartbeats 4000000 in
set_option maxRecDepth 100000 in
theorem X5_never_h23_ok {p : Program} {l : Launch} {e : Env} {s : State} {m : MethodId} {args : Array Value} {below : List Frame} {meth : Method} {c : Code} {D : va_G} {E : Nat → ClassId} {b z : Nat} {sh : List hS} {r : Int32} {I2 : hM} {k23 : Int32 → Int32 → Int32 → Int32 → hM → Option (Int32 × hM)} {v1 : Int32} {v2 : Int32} {v3 : Int32} {v4 : Int32} {I : hM} (hX : hp_X p s m args meth c yX5_never.cls cX5_never 6 wsX5_never D E (some .int) yX5_never.name) (hf0 : hq_X5 sh) (hk23 : ∀ (v1 : Int32) (v2 : Int32) (v3 : Int32) (v4 : Int32) (I : hM), k23 v1 v2 v3 v4 I = some (r, I2) → hp_J p l e ({ frames := 8, cells := 0, slots := 0, locals := 44 * 8 }) s m args below meth c (MQ below (hp_Q D E b z (some (.int r)) sh I2) args s 0 0 (fun q : Nat => b ≤ q)) D E b z 6 sh 0 0 I 23 [(0, .ref 92), (1, .int v1), (2, .int v2), (3, .int v3), (4, .int v4)] []) (h : X5_never_h23 k23 v1 v2 v3 v4 I = some (r, I2)) : hp_J p l e ({ frames := 8, cells := 0, slots := 0, locals := 44 * 8 }) s m args below meth c (MQ below (hp_Q D E b z (some (.int r)) sh I2) args s 0 0 (fun q : Nat => b ≤ q)) D E b z 6 sh 0 0 I 23 [(0, .ref 92), (1, .int v1), (2, .int v2), (3, .int v3), (4, .int v4)] [] := by
  unfold X5_never_h23 at h
  refine hj_iload hX 4 rfl dX5_never_23 ?_
  refine hj_aload_n hX rfl 0 rfl dX5_never_25 ?_
  refine hj_geti hX (j := 0) hf0.1 rfl rfl X5_never_w5 (Nat.le_of_ble_eq_true rfl) rfl X5_never_k110 dX5_never_26 ?_
  refine hj_icmp_ge hX (tgt := 106) (by decide) dX5_never_29 h (fun h => ?_) (fun h => ?_)
  · refine hj_lv hX [1, 2, 3] (lv2 := [(1, .int v1), (2, .int v2), (3, .int v3)]) rfl ?_
    exact X5_never_b106_ok hX hf0 h
  · refine hj_aload_n hX rfl 0 rfl dX5_never_32 ?_
    refine hj_getr hX (j := 26) hf0.1 rfl rfl X5_never_w5 (Nat.le_of_ble_eq_true rfl) rfl X5_never_k70 dX5_never_33 ?_
    refine hj_iload hX 4 rfl dX5_never_36 ?_
    refine hj_iald hX hf0.2.2.2.2.2.2.2.2.2.2.2.2.2.2.2.2.2.2.2.2.2.1 dX5_never_38 h (fun h => ?_)
    refine hj_if_ne hX (tgt := 100) (by decide) dX5_never_39 h (fun h => ?_) (fun h => ?_)
    · refine hj_iinc hX (k1 := 4) (v := (v4 + (1 : Int32))) rfl rfl (Nat.le_of_ble_eq_true rfl) (lv2 := [(4, .int (v4 + (1 : Int32))), (0, .ref 92), (1, .int v1), (2, .int v2), (3, .int v3)]) rfl dX5_never_100 ?_
      refine hj_goto hX (tgt := 23) (by decide) dX5_never_103 ?_
      refine hj_lv hX [1, 2, 3, 4, 0] (lv2 := [(0, .ref 92), (1, .int v1), (2, .int v2), (3, .int v3), (4, .int (v4 + (1 : Int32)))]) rfl ?_
      exact hk23 _ _ _ _ _ h
    · refine hj_aload_n hX rfl 0 rfl dX5_never_42 ?_
      refine hj_iconst hX (v := (0 : Int32)) (by decide) dX5_never_43 ?_
      refine hj_sipush hX (v := (220 : Int32)) (by decide) dX5_never_44 ?_
      obtain ⟨u7, Ia8, hc9, h⟩ := ob_e h
      refine hj_callV hX (sh2 := sh) (I2 := Ia8) (r := none) (As := [.int (0 : Int32), .int (220 : Int32)]) (rest := []) (st2 := []) (X5_copies_ok hf0 hc9) gX5_never_X5_copies rfl X5_copies_hy ⟨(Nat.le_of_ble_eq_true rfl), (Nat.le_of_ble_eq_true rfl)⟩ rfl hf0.1 rfl (Nat.le_of_ble_eq_true rfl) ⟨(Nat.le_of_ble_eq_true rfl), (Nat.le_of_ble_eq_true rfl)⟩ rfl rfl rfl dX5_never_47 ?_
      refine hj_aload_n hX rfl 0 rfl dX5_never_50 ?_
      refine hj_getr hX (j := 26) hf0.1 rfl rfl X5_never_w5 (Nat.le_of_ble_eq_true rfl) rfl X5_never_k70 dX5_never_51 ?_
      refine hj_sipush hX (v := (227 : Int32)) (by decide) dX5_never_54 ?_
      refine hj_iload hX 4 rfl dX5_never_57 ?_
      refine hj_iadd hX dX5_never_59 ?_
      refine hj_iconst hX (v := (-1 : Int32)) (by decide) dX5_never_60 ?_
      refine hj_iast hX hf0.2.2.2.2.2.2.2.2.2.2.2.2.2.2.2.2.2.2.2.2.2.1 dX5_never_61 h (fun h => ?_)
      refine hj_aload_n hX rfl 0 rfl dX5_never_62 ?_
      refine hj_iload hX 4 rfl dX5_never_63 ?_
      refine hj_puti hX (j := 37) hf0.1 rfl rfl X5_never_w5 (Nat.le_of_ble_eq_true rfl) rfl X5_never_k83 tyX5_ok nmX5 rfl (by decide +kernel) dX5_never_65 ?_
      refine hj_aload_n hX rfl 0 rfl dX5_never_68 ?_
      obtain ⟨u10, Ia11, hc12, h⟩ := ob_e h
      refine hj_callV hX (sh2 := sh) (I2 := Ia11) (r := (some (.int u10))) (As := []) (rest := []) (st2 := [.int u10]) (X5_hadThen_ok hf0 hc12) gX5_never_X5_hadThen rfl X5_hadThen_hy ⟨(Nat.le_of_ble_eq_true rfl), (Nat.le_of_ble_eq_true rfl)⟩ rfl hf0.1 rfl (Nat.le_of_ble_eq_true rfl) ⟨(Nat.le_of_ble_eq_true rfl), (Nat.le_of_ble_eq_true rfl)⟩ rfl rfl rfl dX5_never_69 ?_
      refine hj_istore hX (Nat.le_of_ble_eq_true rfl) (lv2 := [(5, .int u10), (0, .ref 92), (1, .int v1), (2, .int v2), (3, .int v3), (4, .int v4)]) rfl dX5_never_72 ?_
      refine hj_aload_n hX rfl 1 rfl dX5_never_74 ?_
      refine hj_bipush hX (v := (-4 : Int32)) (by decide) dX5_never_75 ?_
      refine hj_puti hX (j := 37) hf0.1 rfl rfl X5_never_w5 (Nat.le_of_ble_eq_true rfl) rfl X5_never_k83 tyX5_ok nmX5 rfl (by decide +kernel) dX5_never_77 ?_
      refine hj_iload hX 0 rfl dX5_never_80 ?_
      refine hj_iload_n hX rfl 3 rfl dX5_never_82 ?_
      refine hj_icmp_le hX (tgt := 91) (by decide) dX5_never_83 h (fun h => ?_) (fun h => ?_)
      · refine hj_iload_n hX rfl 4 rfl dX5_never_91 ?_
        refine hj_lv hX [1, 2, 3, 5, 0] (lv2 := [(0, .ref 92), (1, .int v1), (2, .int v2), (4, .int v4), (5, .int u10)]) rfl ?_
        exact X5_never_b92_ok hX hf0 hk23 h
      · refine hj_iload hX 5 rfl dX5_never_86 ?_
        refine hj_goto hX (tgt := 92) (by decide) dX5_never_88 ?_
        refine hj_lv hX [1, 2, 3, 5, 0] (lv2 := [(0, .ref 92), (1, .int v1), (2, .int v2), (4, .int v4), (5, .int u10)]) rfl ?_
        exact X5_never_b92_ok hX hf0 hk23 h
set_option maxHeartbeats 4000000 in
set_option maxRecDepth 100000 in
theorem X5_never_l23_ok {p : Program} {l : Launch} {e : Env} {s : State} {m : MethodId} {args : Array Value} {below : List Frame} {meth : Method} {c : Code} {D : va_G} {E : Nat → ClassId} {b z : Nat} {sh : List hS} {r : Int32} {I2 : hM} (hX : hp_X p s m args meth c yX5_never.cls cX5_never 6 wsX5_never D E (some .int) yX5_never.name) (hf0 : hq_X5 sh) : ∀ (n : Nat) (v1 : Int32) (v2 : Int32) (v3 : Int32) (v4 : Int32) (I : hM), X5_never_l23 n v1 v2 v3 v4 I = some (r, I2) → hp_J p l e ({ frames := 8, cells := 0, slots := 0, locals := 44 * 8 }) s m args below meth c (MQ below (hp_Q D E b z (some (.int r)) sh I2) args s 0 0 (fun q : Nat => b ≤ q)) D E b z 6 sh 0 0 I 23 [(0, .ref 92), (1, .int v1), (2, .int v2), (3, .int v3), (4, .int v4)] [] := by
  intro n
  induction n with
  | zero => exact fun _ _ _ _ _ h => nomatch h
  | succ n ih => exact fun _ _ _ _ _ h => X5_never_h23_ok hX hf0 ih h
set_option maxHeartbeats 4000000 in
set_option maxRecDepth 100000 in
theorem X5_never_ok {sh : List hS} {r : Int32} {I I2 : hM} {v1 : Int32} (hf0 : hq_X5 sh) (h : X5_never v1 I = some (r, I2)) : hp_C yX5_never wsX5_never 8 0 0 sh I [.ref 92, .int v1] (some (.int r)) sh I2 := hp_start (cc := cX5_never) (maxL := 6) (ret := (some .int)) [(0, .ref 92), (1, .int v1)] (by decide) rfl (fun _ _ => rfl) (fun _ _ => Nat.le_of_ble_eq_true rfl) (fun p l e s m below meth c D E b z hX _ => by
  unfold X5_never at h
  refine hj_iload_n hX rfl 1 rfl dX5_never_0 ?_
  refine hj_i2l hX dX5_never_1 ?_
  refine hj_lconst hX (v := (0 : Int64)) (by decide) dX5_never_2 ?_
  refine hj_lconst hX (v := (1 : Int64)) (by decide) dX5_never_3 ?_
  obtain ⟨u1, Ia2, hc3, h⟩ := ob_e h
  refine hj_callS hX (sh2 := sh) (I2 := Ia2) (r := (some (.int u1))) (As := [.long (v1).toInt64, .long (0 : Int64), .long (1 : Int64)]) (rest := []) (st2 := [.int u1]) (X5_in_ok hc3) gX5_never_X5_in rfl X5_in_hy.2 ⟨(Nat.le_of_ble_eq_true rfl), (Nat.le_of_ble_eq_true rfl)⟩ rfl (Nat.le_of_ble_eq_true rfl) ⟨(Nat.le_of_ble_eq_true rfl), (Nat.le_of_ble_eq_true rfl)⟩ rfl rfl rfl dX5_never_4 ?_
  refine hj_if_ne hX (tgt := 12) (by decide) dX5_never_7 h (fun h => ?_) (fun h => ?_)
  · refine hj_aload_n hX rfl 0 rfl dX5_never_12 ?_
    obtain ⟨u4, Ia5, hc6, h⟩ := ob_e h
    refine hj_callV hX (sh2 := sh) (I2 := Ia5) (r := (some (.int u4))) (As := []) (rest := []) (st2 := [.int u4]) (X5_hadAsItIs_ok hf0 hc6) gX5_never_X5_hadAsItIs rfl X5_hadAsItIs_hy ⟨(Nat.le_of_ble_eq_true rfl), (Nat.le_of_ble_eq_true rfl)⟩ rfl hf0.1 rfl (Nat.le_of_ble_eq_true rfl) ⟨(Nat.le_of_ble_eq_true rfl), (Nat.le_of_ble_eq_true rfl)⟩ rfl rfl rfl dX5_never_13 ?_
    refine hj_istore_n hX rfl (Nat.le_of_ble_eq_true rfl) (lv2 := [(2, .int u4), (0, .ref 92), (1, .int v1)]) rfl dX5_never_16 ?_
    refine hj_bipush hX (v := (-4 : Int32)) (by decide) dX5_never_17 ?_
    refine hj_istore_n hX rfl (Nat.le_of_ble_eq_true rfl) (lv2 := [(3, .int (-4 : Int32)), (2, .int u4), (0, .ref 92), (1, .int v1)]) rfl dX5_never_19 ?_
    refine hj_iconst hX (v := (0 : Int32)) (by decide) dX5_never_20 ?_
    refine hj_istore hX (Nat.le_of_ble_eq_true rfl) (lv2 := [(4, .int (0 : Int32)), (3, .int (-4 : Int32)), (2, .int u4), (0, .ref 92), (1, .int v1)]) rfl dX5_never_21 ?_
    refine hj_lv hX [3, 4, 2, 1, 0] (lv2 := [(0, .ref 92), (1, .int v1), (2, .int u4), (3, .int (-4 : Int32)), (4, .int (0 : Int32))]) rfl ?_
    exact X5_never_l23_ok hX hf0 hF _ _ _ _ _ h
  · refine hj_iconst hX (v := (-1 : Int32)) (by decide) dX5_never_10 ?_
    exact hj_iret hX dX5_never_11 h)
def X5_note (v1 : Int32) (v2 : Int32) (I : hM) : Option (Int32 × hM) := ob (X5_in (v1).toInt64 (0 : Int64) (39 : Int64) I) (fun u1 Ia2 => if u1 = 0 then (some ((-1 : Int32), Ia2)) else (ob (X5_in (v2).toInt64 (-20 : Int64) (20 : Int64) Ia2) (fun u4 Ia5 => if u4 = 0 then (some ((-1 : Int32), Ia5)) else (if (Ia5 92 34) = (8 : Int32) then (some ((-3 : Int32), Ia5)) else (gd (hx (Ia5 92 34) 8) (gd (hx ((hu Ia5 115 ((Ia5 92 34)).toNatClampNeg v1) 92 34) 8) (some (((hu (hu (hu Ia5 115 ((Ia5 92 34)).toNatClampNeg v1) 116 (((hu Ia5 115 ((Ia5 92 34)).toNatClampNeg v1) 92 34)).toNatClampNeg v2) 92 34 (((hu (hu Ia5 115 ((Ia5 92 34)).toNatClampNeg v1) 116 (((hu Ia5 115 ((Ia5 92 34)).toNatClampNeg v1) 92 34)).toNatClampNeg v2) 92 34) + (1 : Int32))) 92 34), (hu (hu (hu Ia5 115 ((Ia5 92 34)).toNatClampNeg v1) 116 (((hu Ia5 115 ((Ia5 92 34)).toNatClampNeg v1) 92 34)).toNatClampNeg v2) 92 34 (((hu (hu Ia5 115 ((Ia5 92 34)).toNatClampNeg v1) 116 (((hu Ia5 115 ((Ia5 92 34)).toNatClampNeg v1) 92 34)).toNatClampNeg v2) 92 34) + (1 : Int32)))))))))))
theorem X5_note_hy : yX5_note.cls = RX5 ∧ yX5_note.cls ≠ "java/lang/invoke/MethodHandle" ∧ yX5_note.cls ≠ "java/lang/invoke/VarHandle" ∧ (parseMethodDescriptor yX5_note.desc).map (fun d => d.parameters.length) = some 2 := by decide +kernel
theorem X5_note_k182 : Cond.fieldLink RX5 182 "HatPinsModel" "notes" "I" ∈ wsX5_note := by decide +kernel
theorem X5_note_k77 : Cond.fieldLink RX5 77 "HatPinsModel" "notedAt" "[I" ∈ wsX5_note := by decide +kernel
theorem X5_note_k80 : Cond.fieldLink RX5 80 "HatPinsModel" "notedWorth" "[I" ∈ wsX5_note := by decide +kernel
theorem X5_note_mc256 : Cond.constantLong RX5 256 (39) ∈ wsX5_note := by decide +kernel
theorem X5_note_mc258 : Cond.constantLong RX5 258 (-20) ∈ wsX5_note := by decide +kernel
theorem X5_note_mc260 : Cond.constantLong RX5 260 (20) ∈ wsX5_note := by decide +kernel
theorem X5_note_w5 : ∀ w ∈ wsX50, w ∈ wsX5_note := by decide +kernel
set_option maxHeartbeats 4000000 in
set_option maxRecDepth 100000 in
theorem X5_note_ok {sh : List hS} {r : Int32} {I I2 : hM} {v1 : Int32} {v2 : Int32} (hf0 : hq_X5 sh) (h : X5_note v1 v2 I = some (r, I2)) : hp_C yX5_note wsX5_note 1 0 0 sh I [.ref 92, .int v1, .int v2] (some (.int r)) sh I2 := hp_start (cc := cX5_note) (maxL := 3) (ret := (some .int)) [(0, .ref 92), (1, .int v1), (2, .int v2)] (by decide) rfl (fun _ _ => rfl) (fun _ _ => Nat.le_of_ble_eq_true rfl) (fun p l e s m below meth c D E b z hX _ => by
  unfold X5_note at h
  refine hj_iload_n hX rfl 1 rfl dX5_note_0 ?_
  refine hj_i2l hX dX5_note_1 ?_
  refine hj_lconst hX (v := (0 : Int64)) (by decide) dX5_note_2 ?_
  refine hj_ldc2 hX (v := (39 : Int64)) X5_note_mc256 dX5_note_3 ?_
  obtain ⟨u1, Ia2, hc3, h⟩ := ob_e h
  refine hj_callS hX (sh2 := sh) (I2 := Ia2) (r := (some (.int u1))) (As := [.long (v1).toInt64, .long (0 : Int64), .long (39 : Int64)]) (rest := []) (st2 := [.int u1]) (X5_in_ok hc3) gX5_note_X5_in rfl X5_in_hy.2 ⟨(Nat.le_of_ble_eq_true rfl), (Nat.le_of_ble_eq_true rfl)⟩ rfl (Nat.le_of_ble_eq_true rfl) ⟨(Nat.le_of_ble_eq_true rfl), (Nat.le_of_ble_eq_true rfl)⟩ rfl rfl rfl dX5_note_6 ?_
  refine hj_if_eq hX (tgt := 26) (by decide) dX5_note_9 h (fun h => ?_) (fun h => ?_)
  · refine hj_iconst hX (v := (-1 : Int32)) (by decide) dX5_note_26 ?_
    exact hj_iret hX dX5_note_27 h
  · refine hj_iload_n hX rfl 2 rfl dX5_note_12 ?_
    refine hj_i2l hX dX5_note_13 ?_
    refine hj_ldc2 hX (v := (-20 : Int64)) X5_note_mc258 dX5_note_14 ?_
    refine hj_ldc2 hX (v := (20 : Int64)) X5_note_mc260 dX5_note_17 ?_
    obtain ⟨u4, Ia5, hc6, h⟩ := ob_e h
    refine hj_callS hX (sh2 := sh) (I2 := Ia5) (r := (some (.int u4))) (As := [.long (v2).toInt64, .long (-20 : Int64), .long (20 : Int64)]) (rest := []) (st2 := [.int u4]) (X5_in_ok hc6) gX5_note_X5_in rfl X5_in_hy.2 ⟨(Nat.le_of_ble_eq_true rfl), (Nat.le_of_ble_eq_true rfl)⟩ rfl (Nat.le_of_ble_eq_true rfl) ⟨(Nat.le_of_ble_eq_true rfl), (Nat.le_of_ble_eq_true rfl)⟩ rfl rfl rfl dX5_note_20 ?_
    refine hj_if_ne hX (tgt := 28) (by decide) dX5_note_23 h (fun h => ?_) (fun h => ?_)
    · refine hj_aload_n hX rfl 0 rfl dX5_note_28 ?_
      refine hj_geti hX (j := 34) hf0.1 rfl rfl X5_note_w5 (Nat.le_of_ble_eq_true rfl) rfl X5_note_k182 dX5_note_29 ?_
      refine hj_bipush hX (v := (8 : Int32)) (by decide) dX5_note_32 ?_
      refine hj_icmp_ne hX (tgt := 40) (by decide) dX5_note_34 h (fun h => ?_) (fun h => ?_)
      · refine hj_aload_n hX rfl 0 rfl dX5_note_40 ?_
        refine hj_getr hX (j := 35) hf0.1 rfl rfl X5_note_w5 (Nat.le_of_ble_eq_true rfl) rfl X5_note_k77 dX5_note_41 ?_
        refine hj_aload_n hX rfl 0 rfl dX5_note_44 ?_
        refine hj_geti hX (j := 34) hf0.1 rfl rfl X5_note_w5 (Nat.le_of_ble_eq_true rfl) rfl X5_note_k182 dX5_note_45 ?_
        refine hj_iload_n hX rfl 1 rfl dX5_note_48 ?_
        refine hj_iast hX hf0.2.2.2.2.2.2.2.2.2.2.2.2.2.2.2.2.2.2.2.2.2.2.2.1 dX5_note_49 h (fun h => ?_)
        refine hj_aload_n hX rfl 0 rfl dX5_note_50 ?_
        refine hj_getr hX (j := 36) hf0.1 rfl rfl X5_note_w5 (Nat.le_of_ble_eq_true rfl) rfl X5_note_k80 dX5_note_51 ?_
        refine hj_aload_n hX rfl 0 rfl dX5_note_54 ?_
        refine hj_geti hX (j := 34) hf0.1 rfl rfl X5_note_w5 (Nat.le_of_ble_eq_true rfl) rfl X5_note_k182 dX5_note_55 ?_
        refine hj_iload_n hX rfl 2 rfl dX5_note_58 ?_
        refine hj_iast hX hf0.2.2.2.2.2.2.2.2.2.2.2.2.2.2.2.2.2.2.2.2.2.2.2.2 dX5_note_59 h (fun h => ?_)
        refine hj_aload_n hX rfl 0 rfl dX5_note_60 ?_
        refine hj_dup hX rfl dX5_note_61 ?_
        refine hj_geti hX (j := 34) hf0.1 rfl rfl X5_note_w5 (Nat.le_of_ble_eq_true rfl) rfl X5_note_k182 dX5_note_62 ?_
        refine hj_iconst hX (v := (1 : Int32)) (by decide) dX5_note_65 ?_
        refine hj_iadd hX dX5_note_66 ?_
        refine hj_puti hX (j := 34) hf0.1 rfl rfl X5_note_w5 (Nat.le_of_ble_eq_true rfl) rfl X5_note_k182 tyX5_ok nmX5 rfl (by decide +kernel) dX5_note_67 ?_
        refine hj_aload_n hX rfl 0 rfl dX5_note_70 ?_
        refine hj_geti hX (j := 34) hf0.1 rfl rfl X5_note_w5 (Nat.le_of_ble_eq_true rfl) rfl X5_note_k182 dX5_note_71 ?_
        exact hj_iret hX dX5_note_74 h
      · refine hj_bipush hX (v := (-3 : Int32)) (by decide) dX5_note_37 ?_
        exact hj_iret hX dX5_note_39 h
    · refine hj_iconst hX (v := (-1 : Int32)) (by decide) dX5_note_26 ?_
      exact hj_iret hX dX5_note_27 h)
def X5_forget (I : hM) : Option (Int32 × hM) := some ((I 92 34), (hu I 92 34 (0 : Int32)))
theorem X5_forget_hy : yX5_forget.cls = RX5 ∧ yX5_forget.cls ≠ "java/lang/invoke/MethodHandle" ∧ yX5_forget.cls ≠ "java/lang/invoke/VarHandle" ∧ (parseMethodDescriptor yX5_forget.desc).map (fun d => d.parameters.length) = some 0 := by decide +kernel
theorem X5_forget_k182 : Cond.fieldLink RX5 182 "HatPinsModel" "notes" "I" ∈ wsX5_forget := by decide +kernel
theorem X5_forget_w5 : ∀ w ∈ wsX50, w ∈ wsX5_forget := by decide +kernel
set_option maxHeartbeats 4000000 in
set_option maxRecDepth 100000 in
theorem X5_forget_ok {sh : List hS} {r : Int32} {I I2 : hM} (hf0 : hq_X5 sh) (h : X5_forget I = some (r, I2)) : hp_C yX5_forget wsX5_forget 0 0 0 sh I [.ref 92] (some (.int r)) sh I2 := hp_start (cc := cX5_forget) (maxL := 2) (ret := (some .int)) [(0, .ref 92)] (by decide) rfl (fun _ _ => rfl) (fun _ _ => Nat.le_of_ble_eq_true rfl) (fun p l e s m below meth c D E b z hX _ => by
  unfold X5_forget at h
  refine hj_aload_n hX rfl 0 rfl dX5_forget_0 ?_
  refine hj_geti hX (j := 34) hf0.1 rfl rfl X5_forget_w5 (Nat.le_of_ble_eq_true rfl) rfl X5_forget_k182 dX5_forget_1 ?_
  refine hj_istore_n hX rfl (Nat.le_of_ble_eq_true rfl) (lv2 := [(1, .int (I 92 34)), (0, .ref 92)]) rfl dX5_forget_4 ?_
  refine hj_aload_n hX rfl 1 rfl dX5_forget_5 ?_
  refine hj_iconst hX (v := (0 : Int32)) (by decide) dX5_forget_6 ?_
  refine hj_puti hX (j := 34) hf0.1 rfl rfl X5_forget_w5 (Nat.le_of_ble_eq_true rfl) rfl X5_forget_k182 tyX5_ok nmX5 rfl (by decide +kernel) dX5_forget_7 ?_
  refine hj_iload_n hX rfl 0 rfl dX5_forget_10 ?_
  exact hj_iret hX dX5_forget_11 h)
def X5_isSo_h6 (k6 : Int32 → Int32 → Int32 → Int32 → Int32 → hM → Option (Int32 × hM)) (v1 : Int32) (v2 : Int32) (v3 : Int32) (v4 : Int32) (v5 : Int32) (I : hM) : Option (Int32 × hM) := if (I 92 34) ≤ v5 then (gd (decide (v4 = (0 : Int32)) || decide (v4 = (1 : Int32))) (some (v4, I))) else (if v4 = 0 then ((k6 v1 v2 v3 (0 : Int32) (v5 + (1 : Int32)) I)) else (gd (hx v5 8) (ob (X5_worthOf v1 v2 v3 (I 115 (v5).toNatClampNeg) I) (fun u1 Ia2 => gd (hx v5 8) (if u1 = (Ia2 116 (v5).toNatClampNeg) then ((k6 v1 v2 v3 (1 : Int32) (v5 + (1 : Int32)) Ia2)) else ((k6 v1 v2 v3 (0 : Int32) (v5 + (1 : Int32)) Ia2)))))))
def X5_isSo_l6 : Nat → Int32 → Int32 → Int32 → Int32 → Int32 → hM → Option (Int32 × hM)
  | 0 => fun _ _ _ _ _ _ => none
  | n + 1 => X5_isSo_h6   (X5_isSo_l6   n)
def X5_isSo (v1 : Int32) (v2 : Int32) (v3 : Int32) (I : hM) : Option (Int32 × hM) := (X5_isSo_l6 hF v1 v2 v3 (1 : Int32) (0 : Int32) I)
theorem X5_isSo_hy : yX5_isSo.cls = RX5 ∧ yX5_isSo.cls ≠ "java/lang/invoke/MethodHandle" ∧ yX5_isSo.cls ≠ "java/lang/invoke/VarHandle" ∧ (parseMethodDescriptor yX5_isSo.desc).map (fun d => d.parameters.length) = some 3 := by decide +kernel
theorem X5_isSo_k182 : Cond.fieldLink RX5 182 "HatPinsModel" "notes" "I" ∈ wsX5_isSo := by decide +kernel
theorem X5_isSo_k77 : Cond.fieldLink RX5 77 "HatPinsModel" "notedAt" "[I" ∈ wsX5_isSo := by decide +kernel
theorem X5_isSo_k80 : Cond.fieldLink RX5 80 "HatPinsModel" "notedWorth" "[I" ∈ wsX5_isSo := by decide +kernel
theorem X5_isSo_w5 : ∀ w ∈ wsX50, w ∈ wsX5_isSo := by decide +kernel
set_option maxHeartbeats 4000000 in
set_option maxRecDepth 100000 in
theorem X5_isSo_h6_ok {p : Program} {l : Launch} {e : Env} {s : State} {m : MethodId} {args : Array Value} {below : List Frame} {meth : Method} {c : Code} {D : va_G} {E : Nat → ClassId} {b z : Nat} {sh : List hS} {r : Int32} {I2 : hM} {k6 : Int32 → Int32 → Int32 → Int32 → Int32 → hM → Option (Int32 × hM)} {v1 : Int32} {v2 : Int32} {v3 : Int32} {v4 : Int32} {v5 : Int32} {I : hM} (hX : hp_X p s m args meth c yX5_isSo.cls cX5_isSo 6 wsX5_isSo D E (some .boolean) yX5_isSo.name) (hf0 : hq_X5 sh) (hk6 : ∀ (v1 : Int32) (v2 : Int32) (v3 : Int32) (v4 : Int32) (v5 : Int32) (I : hM), k6 v1 v2 v3 v4 v5 I = some (r, I2) → hp_J p l e ({ frames := 2, cells := 0, slots := 0, locals := 44 * 2 }) s m args below meth c (MQ below (hp_Q D E b z (some (.int r)) sh I2) args s 0 0 (fun q : Nat => b ≤ q)) D E b z 6 sh 0 0 I 6 [(0, .ref 92), (1, .int v1), (2, .int v2), (3, .int v3), (4, .int v4), (5, .int v5)] []) (h : X5_isSo_h6 k6 v1 v2 v3 v4 v5 I = some (r, I2)) : hp_J p l e ({ frames := 2, cells := 0, slots := 0, locals := 44 * 2 }) s m args below meth c (MQ below (hp_Q D E b z (some (.int r)) sh I2) args s 0 0 (fun q : Nat => b ≤ q)) D E b z 6 sh 0 0 I 6 [(0, .ref 92), (1, .int v1), (2, .int v2), (3, .int v3), (4, .int v4), (5, .int v5)] [] := by
  unfold X5_isSo_h6 at h
  refine hj_iload hX 5 rfl dX5_isSo_6 ?_
  refine hj_aload_n hX rfl 0 rfl dX5_isSo_8 ?_
  refine hj_geti hX (j := 34) hf0.1 rfl rfl X5_isSo_w5 (Nat.le_of_ble_eq_true rfl) rfl X5_isSo_k182 dX5_isSo_9 ?_
  refine hj_icmp_ge hX (tgt := 56) (by decide) dX5_isSo_12 h (fun h => ?_) (fun h => ?_)
  · refine hj_iload hX 4 rfl dX5_isSo_56 ?_
    exact hj_zret hX dX5_isSo_58 h
  · refine hj_iload hX 4 rfl dX5_isSo_15 ?_
    refine hj_if_eq hX (tgt := 47) (by decide) dX5_isSo_17 h (fun h => ?_) (fun h => ?_)
    · refine hj_iconst hX (v := (0 : Int32)) (by decide) dX5_isSo_47 ?_
      refine hj_istore hX (Nat.le_of_ble_eq_true rfl) (lv2 := [(4, .int (0 : Int32)), (0, .ref 92), (1, .int v1), (2, .int v2), (3, .int v3), (5, .int v5)]) rfl dX5_isSo_48 ?_
      refine hj_iinc hX (k1 := 5) (v := (v5 + (1 : Int32))) rfl rfl (Nat.le_of_ble_eq_true rfl) (lv2 := [(5, .int (v5 + (1 : Int32))), (4, .int (0 : Int32)), (0, .ref 92), (1, .int v1), (2, .int v2), (3, .int v3)]) rfl dX5_isSo_50 ?_
      refine hj_goto hX (tgt := 6) (by decide) dX5_isSo_53 ?_
      refine hj_lv hX [2, 3, 4, 5, 1, 0] (lv2 := [(0, .ref 92), (1, .int v1), (2, .int v2), (3, .int v3), (4, .int (0 : Int32)), (5, .int (v5 + (1 : Int32)))]) rfl ?_
      exact hk6 _ _ _ _ _ _ h
    · refine hj_iload_n hX rfl 1 rfl dX5_isSo_20 ?_
      refine hj_iload_n hX rfl 2 rfl dX5_isSo_21 ?_
      refine hj_iload_n hX rfl 3 rfl dX5_isSo_22 ?_
      refine hj_aload_n hX rfl 0 rfl dX5_isSo_23 ?_
      refine hj_getr hX (j := 35) hf0.1 rfl rfl X5_isSo_w5 (Nat.le_of_ble_eq_true rfl) rfl X5_isSo_k77 dX5_isSo_24 ?_
      refine hj_iload hX 5 rfl dX5_isSo_27 ?_
      refine hj_iald hX hf0.2.2.2.2.2.2.2.2.2.2.2.2.2.2.2.2.2.2.2.2.2.2.2.1 dX5_isSo_29 h (fun h => ?_)
      obtain ⟨u1, Ia2, hc3, h⟩ := ob_e h
      refine hj_callS hX (sh2 := sh) (I2 := Ia2) (r := (some (.int u1))) (As := [.int v1, .int v2, .int v3, .int (I 115 (v5).toNatClampNeg)]) (rest := []) (st2 := [.int u1]) (X5_worthOf_ok hc3) gX5_isSo_X5_worthOf rfl X5_worthOf_hy.2 ⟨(Nat.le_of_ble_eq_true rfl), (Nat.le_of_ble_eq_true rfl)⟩ rfl (Nat.le_of_ble_eq_true rfl) ⟨(Nat.le_of_ble_eq_true rfl), (Nat.le_of_ble_eq_true rfl)⟩ rfl rfl rfl dX5_isSo_30 ?_
      refine hj_aload_n hX rfl 0 rfl dX5_isSo_33 ?_
      refine hj_getr hX (j := 36) hf0.1 rfl rfl X5_isSo_w5 (Nat.le_of_ble_eq_true rfl) rfl X5_isSo_k80 dX5_isSo_34 ?_
      refine hj_iload hX 5 rfl dX5_isSo_37 ?_
      refine hj_iald hX hf0.2.2.2.2.2.2.2.2.2.2.2.2.2.2.2.2.2.2.2.2.2.2.2.2 dX5_isSo_39 h (fun h => ?_)
      refine hj_icmp_ne hX (tgt := 47) (by decide) dX5_isSo_40 h (fun h => ?_) (fun h => ?_)
      · refine hj_iconst hX (v := (0 : Int32)) (by decide) dX5_isSo_47 ?_
        refine hj_istore hX (Nat.le_of_ble_eq_true rfl) (lv2 := [(4, .int (0 : Int32)), (0, .ref 92), (1, .int v1), (2, .int v2), (3, .int v3), (5, .int v5)]) rfl dX5_isSo_48 ?_
        refine hj_iinc hX (k1 := 5) (v := (v5 + (1 : Int32))) rfl rfl (Nat.le_of_ble_eq_true rfl) (lv2 := [(5, .int (v5 + (1 : Int32))), (4, .int (0 : Int32)), (0, .ref 92), (1, .int v1), (2, .int v2), (3, .int v3)]) rfl dX5_isSo_50 ?_
        refine hj_goto hX (tgt := 6) (by decide) dX5_isSo_53 ?_
        refine hj_lv hX [2, 3, 4, 5, 1, 0] (lv2 := [(0, .ref 92), (1, .int v1), (2, .int v2), (3, .int v3), (4, .int (0 : Int32)), (5, .int (v5 + (1 : Int32)))]) rfl ?_
        exact hk6 _ _ _ _ _ _ h
      · refine hj_iconst hX (v := (1 : Int32)) (by decide) dX5_isSo_43 ?_
        refine hj_goto hX (tgt := 48) (by decide) dX5_isSo_44 ?_
        refine hj_istore hX (Nat.le_of_ble_eq_true rfl) (lv2 := [(4, .int (1 : Int32)), (0, .ref 92), (1, .int v1), (2, .int v2), (3, .int v3), (5, .int v5)]) rfl dX5_isSo_48 ?_
        refine hj_iinc hX (k1 := 5) (v := (v5 + (1 : Int32))) rfl rfl (Nat.le_of_ble_eq_true rfl) (lv2 := [(5, .int (v5 + (1 : Int32))), (4, .int (1 : Int32)), (0, .ref 92), (1, .int v1), (2, .int v2), (3, .int v3)]) rfl dX5_isSo_50 ?_
        refine hj_goto hX (tgt := 6) (by decide) dX5_isSo_53 ?_
        refine hj_lv hX [2, 3, 4, 5, 1, 0] (lv2 := [(0, .ref 92), (1, .int v1), (2, .int v2), (3, .int v3), (4, .int (1 : Int32)), (5, .int (v5 + (1 : Int32)))]) rfl ?_
        exact hk6 _ _ _ _ _ _ h
set_option maxHeartbeats 4000000 in
set_option maxRecDepth 100000 in
theorem X5_isSo_l6_ok {p : Program} {l : Launch} {e : Env} {s : State} {m : MethodId} {args : Array Value} {below : List Frame} {meth : Method} {c : Code} {D : va_G} {E : Nat → ClassId} {b z : Nat} {sh : List hS} {r : Int32} {I2 : hM} (hX : hp_X p s m args meth c yX5_isSo.cls cX5_isSo 6 wsX5_isSo D E (some .boolean) yX5_isSo.name) (hf0 : hq_X5 sh) : ∀ (n : Nat) (v1 : Int32) (v2 : Int32) (v3 : Int32) (v4 : Int32) (v5 : Int32) (I : hM), X5_isSo_l6 n v1 v2 v3 v4 v5 I = some (r, I2) → hp_J p l e ({ frames := 2, cells := 0, slots := 0, locals := 44 * 2 }) s m args below meth c (MQ below (hp_Q D E b z (some (.int r)) sh I2) args s 0 0 (fun q : Nat => b ≤ q)) D E b z 6 sh 0 0 I 6 [(0, .ref 92), (1, .int v1), (2, .int v2), (3, .int v3), (4, .int v4), (5, .int v5)] [] := by
  intro n
  induction n with
  | zero => exact fun _ _ _ _ _ _ h => nomatch h
  | succ n ih => exact fun _ _ _ _ _ _ h => X5_isSo_h6_ok hX hf0 ih h
set_option maxHeartbeats 4000000 in
set_option maxRecDepth 100000 in
theorem X5_isSo_ok {sh : List hS} {r : Int32} {I I2 : hM} {v1 : Int32} {v2 : Int32} {v3 : Int32} (hf0 : hq_X5 sh) (h : X5_isSo v1 v2 v3 I = some (r, I2)) : hp_C yX5_isSo wsX5_isSo 2 0 0 sh I [.ref 92, .int v1, .int v2, .int v3] (some (.int r)) sh I2 := hp_start (cc := cX5_isSo) (maxL := 6) (ret := (some .boolean)) [(0, .ref 92), (1, .int v1), (2, .int v2), (3, .int v3)] (by decide) rfl (fun _ _ => rfl) (fun _ _ => Nat.le_of_ble_eq_true rfl) (fun p l e s m below meth c D E b z hX _ => by
  unfold X5_isSo at h
  refine hj_iconst hX (v := (1 : Int32)) (by decide) dX5_isSo_0 ?_
  refine hj_istore hX (Nat.le_of_ble_eq_true rfl) (lv2 := [(4, .int (1 : Int32)), (0, .ref 92), (1, .int v1), (2, .int v2), (3, .int v3)]) rfl dX5_isSo_1 ?_
  refine hj_iconst hX (v := (0 : Int32)) (by decide) dX5_isSo_3 ?_
  refine hj_istore hX (Nat.le_of_ble_eq_true rfl) (lv2 := [(5, .int (0 : Int32)), (4, .int (1 : Int32)), (0, .ref 92), (1, .int v1), (2, .int v2), (3, .int v3)]) rfl dX5_isSo_4 ?_
  refine hj_lv hX [2, 3, 4, 5, 1, 0] (lv2 := [(0, .ref 92), (1, .int v1), (2, .int v2), (3, .int v3), (4, .int (1 : Int32)), (5, .int (0 : Int32))]) rfl ?_
  exact X5_isSo_l6_ok hX hf0 hF _ _ _ _ _ _ h)
def X5_waning_b52 (k21 : Int32 → Int32 → Int32 → Int32 → hM → Option (Int32 × hM)) (k29 : Int32 → Int32 → Int32 → Int32 → Int32 → hM → Option (Int32 × hM)) (v1 : Int32) (v3 : Int32) (v4 : Int32) (v5 : Int32) (t0 : Int32) (t1 : Int32) (I : hM) : Option (Int32 × hM) := ob (X5_isSo (0 : Int32) v4 v5 I) (fun u7 Ia8 => if u7 = 0 then ((k29 v1 (t0 + t1) v3 v4 (v5 + (-1 : Int32)) Ia8)) else ((k29 v1 (t0 + t1) (((10 : Int32) * v4) + v5) v4 (v5 + (-1 : Int32)) Ia8)))
def X5_waning_h29 (k21 : Int32 → Int32 → Int32 → Int32 → hM → Option (Int32 × hM)) (k29 : Int32 → Int32 → Int32 → Int32 → Int32 → hM → Option (Int32 × hM)) (v1 : Int32) (v2 : Int32) (v3 : Int32) (v4 : Int32) (v5 : Int32) (I : hM) : Option (Int32 × hM) := if v5 < 0 then ((k21 v1 v2 v3 (v4 + (-1 : Int32)) I)) else (ob (X5_isSo (0 : Int32) v4 v5 I) (fun u4 Ia5 => if u4 = 0 then ((X5_waning_b52 k21 k29 v1 v3 v4 v5 v2 (0 : Int32) Ia5)) else ((X5_waning_b52 k21 k29 v1 v3 v4 v5 v2 (1 : Int32) Ia5))))
def X5_waning_l29 (k21 : Int32 → Int32 → Int32 → Int32 → hM → Option (Int32 × hM)) : Nat → Int32 → Int32 → Int32 → Int32 → Int32 → hM → Option (Int32 × hM)
  | 0 => fun _ _ _ _ _ _ => none
  | n + 1 => X5_waning_h29  k21 (X5_waning_l29  k21 n)
def X5_waning_b91 (v1 : Int32) (v2 : Int32) (v3 : Int32) (I : hM) : Option (Int32 × hM) := if v1 = 0 then (some (v2, I)) else (some (v3, I))
def X5_waning_h21 (k21 : Int32 → Int32 → Int32 → Int32 → hM → Option (Int32 × hM)) (v1 : Int32) (v2 : Int32) (v3 : Int32) (v4 : Int32) (I : hM) : Option (Int32 × hM) := if v4 < 0 then (X5_waning_b91 v1 v2 v3 I) else ((X5_waning_l29 k21 hF v1 v2 v3 v4 (5 : Int32) I))
def X5_waning_l21 : Nat → Int32 → Int32 → Int32 → Int32 → hM → Option (Int32 × hM)
  | 0 => fun _ _ _ _ _ => none
  | n + 1 => X5_waning_h21   (X5_waning_l21   n)
def X5_waning (v1 : Int32) (I : hM) : Option (Int32 × hM) := ob (X5_in (v1).toInt64 (0 : Int64) (1 : Int64) I) (fun u1 Ia2 => if u1 = 0 then (some ((-1 : Int32), Ia2)) else ((X5_waning_l21 hF v1 (0 : Int32) (-4 : Int32) (20 : Int32) Ia2)))
theorem X5_waning_hy : yX5_waning.cls = RX5 ∧ yX5_waning.cls ≠ "java/lang/invoke/MethodHandle" ∧ yX5_waning.cls ≠ "java/lang/invoke/VarHandle" ∧ (parseMethodDescriptor yX5_waning.desc).map (fun d => d.parameters.length) = some 1 := by decide +kernel
set_option maxHeartbeats 4000000 in
set_option maxRecDepth 100000 in
theorem X5_waning_b52_ok {p : Program} {l : Launch} {e : Env} {s : State} {m : MethodId} {args : Array Value} {below : List Frame} {meth : Method} {c : Code} {D : va_G} {E : Nat → ClassId} {b z : Nat} {sh : List hS} {r : Int32} {I2 : hM} {k21 : Int32 → Int32 → Int32 → Int32 → hM → Option (Int32 × hM)} {k29 : Int32 → Int32 → Int32 → Int32 → Int32 → hM → Option (Int32 × hM)} {v1 : Int32} {v3 : Int32} {v4 : Int32} {v5 : Int32} {t0 : Int32} {t1 : Int32} {I : hM} (hX : hp_X p s m args meth c yX5_waning.cls cX5_waning 6 wsX5_waning D E (some .int) yX5_waning.name) (hf0 : hq_X5 sh) (hk21 : ∀ (v1 : Int32) (v2 : Int32) (v3 : Int32) (v4 : Int32) (I : hM), k21 v1 v2 v3 v4 I = some (r, I2) → hp_J p l e ({ frames := 3, cells := 0, slots := 0, locals := 44 * 3 }) s m args below meth c (MQ below (hp_Q D E b z (some (.int r)) sh I2) args s 0 0 (fun q : Nat => b ≤ q)) D E b z 6 sh 0 0 I 21 [(0, .ref 92), (1, .int v1), (2, .int v2), (3, .int v3), (4, .int v4)] []) (hk29 : ∀ (v1 : Int32) (v2 : Int32) (v3 : Int32) (v4 : Int32) (v5 : Int32) (I : hM), k29 v1 v2 v3 v4 v5 I = some (r, I2) → hp_J p l e ({ frames := 3, cells := 0, slots := 0, locals := 44 * 3 }) s m args below meth c (MQ below (hp_Q D E b z (some (.int r)) sh I2) args s 0 0 (fun q : Nat => b ≤ q)) D E b z 6 sh 0 0 I 29 [(0, .ref 92), (1, .int v1), (2, .int v2), (3, .int v3), (4, .int v4), (5, .int v5)] []) (h : X5_waning_b52 k21 k29 v1 v3 v4 v5 t0 t1 I = some (r, I2)) : hp_J p l e ({ frames := 3, cells := 0, slots := 0, locals := 44 * 3 }) s m args below meth c (MQ below (hp_Q D E b z (some (.int r)) sh I2) args s 0 0 (fun q : Nat => b ≤ q)) D E b z 6 sh 0 0 I 52 [(0, .ref 92), (1, .int v1), (3, .int v3), (4, .int v4), (5, .int v5)] [.int t1, .int t0] := by
  unfold X5_waning_b52 at h
  refine hj_iadd hX dX5_waning_52 ?_
  refine hj_istore_n hX rfl (Nat.le_of_ble_eq_true rfl) (lv2 := [(2, .int (t0 + t1)), (0, .ref 92), (1, .int v1), (3, .int v3), (4, .int v4), (5, .int v5)]) rfl dX5_waning_53 ?_
  refine hj_aload_n hX rfl 1 rfl dX5_waning_54 ?_
  refine hj_iconst hX (v := (0 : Int32)) (by decide) dX5_waning_55 ?_
  refine hj_iload hX 4 rfl dX5_waning_56 ?_
  refine hj_iload hX 5 rfl dX5_waning_58 ?_
  obtain ⟨u7, Ia8, hc9, h⟩ := ob_e h
  refine hj_callV hX (sh2 := sh) (I2 := Ia8) (r := (some (.int u7))) (As := [.int (0 : Int32), .int v4, .int v5]) (rest := []) (st2 := [.int u7]) (X5_isSo_ok hf0 hc9) gX5_waning_X5_isSo rfl X5_isSo_hy ⟨(Nat.le_of_ble_eq_true rfl), (Nat.le_of_ble_eq_true rfl)⟩ rfl hf0.1 rfl (Nat.le_of_ble_eq_true rfl) ⟨(Nat.le_of_ble_eq_true rfl), (Nat.le_of_ble_eq_true rfl)⟩ rfl rfl rfl dX5_waning_60 ?_
  refine hj_if_eq hX (tgt := 77) (by decide) dX5_waning_63 h (fun h => ?_) (fun h => ?_)
  · refine hj_iload_n hX rfl 3 rfl dX5_waning_77 ?_
    refine hj_istore_n hX rfl (Nat.le_of_ble_eq_true rfl) (lv2 := [(3, .int v3), (2, .int (t0 + t1)), (0, .ref 92), (1, .int v1), (4, .int v4), (5, .int v5)]) rfl dX5_waning_78 ?_
    refine hj_iinc hX (k1 := 5) (v := (v5 + (-1 : Int32))) rfl (congrArg (fun q => v5 + q) (by decide : Int32.ofInt (-1) = (-1 : Int32))) (Nat.le_of_ble_eq_true rfl) (lv2 := [(5, .int (v5 + (-1 : Int32))), (3, .int v3), (2, .int (t0 + t1)), (0, .ref 92), (1, .int v1), (4, .int v4)]) rfl dX5_waning_79 ?_
    refine hj_goto hX (tgt := 29) (by decide) dX5_waning_82 ?_
    refine hj_lv hX [3, 4, 2, 1, 5, 0] (lv2 := [(0, .ref 92), (1, .int v1), (2, .int (t0 + t1)), (3, .int v3), (4, .int v4), (5, .int (v5 + (-1 : Int32)))]) rfl ?_
    exact hk29 _ _ _ _ _ _ h
  · refine hj_bipush hX (v := (10 : Int32)) (by decide) dX5_waning_66 ?_
    refine hj_iload hX 4 rfl dX5_waning_68 ?_
    refine hj_imul hX dX5_waning_70 ?_
    refine hj_iload hX 5 rfl dX5_waning_71 ?_
    refine hj_iadd hX dX5_waning_73 ?_
    refine hj_goto hX (tgt := 78) (by decide) dX5_waning_74 ?_
    refine hj_istore_n hX rfl (Nat.le_of_ble_eq_true rfl) (lv2 := [(3, .int (((10 : Int32) * v4) + v5)), (2, .int (t0 + t1)), (0, .ref 92), (1, .int v1), (4, .int v4), (5, .int v5)]) rfl dX5_waning_78 ?_
    refine hj_iinc hX (k1 := 5) (v := (v5 + (-1 : Int32))) rfl (congrArg (fun q => v5 + q) (by decide : Int32.ofInt (-1) = (-1 : Int32))) (Nat.le_of_ble_eq_true rfl) (lv2 := [(5, .int (v5 + (-1 : Int32))), (3, .int (((10 : Int32) * v4) + v5)), (2, .int (t0 + t1)), (0, .ref 92), (1, .int v1), (4, .int v4)]) rfl dX5_waning_79 ?_
    refine hj_goto hX (tgt := 29) (by decide) dX5_waning_82 ?_
    refine hj_lv hX [3, 4, 2, 1, 5, 0] (lv2 := [(0, .ref 92), (1, .int v1), (2, .int (t0 + t1)), (3, .int (((10 : Int32) * v4) + v5)), (4, .int v4), (5, .int (v5 + (-1 : Int32)))]) rfl ?_
    exact hk29 _ _ _ _ _ _ h
set_option maxHeartbeats 4000000 in
set_option maxRecDepth 100000 in
theorem X5_waning_h29_ok {p : Program} {l : Launch} {e : Env} {s : State} {m : MethodId} {args : Array Value} {below : List Frame} {meth : Method} {c : Code} {D : va_G} {E : Nat → ClassId} {b z : Nat} {sh : List hS} {r : Int32} {I2 : hM} {k21 : Int32 → Int32 → Int32 → Int32 → hM → Option (Int32 × hM)} {k29 : Int32 → Int32 → Int32 → Int32 → Int32 → hM → Option (Int32 × hM)} {v1 : Int32} {v2 : Int32} {v3 : Int32} {v4 : Int32} {v5 : Int32} {I : hM} (hX : hp_X p s m args meth c yX5_waning.cls cX5_waning 6 wsX5_waning D E (some .int) yX5_waning.name) (hf0 : hq_X5 sh) (hk21 : ∀ (v1 : Int32) (v2 : Int32) (v3 : Int32) (v4 : Int32) (I : hM), k21 v1 v2 v3 v4 I = some (r, I2) → hp_J p l e ({ frames := 3, cells := 0, slots := 0, locals := 44 * 3 }) s m args below meth c (MQ below (hp_Q D E b z (some (.int r)) sh I2) args s 0 0 (fun q : Nat => b ≤ q)) D E b z 6 sh 0 0 I 21 [(0, .ref 92), (1, .int v1), (2, .int v2), (3, .int v3), (4, .int v4)] []) (hk29 : ∀ (v1 : Int32) (v2 : Int32) (v3 : Int32) (v4 : Int32) (v5 : Int32) (I : hM), k29 v1 v2 v3 v4 v5 I = some (r, I2) → hp_J p l e ({ frames := 3, cells := 0, slots := 0, locals := 44 * 3 }) s m args below meth c (MQ below (hp_Q D E b z (some (.int r)) sh I2) args s 0 0 (fun q : Nat => b ≤ q)) D E b z 6 sh 0 0 I 29 [(0, .ref 92), (1, .int v1), (2, .int v2), (3, .int v3), (4, .int v4), (5, .int v5)] []) (h : X5_waning_h29 k21 k29 v1 v2 v3 v4 v5 I = some (r, I2)) : hp_J p l e ({ frames := 3, cells := 0, slots := 0, locals := 44 * 3 }) s m args below meth c (MQ below (hp_Q D E b z (some (.int r)) sh I2) args s 0 0 (fun q : Nat => b ≤ q)) D E b z 6 sh 0 0 I 29 [(0, .ref 92), (1, .int v1), (2, .int v2), (3, .int v3), (4, .int v4), (5, .int v5)] [] := by
  unfold X5_waning_h29 at h
  refine hj_iload hX 5 rfl dX5_waning_29 ?_
  refine hj_if_lt hX (tgt := 85) (by decide) dX5_waning_31 h (fun h => ?_) (fun h => ?_)
  · refine hj_iinc hX (k1 := 4) (v := (v4 + (-1 : Int32))) rfl (congrArg (fun q => v4 + q) (by decide : Int32.ofInt (-1) = (-1 : Int32))) (Nat.le_of_ble_eq_true rfl) (lv2 := [(4, .int (v4 + (-1 : Int32))), (0, .ref 92), (1, .int v1), (2, .int v2), (3, .int v3), (5, .int v5)]) rfl dX5_waning_85 ?_
    refine hj_goto hX (tgt := 21) (by decide) dX5_waning_88 ?_
    refine hj_lv hX [1, 2, 3, 4, 0] (lv2 := [(0, .ref 92), (1, .int v1), (2, .int v2), (3, .int v3), (4, .int (v4 + (-1 : Int32)))]) rfl ?_
    exact hk21 _ _ _ _ _ h
  · refine hj_iload_n hX rfl 2 rfl dX5_waning_34 ?_
    refine hj_aload_n hX rfl 0 rfl dX5_waning_35 ?_
    refine hj_iconst hX (v := (0 : Int32)) (by decide) dX5_waning_36 ?_
    refine hj_iload hX 4 rfl dX5_waning_37 ?_
    refine hj_iload hX 5 rfl dX5_waning_39 ?_
    obtain ⟨u4, Ia5, hc6, h⟩ := ob_e h
    refine hj_callV hX (sh2 := sh) (I2 := Ia5) (r := (some (.int u4))) (As := [.int (0 : Int32), .int v4, .int v5]) (rest := [.int v2]) (st2 := [.int u4, .int v2]) (X5_isSo_ok hf0 hc6) gX5_waning_X5_isSo rfl X5_isSo_hy ⟨(Nat.le_of_ble_eq_true rfl), (Nat.le_of_ble_eq_true rfl)⟩ rfl hf0.1 rfl (Nat.le_of_ble_eq_true rfl) ⟨(Nat.le_of_ble_eq_true rfl), (Nat.le_of_ble_eq_true rfl)⟩ rfl rfl rfl dX5_waning_41 ?_
    refine hj_if_eq hX (tgt := 51) (by decide) dX5_waning_44 h (fun h => ?_) (fun h => ?_)
    · refine hj_iconst hX (v := (0 : Int32)) (by decide) dX5_waning_51 ?_
      refine hj_lv hX [0, 1, 3, 4, 5] (lv2 := [(0, .ref 92), (1, .int v1), (3, .int v3), (4, .int v4), (5, .int v5)]) rfl ?_
      exact X5_waning_b52_ok hX hf0 hk21 hk29 h
    · refine hj_iconst hX (v := (1 : Int32)) (by decide) dX5_waning_47 ?_
      refine hj_goto hX (tgt := 52) (by decide) dX5_waning_48 ?_
      refine hj_lv hX [0, 1, 3, 4, 5] (lv2 := [(0, .ref 92), (1, .int v1), (3, .int v3), (4, .int v4), (5, .int v5)]) rfl ?_
      exact X5_waning_b52_ok hX hf0 hk21 hk29 h
set_option maxHeartbeats 4000000 in
set_option maxRecDepth 100000 in
theorem X5_waning_l29_ok {p : Program} {l : Launch} {e : Env} {s : State} {m : MethodId} {args : Array Value} {below : List Frame} {meth : Method} {c : Code} {D : va_G} {E : Nat → ClassId} {b z : Nat} {sh : List hS} {r : Int32} {I2 : hM} {k21 : Int32 → Int32 → Int32 → Int32 → hM → Option (Int32 × hM)} (hX : hp_X p s m args meth c yX5_waning.cls cX5_waning 6 wsX5_waning D E (some .int) yX5_waning.name) (hf0 : hq_X5 sh) (hk21 : ∀ (v1 : Int32) (v2 : Int32) (v3 : Int32) (v4 : Int32) (I : hM), k21 v1 v2 v3 v4 I = some (r, I2) → hp_J p l e ({ frames := 3, cells := 0, slots := 0, locals := 44 * 3 }) s m args below meth c (MQ below (hp_Q D E b z (some (.int r)) sh I2) args s 0 0 (fun q : Nat => b ≤ q)) D E b z 6 sh 0 0 I 21 [(0, .ref 92), (1, .int v1), (2, .int v2), (3, .int v3), (4, .int v4)] []) : ∀ (n : Nat) (v1 : Int32) (v2 : Int32) (v3 : Int32) (v4 : Int32) (v5 : Int32) (I : hM), X5_waning_l29 k21 n v1 v2 v3 v4 v5 I = some (r, I2) → hp_J p l e ({ frames := 3, cells := 0, slots := 0, locals := 44 * 3 }) s m args below meth c (MQ below (hp_Q D E b z (some (.int r)) sh I2) args s 0 0 (fun q : Nat => b ≤ q)) D E b z 6 sh 0 0 I 29 [(0, .ref 92), (1, .int v1), (2, .int v2), (3, .int v3), (4, .int v4), (5, .int v5)] [] := by
  intro n
  induction n with
  | zero => exact fun _ _ _ _ _ _ h => nomatch h
  | succ n ih => exact fun _ _ _ _ _ _ h => X5_waning_h29_ok hX hf0 hk21 ih h
set_option maxHeartbeats 4000000 in
set_option maxRecDepth 100000 in
theorem X5_waning_b91_ok {p : Program} {l : Launch} {e : Env} {s : State} {m : MethodId} {args : Array Value} {below : List Frame} {meth : Method} {c : Code} {D : va_G} {E : Nat → ClassId} {b z : Nat} {sh : List hS} {r : Int32} {I2 : hM} {v1 : Int32} {v2 : Int32} {v3 : Int32} {I : hM} (hX : hp_X p s m args meth c yX5_waning.cls cX5_waning 6 wsX5_waning D E (some .int) yX5_waning.name) (hf0 : hq_X5 sh) (h : X5_waning_b91 v1 v2 v3 I = some (r, I2)) : hp_J p l e ({ frames := 3, cells := 0, slots := 0, locals := 44 * 3 }) s m args below meth c (MQ below (hp_Q D E b z (some (.int r)) sh I2) args s 0 0 (fun q : Nat => b ≤ q)) D E b z 6 sh 0 0 I 91 [(1, .int v1), (2, .int v2), (3, .int v3)] [] := by
  unfold X5_waning_b91 at h
  refine hj_iload_n hX rfl 0 rfl dX5_waning_91 ?_
  refine hj_if_ne hX (tgt := 99) (by decide) dX5_waning_92 h (fun h => ?_) (fun h => ?_)
  · refine hj_iload_n hX rfl 2 rfl dX5_waning_99 ?_
    exact hj_iret hX dX5_waning_100 h
  · refine hj_iload_n hX rfl 1 rfl dX5_waning_95 ?_
    refine hj_goto hX (tgt := 100) (by decide) dX5_waning_96 ?_
    exact hj_iret hX dX5_waning_100 h
set_option maxHeartbeats 4000000 in
set_option maxRecDepth 100000 in
theorem X5_waning_h21_ok {p : Program} {l : Launch} {e : Env} {s : State} {m : MethodId} {args : Array Value} {below : List Frame} {meth : Method} {c : Code} {D : va_G} {E : Nat → ClassId} {b z : Nat} {sh : List hS} {r : Int32} {I2 : hM} {k21 : Int32 → Int32 → Int32 → Int32 → hM → Option (Int32 × hM)} {v1 : Int32} {v2 : Int32} {v3 : Int32} {v4 : Int32} {I : hM} (hX : hp_X p s m args meth c yX5_waning.cls cX5_waning 6 wsX5_waning D E (some .int) yX5_waning.name) (hf0 : hq_X5 sh) (hk21 : ∀ (v1 : Int32) (v2 : Int32) (v3 : Int32) (v4 : Int32) (I : hM), k21 v1 v2 v3 v4 I = some (r, I2) → hp_J p l e ({ frames := 3, cells := 0, slots := 0, locals := 44 * 3 }) s m args below meth c (MQ below (hp_Q D E b z (some (.int r)) sh I2) args s 0 0 (fun q : Nat => b ≤ q)) D E b z 6 sh 0 0 I 21 [(0, .ref 92), (1, .int v1), (2, .int v2), (3, .int v3), (4, .int v4)] []) (h : X5_waning_h21 k21 v1 v2 v3 v4 I = some (r, I2)) : hp_J p l e ({ frames := 3, cells := 0, slots := 0, locals := 44 * 3 }) s m args below meth c (MQ below (hp_Q D E b z (some (.int r)) sh I2) args s 0 0 (fun q : Nat => b ≤ q)) D E b z 6 sh 0 0 I 21 [(0, .ref 92), (1, .int v1), (2, .int v2), (3, .int v3), (4, .int v4)] [] := by
  unfold X5_waning_h21 at h
  refine hj_iload hX 4 rfl dX5_waning_21 ?_
  refine hj_if_lt hX (tgt := 91) (by decide) dX5_waning_23 h (fun h => ?_) (fun h => ?_)
  · refine hj_lv hX [1, 2, 3] (lv2 := [(1, .int v1), (2, .int v2), (3, .int v3)]) rfl ?_
    exact X5_waning_b91_ok hX hf0 h
  · refine hj_iconst hX (v := (5 : Int32)) (by decide) dX5_waning_26 ?_
    refine hj_istore hX (Nat.le_of_ble_eq_true rfl) (lv2 := [(5, .int (5 : Int32)), (0, .ref 92), (1, .int v1), (2, .int v2), (3, .int v3), (4, .int v4)]) rfl dX5_waning_27 ?_
    refine hj_lv hX [1, 2, 3, 4, 5, 0] (lv2 := [(0, .ref 92), (1, .int v1), (2, .int v2), (3, .int v3), (4, .int v4), (5, .int (5 : Int32))]) rfl ?_
    exact X5_waning_l29_ok hX hf0 hk21 hF _ _ _ _ _ _ h
set_option maxHeartbeats 4000000 in
set_option maxRecDepth 100000 in
theorem X5_waning_l21_ok {p : Program} {l : Launch} {e : Env} {s : State} {m : MethodId} {args : Array Value} {below : List Frame} {meth : Method} {c : Code} {D : va_G} {E : Nat → ClassId} {b z : Nat} {sh : List hS} {r : Int32} {I2 : hM} (hX : hp_X p s m args meth c yX5_waning.cls cX5_waning 6 wsX5_waning D E (some .int) yX5_waning.name) (hf0 : hq_X5 sh) : ∀ (n : Nat) (v1 : Int32) (v2 : Int32) (v3 : Int32) (v4 : Int32) (I : hM), X5_waning_l21 n v1 v2 v3 v4 I = some (r, I2) → hp_J p l e ({ frames := 3, cells := 0, slots := 0, locals := 44 * 3 }) s m args below meth c (MQ below (hp_Q D E b z (some (.int r)) sh I2) args s 0 0 (fun q : Nat => b ≤ q)) D E b z 6 sh 0 0 I 21 [(0, .ref 92), (1, .int v1), (2, .int v2), (3, .int v3), (4, .int v4)] [] := by
  intro n
  induction n with
  | zero => exact fun _ _ _ _ _ h => nomatch h
  | succ n ih => exact fun _ _ _ _ _ h => X5_waning_h21_ok hX hf0 ih h
set_option maxHeartbeats 4000000 in
set_option maxRecDepth 100000 in
theorem X5_waning_ok {sh : List hS} {r : Int32} {I I2 : hM} {v1 : Int32} (hf0 : hq_X5 sh) (h : X5_waning v1 I = some (r, I2)) : hp_C yX5_waning wsX5_waning 3 0 0 sh I [.ref 92, .int v1] (some (.int r)) sh I2 := hp_start (cc := cX5_waning) (maxL := 6) (ret := (some .int)) [(0, .ref 92), (1, .int v1)] (by decide) rfl (fun _ _ => rfl) (fun _ _ => Nat.le_of_ble_eq_true rfl) (fun p l e s m below meth c D E b z hX _ => by
  unfold X5_waning at h
  refine hj_iload_n hX rfl 1 rfl dX5_waning_0 ?_
  refine hj_i2l hX dX5_waning_1 ?_
  refine hj_lconst hX (v := (0 : Int64)) (by decide) dX5_waning_2 ?_
  refine hj_lconst hX (v := (1 : Int64)) (by decide) dX5_waning_3 ?_
  obtain ⟨u1, Ia2, hc3, h⟩ := ob_e h
  refine hj_callS hX (sh2 := sh) (I2 := Ia2) (r := (some (.int u1))) (As := [.long (v1).toInt64, .long (0 : Int64), .long (1 : Int64)]) (rest := []) (st2 := [.int u1]) (X5_in_ok hc3) gX5_waning_X5_in rfl X5_in_hy.2 ⟨(Nat.le_of_ble_eq_true rfl), (Nat.le_of_ble_eq_true rfl)⟩ rfl (Nat.le_of_ble_eq_true rfl) ⟨(Nat.le_of_ble_eq_true rfl), (Nat.le_of_ble_eq_true rfl)⟩ rfl rfl rfl dX5_waning_4 ?_
  refine hj_if_ne hX (tgt := 12) (by decide) dX5_waning_7 h (fun h => ?_) (fun h => ?_)
  · refine hj_iconst hX (v := (0 : Int32)) (by decide) dX5_waning_12 ?_
    refine hj_istore_n hX rfl (Nat.le_of_ble_eq_true rfl) (lv2 := [(2, .int (0 : Int32)), (0, .ref 92), (1, .int v1)]) rfl dX5_waning_13 ?_
    refine hj_bipush hX (v := (-4 : Int32)) (by decide) dX5_waning_14 ?_
    refine hj_istore_n hX rfl (Nat.le_of_ble_eq_true rfl) (lv2 := [(3, .int (-4 : Int32)), (2, .int (0 : Int32)), (0, .ref 92), (1, .int v1)]) rfl dX5_waning_16 ?_
    refine hj_bipush hX (v := (20 : Int32)) (by decide) dX5_waning_17 ?_
    refine hj_istore hX (Nat.le_of_ble_eq_true rfl) (lv2 := [(4, .int (20 : Int32)), (3, .int (-4 : Int32)), (2, .int (0 : Int32)), (0, .ref 92), (1, .int v1)]) rfl dX5_waning_19 ?_
    refine hj_lv hX [3, 4, 2, 1, 0] (lv2 := [(0, .ref 92), (1, .int v1), (2, .int (0 : Int32)), (3, .int (-4 : Int32)), (4, .int (20 : Int32))]) rfl ?_
    exact X5_waning_l21_ok hX hf0 hF _ _ _ _ _ h
  · refine hj_iconst hX (v := (-1 : Int32)) (by decide) dX5_waning_10 ?_
    exact hj_iret hX dX5_waning_11 h)
def X5_kinds_h14 (k14 : Int32 → Int32 → Int32 → hM → Option (Int32 × hM)) (v1 : Int32) (v2 : Int32) (v3 : Int32) (I : hM) : Option (Int32 × hM) := if (4 : Int32) ≤ v3 then (some (v2, I)) else (gd (hx v1 7) (gd (hx v1 7) (ob (X5_isSo v3 (I 95 (v1).toNatClampNeg) (I 96 (v1).toNatClampNeg) I) (fun u4 Ia5 => if u4 = 0 then ((k14 v1 (v2 ||| (0 : Int32)) (v3 + (1 : Int32)) Ia5)) else ((k14 v1 (v2 ||| ((1 : Int32) <<< (v3 &&& 31))) (v3 + (1 : Int32)) Ia5))))))
def X5_kinds_l14 : Nat → Int32 → Int32 → Int32 → hM → Option (Int32 × hM)
  | 0 => fun _ _ _ _ => none
  | n + 1 => X5_kinds_h14   (X5_kinds_l14   n)
def X5_kinds (v1 : Int32) (I : hM) : Option (Int32 × hM) := ob (X5_isGoing v1 I) (fun u1 Ia2 => if u1 = 0 then (some ((-1 : Int32), Ia2)) else ((X5_kinds_l14 hF v1 (0 : Int32) (0 : Int32) Ia2)))
theorem X5_kinds_hy : yX5_kinds.cls = RX5 ∧ yX5_kinds.cls ≠ "java/lang/invoke/MethodHandle" ∧ yX5_kinds.cls ≠ "java/lang/invoke/VarHandle" ∧ (parseMethodDescriptor yX5_kinds.desc).map (fun d => d.parameters.length) = some 1 := by decide +kernel
theorem X5_kinds_k16 : Cond.fieldLink RX5 16 "HatPinsModel" "joy" "[I" ∈ wsX5_kinds := by decide +kernel
theorem X5_kinds_k19 : Cond.fieldLink RX5 19 "HatPinsModel" "wane" "[I" ∈ wsX5_kinds := by decide +kernel
theorem X5_kinds_w5 : ∀ w ∈ wsX50, w ∈ wsX5_kinds := by decide +kernel
set_option maxHeartbeats 4000000 in
set_option maxRecDepth 100000 in
theorem X5_kinds_h14_ok {p : Program} {l : Launch} {e : Env} {s : State} {m : MethodId} {args : Array Value} {below : List Frame} {meth : Method} {c : Code} {D : va_G} {E : Nat → ClassId} {b z : Nat} {sh : List hS} {r : Int32} {I2 : hM} {k14 : Int32 → Int32 → Int32 → hM → Option (Int32 × hM)} {v1 : Int32} {v2 : Int32} {v3 : Int32} {I : hM} (hX : hp_X p s m args meth c yX5_kinds.cls cX5_kinds 4 wsX5_kinds D E (some .int) yX5_kinds.name) (hf0 : hq_X5 sh) (hk14 : ∀ (v1 : Int32) (v2 : Int32) (v3 : Int32) (I : hM), k14 v1 v2 v3 I = some (r, I2) → hp_J p l e ({ frames := 3, cells := 0, slots := 0, locals := 44 * 3 }) s m args below meth c (MQ below (hp_Q D E b z (some (.int r)) sh I2) args s 0 0 (fun q : Nat => b ≤ q)) D E b z 4 sh 0 0 I 14 [(0, .ref 92), (1, .int v1), (2, .int v2), (3, .int v3)] []) (h : X5_kinds_h14 k14 v1 v2 v3 I = some (r, I2)) : hp_J p l e ({ frames := 3, cells := 0, slots := 0, locals := 44 * 3 }) s m args below meth c (MQ below (hp_Q D E b z (some (.int r)) sh I2) args s 0 0 (fun q : Nat => b ≤ q)) D E b z 4 sh 0 0 I 14 [(0, .ref 92), (1, .int v1), (2, .int v2), (3, .int v3)] [] := by
  unfold X5_kinds_h14 at h
  refine hj_iload_n hX rfl 3 rfl dX5_kinds_14 ?_
  refine hj_iconst hX (v := (4 : Int32)) (by decide) dX5_kinds_15 ?_
  refine hj_icmp_ge hX (tgt := 55) (by decide) dX5_kinds_16 h (fun h => ?_) (fun h => ?_)
  · refine hj_iload_n hX rfl 2 rfl dX5_kinds_55 ?_
    exact hj_iret hX dX5_kinds_56 h
  · refine hj_iload_n hX rfl 2 rfl dX5_kinds_19 ?_
    refine hj_aload_n hX rfl 0 rfl dX5_kinds_20 ?_
    refine hj_iload_n hX rfl 3 rfl dX5_kinds_21 ?_
    refine hj_aload_n hX rfl 0 rfl dX5_kinds_22 ?_
    refine hj_getr hX (j := 3) hf0.1 rfl rfl X5_kinds_w5 (Nat.le_of_ble_eq_true rfl) rfl X5_kinds_k16 dX5_kinds_23 ?_
    refine hj_iload_n hX rfl 1 rfl dX5_kinds_26 ?_
    refine hj_iald hX hf0.2.2.2.1 dX5_kinds_27 h (fun h => ?_)
    refine hj_aload_n hX rfl 0 rfl dX5_kinds_28 ?_
    refine hj_getr hX (j := 4) hf0.1 rfl rfl X5_kinds_w5 (Nat.le_of_ble_eq_true rfl) rfl X5_kinds_k19 dX5_kinds_29 ?_
    refine hj_iload_n hX rfl 1 rfl dX5_kinds_32 ?_
    refine hj_iald hX hf0.2.2.2.2.1 dX5_kinds_33 h (fun h => ?_)
    obtain ⟨u4, Ia5, hc6, h⟩ := ob_e h
    refine hj_callV hX (sh2 := sh) (I2 := Ia5) (r := (some (.int u4))) (As := [.int v3, .int (I 95 (v1).toNatClampNeg), .int (I 96 (v1).toNatClampNeg)]) (rest := [.int v2]) (st2 := [.int u4, .int v2]) (X5_isSo_ok hf0 hc6) gX5_kinds_X5_isSo rfl X5_isSo_hy ⟨(Nat.le_of_ble_eq_true rfl), (Nat.le_of_ble_eq_true rfl)⟩ rfl hf0.1 rfl (Nat.le_of_ble_eq_true rfl) ⟨(Nat.le_of_ble_eq_true rfl), (Nat.le_of_ble_eq_true rfl)⟩ rfl rfl rfl dX5_kinds_34 ?_
    refine hj_if_eq hX (tgt := 46) (by decide) dX5_kinds_37 h (fun h => ?_) (fun h => ?_)
    · refine hj_iconst hX (v := (0 : Int32)) (by decide) dX5_kinds_46 ?_
      refine hj_ior hX dX5_kinds_47 ?_
      refine hj_istore_n hX rfl (Nat.le_of_ble_eq_true rfl) (lv2 := [(2, .int (v2 ||| (0 : Int32))), (0, .ref 92), (1, .int v1), (3, .int v3)]) rfl dX5_kinds_48 ?_
      refine hj_iinc hX (k1 := 3) (v := (v3 + (1 : Int32))) rfl rfl (Nat.le_of_ble_eq_true rfl) (lv2 := [(3, .int (v3 + (1 : Int32))), (2, .int (v2 ||| (0 : Int32))), (0, .ref 92), (1, .int v1)]) rfl dX5_kinds_49 ?_
      refine hj_goto hX (tgt := 14) (by decide) dX5_kinds_52 ?_
      refine hj_lv hX [2, 3, 1, 0] (lv2 := [(0, .ref 92), (1, .int v1), (2, .int (v2 ||| (0 : Int32))), (3, .int (v3 + (1 : Int32)))]) rfl ?_
      exact hk14 _ _ _ _ h
    · refine hj_iconst hX (v := (1 : Int32)) (by decide) dX5_kinds_40 ?_
      refine hj_iload_n hX rfl 3 rfl dX5_kinds_41 ?_
      refine hj_ishl hX dX5_kinds_42 ?_
      refine hj_goto hX (tgt := 47) (by decide) dX5_kinds_43 ?_
      refine hj_ior hX dX5_kinds_47 ?_
      refine hj_istore_n hX rfl (Nat.le_of_ble_eq_true rfl) (lv2 := [(2, .int (v2 ||| ((1 : Int32) <<< (v3 &&& 31)))), (0, .ref 92), (1, .int v1), (3, .int v3)]) rfl dX5_kinds_48 ?_
      refine hj_iinc hX (k1 := 3) (v := (v3 + (1 : Int32))) rfl rfl (Nat.le_of_ble_eq_true rfl) (lv2 := [(3, .int (v3 + (1 : Int32))), (2, .int (v2 ||| ((1 : Int32) <<< (v3 &&& 31)))), (0, .ref 92), (1, .int v1)]) rfl dX5_kinds_49 ?_
      refine hj_goto hX (tgt := 14) (by decide) dX5_kinds_52 ?_
      refine hj_lv hX [2, 3, 1, 0] (lv2 := [(0, .ref 92), (1, .int v1), (2, .int (v2 ||| ((1 : Int32) <<< (v3 &&& 31)))), (3, .int (v3 + (1 : Int32)))]) rfl ?_
      exact hk14 _ _ _ _ h
set_option maxHeartbeats 4000000 in
set_option maxRecDepth 100000 in
theorem X5_kinds_l14_ok {p : Program} {l : Launch} {e : Env} {s : State} {m : MethodId} {args : Array Value} {below : List Frame} {meth : Method} {c : Code} {D : va_G} {E : Nat → ClassId} {b z : Nat} {sh : List hS} {r : Int32} {I2 : hM} (hX : hp_X p s m args meth c yX5_kinds.cls cX5_kinds 4 wsX5_kinds D E (some .int) yX5_kinds.name) (hf0 : hq_X5 sh) : ∀ (n : Nat) (v1 : Int32) (v2 : Int32) (v3 : Int32) (I : hM), X5_kinds_l14 n v1 v2 v3 I = some (r, I2) → hp_J p l e ({ frames := 3, cells := 0, slots := 0, locals := 44 * 3 }) s m args below meth c (MQ below (hp_Q D E b z (some (.int r)) sh I2) args s 0 0 (fun q : Nat => b ≤ q)) D E b z 4 sh 0 0 I 14 [(0, .ref 92), (1, .int v1), (2, .int v2), (3, .int v3)] [] := by
  intro n
  induction n with
  | zero => exact fun _ _ _ _ h => nomatch h
  | succ n ih => exact fun _ _ _ _ h => X5_kinds_h14_ok hX hf0 ih h
set_option maxHeartbeats 4000000 in
set_option maxRecDepth 100000 in
theorem X5_kinds_ok {sh : List hS} {r : Int32} {I I2 : hM} {v1 : Int32} (hf0 : hq_X5 sh) (h : X5_kinds v1 I = some (r, I2)) : hp_C yX5_kinds wsX5_kinds 3 0 0 sh I [.ref 92, .int v1] (some (.int r)) sh I2 := hp_start (cc := cX5_kinds) (maxL := 4) (ret := (some .int)) [(0, .ref 92), (1, .int v1)] (by decide) rfl (fun _ _ => rfl) (fun _ _ => Nat.le_of_ble_eq_true rfl) (fun p l e s m below meth c D E b z hX _ => by
  unfold X5_kinds at h
  refine hj_aload_n hX rfl 0 rfl dX5_kinds_0 ?_
  refine hj_iload_n hX rfl 1 rfl dX5_kinds_1 ?_
  obtain ⟨u1, Ia2, hc3, h⟩ := ob_e h
  refine hj_callV hX (sh2 := sh) (I2 := Ia2) (r := (some (.int u1))) (As := [.int v1]) (rest := []) (st2 := [.int u1]) (X5_isGoing_ok hf0 hc3) gX5_kinds_X5_isGoing rfl X5_isGoing_hy ⟨(Nat.le_of_ble_eq_true rfl), (Nat.le_of_ble_eq_true rfl)⟩ rfl hf0.1 rfl (Nat.le_of_ble_eq_true rfl) ⟨(Nat.le_of_ble_eq_true rfl), (Nat.le_of_ble_eq_true rfl)⟩ rfl rfl rfl dX5_kinds_2 ?_
  refine hj_if_ne hX (tgt := 10) (by decide) dX5_kinds_5 h (fun h => ?_) (fun h => ?_)
  · refine hj_iconst hX (v := (0 : Int32)) (by decide) dX5_kinds_10 ?_
    refine hj_istore_n hX rfl (Nat.le_of_ble_eq_true rfl) (lv2 := [(2, .int (0 : Int32)), (0, .ref 92), (1, .int v1)]) rfl dX5_kinds_11 ?_
    refine hj_iconst hX (v := (0 : Int32)) (by decide) dX5_kinds_12 ?_
    refine hj_istore_n hX rfl (Nat.le_of_ble_eq_true rfl) (lv2 := [(3, .int (0 : Int32)), (2, .int (0 : Int32)), (0, .ref 92), (1, .int v1)]) rfl dX5_kinds_13 ?_
    refine hj_lv hX [2, 3, 1, 0] (lv2 := [(0, .ref 92), (1, .int v1), (2, .int (0 : Int32)), (3, .int (0 : Int32))]) rfl ?_
    exact X5_kinds_l14_ok hX hf0 hF _ _ _ _ h
  · refine hj_iconst hX (v := (-1 : Int32)) (by decide) dX5_kinds_8 ?_
    exact hj_iret hX dX5_kinds_9 h)
def X5_isSoon (v1 : Int32) (I : hM) : Option (Int32 × hM) := gd (hx v1 240) (if (I 113 (v1).toNatClampNeg) = 0 then (gd (hx ((7 : Int32) + v1) 240) (if (I 113 (((7 : Int32) + v1)).toNatClampNeg) < 0 then (gd (decide ((0 : Int32) = (0 : Int32)) || decide ((0 : Int32) = (1 : Int32))) (some ((0 : Int32), I))) else (gd (hx ((7 : Int32) + v1) 240) (gd (hx (18 : Int32) 240) (if ((I 113 ((18 : Int32)).toNatClampNeg) + (8 : Int32)) < (I 113 (((7 : Int32) + v1)).toNatClampNeg) then (gd (decide ((0 : Int32) = (0 : Int32)) || decide ((0 : Int32) = (1 : Int32))) (some ((0 : Int32), I))) else (gd (decide ((1 : Int32) = (0 : Int32)) || decide ((1 : Int32) = (1 : Int32))) (some ((1 : Int32), I)))))))) else (gd (decide ((0 : Int32) = (0 : Int32)) || decide ((0 : Int32) = (1 : Int32))) (some ((0 : Int32), I))))
theorem X5_isSoon_hy : yX5_isSoon.cls = RX5 ∧ yX5_isSoon.cls ≠ "java/lang/invoke/MethodHandle" ∧ yX5_isSoon.cls ≠ "java/lang/invoke/VarHandle" ∧ (parseMethodDescriptor yX5_isSoon.desc).map (fun d => d.parameters.length) = some 1 := by decide +kernel
theorem X5_isSoon_k70 : Cond.fieldLink RX5 70 "HatPinsModel" "slot" "[I" ∈ wsX5_isSoon := by decide +kernel
theorem X5_isSoon_w5 : ∀ w ∈ wsX50, w ∈ wsX5_isSoon := by decide +kernel
set_option maxHeartbeats 4000000 in
set_option maxRecDepth 100000 in
theorem X5_isSoon_ok {sh : List hS} {r : Int32} {I I2 : hM} {v1 : Int32} (hf0 : hq_X5 sh) (h : X5_isSoon v1 I = some (r, I2)) : hp_C yX5_isSoon wsX5_isSoon 0 0 0 sh I [.ref 92, .int v1] (some (.int r)) sh I2 := hp_start (cc := cX5_isSoon) (maxL := 2) (ret := (some .boolean)) [(0, .ref 92), (1, .int v1)] (by decide) rfl (fun _ _ => rfl) (fun _ _ => Nat.le_of_ble_eq_true rfl) (fun p l e s m below meth c D E b z hX _ => by
  unfold X5_isSoon at h
  refine hj_aload_n hX rfl 0 rfl dX5_isSoon_0 ?_
  refine hj_getr hX (j := 26) hf0.1 rfl rfl X5_isSoon_w5 (Nat.le_of_ble_eq_true rfl) rfl X5_isSoon_k70 dX5_isSoon_1 ?_
  refine hj_iload_n hX rfl 1 rfl dX5_isSoon_4 ?_
  refine hj_iald hX hf0.2.2.2.2.2.2.2.2.2.2.2.2.2.2.2.2.2.2.2.2.2.1 dX5_isSoon_5 h (fun h => ?_)
  refine hj_if_ne hX (tgt := 47) (by decide) dX5_isSoon_6 h (fun h => ?_) (fun h => ?_)
  · refine hj_iconst hX (v := (0 : Int32)) (by decide) dX5_isSoon_47 ?_
    exact hj_zret hX dX5_isSoon_48 h
  · refine hj_aload_n hX rfl 0 rfl dX5_isSoon_9 ?_
    refine hj_getr hX (j := 26) hf0.1 rfl rfl X5_isSoon_w5 (Nat.le_of_ble_eq_true rfl) rfl X5_isSoon_k70 dX5_isSoon_10 ?_
    refine hj_bipush hX (v := (7 : Int32)) (by decide) dX5_isSoon_13 ?_
    refine hj_iload_n hX rfl 1 rfl dX5_isSoon_15 ?_
    refine hj_iadd hX dX5_isSoon_16 ?_
    refine hj_iald hX hf0.2.2.2.2.2.2.2.2.2.2.2.2.2.2.2.2.2.2.2.2.2.1 dX5_isSoon_17 h (fun h => ?_)
    refine hj_if_lt hX (tgt := 47) (by decide) dX5_isSoon_18 h (fun h => ?_) (fun h => ?_)
    · refine hj_iconst hX (v := (0 : Int32)) (by decide) dX5_isSoon_47 ?_
      exact hj_zret hX dX5_isSoon_48 h
    · refine hj_aload_n hX rfl 0 rfl dX5_isSoon_21 ?_
      refine hj_getr hX (j := 26) hf0.1 rfl rfl X5_isSoon_w5 (Nat.le_of_ble_eq_true rfl) rfl X5_isSoon_k70 dX5_isSoon_22 ?_
      refine hj_bipush hX (v := (7 : Int32)) (by decide) dX5_isSoon_25 ?_
      refine hj_iload_n hX rfl 1 rfl dX5_isSoon_27 ?_
      refine hj_iadd hX dX5_isSoon_28 ?_
      refine hj_iald hX hf0.2.2.2.2.2.2.2.2.2.2.2.2.2.2.2.2.2.2.2.2.2.1 dX5_isSoon_29 h (fun h => ?_)
      refine hj_aload_n hX rfl 0 rfl dX5_isSoon_30 ?_
      refine hj_getr hX (j := 26) hf0.1 rfl rfl X5_isSoon_w5 (Nat.le_of_ble_eq_true rfl) rfl X5_isSoon_k70 dX5_isSoon_31 ?_
      refine hj_bipush hX (v := (18 : Int32)) (by decide) dX5_isSoon_34 ?_
      refine hj_iald hX hf0.2.2.2.2.2.2.2.2.2.2.2.2.2.2.2.2.2.2.2.2.2.1 dX5_isSoon_36 h (fun h => ?_)
      refine hj_bipush hX (v := (8 : Int32)) (by decide) dX5_isSoon_37 ?_
      refine hj_iadd hX dX5_isSoon_39 ?_
      refine hj_icmp_gt hX (tgt := 47) (by decide) dX5_isSoon_40 h (fun h => ?_) (fun h => ?_)
      · refine hj_iconst hX (v := (0 : Int32)) (by decide) dX5_isSoon_47 ?_
        exact hj_zret hX dX5_isSoon_48 h
      · refine hj_iconst hX (v := (1 : Int32)) (by decide) dX5_isSoon_43 ?_
        refine hj_goto hX (tgt := 48) (by decide) dX5_isSoon_44 ?_
        exact hj_zret hX dX5_isSoon_48 h)
def X5_late_b193 (k58 : Int32 → Int32 → Int32 → Int32 → Int32 → Int32 → Int32 → hM → Option (Int32 × hM)) (k86 : Int32 → Int32 → Int32 → Int32 → Int32 → Int32 → Int32 → Int32 → Int32 → Int32 → hM → Option (Int32 × hM)) (v1 : Int32) (v2 : Int32) (v3 : Int32) (v4 : Int32) (v5 : Int32) (v6 : Int32) (v7 : Int32) (v8 : Int32) (v9 : Int32) (v10 : Int32) (t1 : Int32) (t2 : Int32) (I : hM) : Option (Int32 × hM) := gd (hx t1 240) ((k86 v1 v2 v3 v4 v5 v6 v7 v8 v9 (v10 + (1 : Int32)) (hu I 113 (t1).toNatClampNeg (t2 + (0 : Int32)))))
def X5_late_b159 (k58 : Int32 → Int32 → Int32 → Int32 → Int32 → Int32 → Int32 → hM → Option (Int32 × hM)) (k86 : Int32 → Int32 → Int32 → Int32 → Int32 → Int32 → Int32 → Int32 → Int32 → Int32 → hM → Option (Int32 × hM)) (v1 : Int32) (v2 : Int32) (v3 : Int32) (v4 : Int32) (v5 : Int32) (v6 : Int32) (v7 : Int32) (v9 : Int32) (v10 : Int32) (v11 : Int32) (t0 : Int32) (t1 : Int32) (I : hM) : Option (Int32 × hM) := gd (hx ((227 : Int32) + v10) 240) (if v11 = 0 then ((X5_late_b193 k58 k86 v1 v2 v3 v4 v5 v6 v7 (t0 * t1) v9 v10 ((227 : Int32) + v10) (I 113 (((227 : Int32) + v10)).toNatClampNeg) I)) else (ob (X5_has v7 v10 I) (fun u28 Ia29 => if u28 = 0 then ((X5_late_b193 k58 k86 v1 v2 v3 v4 v5 v6 v7 (t0 * t1) v9 v10 ((227 : Int32) + v10) (I 113 (((227 : Int32) + v10)).toNatClampNeg) Ia29)) else (gd (hx ((227 : Int32) + v10) 240) ((k86 v1 v2 v3 v4 v5 v6 v7 (t0 * t1) v9 (v10 + (1 : Int32)) (hu Ia29 113 (((227 : Int32) + v10)).toNatClampNeg ((I 113 (((227 : Int32) + v10)).toNatClampNeg) + v1))))))))
def X5_late_b128 (k58 : Int32 → Int32 → Int32 → Int32 → Int32 → Int32 → Int32 → hM → Option (Int32 × hM)) (k86 : Int32 → Int32 → Int32 → Int32 → Int32 → Int32 → Int32 → Int32 → Int32 → Int32 → hM → Option (Int32 × hM)) (v1 : Int32) (v2 : Int32) (v3 : Int32) (v4 : Int32) (v5 : Int32) (v6 : Int32) (v7 : Int32) (v8 : Int32) (v10 : Int32) (v11 : Int32) (t0 : Int32) (I : hM) : Option (Int32 × hM) := if v11 = 0 then ((X5_late_b159 k58 k86 v1 v2 v3 v4 v5 v6 v7 t0 v10 v11 v8 (1 : Int32) I)) else (ob (X5_has v7 v10 I) (fun u25 Ia26 => if u25 = 0 then ((X5_late_b159 k58 k86 v1 v2 v3 v4 v5 v6 v7 t0 v10 v11 v8 ((10 : Int32) - v2) Ia26)) else (X5_late_b159 k58 k86 v1 v2 v3 v4 v5 v6 v7 t0 v10 v11 v8 v2 Ia26)))
def X5_late_b202 (k58 : Int32 → Int32 → Int32 → Int32 → Int32 → Int32 → Int32 → hM → Option (Int32 × hM)) (v1 : Int32) (v2 : Int32) (v3 : Int32) (v4 : Int32) (v5 : Int32) (v6 : Int32) (v7 : Int32) (v8 : Int32) (v9 : Int32) (I : hM) : Option (Int32 × hM) := if v9 = 0 then ((k58 v1 v2 v3 v4 v5 v6 (v7 + (1 : Int32)) I)) else (ob (X5_hadThen I) (fun u22 Ia23 => if u22 < v3 then ((k58 v1 v2 v3 v4 (v5 + (0 : Int32)) (v6 + v8) (v7 + (1 : Int32)) Ia23)) else ((k58 v1 v2 v3 v4 (v5 + v8) (v6 + v8) (v7 + (1 : Int32)) Ia23))))
def X5_late_h86 (k58 : Int32 → Int32 → Int32 → Int32 → Int32 → Int32 → Int32 → hM → Option (Int32 × hM)) (k86 : Int32 → Int32 → Int32 → Int32 → Int32 → Int32 → Int32 → Int32 → Int32 → Int32 → hM → Option (Int32 × hM)) (v1 : Int32) (v2 : Int32) (v3 : Int32) (v4 : Int32) (v5 : Int32) (v6 : Int32) (v7 : Int32) (v8 : Int32) (v9 : Int32) (v10 : Int32) (I : hM) : Option (Int32 × hM) := if (I 92 0) ≤ v10 then (X5_late_b202 k58 v1 v2 v3 v4 v5 v6 v7 v8 v9 I) else (ob (X5_isSoon v10 I) (fun u16 Ia17 => if v9 = 0 then ((X5_late_b128 k58 k86 v1 v2 v3 v4 v5 v6 v7 v8 v10 u16 (0 : Int32) Ia17)) else (if u16 = 0 then (ob (X5_has v7 v10 Ia17) (fun u19 Ia20 => if u19 = 0 then ((X5_late_b128 k58 k86 v1 v2 v3 v4 v5 v6 v7 v8 v10 u16 (1 : Int32) Ia20)) else ((X5_late_b128 k58 k86 v1 v2 v3 v4 v5 v6 v7 v8 v10 u16 (0 : Int32) Ia20)))) else ((X5_late_b128 k58 k86 v1 v2 v3 v4 v5 v6 v7 v8 v10 u16 (1 : Int32) Ia17)))))
def X5_late_l86 (k58 : Int32 → Int32 → Int32 → Int32 → Int32 → Int32 → Int32 → hM → Option (Int32 × hM)) : Nat → Int32 → Int32 → Int32 → Int32 → Int32 → Int32 → Int32 → Int32 → Int32 → Int32 → hM → Option (Int32 × hM)
  | 0 => fun _ _ _ _ _ _ _ _ _ _ _ => none
  | n + 1 => X5_late_h86  k58 (X5_late_l86  k58 n)
def X5_late_b270 (v4 : Int32) (v5 : Int32) (v6 : Int32) (v7 : Int32) (I : hM) : Option (Int32 × hM) := if v4 = 0 then (gd (decide (¬ v7 = 0)) (some ((v5 / v7), I))) else (gd (decide (¬ v7 = 0)) (some ((v6 / v7), I)))
def X5_late_h247 (k247 : Int32 → Int32 → Int32 → Int32 → Int32 → hM → Option (Int32 × hM)) (v4 : Int32) (v5 : Int32) (v6 : Int32) (v7 : Int32) (v8 : Int32) (I : hM) : Option (Int32 × hM) := if v8 = 0 then (X5_late_b270 v4 v5 v6 v7 I) else (gd (decide (¬ v8 = 0)) ((k247 v4 v5 v6 v8 (v7 - v7 / v8 * v8) I)))
def X5_late_l247 : Nat → Int32 → Int32 → Int32 → Int32 → Int32 → hM → Option (Int32 × hM)
  | 0 => fun _ _ _ _ _ _ => none
  | n + 1 => X5_late_h247   (X5_late_l247   n)
def X5_late_h58 (k58 : Int32 → Int32 → Int32 → Int32 → Int32 → Int32 → Int32 → hM → Option (Int32 × hM)) (v1 : Int32) (v2 : Int32) (v3 : Int32) (v4 : Int32) (v5 : Int32) (v6 : Int32) (v7 : Int32) (I : hM) : Option (Int32 × hM) := if ((1 : Int32) <<< ((I 92 0) &&& 31)) ≤ v7 then (X5_late_l247 hF v4 v5 v6 v5 v6 I) else (ob (X5_copies (0 : Int32) (220 : Int32) I) (fun u13 Ia14 => (X5_late_l86 k58 hF v1 v2 v3 v4 v5 v6 v7 (1 : Int32) (1 : Int32) (0 : Int32) Ia14)))
def X5_late_l58 : Nat → Int32 → Int32 → Int32 → Int32 → Int32 → Int32 → Int32 → hM → Option (Int32 × hM)
  | 0 => fun _ _ _ _ _ _ _ _ => none
  | n + 1 => X5_late_h58   (X5_late_l58   n)
def X5_late (v1 : Int32) (v2 : Int32) (v3 : Int32) (v4 : Int32) (I : hM) : Option (Int32 × hM) := ob (X5_in (v1).toInt64 (1 : Int64) (20 : Int64) I) (fun u1 Ia2 => if u1 = 0 then (some ((-1 : Int32), Ia2)) else (ob (X5_in (v2).toInt64 (0 : Int64) (10 : Int64) Ia2) (fun u4 Ia5 => if u4 = 0 then (some ((-1 : Int32), Ia5)) else (ob (X5_in (v3).toInt64 (0 : Int64) (999 : Int64) Ia5) (fun u7 Ia8 => if u7 = 0 then (some ((-1 : Int32), Ia8)) else (ob (X5_in (v4).toInt64 (0 : Int64) (1 : Int64) Ia8) (fun u10 Ia11 => if u10 = 0 then (some ((-1 : Int32), Ia11)) else ((X5_late_l58 hF v1 v2 v3 v4 (0 : Int32) (0 : Int32) (0 : Int32) Ia11)))))))))
theorem X5_late_hy : yX5_late.cls = RX5 ∧ yX5_late.cls ≠ "java/lang/invoke/MethodHandle" ∧ yX5_late.cls ≠ "java/lang/invoke/VarHandle" ∧ (parseMethodDescriptor yX5_late.desc).map (fun d => d.parameters.length) = some 4 := by decide +kernel
theorem X5_late_k110 : Cond.fieldLink RX5 110 "HatPinsModel" "many" "I" ∈ wsX5_late := by decide +kernel
theorem X5_late_k70 : Cond.fieldLink RX5 70 "HatPinsModel" "slot" "[I" ∈ wsX5_late := by decide +kernel
theorem X5_late_mc260 : Cond.constantLong RX5 260 (20) ∈ wsX5_late := by decide +kernel
theorem X5_late_mc265 : Cond.constantLong RX5 265 (10) ∈ wsX5_late := by decide +kernel
theorem X5_late_mc267 : Cond.constantLong RX5 267 (999) ∈ wsX5_late := by decide +kernel
theorem X5_late_w5 : ∀ w ∈ wsX50, w ∈ wsX5_late := by decide +kernel
set_option maxHeartbeats 4000000 in
set_option maxRecDepth 100000 in
theorem X5_late_b193_ok {p : Program} {l : Launch} {e : Env} {s : State} {m : MethodId} {args : Array Value} {below : List Frame} {meth : Method} {c : Code} {D : va_G} {E : Nat → ClassId} {b z : Nat} {sh : List hS} {r : Int32} {I2 : hM} {k58 : Int32 → Int32 → Int32 → Int32 → Int32 → Int32 → Int32 → hM → Option (Int32 × hM)} {k86 : Int32 → Int32 → Int32 → Int32 → Int32 → Int32 → Int32 → Int32 → Int32 → Int32 → hM → Option (Int32 × hM)} {v1 : Int32} {v2 : Int32} {v3 : Int32} {v4 : Int32} {v5 : Int32} {v6 : Int32} {v7 : Int32} {v8 : Int32} {v9 : Int32} {v10 : Int32} {t1 : Int32} {t2 : Int32} {I : hM} (hX : hp_X p s m args meth c yX5_late.cls cX5_late 12 wsX5_late D E (some .int) yX5_late.name) (hf0 : hq_X5 sh) (hk58 : ∀ (v1 : Int32) (v2 : Int32) (v3 : Int32) (v4 : Int32) (v5 : Int32) (v6 : Int32) (v7 : Int32) (I : hM), k58 v1 v2 v3 v4 v5 v6 v7 I = some (r, I2) → hp_J p l e ({ frames := 7, cells := 0, slots := 0, locals := 44 * 7 }) s m args below meth c (MQ below (hp_Q D E b z (some (.int r)) sh I2) args s 0 0 (fun q : Nat => b ≤ q)) D E b z 12 sh 0 0 I 58 [(0, .ref 92), (1, .int v1), (2, .int v2), (3, .int v3), (4, .int v4), (5, .int v5), (6, .int v6), (7, .int v7)] []) (hk86 : ∀ (v1 : Int32) (v2 : Int32) (v3 : Int32) (v4 : Int32) (v5 : Int32) (v6 : Int32) (v7 : Int32) (v8 : Int32) (v9 : Int32) (v10 : Int32) (I : hM), k86 v1 v2 v3 v4 v5 v6 v7 v8 v9 v10 I = some (r, I2) → hp_J p l e ({ frames := 7, cells := 0, slots := 0, locals := 44 * 7 }) s m args below meth c (MQ below (hp_Q D E b z (some (.int r)) sh I2) args s 0 0 (fun q : Nat => b ≤ q)) D E b z 12 sh 0 0 I 86 [(0, .ref 92), (1, .int v1), (2, .int v2), (3, .int v3), (4, .int v4), (5, .int v5), (6, .int v6), (7, .int v7), (8, .int v8), (9, .int v9), (10, .int v10)] []) (h : X5_late_b193 k58 k86 v1 v2 v3 v4 v5 v6 v7 v8 v9 v10 t1 t2 I = some (r, I2)) : hp_J p l e ({ frames := 7, cells := 0, slots := 0, locals := 44 * 7 }) s m args below meth c (MQ below (hp_Q D E b z (some (.int r)) sh I2) args s 0 0 (fun q : Nat => b ≤ q)) D E b z 12 sh 0 0 I 193 [(0, .ref 92), (1, .int v1), (2, .int v2), (3, .int v3), (4, .int v4), (5, .int v5), (6, .int v6), (7, .int v7), (8, .int v8), (9, .int v9), (10, .int v10)] [.int t2, .int t1, .ref 113] := by
  unfold X5_late_b193 at h
  refine hj_iconst hX (v := (0 : Int32)) (by decide) dX5_late_193 ?_
  refine hj_iadd hX dX5_late_194 ?_
  refine hj_iast hX hf0.2.2.2.2.2.2.2.2.2.2.2.2.2.2.2.2.2.2.2.2.2.1 dX5_late_195 h (fun h => ?_)
  refine hj_iinc hX (k1 := 10) (v := (v10 + (1 : Int32))) rfl rfl (Nat.le_of_ble_eq_true rfl) (lv2 := [(10, .int (v10 + (1 : Int32))), (0, .ref 92), (1, .int v1), (2, .int v2), (3, .int v3), (4, .int v4), (5, .int v5), (6, .int v6), (7, .int v7), (8, .int v8), (9, .int v9)]) rfl dX5_late_196 ?_
  refine hj_goto hX (tgt := 86) (by decide) dX5_late_199 ?_
  refine hj_lv hX [1, 2, 3, 4, 5, 6, 7, 8, 9, 10, 0] (lv2 := [(0, .ref 92), (1, .int v1), (2, .int v2), (3, .int v3), (4, .int v4), (5, .int v5), (6, .int v6), (7, .int v7), (8, .int v8), (9, .int v9), (10, .int (v10 + (1 : Int32)))]) rfl ?_
  exact hk86 _ _ _ _ _ _ _ _ _ _ _ h
set_option maxHeartbeats 4000000 in
set_option maxRecDepth 100000 in
theorem X5_late_b159_ok {p : Program} {l : Launch} {e : Env} {s : State} {m : MethodId} {args : Array Value} {below : List Frame} {meth : Method} {c : Code} {D : va_G} {E : Nat → ClassId} {b z : Nat} {sh : List hS} {r : Int32} {I2 : hM} {k58 : Int32 → Int32 → Int32 → Int32 → Int32 → Int32 → Int32 → hM → Option (Int32 × hM)} {k86 : Int32 → Int32 → Int32 → Int32 → Int32 → Int32 → Int32 → Int32 → Int32 → Int32 → hM → Option (Int32 × hM)} {v1 : Int32} {v2 : Int32} {v3 : Int32} {v4 : Int32} {v5 : Int32} {v6 : Int32} {v7 : Int32} {v9 : Int32} {v10 : Int32} {v11 : Int32} {t0 : Int32} {t1 : Int32} {I : hM} (hX : hp_X p s m args meth c yX5_late.cls cX5_late 12 wsX5_late D E (some .int) yX5_late.name) (hf0 : hq_X5 sh) (hk58 : ∀ (v1 : Int32) (v2 : Int32) (v3 : Int32) (v4 : Int32) (v5 : Int32) (v6 : Int32) (v7 : Int32) (I : hM), k58 v1 v2 v3 v4 v5 v6 v7 I = some (r, I2) → hp_J p l e ({ frames := 7, cells := 0, slots := 0, locals := 44 * 7 }) s m args below meth c (MQ below (hp_Q D E b z (some (.int r)) sh I2) args s 0 0 (fun q : Nat => b ≤ q)) D E b z 12 sh 0 0 I 58 [(0, .ref 92), (1, .int v1), (2, .int v2), (3, .int v3), (4, .int v4), (5, .int v5), (6, .int v6), (7, .int v7)] []) (hk86 : ∀ (v1 : Int32) (v2 : Int32) (v3 : Int32) (v4 : Int32) (v5 : Int32) (v6 : Int32) (v7 : Int32) (v8 : Int32) (v9 : Int32) (v10 : Int32) (I : hM), k86 v1 v2 v3 v4 v5 v6 v7 v8 v9 v10 I = some (r, I2) → hp_J p l e ({ frames := 7, cells := 0, slots := 0, locals := 44 * 7 }) s m args below meth c (MQ below (hp_Q D E b z (some (.int r)) sh I2) args s 0 0 (fun q : Nat => b ≤ q)) D E b z 12 sh 0 0 I 86 [(0, .ref 92), (1, .int v1), (2, .int v2), (3, .int v3), (4, .int v4), (5, .int v5), (6, .int v6), (7, .int v7), (8, .int v8), (9, .int v9), (10, .int v10)] []) (h : X5_late_b159 k58 k86 v1 v2 v3 v4 v5 v6 v7 v9 v10 v11 t0 t1 I = some (r, I2)) : hp_J p l e ({ frames := 7, cells := 0, slots := 0, locals := 44 * 7 }) s m args below meth c (MQ below (hp_Q D E b z (some (.int r)) sh I2) args s 0 0 (fun q : Nat => b ≤ q)) D E b z 12 sh 0 0 I 159 [(0, .ref 92), (1, .int v1), (2, .int v2), (3, .int v3), (4, .int v4), (5, .int v5), (6, .int v6), (7, .int v7), (9, .int v9), (10, .int v10), (11, .int v11)] [.int t1, .int t0] := by
  unfold X5_late_b159 at h
  refine hj_imul hX dX5_late_159 ?_
  refine hj_istore hX (Nat.le_of_ble_eq_true rfl) (lv2 := [(8, .int (t0 * t1)), (0, .ref 92), (1, .int v1), (2, .int v2), (3, .int v3), (4, .int v4), (5, .int v5), (6, .int v6), (7, .int v7), (9, .int v9), (10, .int v10), (11, .int v11)]) rfl dX5_late_160 ?_
  refine hj_aload_n hX rfl 1 rfl dX5_late_162 ?_
  refine hj_getr hX (j := 26) hf0.1 rfl rfl X5_late_w5 (Nat.le_of_ble_eq_true rfl) rfl X5_late_k70 dX5_late_163 ?_
  refine hj_sipush hX (v := (227 : Int32)) (by decide) dX5_late_166 ?_
  refine hj_iload hX 10 rfl dX5_late_169 ?_
  refine hj_iadd hX dX5_late_171 ?_
  refine hj_dup2 hX rfl rfl dX5_late_172 ?_
  refine hj_iald hX hf0.2.2.2.2.2.2.2.2.2.2.2.2.2.2.2.2.2.2.2.2.2.1 dX5_late_173 h (fun h => ?_)
  refine hj_iload hX 11 rfl dX5_late_174 ?_
  refine hj_if_eq hX (tgt := 193) (by decide) dX5_late_176 h (fun h => ?_) (fun h => ?_)
  · refine hj_lv hX [1, 2, 3, 4, 5, 6, 7, 8, 0, 9, 10] (lv2 := [(0, .ref 92), (1, .int v1), (2, .int v2), (3, .int v3), (4, .int v4), (5, .int v5), (6, .int v6), (7, .int v7), (8, .int (t0 * t1)), (9, .int v9), (10, .int v10)]) rfl ?_
    exact X5_late_b193_ok hX hf0 hk58 hk86 h
  · refine hj_iload hX 8 rfl dX5_late_179 ?_
    refine hj_iload hX 10 rfl dX5_late_181 ?_
    obtain ⟨u28, Ia29, hc30, h⟩ := ob_e h
    refine hj_callS hX (sh2 := sh) (I2 := Ia29) (r := (some (.int u28))) (As := [.int v7, .int v10]) (rest := [.int (I 113 (((227 : Int32) + v10)).toNatClampNeg), .int ((227 : Int32) + v10), .ref 113]) (st2 := [.int u28, .int (I 113 (((227 : Int32) + v10)).toNatClampNeg), .int ((227 : Int32) + v10), .ref 113]) (X5_has_ok hc30) gX5_late_X5_has rfl X5_has_hy.2 ⟨(Nat.le_of_ble_eq_true rfl), (Nat.le_of_ble_eq_true rfl)⟩ rfl (Nat.le_of_ble_eq_true rfl) ⟨(Nat.le_of_ble_eq_true rfl), (Nat.le_of_ble_eq_true rfl)⟩ rfl rfl rfl dX5_late_183 ?_
    refine hj_if_eq hX (tgt := 193) (by decide) dX5_late_186 h (fun h => ?_) (fun h => ?_)
    · refine hj_lv hX [1, 2, 3, 4, 5, 6, 7, 8, 0, 9, 10] (lv2 := [(0, .ref 92), (1, .int v1), (2, .int v2), (3, .int v3), (4, .int v4), (5, .int v5), (6, .int v6), (7, .int v7), (8, .int (t0 * t1)), (9, .int v9), (10, .int v10)]) rfl ?_
      exact X5_late_b193_ok hX hf0 hk58 hk86 h
    · refine hj_iload_n hX rfl 2 rfl dX5_late_189 ?_
      refine hj_goto hX (tgt := 194) (by decide) dX5_late_190 ?_
      refine hj_iadd hX dX5_late_194 ?_
      refine hj_iast hX hf0.2.2.2.2.2.2.2.2.2.2.2.2.2.2.2.2.2.2.2.2.2.1 dX5_late_195 h (fun h => ?_)
      refine hj_iinc hX (k1 := 10) (v := (v10 + (1 : Int32))) rfl rfl (Nat.le_of_ble_eq_true rfl) (lv2 := [(10, .int (v10 + (1 : Int32))), (8, .int (t0 * t1)), (0, .ref 92), (1, .int v1), (2, .int v2), (3, .int v3), (4, .int v4), (5, .int v5), (6, .int v6), (7, .int v7), (9, .int v9), (11, .int v11)]) rfl dX5_late_196 ?_
      refine hj_goto hX (tgt := 86) (by decide) dX5_late_199 ?_
      refine hj_lv hX [2, 3, 4, 5, 6, 7, 8, 9, 1, 10, 0] (lv2 := [(0, .ref 92), (1, .int v1), (2, .int v2), (3, .int v3), (4, .int v4), (5, .int v5), (6, .int v6), (7, .int v7), (8, .int (t0 * t1)), (9, .int v9), (10, .int (v10 + (1 : Int32)))]) rfl ?_
      exact hk86 _ _ _ _ _ _ _ _ _ _ _ h
set_option maxHeartbeats 4000000 in
set_option maxRecDepth 100000 in
theorem X5_late_b128_ok {p : Program} {l : Launch} {e : Env} {s : State} {m : MethodId} {args : Array Value} {below : List Frame} {meth : Method} {c : Code} {D : va_G} {E : Nat → ClassId} {b z : Nat} {sh : List hS} {r : Int32} {I2 : hM} {k58 : Int32 → Int32 → Int32 → Int32 → Int32 → Int32 → Int32 → hM → Option (Int32 × hM)} {k86 : Int32 → Int32 → Int32 → Int32 → Int32 → Int32 → Int32 → Int32 → Int32 → Int32 → hM → Option (Int32 × hM)} {v1 : Int32} {v2 : Int32} {v3 : Int32} {v4 : Int32} {v5 : Int32} {v6 : Int32} {v7 : Int32} {v8 : Int32} {v10 : Int32} {v11 : Int32} {t0 : Int32} {I : hM} (hX : hp_X p s m args meth c yX5_late.cls cX5_late 12 wsX5_late D E (some .int) yX5_late.name) (hf0 : hq_X5 sh) (hk58 : ∀ (v1 : Int32) (v2 : Int32) (v3 : Int32) (v4 : Int32) (v5 : Int32) (v6 : Int32) (v7 : Int32) (I : hM), k58 v1 v2 v3 v4 v5 v6 v7 I = some (r, I2) → hp_J p l e ({ frames := 7, cells := 0, slots := 0, locals := 44 * 7 }) s m args below meth c (MQ below (hp_Q D E b z (some (.int r)) sh I2) args s 0 0 (fun q : Nat => b ≤ q)) D E b z 12 sh 0 0 I 58 [(0, .ref 92), (1, .int v1), (2, .int v2), (3, .int v3), (4, .int v4), (5, .int v5), (6, .int v6), (7, .int v7)] []) (hk86 : ∀ (v1 : Int32) (v2 : Int32) (v3 : Int32) (v4 : Int32) (v5 : Int32) (v6 : Int32) (v7 : Int32) (v8 : Int32) (v9 : Int32) (v10 : Int32) (I : hM), k86 v1 v2 v3 v4 v5 v6 v7 v8 v9 v10 I = some (r, I2) → hp_J p l e ({ frames := 7, cells := 0, slots := 0, locals := 44 * 7 }) s m args below meth c (MQ below (hp_Q D E b z (some (.int r)) sh I2) args s 0 0 (fun q : Nat => b ≤ q)) D E b z 12 sh 0 0 I 86 [(0, .ref 92), (1, .int v1), (2, .int v2), (3, .int v3), (4, .int v4), (5, .int v5), (6, .int v6), (7, .int v7), (8, .int v8), (9, .int v9), (10, .int v10)] []) (h : X5_late_b128 k58 k86 v1 v2 v3 v4 v5 v6 v7 v8 v10 v11 t0 I = some (r, I2)) : hp_J p l e ({ frames := 7, cells := 0, slots := 0, locals := 44 * 7 }) s m args below meth c (MQ below (hp_Q D E b z (some (.int r)) sh I2) args s 0 0 (fun q : Nat => b ≤ q)) D E b z 12 sh 0 0 I 128 [(0, .ref 92), (1, .int v1), (2, .int v2), (3, .int v3), (4, .int v4), (5, .int v5), (6, .int v6), (7, .int v7), (8, .int v8), (10, .int v10), (11, .int v11)] [.int t0] := by
  unfold X5_late_b128 at h
  refine hj_istore hX (Nat.le_of_ble_eq_true rfl) (lv2 := [(9, .int t0), (0, .ref 92), (1, .int v1), (2, .int v2), (3, .int v3), (4, .int v4), (5, .int v5), (6, .int v6), (7, .int v7), (8, .int v8), (10, .int v10), (11, .int v11)]) rfl dX5_late_128 ?_
  refine hj_iload hX 9 rfl dX5_late_130 ?_
  refine hj_iload hX 11 rfl dX5_late_132 ?_
  refine hj_if_eq hX (tgt := 158) (by decide) dX5_late_134 h (fun h => ?_) (fun h => ?_)
  · refine hj_iconst hX (v := (1 : Int32)) (by decide) dX5_late_158 ?_
    refine hj_lv hX [1, 2, 3, 4, 5, 6, 7, 8, 0, 10, 11] (lv2 := [(0, .ref 92), (1, .int v1), (2, .int v2), (3, .int v3), (4, .int v4), (5, .int v5), (6, .int v6), (7, .int v7), (9, .int t0), (10, .int v10), (11, .int v11)]) rfl ?_
    exact X5_late_b159_ok hX hf0 hk58 hk86 h
  · refine hj_iload hX 8 rfl dX5_late_137 ?_
    refine hj_iload hX 10 rfl dX5_late_139 ?_
    obtain ⟨u25, Ia26, hc27, h⟩ := ob_e h
    refine hj_callS hX (sh2 := sh) (I2 := Ia26) (r := (some (.int u25))) (As := [.int v7, .int v10]) (rest := [.int v8]) (st2 := [.int u25, .int v8]) (X5_has_ok hc27) gX5_late_X5_has rfl X5_has_hy.2 ⟨(Nat.le_of_ble_eq_true rfl), (Nat.le_of_ble_eq_true rfl)⟩ rfl (Nat.le_of_ble_eq_true rfl) ⟨(Nat.le_of_ble_eq_true rfl), (Nat.le_of_ble_eq_true rfl)⟩ rfl rfl rfl dX5_late_141 ?_
    refine hj_if_eq hX (tgt := 151) (by decide) dX5_late_144 h (fun h => ?_) (fun h => ?_)
    · refine hj_bipush hX (v := (10 : Int32)) (by decide) dX5_late_151 ?_
      refine hj_iload_n hX rfl 3 rfl dX5_late_153 ?_
      refine hj_isub hX dX5_late_154 ?_
      refine hj_goto hX (tgt := 159) (by decide) dX5_late_155 ?_
      refine hj_lv hX [1, 2, 3, 4, 5, 6, 7, 8, 0, 10, 11] (lv2 := [(0, .ref 92), (1, .int v1), (2, .int v2), (3, .int v3), (4, .int v4), (5, .int v5), (6, .int v6), (7, .int v7), (9, .int t0), (10, .int v10), (11, .int v11)]) rfl ?_
      exact X5_late_b159_ok hX hf0 hk58 hk86 h
    · refine hj_iload_n hX rfl 3 rfl dX5_late_147 ?_
      refine hj_goto hX (tgt := 159) (by decide) dX5_late_148 ?_
      refine hj_lv hX [1, 2, 3, 4, 5, 6, 7, 8, 0, 10, 11] (lv2 := [(0, .ref 92), (1, .int v1), (2, .int v2), (3, .int v3), (4, .int v4), (5, .int v5), (6, .int v6), (7, .int v7), (9, .int t0), (10, .int v10), (11, .int v11)]) rfl ?_
      exact X5_late_b159_ok hX hf0 hk58 hk86 h
set_option maxHeartbeats 4000000 in
set_option maxRecDepth 100000 in
theorem X5_late_b202_ok {p : Program} {l : Launch} {e : Env} {s : State} {m : MethodId} {args : Array Value} {below : List Frame} {meth : Method} {c : Code} {D : va_G} {E : Nat → ClassId} {b z : Nat} {sh : List hS} {r : Int32} {I2 : hM} {k58 : Int32 → Int32 → Int32 → Int32 → Int32 → Int32 → Int32 → hM → Option (Int32 × hM)} {v1 : Int32} {v2 : Int32} {v3 : Int32} {v4 : Int32} {v5 : Int32} {v6 : Int32} {v7 : Int32} {v8 : Int32} {v9 : Int32} {I : hM} (hX : hp_X p s m args meth c yX5_late.cls cX5_late 12 wsX5_late D E (some .int) yX5_late.name) (hf0 : hq_X5 sh) (hk58 : ∀ (v1 : Int32) (v2 : Int32) (v3 : Int32) (v4 : Int32) (v5 : Int32) (v6 : Int32) (v7 : Int32) (I : hM), k58 v1 v2 v3 v4 v5 v6 v7 I = some (r, I2) → hp_J p l e ({ frames := 7, cells := 0, slots := 0, locals := 44 * 7 }) s m args below meth c (MQ below (hp_Q D E b z (some (.int r)) sh I2) args s 0 0 (fun q : Nat => b ≤ q)) D E b z 12 sh 0 0 I 58 [(0, .ref 92), (1, .int v1), (2, .int v2), (3, .int v3), (4, .int v4), (5, .int v5), (6, .int v6), (7, .int v7)] []) (h : X5_late_b202 k58 v1 v2 v3 v4 v5 v6 v7 v8 v9 I = some (r, I2)) : hp_J p l e ({ frames := 7, cells := 0, slots := 0, locals := 44 * 7 }) s m args below meth c (MQ below (hp_Q D E b z (some (.int r)) sh I2) args s 0 0 (fun q : Nat => b ≤ q)) D E b z 12 sh 0 0 I 202 [(0, .ref 92), (1, .int v1), (2, .int v2), (3, .int v3), (4, .int v4), (5, .int v5), (6, .int v6), (7, .int v7), (8, .int v8), (9, .int v9)] [] := by
  unfold X5_late_b202 at h
  refine hj_iload hX 9 rfl dX5_late_202 ?_
  refine hj_if_eq hX (tgt := 233) (by decide) dX5_late_204 h (fun h => ?_) (fun h => ?_)
  · refine hj_iinc hX (k1 := 7) (v := (v7 + (1 : Int32))) rfl rfl (Nat.le_of_ble_eq_true rfl) (lv2 := [(7, .int (v7 + (1 : Int32))), (0, .ref 92), (1, .int v1), (2, .int v2), (3, .int v3), (4, .int v4), (5, .int v5), (6, .int v6), (8, .int v8), (9, .int v9)]) rfl dX5_late_233 ?_
    refine hj_goto hX (tgt := 58) (by decide) dX5_late_236 ?_
    refine hj_lv hX [1, 2, 3, 4, 5, 6, 7, 0] (lv2 := [(0, .ref 92), (1, .int v1), (2, .int v2), (3, .int v3), (4, .int v4), (5, .int v5), (6, .int v6), (7, .int (v7 + (1 : Int32)))]) rfl ?_
    exact hk58 _ _ _ _ _ _ _ _ h
  · refine hj_iload hX 6 rfl dX5_late_207 ?_
    refine hj_iload hX 8 rfl dX5_late_209 ?_
    refine hj_iadd hX dX5_late_211 ?_
    refine hj_istore hX (Nat.le_of_ble_eq_true rfl) (lv2 := [(6, .int (v6 + v8)), (0, .ref 92), (1, .int v1), (2, .int v2), (3, .int v3), (4, .int v4), (5, .int v5), (7, .int v7), (8, .int v8), (9, .int v9)]) rfl dX5_late_212 ?_
    refine hj_iload hX 6 rfl dX5_late_214 ?_
    refine hj_aload_n hX rfl 1 rfl dX5_late_216 ?_
    obtain ⟨u22, Ia23, hc24, h⟩ := ob_e h
    refine hj_callV hX (sh2 := sh) (I2 := Ia23) (r := (some (.int u22))) (As := []) (rest := [.int v5]) (st2 := [.int u22, .int v5]) (X5_hadThen_ok hf0 hc24) gX5_late_X5_hadThen rfl X5_hadThen_hy ⟨(Nat.le_of_ble_eq_true rfl), (Nat.le_of_ble_eq_true rfl)⟩ rfl hf0.1 rfl (Nat.le_of_ble_eq_true rfl) ⟨(Nat.le_of_ble_eq_true rfl), (Nat.le_of_ble_eq_true rfl)⟩ rfl rfl rfl dX5_late_217 ?_
    refine hj_iload_n hX rfl 4 rfl dX5_late_220 ?_
    refine hj_icmp_lt hX (tgt := 229) (by decide) dX5_late_221 h (fun h => ?_) (fun h => ?_)
    · refine hj_iconst hX (v := (0 : Int32)) (by decide) dX5_late_229 ?_
      refine hj_iadd hX dX5_late_230 ?_
      refine hj_istore hX (Nat.le_of_ble_eq_true rfl) (lv2 := [(5, .int (v5 + (0 : Int32))), (6, .int (v6 + v8)), (0, .ref 92), (1, .int v1), (2, .int v2), (3, .int v3), (4, .int v4), (7, .int v7), (8, .int v8), (9, .int v9)]) rfl dX5_late_231 ?_
      refine hj_iinc hX (k1 := 7) (v := (v7 + (1 : Int32))) rfl rfl (Nat.le_of_ble_eq_true rfl) (lv2 := [(7, .int (v7 + (1 : Int32))), (5, .int (v5 + (0 : Int32))), (6, .int (v6 + v8)), (0, .ref 92), (1, .int v1), (2, .int v2), (3, .int v3), (4, .int v4), (8, .int v8), (9, .int v9)]) rfl dX5_late_233 ?_
      refine hj_goto hX (tgt := 58) (by decide) dX5_late_236 ?_
      refine hj_lv hX [3, 4, 5, 6, 7, 1, 2, 0] (lv2 := [(0, .ref 92), (1, .int v1), (2, .int v2), (3, .int v3), (4, .int v4), (5, .int (v5 + (0 : Int32))), (6, .int (v6 + v8)), (7, .int (v7 + (1 : Int32)))]) rfl ?_
      exact hk58 _ _ _ _ _ _ _ _ h
    · refine hj_iload hX 8 rfl dX5_late_224 ?_
      refine hj_goto hX (tgt := 230) (by decide) dX5_late_226 ?_
      refine hj_iadd hX dX5_late_230 ?_
      refine hj_istore hX (Nat.le_of_ble_eq_true rfl) (lv2 := [(5, .int (v5 + v8)), (6, .int (v6 + v8)), (0, .ref 92), (1, .int v1), (2, .int v2), (3, .int v3), (4, .int v4), (7, .int v7), (8, .int v8), (9, .int v9)]) rfl dX5_late_231 ?_
      refine hj_iinc hX (k1 := 7) (v := (v7 + (1 : Int32))) rfl rfl (Nat.le_of_ble_eq_true rfl) (lv2 := [(7, .int (v7 + (1 : Int32))), (5, .int (v5 + v8)), (6, .int (v6 + v8)), (0, .ref 92), (1, .int v1), (2, .int v2), (3, .int v3), (4, .int v4), (8, .int v8), (9, .int v9)]) rfl dX5_late_233 ?_
      refine hj_goto hX (tgt := 58) (by decide) dX5_late_236 ?_
      refine hj_lv hX [3, 4, 5, 6, 7, 1, 2, 0] (lv2 := [(0, .ref 92), (1, .int v1), (2, .int v2), (3, .int v3), (4, .int v4), (5, .int (v5 + v8)), (6, .int (v6 + v8)), (7, .int (v7 + (1 : Int32)))]) rfl ?_
      exact hk58 _ _ _ _ _ _ _ _ h
set_option maxHeartbeats 4000000 in
set_option maxRecDepth 100000 in
theorem X5_late_h86_ok {p : Program} {l : Launch} {e : Env} {s : State} {m : MethodId} {args : Array Value} {below : List Frame} {meth : Method} {c : Code} {D : va_G} {E : Nat → ClassId} {b z : Nat} {sh : List hS} {r : Int32} {I2 : hM} {k58 : Int32 → Int32 → Int32 → Int32 → Int32 → Int32 → Int32 → hM → Option (Int32 × hM)} {k86 : Int32 → Int32 → Int32 → Int32 → Int32 → Int32 → Int32 → Int32 → Int32 → Int32 → hM → Option (Int32 × hM)} {v1 : Int32} {v2 : Int32} {v3 : Int32} {v4 : Int32} {v5 : Int32} {v6 : Int32} {v7 : Int32} {v8 : Int32} {v9 : Int32} {v10 : Int32} {I : hM} (hX : hp_X p s m args meth c yX5_late.cls cX5_late 12 wsX5_late D E (some .int) yX5_late.name) (hf0 : hq_X5 sh) (hk58 : ∀ (v1 : Int32) (v2 : Int32) (v3 : Int32) (v4 : Int32) (v5 : Int32) (v6 : Int32) (v7 : Int32) (I : hM), k58 v1 v2 v3 v4 v5 v6 v7 I = some (r, I2) → hp_J p l e ({ frames := 7, cells := 0, slots := 0, locals := 44 * 7 }) s m args below meth c (MQ below (hp_Q D E b z (some (.int r)) sh I2) args s 0 0 (fun q : Nat => b ≤ q)) D E b z 12 sh 0 0 I 58 [(0, .ref 92), (1, .int v1), (2, .int v2), (3, .int v3), (4, .int v4), (5, .int v5), (6, .int v6), (7, .int v7)] []) (hk86 : ∀ (v1 : Int32) (v2 : Int32) (v3 : Int32) (v4 : Int32) (v5 : Int32) (v6 : Int32) (v7 : Int32) (v8 : Int32) (v9 : Int32) (v10 : Int32) (I : hM), k86 v1 v2 v3 v4 v5 v6 v7 v8 v9 v10 I = some (r, I2) → hp_J p l e ({ frames := 7, cells := 0, slots := 0, locals := 44 * 7 }) s m args below meth c (MQ below (hp_Q D E b z (some (.int r)) sh I2) args s 0 0 (fun q : Nat => b ≤ q)) D E b z 12 sh 0 0 I 86 [(0, .ref 92), (1, .int v1), (2, .int v2), (3, .int v3), (4, .int v4), (5, .int v5), (6, .int v6), (7, .int v7), (8, .int v8), (9, .int v9), (10, .int v10)] []) (h : X5_late_h86 k58 k86 v1 v2 v3 v4 v5 v6 v7 v8 v9 v10 I = some (r, I2)) : hp_J p l e ({ frames := 7, cells := 0, slots := 0, locals := 44 * 7 }) s m args below meth c (MQ below (hp_Q D E b z (some (.int r)) sh I2) args s 0 0 (fun q : Nat => b ≤ q)) D E b z 12 sh 0 0 I 86 [(0, .ref 92), (1, .int v1), (2, .int v2), (3, .int v3), (4, .int v4), (5, .int v5), (6, .int v6), (7, .int v7), (8, .int v8), (9, .int v9), (10, .int v10)] [] := by
  unfold X5_late_h86 at h
  refine hj_iload hX 10 rfl dX5_late_86 ?_
  refine hj_aload_n hX rfl 0 rfl dX5_late_88 ?_
  refine hj_geti hX (j := 0) hf0.1 rfl rfl X5_late_w5 (Nat.le_of_ble_eq_true rfl) rfl X5_late_k110 dX5_late_89 ?_
  refine hj_icmp_ge hX (tgt := 202) (by decide) dX5_late_92 h (fun h => ?_) (fun h => ?_)
  · refine hj_lv hX [0, 1, 2, 3, 4, 5, 6, 7, 8, 9] (lv2 := [(0, .ref 92), (1, .int v1), (2, .int v2), (3, .int v3), (4, .int v4), (5, .int v5), (6, .int v6), (7, .int v7), (8, .int v8), (9, .int v9)]) rfl ?_
    exact X5_late_b202_ok hX hf0 hk58 h
  · refine hj_aload_n hX rfl 0 rfl dX5_late_95 ?_
    refine hj_iload hX 10 rfl dX5_late_96 ?_
    obtain ⟨u16, Ia17, hc18, h⟩ := ob_e h
    refine hj_callV hX (sh2 := sh) (I2 := Ia17) (r := (some (.int u16))) (As := [.int v10]) (rest := []) (st2 := [.int u16]) (X5_isSoon_ok hf0 hc18) gX5_late_X5_isSoon rfl X5_isSoon_hy ⟨(Nat.le_of_ble_eq_true rfl), (Nat.le_of_ble_eq_true rfl)⟩ rfl hf0.1 rfl (Nat.le_of_ble_eq_true rfl) ⟨(Nat.le_of_ble_eq_true rfl), (Nat.le_of_ble_eq_true rfl)⟩ rfl rfl rfl dX5_late_98 ?_
    refine hj_istore hX (Nat.le_of_ble_eq_true rfl) (lv2 := [(11, .int u16), (0, .ref 92), (1, .int v1), (2, .int v2), (3, .int v3), (4, .int v4), (5, .int v5), (6, .int v6), (7, .int v7), (8, .int v8), (9, .int v9), (10, .int v10)]) rfl dX5_late_101 ?_
    refine hj_iload hX 10 rfl dX5_late_103 ?_
    refine hj_if_eq hX (tgt := 127) (by decide) dX5_late_105 h (fun h => ?_) (fun h => ?_)
    · refine hj_iconst hX (v := (0 : Int32)) (by decide) dX5_late_127 ?_
      refine hj_lv hX [1, 2, 3, 4, 5, 6, 7, 8, 9, 11, 0] (lv2 := [(0, .ref 92), (1, .int v1), (2, .int v2), (3, .int v3), (4, .int v4), (5, .int v5), (6, .int v6), (7, .int v7), (8, .int v8), (10, .int v10), (11, .int u16)]) rfl ?_
      exact X5_late_b128_ok hX hf0 hk58 hk86 h
    · refine hj_iload hX 0 rfl dX5_late_108 ?_
      refine hj_if_ne hX (tgt := 123) (by decide) dX5_late_110 h (fun h => ?_) (fun h => ?_)
      · refine hj_iconst hX (v := (1 : Int32)) (by decide) dX5_late_123 ?_
        refine hj_goto hX (tgt := 128) (by decide) dX5_late_124 ?_
        refine hj_lv hX [1, 2, 3, 4, 5, 6, 7, 8, 9, 11, 0] (lv2 := [(0, .ref 92), (1, .int v1), (2, .int v2), (3, .int v3), (4, .int v4), (5, .int v5), (6, .int v6), (7, .int v7), (8, .int v8), (10, .int v10), (11, .int u16)]) rfl ?_
        exact X5_late_b128_ok hX hf0 hk58 hk86 h
      · refine hj_iload hX 8 rfl dX5_late_113 ?_
        refine hj_iload hX 11 rfl dX5_late_115 ?_
        obtain ⟨u19, Ia20, hc21, h⟩ := ob_e h
        refine hj_callS hX (sh2 := sh) (I2 := Ia20) (r := (some (.int u19))) (As := [.int v7, .int v10]) (rest := []) (st2 := [.int u19]) (X5_has_ok hc21) gX5_late_X5_has rfl X5_has_hy.2 ⟨(Nat.le_of_ble_eq_true rfl), (Nat.le_of_ble_eq_true rfl)⟩ rfl (Nat.le_of_ble_eq_true rfl) ⟨(Nat.le_of_ble_eq_true rfl), (Nat.le_of_ble_eq_true rfl)⟩ rfl rfl rfl dX5_late_117 ?_
        refine hj_if_ne hX (tgt := 127) (by decide) dX5_late_120 h (fun h => ?_) (fun h => ?_)
        · refine hj_iconst hX (v := (0 : Int32)) (by decide) dX5_late_127 ?_
          refine hj_lv hX [1, 2, 3, 4, 5, 6, 7, 8, 9, 11, 0] (lv2 := [(0, .ref 92), (1, .int v1), (2, .int v2), (3, .int v3), (4, .int v4), (5, .int v5), (6, .int v6), (7, .int v7), (8, .int v8), (10, .int v10), (11, .int u16)]) rfl ?_
          exact X5_late_b128_ok hX hf0 hk58 hk86 h
        · refine hj_iconst hX (v := (1 : Int32)) (by decide) dX5_late_123 ?_
          refine hj_goto hX (tgt := 128) (by decide) dX5_late_124 ?_
          refine hj_lv hX [1, 2, 3, 4, 5, 6, 7, 8, 9, 11, 0] (lv2 := [(0, .ref 92), (1, .int v1), (2, .int v2), (3, .int v3), (4, .int v4), (5, .int v5), (6, .int v6), (7, .int v7), (8, .int v8), (10, .int v10), (11, .int u16)]) rfl ?_
          exact X5_late_b128_ok hX hf0 hk58 hk86 h
set_option maxHeartbeats 4000000 in
set_option maxRecDepth 100000 in
theorem X5_late_l86_ok {p : Program} {l : Launch} {e : Env} {s : State} {m : MethodId} {args : Array Value} {below : List Frame} {meth : Method} {c : Code} {D : va_G} {E : Nat → ClassId} {b z : Nat} {sh : List hS} {r : Int32} {I2 : hM} {k58 : Int32 → Int32 → Int32 → Int32 → Int32 → Int32 → Int32 → hM → Option (Int32 × hM)} (hX : hp_X p s m args meth c yX5_late.cls cX5_late 12 wsX5_late D E (some .int) yX5_late.name) (hf0 : hq_X5 sh) (hk58 : ∀ (v1 : Int32) (v2 : Int32) (v3 : Int32) (v4 : Int32) (v5 : Int32) (v6 : Int32) (v7 : Int32) (I : hM), k58 v1 v2 v3 v4 v5 v6 v7 I = some (r, I2) → hp_J p l e ({ frames := 7, cells := 0, slots := 0, locals := 44 * 7 }) s m args below meth c (MQ below (hp_Q D E b z (some (.int r)) sh I2) args s 0 0 (fun q : Nat => b ≤ q)) D E b z 12 sh 0 0 I 58 [(0, .ref 92), (1, .int v1), (2, .int v2), (3, .int v3), (4, .int v4), (5, .int v5), (6, .int v6), (7, .int v7)] []) : ∀ (n : Nat) (v1 : Int32) (v2 : Int32) (v3 : Int32) (v4 : Int32) (v5 : Int32) (v6 : Int32) (v7 : Int32) (v8 : Int32) (v9 : Int32) (v10 : Int32) (I : hM), X5_late_l86 k58 n v1 v2 v3 v4 v5 v6 v7 v8 v9 v10 I = some (r, I2) → hp_J p l e ({ frames := 7, cells := 0, slots := 0, locals := 44 * 7 }) s m args below meth c (MQ below (hp_Q D E b z (some (.int r)) sh I2) args s 0 0 (fun q : Nat => b ≤ q)) D E b z 12 sh 0 0 I 86 [(0, .ref 92), (1, .int v1), (2, .int v2), (3, .int v3), (4, .int v4), (5, .int v5), (6, .int v6), (7, .int v7), (8, .int v8), (9, .int v9), (10, .int v10)] [] := by
  intro n
  induction n with
  | zero => exact fun _ _ _ _ _ _ _ _ _ _ _ h => nomatch h
  | succ n ih => exact fun _ _ _ _ _ _ _ _ _ _ _ h => X5_late_h86_ok hX hf0 hk58 ih h
set_option maxHeartbeats 4000000 in
set_option maxRecDepth 100000 in
theorem X5_late_b270_ok {p : Program} {l : Launch} {e : Env} {s : State} {m : MethodId} {args : Array Value} {below : List Frame} {meth : Method} {c : Code} {D : va_G} {E : Nat → ClassId} {b z : Nat} {sh : List hS} {r : Int32} {I2 : hM} {v4 : Int32} {v5 : Int32} {v6 : Int32} {v7 : Int32} {I : hM} (hX : hp_X p s m args meth c yX5_late.cls cX5_late 12 wsX5_late D E (some .int) yX5_late.name) (hf0 : hq_X5 sh) (h : X5_late_b270 v4 v5 v6 v7 I = some (r, I2)) : hp_J p l e ({ frames := 7, cells := 0, slots := 0, locals := 44 * 7 }) s m args below meth c (MQ below (hp_Q D E b z (some (.int r)) sh I2) args s 0 0 (fun q : Nat => b ≤ q)) D E b z 12 sh 0 0 I 270 [(4, .int v4), (5, .int v5), (6, .int v6), (7, .int v7)] [] := by
  unfold X5_late_b270 at h
  refine hj_iload hX 0 rfl dX5_late_270 ?_
  refine hj_if_ne hX (tgt := 283) (by decide) dX5_late_272 h (fun h => ?_) (fun h => ?_)
  · refine hj_iload hX 2 rfl dX5_late_283 ?_
    refine hj_iload hX 3 rfl dX5_late_285 ?_
    refine hj_idiv hX dX5_late_287 h (fun h => ?_)
    exact hj_iret hX dX5_late_288 h
  · refine hj_iload hX 1 rfl dX5_late_275 ?_
    refine hj_iload hX 3 rfl dX5_late_277 ?_
    refine hj_idiv hX dX5_late_279 h (fun h => ?_)
    refine hj_goto hX (tgt := 288) (by decide) dX5_late_280 ?_
    exact hj_iret hX dX5_late_288 h
set_option maxHeartbeats 4000000 in
set_option maxRecDepth 100000 in
theorem X5_late_h247_ok {p : Program} {l : Launch} {e : Env} {s : State} {m : MethodId} {args : Array Value} {below : List Frame} {meth : Method} {c : Code} {D : va_G} {E : Nat → ClassId} {b z : Nat} {sh : List hS} {r : Int32} {I2 : hM} {k247 : Int32 → Int32 → Int32 → Int32 → Int32 → hM → Option (Int32 × hM)} {v4 : Int32} {v5 : Int32} {v6 : Int32} {v7 : Int32} {v8 : Int32} {I : hM} (hX : hp_X p s m args meth c yX5_late.cls cX5_late 12 wsX5_late D E (some .int) yX5_late.name) (hf0 : hq_X5 sh) (hk247 : ∀ (v4 : Int32) (v5 : Int32) (v6 : Int32) (v7 : Int32) (v8 : Int32) (I : hM), k247 v4 v5 v6 v7 v8 I = some (r, I2) → hp_J p l e ({ frames := 7, cells := 0, slots := 0, locals := 44 * 7 }) s m args below meth c (MQ below (hp_Q D E b z (some (.int r)) sh I2) args s 0 0 (fun q : Nat => b ≤ q)) D E b z 12 sh 0 0 I 247 [(4, .int v4), (5, .int v5), (6, .int v6), (7, .int v7), (8, .int v8)] []) (h : X5_late_h247 k247 v4 v5 v6 v7 v8 I = some (r, I2)) : hp_J p l e ({ frames := 7, cells := 0, slots := 0, locals := 44 * 7 }) s m args below meth c (MQ below (hp_Q D E b z (some (.int r)) sh I2) args s 0 0 (fun q : Nat => b ≤ q)) D E b z 12 sh 0 0 I 247 [(4, .int v4), (5, .int v5), (6, .int v6), (7, .int v7), (8, .int v8)] [] := by
  unfold X5_late_h247 at h
  refine hj_iload hX 4 rfl dX5_late_247 ?_
  refine hj_if_eq hX (tgt := 270) (by decide) dX5_late_249 h (fun h => ?_) (fun h => ?_)
  · refine hj_lv hX [0, 1, 2, 3] (lv2 := [(4, .int v4), (5, .int v5), (6, .int v6), (7, .int v7)]) rfl ?_
    exact X5_late_b270_ok hX hf0 h
  · refine hj_iload hX 3 rfl dX5_late_252 ?_
    refine hj_iload hX 4 rfl dX5_late_254 ?_
    refine hj_irem hX dX5_late_256 h (fun h => ?_)
    refine hj_istore hX (Nat.le_of_ble_eq_true rfl) (lv2 := [(9, .int (v7 - v7 / v8 * v8)), (4, .int v4), (5, .int v5), (6, .int v6), (7, .int v7), (8, .int v8)]) rfl dX5_late_257 ?_
    refine hj_iload hX 5 rfl dX5_late_259 ?_
    refine hj_istore hX (Nat.le_of_ble_eq_true rfl) (lv2 := [(7, .int v8), (9, .int (v7 - v7 / v8 * v8)), (4, .int v4), (5, .int v5), (6, .int v6), (8, .int v8)]) rfl dX5_late_261 ?_
    refine hj_iload hX 1 rfl dX5_late_263 ?_
    refine hj_istore hX (Nat.le_of_ble_eq_true rfl) (lv2 := [(8, .int (v7 - v7 / v8 * v8)), (7, .int v8), (9, .int (v7 - v7 / v8 * v8)), (4, .int v4), (5, .int v5), (6, .int v6)]) rfl dX5_late_265 ?_
    refine hj_goto hX (tgt := 247) (by decide) dX5_late_267 ?_
    refine hj_lv hX [3, 4, 5, 1, 0] (lv2 := [(4, .int v4), (5, .int v5), (6, .int v6), (7, .int v8), (8, .int (v7 - v7 / v8 * v8))]) rfl ?_
    exact hk247 _ _ _ _ _ _ h
set_option maxHeartbeats 4000000 in
set_option maxRecDepth 100000 in
theorem X5_late_l247_ok {p : Program} {l : Launch} {e : Env} {s : State} {m : MethodId} {args : Array Value} {below : List Frame} {meth : Method} {c : Code} {D : va_G} {E : Nat → ClassId} {b z : Nat} {sh : List hS} {r : Int32} {I2 : hM} (hX : hp_X p s m args meth c yX5_late.cls cX5_late 12 wsX5_late D E (some .int) yX5_late.name) (hf0 : hq_X5 sh) : ∀ (n : Nat) (v4 : Int32) (v5 : Int32) (v6 : Int32) (v7 : Int32) (v8 : Int32) (I : hM), X5_late_l247 n v4 v5 v6 v7 v8 I = some (r, I2) → hp_J p l e ({ frames := 7, cells := 0, slots := 0, locals := 44 * 7 }) s m args below meth c (MQ below (hp_Q D E b z (some (.int r)) sh I2) args s 0 0 (fun q : Nat => b ≤ q)) D E b z 12 sh 0 0 I 247 [(4, .int v4), (5, .int v5), (6, .int v6), (7, .int v7), (8, .int v8)] [] := by
  intro n
  induction n with
  | zero => exact fun _ _ _ _ _ _ h => nomatch h
  | succ n ih => exact fun _ _ _ _ _ _ h => X5_late_h247_ok hX hf0 ih h
set_option maxHeartbeats 4000000 in
set_option maxRecDepth 100000 in
theorem X5_late_h58_ok {p : Program} {l : Launch} {e : Env} {s : State} {m : MethodId} {args : Array Value} {below : List Frame} {meth : Method} {c : Code} {D : va_G} {E : Nat → ClassId} {b z : Nat} {sh : List hS} {r : Int32} {I2 : hM} {k58 : Int32 → Int32 → Int32 → Int32 → Int32 → Int32 → Int32 → hM → Option (Int32 × hM)} {v1 : Int32} {v2 : Int32} {v3 : Int32} {v4 : Int32} {v5 : Int32} {v6 : Int32} {v7 : Int32} {I : hM} (hX : hp_X p s m args meth c yX5_late.cls cX5_late 12 wsX5_late D E (some .int) yX5_late.name) (hf0 : hq_X5 sh) (hk58 : ∀ (v1 : Int32) (v2 : Int32) (v3 : Int32) (v4 : Int32) (v5 : Int32) (v6 : Int32) (v7 : Int32) (I : hM), k58 v1 v2 v3 v4 v5 v6 v7 I = some (r, I2) → hp_J p l e ({ frames := 7, cells := 0, slots := 0, locals := 44 * 7 }) s m args below meth c (MQ below (hp_Q D E b z (some (.int r)) sh I2) args s 0 0 (fun q : Nat => b ≤ q)) D E b z 12 sh 0 0 I 58 [(0, .ref 92), (1, .int v1), (2, .int v2), (3, .int v3), (4, .int v4), (5, .int v5), (6, .int v6), (7, .int v7)] []) (h : X5_late_h58 k58 v1 v2 v3 v4 v5 v6 v7 I = some (r, I2)) : hp_J p l e ({ frames := 7, cells := 0, slots := 0, locals := 44 * 7 }) s m args below meth c (MQ below (hp_Q D E b z (some (.int r)) sh I2) args s 0 0 (fun q : Nat => b ≤ q)) D E b z 12 sh 0 0 I 58 [(0, .ref 92), (1, .int v1), (2, .int v2), (3, .int v3), (4, .int v4), (5, .int v5), (6, .int v6), (7, .int v7)] [] := by
  unfold X5_late_h58 at h
  refine hj_iload hX 7 rfl dX5_late_58 ?_
  refine hj_iconst hX (v := (1 : Int32)) (by decide) dX5_late_60 ?_
  refine hj_aload_n hX rfl 0 rfl dX5_late_61 ?_
  refine hj_geti hX (j := 0) hf0.1 rfl rfl X5_late_w5 (Nat.le_of_ble_eq_true rfl) rfl X5_late_k110 dX5_late_62 ?_
  refine hj_ishl hX dX5_late_65 ?_
  refine hj_icmp_ge hX (tgt := 239) (by decide) dX5_late_66 h (fun h => ?_) (fun h => ?_)
  · refine hj_iload hX 5 rfl dX5_late_239 ?_
    refine hj_istore hX (Nat.le_of_ble_eq_true rfl) (lv2 := [(7, .int v5), (0, .ref 92), (1, .int v1), (2, .int v2), (3, .int v3), (4, .int v4), (5, .int v5), (6, .int v6)]) rfl dX5_late_241 ?_
    refine hj_iload hX 7 rfl dX5_late_243 ?_
    refine hj_istore hX (Nat.le_of_ble_eq_true rfl) (lv2 := [(8, .int v6), (7, .int v5), (0, .ref 92), (1, .int v1), (2, .int v2), (3, .int v3), (4, .int v4), (5, .int v5), (6, .int v6)]) rfl dX5_late_245 ?_
    refine hj_lv hX [6, 7, 8, 1, 0] (lv2 := [(4, .int v4), (5, .int v5), (6, .int v6), (7, .int v5), (8, .int v6)]) rfl ?_
    exact X5_late_l247_ok hX hf0 hF _ _ _ _ _ _ h
  · refine hj_aload_n hX rfl 0 rfl dX5_late_69 ?_
    refine hj_iconst hX (v := (0 : Int32)) (by decide) dX5_late_70 ?_
    refine hj_sipush hX (v := (220 : Int32)) (by decide) dX5_late_71 ?_
    obtain ⟨u13, Ia14, hc15, h⟩ := ob_e h
    refine hj_callV hX (sh2 := sh) (I2 := Ia14) (r := none) (As := [.int (0 : Int32), .int (220 : Int32)]) (rest := []) (st2 := []) (X5_copies_ok hf0 hc15) gX5_late_X5_copies rfl X5_copies_hy ⟨(Nat.le_of_ble_eq_true rfl), (Nat.le_of_ble_eq_true rfl)⟩ rfl hf0.1 rfl (Nat.le_of_ble_eq_true rfl) ⟨(Nat.le_of_ble_eq_true rfl), (Nat.le_of_ble_eq_true rfl)⟩ rfl rfl rfl dX5_late_74 ?_
    refine hj_iconst hX (v := (1 : Int32)) (by decide) dX5_late_77 ?_
    refine hj_istore hX (Nat.le_of_ble_eq_true rfl) (lv2 := [(8, .int (1 : Int32)), (0, .ref 92), (1, .int v1), (2, .int v2), (3, .int v3), (4, .int v4), (5, .int v5), (6, .int v6), (7, .int v7)]) rfl dX5_late_78 ?_
    refine hj_iconst hX (v := (1 : Int32)) (by decide) dX5_late_80 ?_
    refine hj_istore hX (Nat.le_of_ble_eq_true rfl) (lv2 := [(9, .int (1 : Int32)), (8, .int (1 : Int32)), (0, .ref 92), (1, .int v1), (2, .int v2), (3, .int v3), (4, .int v4), (5, .int v5), (6, .int v6), (7, .int v7)]) rfl dX5_late_81 ?_
    refine hj_iconst hX (v := (0 : Int32)) (by decide) dX5_late_83 ?_
    refine hj_istore hX (Nat.le_of_ble_eq_true rfl) (lv2 := [(10, .int (0 : Int32)), (9, .int (1 : Int32)), (8, .int (1 : Int32)), (0, .ref 92), (1, .int v1), (2, .int v2), (3, .int v3), (4, .int v4), (5, .int v5), (6, .int v6), (7, .int v7)]) rfl dX5_late_84 ?_
    refine hj_lv hX [3, 4, 5, 6, 7, 8, 9, 10, 2, 1, 0] (lv2 := [(0, .ref 92), (1, .int v1), (2, .int v2), (3, .int v3), (4, .int v4), (5, .int v5), (6, .int v6), (7, .int v7), (8, .int (1 : Int32)), (9, .int (1 : Int32)), (10, .int (0 : Int32))]) rfl ?_
    exact X5_late_l86_ok hX hf0 hk58 hF _ _ _ _ _ _ _ _ _ _ _ h
set_option maxHeartbeats 4000000 in
set_option maxRecDepth 100000 in
theorem X5_late_l58_ok {p : Program} {l : Launch} {e : Env} {s : State} {m : MethodId} {args : Array Value} {below : List Frame} {meth : Method} {c : Code} {D : va_G} {E : Nat → ClassId} {b z : Nat} {sh : List hS} {r : Int32} {I2 : hM} (hX : hp_X p s m args meth c yX5_late.cls cX5_late 12 wsX5_late D E (some .int) yX5_late.name) (hf0 : hq_X5 sh) : ∀ (n : Nat) (v1 : Int32) (v2 : Int32) (v3 : Int32) (v4 : Int32) (v5 : Int32) (v6 : Int32) (v7 : Int32) (I : hM), X5_late_l58 n v1 v2 v3 v4 v5 v6 v7 I = some (r, I2) → hp_J p l e ({ frames := 7, cells := 0, slots := 0, locals := 44 * 7 }) s m args below meth c (MQ below (hp_Q D E b z (some (.int r)) sh I2) args s 0 0 (fun q : Nat => b ≤ q)) D E b z 12 sh 0 0 I 58 [(0, .ref 92), (1, .int v1), (2, .int v2), (3, .int v3), (4, .int v4), (5, .int v5), (6, .int v6), (7, .int v7)] [] := by
  intro n
  induction n with
  | zero => exact fun _ _ _ _ _ _ _ _ h => nomatch h
  | succ n ih => exact fun _ _ _ _ _ _ _ _ h => X5_late_h58_ok hX hf0 ih h
set_option maxHeartbeats 4000000 in
set_option maxRecDepth 100000 in
theorem X5_late_ok {sh : List hS} {r : Int32} {I I2 : hM} {v1 : Int32} {v2 : Int32} {v3 : Int32} {v4 : Int32} (hf0 : hq_X5 sh) (h : X5_late v1 v2 v3 v4 I = some (r, I2)) : hp_C yX5_late wsX5_late 7 0 0 sh I [.ref 92, .int v1, .int v2, .int v3, .int v4] (some (.int r)) sh I2 := hp_start (cc := cX5_late) (maxL := 12) (ret := (some .int)) [(0, .ref 92), (1, .int v1), (2, .int v2), (3, .int v3), (4, .int v4)] (by decide) rfl (fun _ _ => rfl) (fun _ _ => Nat.le_of_ble_eq_true rfl) (fun p l e s m below meth c D E b z hX _ => by
  unfold X5_late at h
  refine hj_iload_n hX rfl 1 rfl dX5_late_0 ?_
  refine hj_i2l hX dX5_late_1 ?_
  refine hj_lconst hX (v := (1 : Int64)) (by decide) dX5_late_2 ?_
  refine hj_ldc2 hX (v := (20 : Int64)) X5_late_mc260 dX5_late_3 ?_
  obtain ⟨u1, Ia2, hc3, h⟩ := ob_e h
  refine hj_callS hX (sh2 := sh) (I2 := Ia2) (r := (some (.int u1))) (As := [.long (v1).toInt64, .long (1 : Int64), .long (20 : Int64)]) (rest := []) (st2 := [.int u1]) (X5_in_ok hc3) gX5_late_X5_in rfl X5_in_hy.2 ⟨(Nat.le_of_ble_eq_true rfl), (Nat.le_of_ble_eq_true rfl)⟩ rfl (Nat.le_of_ble_eq_true rfl) ⟨(Nat.le_of_ble_eq_true rfl), (Nat.le_of_ble_eq_true rfl)⟩ rfl rfl rfl dX5_late_6 ?_
  refine hj_if_eq hX (tgt := 47) (by decide) dX5_late_9 h (fun h => ?_) (fun h => ?_)
  · refine hj_iconst hX (v := (-1 : Int32)) (by decide) dX5_late_47 ?_
    exact hj_iret hX dX5_late_48 h
  · refine hj_iload_n hX rfl 2 rfl dX5_late_12 ?_
    refine hj_i2l hX dX5_late_13 ?_
    refine hj_lconst hX (v := (0 : Int64)) (by decide) dX5_late_14 ?_
    refine hj_ldc2 hX (v := (10 : Int64)) X5_late_mc265 dX5_late_15 ?_
    obtain ⟨u4, Ia5, hc6, h⟩ := ob_e h
    refine hj_callS hX (sh2 := sh) (I2 := Ia5) (r := (some (.int u4))) (As := [.long (v2).toInt64, .long (0 : Int64), .long (10 : Int64)]) (rest := []) (st2 := [.int u4]) (X5_in_ok hc6) gX5_late_X5_in rfl X5_in_hy.2 ⟨(Nat.le_of_ble_eq_true rfl), (Nat.le_of_ble_eq_true rfl)⟩ rfl (Nat.le_of_ble_eq_true rfl) ⟨(Nat.le_of_ble_eq_true rfl), (Nat.le_of_ble_eq_true rfl)⟩ rfl rfl rfl dX5_late_18 ?_
    refine hj_if_eq hX (tgt := 47) (by decide) dX5_late_21 h (fun h => ?_) (fun h => ?_)
    · refine hj_iconst hX (v := (-1 : Int32)) (by decide) dX5_late_47 ?_
      exact hj_iret hX dX5_late_48 h
    · refine hj_iload_n hX rfl 3 rfl dX5_late_24 ?_
      refine hj_i2l hX dX5_late_25 ?_
      refine hj_lconst hX (v := (0 : Int64)) (by decide) dX5_late_26 ?_
      refine hj_ldc2 hX (v := (999 : Int64)) X5_late_mc267 dX5_late_27 ?_
      obtain ⟨u7, Ia8, hc9, h⟩ := ob_e h
      refine hj_callS hX (sh2 := sh) (I2 := Ia8) (r := (some (.int u7))) (As := [.long (v3).toInt64, .long (0 : Int64), .long (999 : Int64)]) (rest := []) (st2 := [.int u7]) (X5_in_ok hc9) gX5_late_X5_in rfl X5_in_hy.2 ⟨(Nat.le_of_ble_eq_true rfl), (Nat.le_of_ble_eq_true rfl)⟩ rfl (Nat.le_of_ble_eq_true rfl) ⟨(Nat.le_of_ble_eq_true rfl), (Nat.le_of_ble_eq_true rfl)⟩ rfl rfl rfl dX5_late_30 ?_
      refine hj_if_eq hX (tgt := 47) (by decide) dX5_late_33 h (fun h => ?_) (fun h => ?_)
      · refine hj_iconst hX (v := (-1 : Int32)) (by decide) dX5_late_47 ?_
        exact hj_iret hX dX5_late_48 h
      · refine hj_iload hX 4 rfl dX5_late_36 ?_
        refine hj_i2l hX dX5_late_38 ?_
        refine hj_lconst hX (v := (0 : Int64)) (by decide) dX5_late_39 ?_
        refine hj_lconst hX (v := (1 : Int64)) (by decide) dX5_late_40 ?_
        obtain ⟨u10, Ia11, hc12, h⟩ := ob_e h
        refine hj_callS hX (sh2 := sh) (I2 := Ia11) (r := (some (.int u10))) (As := [.long (v4).toInt64, .long (0 : Int64), .long (1 : Int64)]) (rest := []) (st2 := [.int u10]) (X5_in_ok hc12) gX5_late_X5_in rfl X5_in_hy.2 ⟨(Nat.le_of_ble_eq_true rfl), (Nat.le_of_ble_eq_true rfl)⟩ rfl (Nat.le_of_ble_eq_true rfl) ⟨(Nat.le_of_ble_eq_true rfl), (Nat.le_of_ble_eq_true rfl)⟩ rfl rfl rfl dX5_late_41 ?_
        refine hj_if_ne hX (tgt := 49) (by decide) dX5_late_44 h (fun h => ?_) (fun h => ?_)
        · refine hj_iconst hX (v := (0 : Int32)) (by decide) dX5_late_49 ?_
          refine hj_istore hX (Nat.le_of_ble_eq_true rfl) (lv2 := [(5, .int (0 : Int32)), (0, .ref 92), (1, .int v1), (2, .int v2), (3, .int v3), (4, .int v4)]) rfl dX5_late_50 ?_
          refine hj_iconst hX (v := (0 : Int32)) (by decide) dX5_late_52 ?_
          refine hj_istore hX (Nat.le_of_ble_eq_true rfl) (lv2 := [(6, .int (0 : Int32)), (5, .int (0 : Int32)), (0, .ref 92), (1, .int v1), (2, .int v2), (3, .int v3), (4, .int v4)]) rfl dX5_late_53 ?_
          refine hj_iconst hX (v := (0 : Int32)) (by decide) dX5_late_55 ?_
          refine hj_istore hX (Nat.le_of_ble_eq_true rfl) (lv2 := [(7, .int (0 : Int32)), (6, .int (0 : Int32)), (5, .int (0 : Int32)), (0, .ref 92), (1, .int v1), (2, .int v2), (3, .int v3), (4, .int v4)]) rfl dX5_late_56 ?_
          refine hj_lv hX [3, 4, 5, 6, 7, 2, 1, 0] (lv2 := [(0, .ref 92), (1, .int v1), (2, .int v2), (3, .int v3), (4, .int v4), (5, .int (0 : Int32)), (6, .int (0 : Int32)), (7, .int (0 : Int32))]) rfl ?_
          exact X5_late_l58_ok hX hf0 hF _ _ _ _ _ _ _ _ h
        · refine hj_iconst hX (v := (-1 : Int32)) (by decide) dX5_late_47 ?_
          exact hj_iret hX dX5_late_48 h)
def X5_does_b165 (v1 : Int32) (v5 : Int32) (v6 : Int32) (t1 : Int32) (t2 : Int32) (t3 : Int32) (I : hM) : Option (Int32 × hM) := gd (hx t1 240) (gd (hx ((v1 + (14 : Int32)) + v5) 240) (if v6 = 0 then (gd (hx ((v1 + (14 : Int32)) + v5) 240) (some (0, (hu (hu I 113 (t1).toNatClampNeg (t2 - t3)) 113 (((v1 + (14 : Int32)) + v5)).toNatClampNeg (((hu I 113 (t1).toNatClampNeg (t2 - t3)) 113 (((v1 + (14 : Int32)) + v5)).toNatClampNeg) + (0 : Int32)))))) else (gd (hx ((v1 + (14 : Int32)) + v5) 240) (some (0, (hu (hu I 113 (t1).toNatClampNeg (t2 - t3)) 113 (((v1 + (14 : Int32)) + v5)).toNatClampNeg (((hu I 113 (t1).toNatClampNeg (t2 - t3)) 113 (((v1 + (14 : Int32)) + v5)).toNatClampNeg) + (1 : Int32))))))))
def X5_does_b141 (v1 : Int32) (v3 : Int32) (v5 : Int32) (t0 : Int32) (I : hM) : Option (Int32 × hM) := gd (hx ((v1 + (14 : Int32)) + v3) 240) (if t0 = 0 then ((X5_does_b165 v1 v5 t0 ((v1 + (14 : Int32)) + v3) (I 113 (((v1 + (14 : Int32)) + v3)).toNatClampNeg) (0 : Int32) I)) else ((X5_does_b165 v1 v5 t0 ((v1 + (14 : Int32)) + v3) (I 113 (((v1 + (14 : Int32)) + v3)).toNatClampNeg) (1 : Int32) I)))
def X5_does_b82 (v1 : Int32) (v2 : Int32) (v3 : Int32) (v4 : Int32) (I : hM) : Option (Int32 × hM) := if v4 = (2 : Int32) then (gd (decide (¬ (64 : Int32) = 0)) (gd (decide (¬ (I 92 10) = 0)) (if v3 = ((v2 / (64 : Int32)) - (v2 / (64 : Int32)) / (I 92 10) * (I 92 10)) then ((X5_does_b141 v1 v3 ((v2 / (64 : Int32)) - (v2 / (64 : Int32)) / (I 92 10) * (I 92 10)) (0 : Int32) I)) else (gd (hx ((v1 + (14 : Int32)) + v3) 240) (if (I 113 (((v1 + (14 : Int32)) + v3)).toNatClampNeg) ≤ 0 then ((X5_does_b141 v1 v3 ((v2 / (64 : Int32)) - (v2 / (64 : Int32)) / (I 92 10) * (I 92 10)) (0 : Int32) I)) else (gd (hx ((v1 + (14 : Int32)) + ((v2 / (64 : Int32)) - (v2 / (64 : Int32)) / (I 92 10) * (I 92 10))) 240) (if (9 : Int32) ≤ (I 113 (((v1 + (14 : Int32)) + ((v2 / (64 : Int32)) - (v2 / (64 : Int32)) / (I 92 10) * (I 92 10)))).toNatClampNeg) then ((X5_does_b141 v1 v3 ((v2 / (64 : Int32)) - (v2 / (64 : Int32)) / (I 92 10) * (I 92 10)) (0 : Int32) I)) else ((X5_does_b141 v1 v3 ((v2 / (64 : Int32)) - (v2 / (64 : Int32)) / (I 92 10) * (I 92 10)) (1 : Int32) I))))))))) else (some (0, I))
def X5_does (v1 : Int32) (v2 : Int32) (I : hM) : Option (Int32 × hM) := gd (decide (¬ (8 : Int32) = 0)) (gd (decide (¬ (I 92 10) = 0)) (gd (decide (¬ (8 : Int32) = 0)) (if (2 : Int32) ≤ (v2 - v2 / (8 : Int32) * (8 : Int32)) then ((X5_does_b82 v1 v2 ((v2 / (8 : Int32)) - (v2 / (8 : Int32)) / (I 92 10) * (I 92 10)) (v2 - v2 / (8 : Int32) * (8 : Int32)) I)) else (gd (decide (¬ (64 : Int32) = 0)) (gd (decide (¬ (I 92 0) = 0)) (ob (X5_canPin v1 ((v2 / (8 : Int32)) - (v2 / (8 : Int32)) / (I 92 10) * (I 92 10)) ((v2 / (64 : Int32)) - (v2 / (64 : Int32)) / (I 92 0) * (I 92 0)) I) (fun u1 Ia2 => if u1 = 0 then ((X5_does_b82 v1 v2 ((v2 / (8 : Int32)) - (v2 / (8 : Int32)) / (I 92 10) * (I 92 10)) (v2 - v2 / (8 : Int32) * (8 : Int32)) Ia2)) else (gd (hx ((v1 + (14 : Int32)) + ((v2 / (8 : Int32)) - (v2 / (8 : Int32)) / (I 92 10) * (I 92 10))) 240) (gd (hx ((v1 + (14 : Int32)) + ((v2 / (8 : Int32)) - (v2 / (8 : Int32)) / (I 92 10) * (I 92 10))) 240) (gd (decide (¬ (64 : Int32) = 0)) (gd (decide (¬ ((hu Ia2 113 (((v1 + (14 : Int32)) + ((v2 / (8 : Int32)) - (v2 / (8 : Int32)) / (I 92 10) * (I 92 10)))).toNatClampNeg ((Ia2 113 (((v1 + (14 : Int32)) + ((v2 / (8 : Int32)) - (v2 / (8 : Int32)) / (I 92 10) * (I 92 10)))).toNatClampNeg) - (1 : Int32))) 92 0) = 0)) (gd (hx (v1 + (18 : Int32)) 240) (ob (X5_ends v1 ((v2 / (64 : Int32)) - (v2 / (64 : Int32)) / ((hu Ia2 113 (((v1 + (14 : Int32)) + ((v2 / (8 : Int32)) - (v2 / (8 : Int32)) / (I 92 10) * (I 92 10)))).toNatClampNeg ((Ia2 113 (((v1 + (14 : Int32)) + ((v2 / (8 : Int32)) - (v2 / (8 : Int32)) / (I 92 10) * (I 92 10)))).toNatClampNeg) - (1 : Int32))) 92 0) * ((hu Ia2 113 (((v1 + (14 : Int32)) + ((v2 / (8 : Int32)) - (v2 / (8 : Int32)) / (I 92 10) * (I 92 10)))).toNatClampNeg ((Ia2 113 (((v1 + (14 : Int32)) + ((v2 / (8 : Int32)) - (v2 / (8 : Int32)) / (I 92 10) * (I 92 10)))).toNatClampNeg) - (1 : Int32))) 92 0)) (3 : Int32) ((hu Ia2 113 (((v1 + (14 : Int32)) + ((v2 / (8 : Int32)) - (v2 / (8 : Int32)) / (I 92 10) * (I 92 10)))).toNatClampNeg ((Ia2 113 (((v1 + (14 : Int32)) + ((v2 / (8 : Int32)) - (v2 / (8 : Int32)) / (I 92 10) * (I 92 10)))).toNatClampNeg) - (1 : Int32))) 113 ((v1 + (18 : Int32))).toNatClampNeg) (hu Ia2 113 (((v1 + (14 : Int32)) + ((v2 / (8 : Int32)) - (v2 / (8 : Int32)) / (I 92 10) * (I 92 10)))).toNatClampNeg ((Ia2 113 (((v1 + (14 : Int32)) + ((v2 / (8 : Int32)) - (v2 / (8 : Int32)) / (I 92 10) * (I 92 10)))).toNatClampNeg) - (1 : Int32)))) (fun u4 Ia5 => some (0, Ia5)))))))))))))))
theorem X5_does_hy : yX5_does.cls = RX5 ∧ yX5_does.cls ≠ "java/lang/invoke/MethodHandle" ∧ yX5_does.cls ≠ "java/lang/invoke/VarHandle" ∧ (parseMethodDescriptor yX5_does.desc).map (fun d => d.parameters.length) = some 2 := by decide +kernel
theorem X5_does_k116 : Cond.fieldLink RX5 116 "HatPinsModel" "ladies" "I" ∈ wsX5_does := by decide +kernel
theorem X5_does_k110 : Cond.fieldLink RX5 110 "HatPinsModel" "many" "I" ∈ wsX5_does := by decide +kernel
theorem X5_does_k70 : Cond.fieldLink RX5 70 "HatPinsModel" "slot" "[I" ∈ wsX5_does := by decide +kernel
theorem X5_does_w5 : ∀ w ∈ wsX50, w ∈ wsX5_does := by decide +kernel
set_option maxHeartbeats 4000000 in
set_option maxRecDepth 100000 in
theorem X5_does_b165_ok {p : Program} {l : Launch} {e : Env} {s : State} {m : MethodId} {args : Array Value} {below : List Frame} {meth : Method} {c : Code} {D : va_G} {E : Nat → ClassId} {b z : Nat} {sh : List hS} {r : Int32} {I2 : hM} {v1 : Int32} {v5 : Int32} {v6 : Int32} {t1 : Int32} {t2 : Int32} {t3 : Int32} {I : hM} (hX : hp_X p s m args meth c yX5_does.cls cX5_does 7 wsX5_does D E none yX5_does.name) (hf0 : hq_X5 sh) (h : X5_does_b165 v1 v5 v6 t1 t2 t3 I = some (r, I2)) : hp_J p l e ({ frames := 2, cells := 0, slots := 0, locals := 44 * 2 }) s m args below meth c (MQ below (hp_Q D E b z none sh I2) args s 0 0 (fun q : Nat => b ≤ q)) D E b z 7 sh 0 0 I 165 [(0, .ref 92), (1, .int v1), (5, .int v5), (6, .int v6)] [.int t3, .int t2, .int t1, .ref 113] := by
  unfold X5_does_b165 at h
  refine hj_isub hX dX5_does_165 ?_
  refine hj_iast hX hf0.2.2.2.2.2.2.2.2.2.2.2.2.2.2.2.2.2.2.2.2.2.1 dX5_does_166 h (fun h => ?_)
  refine hj_aload_n hX rfl 0 rfl dX5_does_167 ?_
  refine hj_getr hX (j := 26) hf0.1 rfl rfl X5_does_w5 (Nat.le_of_ble_eq_true rfl) rfl X5_does_k70 dX5_does_168 ?_
  refine hj_iload_n hX rfl 1 rfl dX5_does_171 ?_
  refine hj_bipush hX (v := (14 : Int32)) (by decide) dX5_does_172 ?_
  refine hj_iadd hX dX5_does_174 ?_
  refine hj_iload hX 2 rfl dX5_does_175 ?_
  refine hj_iadd hX dX5_does_177 ?_
  refine hj_dup2 hX rfl rfl dX5_does_178 ?_
  refine hj_iald hX hf0.2.2.2.2.2.2.2.2.2.2.2.2.2.2.2.2.2.2.2.2.2.1 dX5_does_179 h (fun h => ?_)
  refine hj_iload hX 3 rfl dX5_does_180 ?_
  refine hj_if_eq hX (tgt := 189) (by decide) dX5_does_182 h (fun h => ?_) (fun h => ?_)
  · refine hj_iconst hX (v := (0 : Int32)) (by decide) dX5_does_189 ?_
    refine hj_iadd hX dX5_does_190 ?_
    refine hj_iast hX hf0.2.2.2.2.2.2.2.2.2.2.2.2.2.2.2.2.2.2.2.2.2.1 dX5_does_191 h (fun h => ?_)
    exact hj_vret hX dX5_does_192 h
  · refine hj_iconst hX (v := (1 : Int32)) (by decide) dX5_does_185 ?_
    refine hj_goto hX (tgt := 190) (by decide) dX5_does_186 ?_
    refine hj_iadd hX dX5_does_190 ?_
    refine hj_iast hX hf0.2.2.2.2.2.2.2.2.2.2.2.2.2.2.2.2.2.2.2.2.2.1 dX5_does_191 h (fun h => ?_)
    exact hj_vret hX dX5_does_192 h
set_option maxHeartbeats 4000000 in
set_option maxRecDepth 100000 in
theorem X5_does_b141_ok {p : Program} {l : Launch} {e : Env} {s : State} {m : MethodId} {args : Array Value} {below : List Frame} {meth : Method} {c : Code} {D : va_G} {E : Nat → ClassId} {b z : Nat} {sh : List hS} {r : Int32} {I2 : hM} {v1 : Int32} {v3 : Int32} {v5 : Int32} {t0 : Int32} {I : hM} (hX : hp_X p s m args meth c yX5_does.cls cX5_does 7 wsX5_does D E none yX5_does.name) (hf0 : hq_X5 sh) (h : X5_does_b141 v1 v3 v5 t0 I = some (r, I2)) : hp_J p l e ({ frames := 2, cells := 0, slots := 0, locals := 44 * 2 }) s m args below meth c (MQ below (hp_Q D E b z none sh I2) args s 0 0 (fun q : Nat => b ≤ q)) D E b z 7 sh 0 0 I 141 [(0, .ref 92), (1, .int v1), (3, .int v3), (5, .int v5)] [.int t0] := by
  unfold X5_does_b141 at h
  refine hj_istore hX (Nat.le_of_ble_eq_true rfl) (lv2 := [(6, .int t0), (0, .ref 92), (1, .int v1), (3, .int v3), (5, .int v5)]) rfl dX5_does_141 ?_
  refine hj_aload_n hX rfl 1 rfl dX5_does_143 ?_
  refine hj_getr hX (j := 26) hf0.1 rfl rfl X5_does_w5 (Nat.le_of_ble_eq_true rfl) rfl X5_does_k70 dX5_does_144 ?_
  refine hj_iload_n hX rfl 2 rfl dX5_does_147 ?_
  refine hj_bipush hX (v := (14 : Int32)) (by decide) dX5_does_148 ?_
  refine hj_iadd hX dX5_does_150 ?_
  refine hj_iload_n hX rfl 3 rfl dX5_does_151 ?_
  refine hj_iadd hX dX5_does_152 ?_
  refine hj_dup2 hX rfl rfl dX5_does_153 ?_
  refine hj_iald hX hf0.2.2.2.2.2.2.2.2.2.2.2.2.2.2.2.2.2.2.2.2.2.1 dX5_does_154 h (fun h => ?_)
  refine hj_iload hX 0 rfl dX5_does_155 ?_
  refine hj_if_eq hX (tgt := 164) (by decide) dX5_does_157 h (fun h => ?_) (fun h => ?_)
  · refine hj_iconst hX (v := (0 : Int32)) (by decide) dX5_does_164 ?_
    refine hj_lv hX [1, 2, 4, 0] (lv2 := [(0, .ref 92), (1, .int v1), (5, .int v5), (6, .int t0)]) rfl ?_
    exact X5_does_b165_ok hX hf0 h
  · refine hj_iconst hX (v := (1 : Int32)) (by decide) dX5_does_160 ?_
    refine hj_goto hX (tgt := 165) (by decide) dX5_does_161 ?_
    refine hj_lv hX [1, 2, 4, 0] (lv2 := [(0, .ref 92), (1, .int v1), (5, .int v5), (6, .int t0)]) rfl ?_
    exact X5_does_b165_ok hX hf0 h
set_option maxHeartbeats 4000000 in
set_option maxRecDepth 100000 in
theorem X5_does_b82_ok {p : Program} {l : Launch} {e : Env} {s : State} {m : MethodId} {args : Array Value} {below : List Frame} {meth : Method} {c : Code} {D : va_G} {E : Nat → ClassId} {b z : Nat} {sh : List hS} {r : Int32} {I2 : hM} {v1 : Int32} {v2 : Int32} {v3 : Int32} {v4 : Int32} {I : hM} (hX : hp_X p s m args meth c yX5_does.cls cX5_does 7 wsX5_does D E none yX5_does.name) (hf0 : hq_X5 sh) (h : X5_does_b82 v1 v2 v3 v4 I = some (r, I2)) : hp_J p l e ({ frames := 2, cells := 0, slots := 0, locals := 44 * 2 }) s m args below meth c (MQ below (hp_Q D E b z none sh I2) args s 0 0 (fun q : Nat => b ≤ q)) D E b z 7 sh 0 0 I 82 [(0, .ref 92), (1, .int v1), (2, .int v2), (3, .int v3), (4, .int v4)] [] := by
  unfold X5_does_b82 at h
  refine hj_iload hX 4 rfl dX5_does_82 ?_
  refine hj_iconst hX (v := (2 : Int32)) (by decide) dX5_does_84 ?_
  refine hj_icmp_ne hX (tgt := 192) (by decide) dX5_does_85 h (fun h => ?_) (fun h => ?_)
  · exact hj_vret hX dX5_does_192 h
  · refine hj_iload_n hX rfl 2 rfl dX5_does_88 ?_
    refine hj_bipush hX (v := (64 : Int32)) (by decide) dX5_does_89 ?_
    refine hj_idiv hX dX5_does_91 h (fun h => ?_)
    refine hj_aload_n hX rfl 0 rfl dX5_does_92 ?_
    refine hj_geti hX (j := 10) hf0.1 rfl rfl X5_does_w5 (Nat.le_of_ble_eq_true rfl) rfl X5_does_k116 dX5_does_93 ?_
    refine hj_irem hX dX5_does_96 h (fun h => ?_)
    refine hj_istore hX (Nat.le_of_ble_eq_true rfl) (lv2 := [(5, .int ((v2 / (64 : Int32)) - (v2 / (64 : Int32)) / (I 92 10) * (I 92 10))), (0, .ref 92), (1, .int v1), (2, .int v2), (3, .int v3), (4, .int v4)]) rfl dX5_does_97 ?_
    refine hj_iload_n hX rfl 4 rfl dX5_does_99 ?_
    refine hj_iload hX 0 rfl dX5_does_100 ?_
    refine hj_icmp_eq hX (tgt := 140) (by decide) dX5_does_102 h (fun h => ?_) (fun h => ?_)
    · refine hj_iconst hX (v := (0 : Int32)) (by decide) dX5_does_140 ?_
      refine hj_lv hX [1, 2, 4, 0] (lv2 := [(0, .ref 92), (1, .int v1), (3, .int v3), (5, .int ((v2 / (64 : Int32)) - (v2 / (64 : Int32)) / (I 92 10) * (I 92 10)))]) rfl ?_
      exact X5_does_b141_ok hX hf0 h
    · refine hj_aload_n hX rfl 1 rfl dX5_does_105 ?_
      refine hj_getr hX (j := 26) hf0.1 rfl rfl X5_does_w5 (Nat.le_of_ble_eq_true rfl) rfl X5_does_k70 dX5_does_106 ?_
      refine hj_iload_n hX rfl 2 rfl dX5_does_109 ?_
      refine hj_bipush hX (v := (14 : Int32)) (by decide) dX5_does_110 ?_
      refine hj_iadd hX dX5_does_112 ?_
      refine hj_iload_n hX rfl 4 rfl dX5_does_113 ?_
      refine hj_iadd hX dX5_does_114 ?_
      refine hj_iald hX hf0.2.2.2.2.2.2.2.2.2.2.2.2.2.2.2.2.2.2.2.2.2.1 dX5_does_115 h (fun h => ?_)
      refine hj_if_le hX (tgt := 140) (by decide) dX5_does_116 h (fun h => ?_) (fun h => ?_)
      · refine hj_iconst hX (v := (0 : Int32)) (by decide) dX5_does_140 ?_
        refine hj_lv hX [1, 2, 4, 0] (lv2 := [(0, .ref 92), (1, .int v1), (3, .int v3), (5, .int ((v2 / (64 : Int32)) - (v2 / (64 : Int32)) / (I 92 10) * (I 92 10)))]) rfl ?_
        exact X5_does_b141_ok hX hf0 h
      · refine hj_aload_n hX rfl 1 rfl dX5_does_119 ?_
        refine hj_getr hX (j := 26) hf0.1 rfl rfl X5_does_w5 (Nat.le_of_ble_eq_true rfl) rfl X5_does_k70 dX5_does_120 ?_
        refine hj_iload_n hX rfl 2 rfl dX5_does_123 ?_
        refine hj_bipush hX (v := (14 : Int32)) (by decide) dX5_does_124 ?_
        refine hj_iadd hX dX5_does_126 ?_
        refine hj_iload hX 0 rfl dX5_does_127 ?_
        refine hj_iadd hX dX5_does_129 ?_
        refine hj_iald hX hf0.2.2.2.2.2.2.2.2.2.2.2.2.2.2.2.2.2.2.2.2.2.1 dX5_does_130 h (fun h => ?_)
        refine hj_bipush hX (v := (9 : Int32)) (by decide) dX5_does_131 ?_
        refine hj_icmp_ge hX (tgt := 140) (by decide) dX5_does_133 h (fun h => ?_) (fun h => ?_)
        · refine hj_iconst hX (v := (0 : Int32)) (by decide) dX5_does_140 ?_
          refine hj_lv hX [1, 2, 4, 0] (lv2 := [(0, .ref 92), (1, .int v1), (3, .int v3), (5, .int ((v2 / (64 : Int32)) - (v2 / (64 : Int32)) / (I 92 10) * (I 92 10)))]) rfl ?_
          exact X5_does_b141_ok hX hf0 h
        · refine hj_iconst hX (v := (1 : Int32)) (by decide) dX5_does_136 ?_
          refine hj_goto hX (tgt := 141) (by decide) dX5_does_137 ?_
          refine hj_lv hX [1, 2, 4, 0] (lv2 := [(0, .ref 92), (1, .int v1), (3, .int v3), (5, .int ((v2 / (64 : Int32)) - (v2 / (64 : Int32)) / (I 92 10) * (I 92 10)))]) rfl ?_
          exact X5_does_b141_ok hX hf0 h
set_option maxHeartbeats 4000000 in
set_option maxRecDepth 100000 in
theorem X5_does_ok {sh : List hS} {r : Int32} {I I2 : hM} {v1 : Int32} {v2 : Int32} (hf0 : hq_X5 sh) (h : X5_does v1 v2 I = some (r, I2)) : hp_C yX5_does wsX5_does 2 0 0 sh I [.ref 92, .int v1, .int v2] none sh I2 := hp_start (cc := cX5_does) (maxL := 7) (ret := none) [(0, .ref 92), (1, .int v1), (2, .int v2)] (by decide) rfl (fun _ _ => rfl) (fun _ _ => Nat.le_of_ble_eq_true rfl) (fun p l e s m below meth c D E b z hX _ => by
  unfold X5_does at h
  refine hj_iload_n hX rfl 2 rfl dX5_does_0 ?_
  refine hj_bipush hX (v := (8 : Int32)) (by decide) dX5_does_1 ?_
  refine hj_idiv hX dX5_does_3 h (fun h => ?_)
  refine hj_aload_n hX rfl 0 rfl dX5_does_4 ?_
  refine hj_geti hX (j := 10) hf0.1 rfl rfl X5_does_w5 (Nat.le_of_ble_eq_true rfl) rfl X5_does_k116 dX5_does_5 ?_
  refine hj_irem hX dX5_does_8 h (fun h => ?_)
  refine hj_istore_n hX rfl (Nat.le_of_ble_eq_true rfl) (lv2 := [(3, .int ((v2 / (8 : Int32)) - (v2 / (8 : Int32)) / (I 92 10) * (I 92 10))), (0, .ref 92), (1, .int v1), (2, .int v2)]) rfl dX5_does_9 ?_
  refine hj_iload_n hX rfl 3 rfl dX5_does_10 ?_
  refine hj_bipush hX (v := (8 : Int32)) (by decide) dX5_does_11 ?_
  refine hj_irem hX dX5_does_13 h (fun h => ?_)
  refine hj_istore hX (Nat.le_of_ble_eq_true rfl) (lv2 := [(4, .int (v2 - v2 / (8 : Int32) * (8 : Int32))), (3, .int ((v2 / (8 : Int32)) - (v2 / (8 : Int32)) / (I 92 10) * (I 92 10))), (0, .ref 92), (1, .int v1), (2, .int v2)]) rfl dX5_does_14 ?_
  refine hj_iload hX 0 rfl dX5_does_16 ?_
  refine hj_iconst hX (v := (2 : Int32)) (by decide) dX5_does_18 ?_
  refine hj_icmp_ge hX (tgt := 82) (by decide) dX5_does_19 h (fun h => ?_) (fun h => ?_)
  · refine hj_lv hX [2, 3, 4, 1, 0] (lv2 := [(0, .ref 92), (1, .int v1), (2, .int v2), (3, .int ((v2 / (8 : Int32)) - (v2 / (8 : Int32)) / (I 92 10) * (I 92 10))), (4, .int (v2 - v2 / (8 : Int32) * (8 : Int32)))]) rfl ?_
    exact X5_does_b82_ok hX hf0 h
  · refine hj_aload_n hX rfl 2 rfl dX5_does_22 ?_
    refine hj_iload_n hX rfl 3 rfl dX5_does_23 ?_
    refine hj_iload_n hX rfl 1 rfl dX5_does_24 ?_
    refine hj_iload_n hX rfl 4 rfl dX5_does_25 ?_
    refine hj_bipush hX (v := (64 : Int32)) (by decide) dX5_does_26 ?_
    refine hj_idiv hX dX5_does_28 h (fun h => ?_)
    refine hj_aload_n hX rfl 2 rfl dX5_does_29 ?_
    refine hj_geti hX (j := 0) hf0.1 rfl rfl X5_does_w5 (Nat.le_of_ble_eq_true rfl) rfl X5_does_k110 dX5_does_30 ?_
    refine hj_irem hX dX5_does_33 h (fun h => ?_)
    obtain ⟨u1, Ia2, hc3, h⟩ := ob_e h
    refine hj_callV hX (sh2 := sh) (I2 := Ia2) (r := (some (.int u1))) (As := [.int v1, .int ((v2 / (8 : Int32)) - (v2 / (8 : Int32)) / (I 92 10) * (I 92 10)), .int ((v2 / (64 : Int32)) - (v2 / (64 : Int32)) / (I 92 0) * (I 92 0))]) (rest := []) (st2 := [.int u1]) (X5_canPin_ok hf0 hc3) gX5_does_X5_canPin rfl X5_canPin_hy ⟨(Nat.le_of_ble_eq_true rfl), (Nat.le_of_ble_eq_true rfl)⟩ rfl hf0.1 rfl (Nat.le_of_ble_eq_true rfl) ⟨(Nat.le_of_ble_eq_true rfl), (Nat.le_of_ble_eq_true rfl)⟩ rfl rfl rfl dX5_does_34 ?_
    refine hj_if_eq hX (tgt := 82) (by decide) dX5_does_37 h (fun h => ?_) (fun h => ?_)
    · refine hj_lv hX [2, 3, 4, 1, 0] (lv2 := [(0, .ref 92), (1, .int v1), (2, .int v2), (3, .int ((v2 / (8 : Int32)) - (v2 / (8 : Int32)) / (I 92 10) * (I 92 10))), (4, .int (v2 - v2 / (8 : Int32) * (8 : Int32)))]) rfl ?_
      exact X5_does_b82_ok hX hf0 h
    · refine hj_aload_n hX rfl 2 rfl dX5_does_40 ?_
      refine hj_getr hX (j := 26) hf0.1 rfl rfl X5_does_w5 (Nat.le_of_ble_eq_true rfl) rfl X5_does_k70 dX5_does_41 ?_
      refine hj_iload_n hX rfl 3 rfl dX5_does_44 ?_
      refine hj_bipush hX (v := (14 : Int32)) (by decide) dX5_does_45 ?_
      refine hj_iadd hX dX5_does_47 ?_
      refine hj_iload_n hX rfl 1 rfl dX5_does_48 ?_
      refine hj_iadd hX dX5_does_49 ?_
      refine hj_dup2 hX rfl rfl dX5_does_50 ?_
      refine hj_iald hX hf0.2.2.2.2.2.2.2.2.2.2.2.2.2.2.2.2.2.2.2.2.2.1 dX5_does_51 h (fun h => ?_)
      refine hj_iconst hX (v := (1 : Int32)) (by decide) dX5_does_52 ?_
      refine hj_isub hX dX5_does_53 ?_
      refine hj_iast hX hf0.2.2.2.2.2.2.2.2.2.2.2.2.2.2.2.2.2.2.2.2.2.1 dX5_does_54 h (fun h => ?_)
      refine hj_aload_n hX rfl 2 rfl dX5_does_55 ?_
      refine hj_iload_n hX rfl 3 rfl dX5_does_56 ?_
      refine hj_iload_n hX rfl 4 rfl dX5_does_57 ?_
      refine hj_bipush hX (v := (64 : Int32)) (by decide) dX5_does_58 ?_
      refine hj_idiv hX dX5_does_60 h (fun h => ?_)
      refine hj_aload_n hX rfl 2 rfl dX5_does_61 ?_
      refine hj_geti hX (j := 0) hf0.1 rfl rfl X5_does_w5 (Nat.le_of_ble_eq_true rfl) rfl X5_does_k110 dX5_does_62 ?_
      refine hj_irem hX dX5_does_65 h (fun h => ?_)
      refine hj_iconst hX (v := (3 : Int32)) (by decide) dX5_does_66 ?_
      refine hj_aload_n hX rfl 2 rfl dX5_does_67 ?_
      refine hj_getr hX (j := 26) hf0.1 rfl rfl X5_does_w5 (Nat.le_of_ble_eq_true rfl) rfl X5_does_k70 dX5_does_68 ?_
      refine hj_iload_n hX rfl 3 rfl dX5_does_71 ?_
      refine hj_bipush hX (v := (18 : Int32)) (by decide) dX5_does_72 ?_
      refine hj_iadd hX dX5_does_74 ?_
      refine hj_iald hX hf0.2.2.2.2.2.2.2.2.2.2.2.2.2.2.2.2.2.2.2.2.2.1 dX5_does_75 h (fun h => ?_)
      obtain ⟨u4, Ia5, hc6, h⟩ := ob_e h
      refine hj_callV hX (sh2 := sh) (I2 := Ia5) (r := none) (As := [.int v1, .int ((v2 / (64 : Int32)) - (v2 / (64 : Int32)) / ((hu Ia2 113 (((v1 + (14 : Int32)) + ((v2 / (8 : Int32)) - (v2 / (8 : Int32)) / (I 92 10) * (I 92 10)))).toNatClampNeg ((Ia2 113 (((v1 + (14 : Int32)) + ((v2 / (8 : Int32)) - (v2 / (8 : Int32)) / (I 92 10) * (I 92 10)))).toNatClampNeg) - (1 : Int32))) 92 0) * ((hu Ia2 113 (((v1 + (14 : Int32)) + ((v2 / (8 : Int32)) - (v2 / (8 : Int32)) / (I 92 10) * (I 92 10)))).toNatClampNeg ((Ia2 113 (((v1 + (14 : Int32)) + ((v2 / (8 : Int32)) - (v2 / (8 : Int32)) / (I 92 10) * (I 92 10)))).toNatClampNeg) - (1 : Int32))) 92 0)), .int (3 : Int32), .int ((hu Ia2 113 (((v1 + (14 : Int32)) + ((v2 / (8 : Int32)) - (v2 / (8 : Int32)) / (I 92 10) * (I 92 10)))).toNatClampNeg ((Ia2 113 (((v1 + (14 : Int32)) + ((v2 / (8 : Int32)) - (v2 / (8 : Int32)) / (I 92 10) * (I 92 10)))).toNatClampNeg) - (1 : Int32))) 113 ((v1 + (18 : Int32))).toNatClampNeg)]) (rest := []) (st2 := []) (X5_ends_ok hf0 hc6) gX5_does_X5_ends rfl X5_ends_hy ⟨(Nat.le_of_ble_eq_true rfl), (Nat.le_of_ble_eq_true rfl)⟩ rfl hf0.1 rfl (Nat.le_of_ble_eq_true rfl) ⟨(Nat.le_of_ble_eq_true rfl), (Nat.le_of_ble_eq_true rfl)⟩ rfl rfl rfl dX5_does_76 ?_
      refine hj_goto hX (tgt := 192) (by decide) dX5_does_79 ?_
      exact hj_vret hX dX5_does_192 h)
def X5_pins_h4 (k4 : Int32 → Int32 → Int32 → hM → Option (Int32 × hM)) (v1 : Int32) (v2 : Int32) (v3 : Int32) (I : hM) : Option (Int32 × hM) := if (I 92 10) ≤ v3 then (some (v2, I)) else (gd (hx ((v1 + (14 : Int32)) + v3) 240) ((k4 v1 (v2 + (I 113 (((v1 + (14 : Int32)) + v3)).toNatClampNeg)) (v3 + (1 : Int32)) I)))
def X5_pins_l4 : Nat → Int32 → Int32 → Int32 → hM → Option (Int32 × hM)
  | 0 => fun _ _ _ _ => none
  | n + 1 => X5_pins_h4   (X5_pins_l4   n)
def X5_pins (v1 : Int32) (I : hM) : Option (Int32 × hM) := (X5_pins_l4 hF v1 (0 : Int32) (0 : Int32) I)
theorem X5_pins_hy : yX5_pins.cls = RX5 ∧ yX5_pins.cls ≠ "java/lang/invoke/MethodHandle" ∧ yX5_pins.cls ≠ "java/lang/invoke/VarHandle" ∧ (parseMethodDescriptor yX5_pins.desc).map (fun d => d.parameters.length) = some 1 := by decide +kernel
theorem X5_pins_k116 : Cond.fieldLink RX5 116 "HatPinsModel" "ladies" "I" ∈ wsX5_pins := by decide +kernel
theorem X5_pins_k70 : Cond.fieldLink RX5 70 "HatPinsModel" "slot" "[I" ∈ wsX5_pins := by decide +kernel
theorem X5_pins_w5 : ∀ w ∈ wsX50, w ∈ wsX5_pins := by decide +kernel
set_option maxHeartbeats 4000000 in
set_option maxRecDepth 100000 in
theorem X5_pins_h4_ok {p : Program} {l : Launch} {e : Env} {s : State} {m : MethodId} {args : Array Value} {below : List Frame} {meth : Method} {c : Code} {D : va_G} {E : Nat → ClassId} {b z : Nat} {sh : List hS} {r : Int32} {I2 : hM} {k4 : Int32 → Int32 → Int32 → hM → Option (Int32 × hM)} {v1 : Int32} {v2 : Int32} {v3 : Int32} {I : hM} (hX : hp_X p s m args meth c yX5_pins.cls cX5_pins 4 wsX5_pins D E (some .int) yX5_pins.name) (hf0 : hq_X5 sh) (hk4 : ∀ (v1 : Int32) (v2 : Int32) (v3 : Int32) (I : hM), k4 v1 v2 v3 I = some (r, I2) → hp_J p l e ({ frames := 0, cells := 0, slots := 0, locals := 44 * 0 }) s m args below meth c (MQ below (hp_Q D E b z (some (.int r)) sh I2) args s 0 0 (fun q : Nat => b ≤ q)) D E b z 4 sh 0 0 I 4 [(0, .ref 92), (1, .int v1), (2, .int v2), (3, .int v3)] []) (h : X5_pins_h4 k4 v1 v2 v3 I = some (r, I2)) : hp_J p l e ({ frames := 0, cells := 0, slots := 0, locals := 44 * 0 }) s m args below meth c (MQ below (hp_Q D E b z (some (.int r)) sh I2) args s 0 0 (fun q : Nat => b ≤ q)) D E b z 4 sh 0 0 I 4 [(0, .ref 92), (1, .int v1), (2, .int v2), (3, .int v3)] [] := by
  unfold X5_pins_h4 at h
  refine hj_iload_n hX rfl 3 rfl dX5_pins_4 ?_
  refine hj_aload_n hX rfl 0 rfl dX5_pins_5 ?_
  refine hj_geti hX (j := 10) hf0.1 rfl rfl X5_pins_w5 (Nat.le_of_ble_eq_true rfl) rfl X5_pins_k116 dX5_pins_6 ?_
  refine hj_icmp_ge hX (tgt := 32) (by decide) dX5_pins_9 h (fun h => ?_) (fun h => ?_)
  · refine hj_iload_n hX rfl 2 rfl dX5_pins_32 ?_
    exact hj_iret hX dX5_pins_33 h
  · refine hj_iload_n hX rfl 2 rfl dX5_pins_12 ?_
    refine hj_aload_n hX rfl 0 rfl dX5_pins_13 ?_
    refine hj_getr hX (j := 26) hf0.1 rfl rfl X5_pins_w5 (Nat.le_of_ble_eq_true rfl) rfl X5_pins_k70 dX5_pins_14 ?_
    refine hj_iload_n hX rfl 1 rfl dX5_pins_17 ?_
    refine hj_bipush hX (v := (14 : Int32)) (by decide) dX5_pins_18 ?_
    refine hj_iadd hX dX5_pins_20 ?_
    refine hj_iload_n hX rfl 3 rfl dX5_pins_21 ?_
    refine hj_iadd hX dX5_pins_22 ?_
    refine hj_iald hX hf0.2.2.2.2.2.2.2.2.2.2.2.2.2.2.2.2.2.2.2.2.2.1 dX5_pins_23 h (fun h => ?_)
    refine hj_iadd hX dX5_pins_24 ?_
    refine hj_istore_n hX rfl (Nat.le_of_ble_eq_true rfl) (lv2 := [(2, .int (v2 + (I 113 (((v1 + (14 : Int32)) + v3)).toNatClampNeg))), (0, .ref 92), (1, .int v1), (3, .int v3)]) rfl dX5_pins_25 ?_
    refine hj_iinc hX (k1 := 3) (v := (v3 + (1 : Int32))) rfl rfl (Nat.le_of_ble_eq_true rfl) (lv2 := [(3, .int (v3 + (1 : Int32))), (2, .int (v2 + (I 113 (((v1 + (14 : Int32)) + v3)).toNatClampNeg))), (0, .ref 92), (1, .int v1)]) rfl dX5_pins_26 ?_
    refine hj_goto hX (tgt := 4) (by decide) dX5_pins_29 ?_
    refine hj_lv hX [2, 3, 1, 0] (lv2 := [(0, .ref 92), (1, .int v1), (2, .int (v2 + (I 113 (((v1 + (14 : Int32)) + v3)).toNatClampNeg))), (3, .int (v3 + (1 : Int32)))]) rfl ?_
    exact hk4 _ _ _ _ h
set_option maxHeartbeats 4000000 in
set_option maxRecDepth 100000 in
theorem X5_pins_l4_ok {p : Program} {l : Launch} {e : Env} {s : State} {m : MethodId} {args : Array Value} {below : List Frame} {meth : Method} {c : Code} {D : va_G} {E : Nat → ClassId} {b z : Nat} {sh : List hS} {r : Int32} {I2 : hM} (hX : hp_X p s m args meth c yX5_pins.cls cX5_pins 4 wsX5_pins D E (some .int) yX5_pins.name) (hf0 : hq_X5 sh) : ∀ (n : Nat) (v1 : Int32) (v2 : Int32) (v3 : Int32) (I : hM), X5_pins_l4 n v1 v2 v3 I = some (r, I2) → hp_J p l e ({ frames := 0, cells := 0, slots := 0, locals := 44 * 0 }) s m args below meth c (MQ below (hp_Q D E b z (some (.int r)) sh I2) args s 0 0 (fun q : Nat => b ≤ q)) D E b z 4 sh 0 0 I 4 [(0, .ref 92), (1, .int v1), (2, .int v2), (3, .int v3)] [] := by
  intro n
  induction n with
  | zero => exact fun _ _ _ _ h => nomatch h
  | succ n ih => exact fun _ _ _ _ h => X5_pins_h4_ok hX hf0 ih h
set_option maxHeartbeats 4000000 in
set_option maxRecDepth 100000 in
theorem X5_pins_ok {sh : List hS} {r : Int32} {I I2 : hM} {v1 : Int32} (hf0 : hq_X5 sh) (h : X5_pins v1 I = some (r, I2)) : hp_C yX5_pins wsX5_pins 0 0 0 sh I [.ref 92, .int v1] (some (.int r)) sh I2 := hp_start (cc := cX5_pins) (maxL := 4) (ret := (some .int)) [(0, .ref 92), (1, .int v1)] (by decide) rfl (fun _ _ => rfl) (fun _ _ => Nat.le_of_ble_eq_true rfl) (fun p l e s m below meth c D E b z hX _ => by
  unfold X5_pins at h
  refine hj_iconst hX (v := (0 : Int32)) (by decide) dX5_pins_0 ?_
  refine hj_istore_n hX rfl (Nat.le_of_ble_eq_true rfl) (lv2 := [(2, .int (0 : Int32)), (0, .ref 92), (1, .int v1)]) rfl dX5_pins_1 ?_
  refine hj_iconst hX (v := (0 : Int32)) (by decide) dX5_pins_2 ?_
  refine hj_istore_n hX rfl (Nat.le_of_ble_eq_true rfl) (lv2 := [(3, .int (0 : Int32)), (2, .int (0 : Int32)), (0, .ref 92), (1, .int v1)]) rfl dX5_pins_3 ?_
  refine hj_lv hX [2, 3, 1, 0] (lv2 := [(0, .ref 92), (1, .int v1), (2, .int (0 : Int32)), (3, .int (0 : Int32))]) rfl ?_
  exact X5_pins_l4_ok hX hf0 hF _ _ _ _ h)
def X5_season_b95 (k47 : Int32 → Int32 → Int32 → Int32 → hM → Option (Int32 × hM)) (v1 : Int32) (v2 : Int32) (v3 : Int32) (v4 : Int32) (I : hM) : Option (Int32 × hM) := ob (X5_minutes (220 : Int32) (1 : Int32) I) (fun u19 Ia20 => (k47 v1 v2 v3 (v4 + (1 : Int32)) Ia20))
def X5_season_b109 (v3 : Int32) (I : hM) : Option (Int32 × hM) := if v3 = 0 then (gd (hx (239 : Int32) 240) (some (((I 113 ((239 : Int32)).toNatClampNeg) + (10000 : Int32)), I))) else (ob (X5_pins (220 : Int32) I) (fun u16 Ia17 => some (u16, Ia17)))
def X5_season_h47 (k47 : Int32 → Int32 → Int32 → Int32 → hM → Option (Int32 × hM)) (v1 : Int32) (v2 : Int32) (v3 : Int32) (v4 : Int32) (I : hM) : Option (Int32 × hM) := if v2 ≤ v4 then (X5_season_b109 v3 I) else (if (I 92 10) ≤ 0 then (X5_season_b95 k47 v1 v2 v3 v4 I) else (gd (decide (¬ (65521 : Int64) = 0)) (ob (X5_does (220 : Int32) (((((((7919 : Int64) * (v1).toInt64) + ((6151 : Int64) * (v4).toInt64)) + (1 : Int64)) * ((((7919 : Int64) * (v1).toInt64) + ((6151 : Int64) * (v4).toInt64)) + (1 : Int64))) - (((((7919 : Int64) * (v1).toInt64) + ((6151 : Int64) * (v4).toInt64)) + (1 : Int64)) * ((((7919 : Int64) * (v1).toInt64) + ((6151 : Int64) * (v4).toInt64)) + (1 : Int64))) / (65521 : Int64) * (65521 : Int64))).toInt32 I) (fun u13 Ia14 => (X5_season_b95 k47 v1 v2 v3 v4 Ia14)))))
def X5_season_l47 : Nat → Int32 → Int32 → Int32 → Int32 → hM → Option (Int32 × hM)
  | 0 => fun _ _ _ _ _ => none
  | n + 1 => X5_season_h47   (X5_season_l47   n)
def X5_season (v1 : Int32) (v2 : Int32) (v3 : Int32) (I : hM) : Option (Int32 × hM) := ob (X5_in (v1).toInt64 (0 : Int64) (9999 : Int64) I) (fun u1 Ia2 => if u1 = 0 then (some ((-1 : Int32), Ia2)) else (ob (X5_in (v2).toInt64 (1 : Int64) (60 : Int64) Ia2) (fun u4 Ia5 => if u4 = 0 then (some ((-1 : Int32), Ia5)) else (ob (X5_in (v3).toInt64 (0 : Int64) (1 : Int64) Ia5) (fun u7 Ia8 => if u7 = 0 then (some ((-1 : Int32), Ia8)) else (ob (X5_copies (0 : Int32) (220 : Int32) Ia8) (fun u10 Ia11 => (X5_season_l47 hF v1 v2 v3 (0 : Int32) Ia11))))))))
theorem X5_season_hy : yX5_season.cls = RX5 ∧ yX5_season.cls ≠ "java/lang/invoke/MethodHandle" ∧ yX5_season.cls ≠ "java/lang/invoke/VarHandle" ∧ (parseMethodDescriptor yX5_season.desc).map (fun d => d.parameters.length) = some 3 := by decide +kernel
theorem X5_season_k116 : Cond.fieldLink RX5 116 "HatPinsModel" "ladies" "I" ∈ wsX5_season := by decide +kernel
theorem X5_season_k70 : Cond.fieldLink RX5 70 "HatPinsModel" "slot" "[I" ∈ wsX5_season := by decide +kernel
theorem X5_season_mc272 : Cond.constantLong RX5 272 (9999) ∈ wsX5_season := by decide +kernel
theorem X5_season_mc242 : Cond.constantLong RX5 242 (60) ∈ wsX5_season := by decide +kernel
theorem X5_season_mc274 : Cond.constantLong RX5 274 (7919) ∈ wsX5_season := by decide +kernel
theorem X5_season_mc276 : Cond.constantLong RX5 276 (6151) ∈ wsX5_season := by decide +kernel
theorem X5_season_mc278 : Cond.constantLong RX5 278 (65521) ∈ wsX5_season := by decide +kernel
theorem X5_season_w5 : ∀ w ∈ wsX50, w ∈ wsX5_season := by decide +kernel
set_option maxHeartbeats 4000000 in
set_option maxRecDepth 100000 in
theorem X5_season_b95_ok {p : Program} {l : Launch} {e : Env} {s : State} {m : MethodId} {args : Array Value} {below : List Frame} {meth : Method} {c : Code} {D : va_G} {E : Nat → ClassId} {b z : Nat} {sh : List hS} {r : Int32} {I2 : hM} {k47 : Int32 → Int32 → Int32 → Int32 → hM → Option (Int32 × hM)} {v1 : Int32} {v2 : Int32} {v3 : Int32} {v4 : Int32} {I : hM} (hX : hp_X p s m args meth c yX5_season.cls cX5_season 7 wsX5_season D E (some .int) yX5_season.name) (hf0 : hq_X5 sh) (hk47 : ∀ (v1 : Int32) (v2 : Int32) (v3 : Int32) (v4 : Int32) (I : hM), k47 v1 v2 v3 v4 I = some (r, I2) → hp_J p l e ({ frames := 6, cells := 0, slots := 0, locals := 44 * 6 }) s m args below meth c (MQ below (hp_Q D E b z (some (.int r)) sh I2) args s 0 0 (fun q : Nat => b ≤ q)) D E b z 7 sh 0 0 I 47 [(0, .ref 92), (1, .int v1), (2, .int v2), (3, .int v3), (4, .int v4)] []) (h : X5_season_b95 k47 v1 v2 v3 v4 I = some (r, I2)) : hp_J p l e ({ frames := 6, cells := 0, slots := 0, locals := 44 * 6 }) s m args below meth c (MQ below (hp_Q D E b z (some (.int r)) sh I2) args s 0 0 (fun q : Nat => b ≤ q)) D E b z 7 sh 0 0 I 95 [(0, .ref 92), (1, .int v1), (2, .int v2), (3, .int v3), (4, .int v4)] [] := by
  unfold X5_season_b95 at h
  refine hj_aload_n hX rfl 0 rfl dX5_season_95 ?_
  refine hj_sipush hX (v := (220 : Int32)) (by decide) dX5_season_96 ?_
  refine hj_iconst hX (v := (1 : Int32)) (by decide) dX5_season_99 ?_
  obtain ⟨u19, Ia20, hc21, h⟩ := ob_e h
  refine hj_callV hX (sh2 := sh) (I2 := Ia20) (r := none) (As := [.int (220 : Int32), .int (1 : Int32)]) (rest := []) (st2 := []) (X5_minutes_ok hf0 hc21) gX5_season_X5_minutes rfl X5_minutes_hy ⟨(Nat.le_of_ble_eq_true rfl), (Nat.le_of_ble_eq_true rfl)⟩ rfl hf0.1 rfl (Nat.le_of_ble_eq_true rfl) ⟨(Nat.le_of_ble_eq_true rfl), (Nat.le_of_ble_eq_true rfl)⟩ rfl rfl rfl dX5_season_100 ?_
  refine hj_iinc hX (k1 := 4) (v := (v4 + (1 : Int32))) rfl rfl (Nat.le_of_ble_eq_true rfl) (lv2 := [(4, .int (v4 + (1 : Int32))), (0, .ref 92), (1, .int v1), (2, .int v2), (3, .int v3)]) rfl dX5_season_103 ?_
  refine hj_goto hX (tgt := 47) (by decide) dX5_season_106 ?_
  refine hj_lv hX [1, 2, 3, 4, 0] (lv2 := [(0, .ref 92), (1, .int v1), (2, .int v2), (3, .int v3), (4, .int (v4 + (1 : Int32)))]) rfl ?_
  exact hk47 _ _ _ _ _ h
set_option maxHeartbeats 4000000 in
set_option maxRecDepth 100000 in
theorem X5_season_b109_ok {p : Program} {l : Launch} {e : Env} {s : State} {m : MethodId} {args : Array Value} {below : List Frame} {meth : Method} {c : Code} {D : va_G} {E : Nat → ClassId} {b z : Nat} {sh : List hS} {r : Int32} {I2 : hM} {v3 : Int32} {I : hM} (hX : hp_X p s m args meth c yX5_season.cls cX5_season 7 wsX5_season D E (some .int) yX5_season.name) (hf0 : hq_X5 sh) (h : X5_season_b109 v3 I = some (r, I2)) : hp_J p l e ({ frames := 6, cells := 0, slots := 0, locals := 44 * 6 }) s m args below meth c (MQ below (hp_Q D E b z (some (.int r)) sh I2) args s 0 0 (fun q : Nat => b ≤ q)) D E b z 7 sh 0 0 I 109 [(0, .ref 92), (3, .int v3)] [] := by
  unfold X5_season_b109 at h
  refine hj_iload_n hX rfl 1 rfl dX5_season_109 ?_
  refine hj_if_ne hX (tgt := 128) (by decide) dX5_season_110 h (fun h => ?_) (fun h => ?_)
  · refine hj_aload_n hX rfl 0 rfl dX5_season_128 ?_
    refine hj_sipush hX (v := (220 : Int32)) (by decide) dX5_season_129 ?_
    obtain ⟨u16, Ia17, hc18, h⟩ := ob_e h
    refine hj_callV hX (sh2 := sh) (I2 := Ia17) (r := (some (.int u16))) (As := [.int (220 : Int32)]) (rest := []) (st2 := [.int u16]) (X5_pins_ok hf0 hc18) gX5_season_X5_pins rfl X5_pins_hy ⟨(Nat.le_of_ble_eq_true rfl), (Nat.le_of_ble_eq_true rfl)⟩ rfl hf0.1 rfl (Nat.le_of_ble_eq_true rfl) ⟨(Nat.le_of_ble_eq_true rfl), (Nat.le_of_ble_eq_true rfl)⟩ rfl rfl rfl dX5_season_132 ?_
    exact hj_iret hX dX5_season_135 h
  · refine hj_aload_n hX rfl 0 rfl dX5_season_113 ?_
    refine hj_getr hX (j := 26) hf0.1 rfl rfl X5_season_w5 (Nat.le_of_ble_eq_true rfl) rfl X5_season_k70 dX5_season_114 ?_
    refine hj_sipush hX (v := (239 : Int32)) (by decide) dX5_season_117 ?_
    refine hj_iald hX hf0.2.2.2.2.2.2.2.2.2.2.2.2.2.2.2.2.2.2.2.2.2.1 dX5_season_120 h (fun h => ?_)
    refine hj_sipush hX (v := (10000 : Int32)) (by decide) dX5_season_121 ?_
    refine hj_iadd hX dX5_season_124 ?_
    refine hj_goto hX (tgt := 135) (by decide) dX5_season_125 ?_
    exact hj_iret hX dX5_season_135 h
set_option maxHeartbeats 4000000 in
set_option maxRecDepth 100000 in
theorem X5_season_h47_ok {p : Program} {l : Launch} {e : Env} {s : State} {m : MethodId} {args : Array Value} {below : List Frame} {meth : Method} {c : Code} {D : va_G} {E : Nat → ClassId} {b z : Nat} {sh : List hS} {r : Int32} {I2 : hM} {k47 : Int32 → Int32 → Int32 → Int32 → hM → Option (Int32 × hM)} {v1 : Int32} {v2 : Int32} {v3 : Int32} {v4 : Int32} {I : hM} (hX : hp_X p s m args meth c yX5_season.cls cX5_season 7 wsX5_season D E (some .int) yX5_season.name) (hf0 : hq_X5 sh) (hk47 : ∀ (v1 : Int32) (v2 : Int32) (v3 : Int32) (v4 : Int32) (I : hM), k47 v1 v2 v3 v4 I = some (r, I2) → hp_J p l e ({ frames := 6, cells := 0, slots := 0, locals := 44 * 6 }) s m args below meth c (MQ below (hp_Q D E b z (some (.int r)) sh I2) args s 0 0 (fun q : Nat => b ≤ q)) D E b z 7 sh 0 0 I 47 [(0, .ref 92), (1, .int v1), (2, .int v2), (3, .int v3), (4, .int v4)] []) (h : X5_season_h47 k47 v1 v2 v3 v4 I = some (r, I2)) : hp_J p l e ({ frames := 6, cells := 0, slots := 0, locals := 44 * 6 }) s m args below meth c (MQ below (hp_Q D E b z (some (.int r)) sh I2) args s 0 0 (fun q : Nat => b ≤ q)) D E b z 7 sh 0 0 I 47 [(0, .ref 92), (1, .int v1), (2, .int v2), (3, .int v3), (4, .int v4)] [] := by
  unfold X5_season_h47 at h
  refine hj_iload hX 4 rfl dX5_season_47 ?_
  refine hj_iload_n hX rfl 2 rfl dX5_season_49 ?_
  refine hj_icmp_ge hX (tgt := 109) (by decide) dX5_season_50 h (fun h => ?_) (fun h => ?_)
  · refine hj_lv hX [0, 3] (lv2 := [(0, .ref 92), (3, .int v3)]) rfl ?_
    exact X5_season_b109_ok hX hf0 h
  · refine hj_ldc2 hX (v := (7919 : Int64)) X5_season_mc274 dX5_season_53 ?_
    refine hj_iload_n hX rfl 1 rfl dX5_season_56 ?_
    refine hj_i2l hX dX5_season_57 ?_
    refine hj_lmul hX dX5_season_58 ?_
    refine hj_ldc2 hX (v := (6151 : Int64)) X5_season_mc276 dX5_season_59 ?_
    refine hj_iload hX 4 rfl dX5_season_62 ?_
    refine hj_i2l hX dX5_season_64 ?_
    refine hj_lmul hX dX5_season_65 ?_
    refine hj_ladd hX dX5_season_66 ?_
    refine hj_lconst hX (v := (1 : Int64)) (by decide) dX5_season_67 ?_
    refine hj_ladd hX dX5_season_68 ?_
    refine hj_lstore hX (Nat.le_of_ble_eq_true rfl) (lv2 := [(5, .long ((((7919 : Int64) * (v1).toInt64) + ((6151 : Int64) * (v4).toInt64)) + (1 : Int64))), (0, .ref 92), (1, .int v1), (2, .int v2), (3, .int v3), (4, .int v4)]) rfl dX5_season_69 ?_
    refine hj_aload_n hX rfl 1 rfl dX5_season_71 ?_
    refine hj_geti hX (j := 10) hf0.1 rfl rfl X5_season_w5 (Nat.le_of_ble_eq_true rfl) rfl X5_season_k116 dX5_season_72 ?_
    refine hj_if_le hX (tgt := 95) (by decide) dX5_season_75 h (fun h => ?_) (fun h => ?_)
    · refine hj_lv hX [1, 2, 3, 4, 5] (lv2 := [(0, .ref 92), (1, .int v1), (2, .int v2), (3, .int v3), (4, .int v4)]) rfl ?_
      exact X5_season_b95_ok hX hf0 hk47 h
    · refine hj_aload_n hX rfl 1 rfl dX5_season_78 ?_
      refine hj_sipush hX (v := (220 : Int32)) (by decide) dX5_season_79 ?_
      refine hj_lload hX 0 rfl dX5_season_82 ?_
      refine hj_lload hX 0 rfl dX5_season_84 ?_
      refine hj_lmul hX dX5_season_86 ?_
      refine hj_ldc2 hX (v := (65521 : Int64)) X5_season_mc278 dX5_season_87 ?_
      refine hj_lrem hX dX5_season_90 h (fun h => ?_)
      refine hj_l2i hX dX5_season_91 ?_
      obtain ⟨u13, Ia14, hc15, h⟩ := ob_e h
      refine hj_callV hX (sh2 := sh) (I2 := Ia14) (r := none) (As := [.int (220 : Int32), .int (((((((7919 : Int64) * (v1).toInt64) + ((6151 : Int64) * (v4).toInt64)) + (1 : Int64)) * ((((7919 : Int64) * (v1).toInt64) + ((6151 : Int64) * (v4).toInt64)) + (1 : Int64))) - (((((7919 : Int64) * (v1).toInt64) + ((6151 : Int64) * (v4).toInt64)) + (1 : Int64)) * ((((7919 : Int64) * (v1).toInt64) + ((6151 : Int64) * (v4).toInt64)) + (1 : Int64))) / (65521 : Int64) * (65521 : Int64))).toInt32]) (rest := []) (st2 := []) (X5_does_ok hf0 hc15) gX5_season_X5_does rfl X5_does_hy ⟨(Nat.le_of_ble_eq_true rfl), (Nat.le_of_ble_eq_true rfl)⟩ rfl hf0.1 rfl (Nat.le_of_ble_eq_true rfl) ⟨(Nat.le_of_ble_eq_true rfl), (Nat.le_of_ble_eq_true rfl)⟩ rfl rfl rfl dX5_season_92 ?_
      refine hj_lv hX [1, 2, 3, 4, 5] (lv2 := [(0, .ref 92), (1, .int v1), (2, .int v2), (3, .int v3), (4, .int v4)]) rfl ?_
      exact X5_season_b95_ok hX hf0 hk47 h
set_option maxHeartbeats 4000000 in
set_option maxRecDepth 100000 in
theorem X5_season_l47_ok {p : Program} {l : Launch} {e : Env} {s : State} {m : MethodId} {args : Array Value} {below : List Frame} {meth : Method} {c : Code} {D : va_G} {E : Nat → ClassId} {b z : Nat} {sh : List hS} {r : Int32} {I2 : hM} (hX : hp_X p s m args meth c yX5_season.cls cX5_season 7 wsX5_season D E (some .int) yX5_season.name) (hf0 : hq_X5 sh) : ∀ (n : Nat) (v1 : Int32) (v2 : Int32) (v3 : Int32) (v4 : Int32) (I : hM), X5_season_l47 n v1 v2 v3 v4 I = some (r, I2) → hp_J p l e ({ frames := 6, cells := 0, slots := 0, locals := 44 * 6 }) s m args below meth c (MQ below (hp_Q D E b z (some (.int r)) sh I2) args s 0 0 (fun q : Nat => b ≤ q)) D E b z 7 sh 0 0 I 47 [(0, .ref 92), (1, .int v1), (2, .int v2), (3, .int v3), (4, .int v4)] [] := by
  intro n
  induction n with
  | zero => exact fun _ _ _ _ _ h => nomatch h
  | succ n ih => exact fun _ _ _ _ _ h => X5_season_h47_ok hX hf0 ih h
set_option maxHeartbeats 4000000 in
set_option maxRecDepth 100000 in
theorem X5_season_ok {sh : List hS} {r : Int32} {I I2 : hM} {v1 : Int32} {v2 : Int32} {v3 : Int32} (hf0 : hq_X5 sh) (h : X5_season v1 v2 v3 I = some (r, I2)) : hp_C yX5_season wsX5_season 6 0 0 sh I [.ref 92, .int v1, .int v2, .int v3] (some (.int r)) sh I2 := hp_start (cc := cX5_season) (maxL := 7) (ret := (some .int)) [(0, .ref 92), (1, .int v1), (2, .int v2), (3, .int v3)] (by decide) rfl (fun _ _ => rfl) (fun _ _ => Nat.le_of_ble_eq_true rfl) (fun p l e s m below meth c D E b z hX _ => by
  unfold X5_season at h
  refine hj_iload_n hX rfl 1 rfl dX5_season_0 ?_
  refine hj_i2l hX dX5_season_1 ?_
  refine hj_lconst hX (v := (0 : Int64)) (by decide) dX5_season_2 ?_
  refine hj_ldc2 hX (v := (9999 : Int64)) X5_season_mc272 dX5_season_3 ?_
  obtain ⟨u1, Ia2, hc3, h⟩ := ob_e h
  refine hj_callS hX (sh2 := sh) (I2 := Ia2) (r := (some (.int u1))) (As := [.long (v1).toInt64, .long (0 : Int64), .long (9999 : Int64)]) (rest := []) (st2 := [.int u1]) (X5_in_ok hc3) gX5_season_X5_in rfl X5_in_hy.2 ⟨(Nat.le_of_ble_eq_true rfl), (Nat.le_of_ble_eq_true rfl)⟩ rfl (Nat.le_of_ble_eq_true rfl) ⟨(Nat.le_of_ble_eq_true rfl), (Nat.le_of_ble_eq_true rfl)⟩ rfl rfl rfl dX5_season_6 ?_
  refine hj_if_eq hX (tgt := 34) (by decide) dX5_season_9 h (fun h => ?_) (fun h => ?_)
  · refine hj_iconst hX (v := (-1 : Int32)) (by decide) dX5_season_34 ?_
    exact hj_iret hX dX5_season_35 h
  · refine hj_iload_n hX rfl 2 rfl dX5_season_12 ?_
    refine hj_i2l hX dX5_season_13 ?_
    refine hj_lconst hX (v := (1 : Int64)) (by decide) dX5_season_14 ?_
    refine hj_ldc2 hX (v := (60 : Int64)) X5_season_mc242 dX5_season_15 ?_
    obtain ⟨u4, Ia5, hc6, h⟩ := ob_e h
    refine hj_callS hX (sh2 := sh) (I2 := Ia5) (r := (some (.int u4))) (As := [.long (v2).toInt64, .long (1 : Int64), .long (60 : Int64)]) (rest := []) (st2 := [.int u4]) (X5_in_ok hc6) gX5_season_X5_in rfl X5_in_hy.2 ⟨(Nat.le_of_ble_eq_true rfl), (Nat.le_of_ble_eq_true rfl)⟩ rfl (Nat.le_of_ble_eq_true rfl) ⟨(Nat.le_of_ble_eq_true rfl), (Nat.le_of_ble_eq_true rfl)⟩ rfl rfl rfl dX5_season_18 ?_
    refine hj_if_eq hX (tgt := 34) (by decide) dX5_season_21 h (fun h => ?_) (fun h => ?_)
    · refine hj_iconst hX (v := (-1 : Int32)) (by decide) dX5_season_34 ?_
      exact hj_iret hX dX5_season_35 h
    · refine hj_iload_n hX rfl 3 rfl dX5_season_24 ?_
      refine hj_i2l hX dX5_season_25 ?_
      refine hj_lconst hX (v := (0 : Int64)) (by decide) dX5_season_26 ?_
      refine hj_lconst hX (v := (1 : Int64)) (by decide) dX5_season_27 ?_
      obtain ⟨u7, Ia8, hc9, h⟩ := ob_e h
      refine hj_callS hX (sh2 := sh) (I2 := Ia8) (r := (some (.int u7))) (As := [.long (v3).toInt64, .long (0 : Int64), .long (1 : Int64)]) (rest := []) (st2 := [.int u7]) (X5_in_ok hc9) gX5_season_X5_in rfl X5_in_hy.2 ⟨(Nat.le_of_ble_eq_true rfl), (Nat.le_of_ble_eq_true rfl)⟩ rfl (Nat.le_of_ble_eq_true rfl) ⟨(Nat.le_of_ble_eq_true rfl), (Nat.le_of_ble_eq_true rfl)⟩ rfl rfl rfl dX5_season_28 ?_
      refine hj_if_ne hX (tgt := 36) (by decide) dX5_season_31 h (fun h => ?_) (fun h => ?_)
      · refine hj_aload_n hX rfl 0 rfl dX5_season_36 ?_
        refine hj_iconst hX (v := (0 : Int32)) (by decide) dX5_season_37 ?_
        refine hj_sipush hX (v := (220 : Int32)) (by decide) dX5_season_38 ?_
        obtain ⟨u10, Ia11, hc12, h⟩ := ob_e h
        refine hj_callV hX (sh2 := sh) (I2 := Ia11) (r := none) (As := [.int (0 : Int32), .int (220 : Int32)]) (rest := []) (st2 := []) (X5_copies_ok hf0 hc12) gX5_season_X5_copies rfl X5_copies_hy ⟨(Nat.le_of_ble_eq_true rfl), (Nat.le_of_ble_eq_true rfl)⟩ rfl hf0.1 rfl (Nat.le_of_ble_eq_true rfl) ⟨(Nat.le_of_ble_eq_true rfl), (Nat.le_of_ble_eq_true rfl)⟩ rfl rfl rfl dX5_season_41 ?_
        refine hj_iconst hX (v := (0 : Int32)) (by decide) dX5_season_44 ?_
        refine hj_istore hX (Nat.le_of_ble_eq_true rfl) (lv2 := [(4, .int (0 : Int32)), (0, .ref 92), (1, .int v1), (2, .int v2), (3, .int v3)]) rfl dX5_season_45 ?_
        refine hj_lv hX [1, 2, 3, 4, 0] (lv2 := [(0, .ref 92), (1, .int v1), (2, .int v2), (3, .int v3), (4, .int (0 : Int32))]) rfl ?_
        exact X5_season_l47_ok hX hf0 hF _ _ _ _ _ h
      · refine hj_iconst hX (v := (-1 : Int32)) (by decide) dX5_season_34 ?_
        exact hj_iret hX dX5_season_35 h)
def X5_keep (I : hM) : Option (Int32 × hM) := if (I 92 28) = (2 : Int32) then (some ((-3 : Int32), I)) else (ob (X5_copies (0 : Int32) (((9 : Int32) + (I 92 28)) * (20 : Int32)) I) (fun u1 Ia2 => some (((hu Ia2 92 28 ((Ia2 92 28) + (1 : Int32))) 92 28), (hu Ia2 92 28 ((Ia2 92 28) + (1 : Int32))))))
theorem X5_keep_hy : yX5_keep.cls = RX5 ∧ yX5_keep.cls ≠ "java/lang/invoke/MethodHandle" ∧ yX5_keep.cls ≠ "java/lang/invoke/VarHandle" ∧ (parseMethodDescriptor yX5_keep.desc).map (fun d => d.parameters.length) = some 0 := by decide +kernel
theorem X5_keep_k179 : Cond.fieldLink RX5 179 "HatPinsModel" "keeps" "I" ∈ wsX5_keep := by decide +kernel
theorem X5_keep_w5 : ∀ w ∈ wsX50, w ∈ wsX5_keep := by decide +kernel
set_option maxHeartbeats 4000000 in
set_option maxRecDepth 100000 in
theorem X5_keep_ok {sh : List hS} {r : Int32} {I I2 : hM} (hf0 : hq_X5 sh) (h : X5_keep I = some (r, I2)) : hp_C yX5_keep wsX5_keep 1 0 0 sh I [.ref 92] (some (.int r)) sh I2 := hp_start (cc := cX5_keep) (maxL := 1) (ret := (some .int)) [(0, .ref 92)] (by decide) rfl (fun _ _ => rfl) (fun _ _ => Nat.le_of_ble_eq_true rfl) (fun p l e s m below meth c D E b z hX _ => by
  unfold X5_keep at h
  refine hj_aload_n hX rfl 0 rfl dX5_keep_0 ?_
  refine hj_geti hX (j := 28) hf0.1 rfl rfl X5_keep_w5 (Nat.le_of_ble_eq_true rfl) rfl X5_keep_k179 dX5_keep_1 ?_
  refine hj_iconst hX (v := (2 : Int32)) (by decide) dX5_keep_4 ?_
  refine hj_icmp_ne hX (tgt := 11) (by decide) dX5_keep_5 h (fun h => ?_) (fun h => ?_)
  · refine hj_aload_n hX rfl 0 rfl dX5_keep_11 ?_
    refine hj_iconst hX (v := (0 : Int32)) (by decide) dX5_keep_12 ?_
    refine hj_bipush hX (v := (9 : Int32)) (by decide) dX5_keep_13 ?_
    refine hj_aload_n hX rfl 0 rfl dX5_keep_15 ?_
    refine hj_geti hX (j := 28) hf0.1 rfl rfl X5_keep_w5 (Nat.le_of_ble_eq_true rfl) rfl X5_keep_k179 dX5_keep_16 ?_
    refine hj_iadd hX dX5_keep_19 ?_
    refine hj_bipush hX (v := (20 : Int32)) (by decide) dX5_keep_20 ?_
    refine hj_imul hX dX5_keep_22 ?_
    obtain ⟨u1, Ia2, hc3, h⟩ := ob_e h
    refine hj_callV hX (sh2 := sh) (I2 := Ia2) (r := none) (As := [.int (0 : Int32), .int (((9 : Int32) + (I 92 28)) * (20 : Int32))]) (rest := []) (st2 := []) (X5_copies_ok hf0 hc3) gX5_keep_X5_copies rfl X5_copies_hy ⟨(Nat.le_of_ble_eq_true rfl), (Nat.le_of_ble_eq_true rfl)⟩ rfl hf0.1 rfl (Nat.le_of_ble_eq_true rfl) ⟨(Nat.le_of_ble_eq_true rfl), (Nat.le_of_ble_eq_true rfl)⟩ rfl rfl rfl dX5_keep_23 ?_
    refine hj_aload_n hX rfl 0 rfl dX5_keep_26 ?_
    refine hj_dup hX rfl dX5_keep_27 ?_
    refine hj_geti hX (j := 28) hf0.1 rfl rfl X5_keep_w5 (Nat.le_of_ble_eq_true rfl) rfl X5_keep_k179 dX5_keep_28 ?_
    refine hj_iconst hX (v := (1 : Int32)) (by decide) dX5_keep_31 ?_
    refine hj_iadd hX dX5_keep_32 ?_
    refine hj_puti hX (j := 28) hf0.1 rfl rfl X5_keep_w5 (Nat.le_of_ble_eq_true rfl) rfl X5_keep_k179 tyX5_ok nmX5 rfl (by decide +kernel) dX5_keep_33 ?_
    refine hj_aload_n hX rfl 0 rfl dX5_keep_36 ?_
    refine hj_geti hX (j := 28) hf0.1 rfl rfl X5_keep_w5 (Nat.le_of_ble_eq_true rfl) rfl X5_keep_k179 dX5_keep_37 ?_
    exact hj_iret hX dX5_keep_40 h
  · refine hj_bipush hX (v := (-3 : Int32)) (by decide) dX5_keep_8 ?_
    exact hj_iret hX dX5_keep_10 h)
def X5_back (I : hM) : Option (Int32 × hM) := if (I 92 28) = 0 then (some ((-2 : Int32), I)) else (ob (X5_copies (((9 : Int32) + ((hu I 92 28 ((I 92 28) - (1 : Int32))) 92 28)) * (20 : Int32)) (0 : Int32) (hu I 92 28 ((I 92 28) - (1 : Int32)))) (fun u1 Ia2 => some (((hu Ia2 92 27 (0 : Int32)) 92 28), (hu Ia2 92 27 (0 : Int32)))))
theorem X5_back_hy : yX5_back.cls = RX5 ∧ yX5_back.cls ≠ "java/lang/invoke/MethodHandle" ∧ yX5_back.cls ≠ "java/lang/invoke/VarHandle" ∧ (parseMethodDescriptor yX5_back.desc).map (fun d => d.parameters.length) = some 0 := by decide +kernel
theorem X5_back_k179 : Cond.fieldLink RX5 179 "HatPinsModel" "keeps" "I" ∈ wsX5_back := by decide +kernel
theorem X5_back_k176 : Cond.fieldLink RX5 176 "HatPinsModel" "acts" "I" ∈ wsX5_back := by decide +kernel
theorem X5_back_w5 : ∀ w ∈ wsX50, w ∈ wsX5_back := by decide +kernel
set_option maxHeartbeats 4000000 in
set_option maxRecDepth 100000 in
theorem X5_back_ok {sh : List hS} {r : Int32} {I I2 : hM} (hf0 : hq_X5 sh) (h : X5_back I = some (r, I2)) : hp_C yX5_back wsX5_back 1 0 0 sh I [.ref 92] (some (.int r)) sh I2 := hp_start (cc := cX5_back) (maxL := 1) (ret := (some .int)) [(0, .ref 92)] (by decide) rfl (fun _ _ => rfl) (fun _ _ => Nat.le_of_ble_eq_true rfl) (fun p l e s m below meth c D E b z hX _ => by
  unfold X5_back at h
  refine hj_aload_n hX rfl 0 rfl dX5_back_0 ?_
  refine hj_geti hX (j := 28) hf0.1 rfl rfl X5_back_w5 (Nat.le_of_ble_eq_true rfl) rfl X5_back_k179 dX5_back_1 ?_
  refine hj_if_ne hX (tgt := 10) (by decide) dX5_back_4 h (fun h => ?_) (fun h => ?_)
  · refine hj_aload_n hX rfl 0 rfl dX5_back_10 ?_
    refine hj_dup hX rfl dX5_back_11 ?_
    refine hj_geti hX (j := 28) hf0.1 rfl rfl X5_back_w5 (Nat.le_of_ble_eq_true rfl) rfl X5_back_k179 dX5_back_12 ?_
    refine hj_iconst hX (v := (1 : Int32)) (by decide) dX5_back_15 ?_
    refine hj_isub hX dX5_back_16 ?_
    refine hj_puti hX (j := 28) hf0.1 rfl rfl X5_back_w5 (Nat.le_of_ble_eq_true rfl) rfl X5_back_k179 tyX5_ok nmX5 rfl (by decide +kernel) dX5_back_17 ?_
    refine hj_aload_n hX rfl 0 rfl dX5_back_20 ?_
    refine hj_bipush hX (v := (9 : Int32)) (by decide) dX5_back_21 ?_
    refine hj_aload_n hX rfl 0 rfl dX5_back_23 ?_
    refine hj_geti hX (j := 28) hf0.1 rfl rfl X5_back_w5 (Nat.le_of_ble_eq_true rfl) rfl X5_back_k179 dX5_back_24 ?_
    refine hj_iadd hX dX5_back_27 ?_
    refine hj_bipush hX (v := (20 : Int32)) (by decide) dX5_back_28 ?_
    refine hj_imul hX dX5_back_30 ?_
    refine hj_iconst hX (v := (0 : Int32)) (by decide) dX5_back_31 ?_
    obtain ⟨u1, Ia2, hc3, h⟩ := ob_e h
    refine hj_callV hX (sh2 := sh) (I2 := Ia2) (r := none) (As := [.int (((9 : Int32) + ((hu I 92 28 ((I 92 28) - (1 : Int32))) 92 28)) * (20 : Int32)), .int (0 : Int32)]) (rest := []) (st2 := []) (X5_copies_ok hf0 hc3) gX5_back_X5_copies rfl X5_copies_hy ⟨(Nat.le_of_ble_eq_true rfl), (Nat.le_of_ble_eq_true rfl)⟩ rfl hf0.1 rfl (Nat.le_of_ble_eq_true rfl) ⟨(Nat.le_of_ble_eq_true rfl), (Nat.le_of_ble_eq_true rfl)⟩ rfl rfl rfl dX5_back_32 ?_
    refine hj_aload_n hX rfl 0 rfl dX5_back_35 ?_
    refine hj_iconst hX (v := (0 : Int32)) (by decide) dX5_back_36 ?_
    refine hj_puti hX (j := 27) hf0.1 rfl rfl X5_back_w5 (Nat.le_of_ble_eq_true rfl) rfl X5_back_k176 tyX5_ok nmX5 rfl (by decide +kernel) dX5_back_37 ?_
    refine hj_aload_n hX rfl 0 rfl dX5_back_40 ?_
    refine hj_geti hX (j := 28) hf0.1 rfl rfl X5_back_w5 (Nat.le_of_ble_eq_true rfl) rfl X5_back_k179 dX5_back_41 ?_
    exact hj_iret hX dX5_back_44 h
  · refine hj_bipush hX (v := (-2 : Int32)) (by decide) dX5_back_7 ?_
    exact hj_iret hX dX5_back_9 h)
def X5_manyOf_h4 (k4 : Int32 → Int32 → Int32 → hM → Option (Int32 × hM)) (v1 : Int32) (v2 : Int32) (v3 : Int32) (I : hM) : Option (Int32 × hM) := if (I 92 0) ≤ v3 then (some (v2, I)) else (gd (hx v3 240) (if (I 113 (v3).toNatClampNeg) = v1 then ((k4 v1 (v2 + (1 : Int32)) (v3 + (1 : Int32)) I)) else ((k4 v1 (v2 + (0 : Int32)) (v3 + (1 : Int32)) I))))
def X5_manyOf_l4 : Nat → Int32 → Int32 → Int32 → hM → Option (Int32 × hM)
  | 0 => fun _ _ _ _ => none
  | n + 1 => X5_manyOf_h4   (X5_manyOf_l4   n)
def X5_manyOf (v1 : Int32) (I : hM) : Option (Int32 × hM) := (X5_manyOf_l4 hF v1 (0 : Int32) (0 : Int32) I)
theorem X5_manyOf_hy : yX5_manyOf.cls = RX5 ∧ yX5_manyOf.cls ≠ "java/lang/invoke/MethodHandle" ∧ yX5_manyOf.cls ≠ "java/lang/invoke/VarHandle" ∧ (parseMethodDescriptor yX5_manyOf.desc).map (fun d => d.parameters.length) = some 1 := by decide +kernel
theorem X5_manyOf_k110 : Cond.fieldLink RX5 110 "HatPinsModel" "many" "I" ∈ wsX5_manyOf := by decide +kernel
theorem X5_manyOf_k70 : Cond.fieldLink RX5 70 "HatPinsModel" "slot" "[I" ∈ wsX5_manyOf := by decide +kernel
theorem X5_manyOf_w5 : ∀ w ∈ wsX50, w ∈ wsX5_manyOf := by decide +kernel
set_option maxHeartbeats 4000000 in
set_option maxRecDepth 100000 in
theorem X5_manyOf_h4_ok {p : Program} {l : Launch} {e : Env} {s : State} {m : MethodId} {args : Array Value} {below : List Frame} {meth : Method} {c : Code} {D : va_G} {E : Nat → ClassId} {b z : Nat} {sh : List hS} {r : Int32} {I2 : hM} {k4 : Int32 → Int32 → Int32 → hM → Option (Int32 × hM)} {v1 : Int32} {v2 : Int32} {v3 : Int32} {I : hM} (hX : hp_X p s m args meth c yX5_manyOf.cls cX5_manyOf 4 wsX5_manyOf D E (some .int) yX5_manyOf.name) (hf0 : hq_X5 sh) (hk4 : ∀ (v1 : Int32) (v2 : Int32) (v3 : Int32) (I : hM), k4 v1 v2 v3 I = some (r, I2) → hp_J p l e ({ frames := 0, cells := 0, slots := 0, locals := 44 * 0 }) s m args below meth c (MQ below (hp_Q D E b z (some (.int r)) sh I2) args s 0 0 (fun q : Nat => b ≤ q)) D E b z 4 sh 0 0 I 4 [(0, .ref 92), (1, .int v1), (2, .int v2), (3, .int v3)] []) (h : X5_manyOf_h4 k4 v1 v2 v3 I = some (r, I2)) : hp_J p l e ({ frames := 0, cells := 0, slots := 0, locals := 44 * 0 }) s m args below meth c (MQ below (hp_Q D E b z (some (.int r)) sh I2) args s 0 0 (fun q : Nat => b ≤ q)) D E b z 4 sh 0 0 I 4 [(0, .ref 92), (1, .int v1), (2, .int v2), (3, .int v3)] [] := by
  unfold X5_manyOf_h4 at h
  refine hj_iload_n hX rfl 3 rfl dX5_manyOf_4 ?_
  refine hj_aload_n hX rfl 0 rfl dX5_manyOf_5 ?_
  refine hj_geti hX (j := 0) hf0.1 rfl rfl X5_manyOf_w5 (Nat.le_of_ble_eq_true rfl) rfl X5_manyOf_k110 dX5_manyOf_6 ?_
  refine hj_icmp_ge hX (tgt := 36) (by decide) dX5_manyOf_9 h (fun h => ?_) (fun h => ?_)
  · refine hj_iload_n hX rfl 2 rfl dX5_manyOf_36 ?_
    exact hj_iret hX dX5_manyOf_37 h
  · refine hj_iload_n hX rfl 2 rfl dX5_manyOf_12 ?_
    refine hj_aload_n hX rfl 0 rfl dX5_manyOf_13 ?_
    refine hj_getr hX (j := 26) hf0.1 rfl rfl X5_manyOf_w5 (Nat.le_of_ble_eq_true rfl) rfl X5_manyOf_k70 dX5_manyOf_14 ?_
    refine hj_iload_n hX rfl 3 rfl dX5_manyOf_17 ?_
    refine hj_iald hX hf0.2.2.2.2.2.2.2.2.2.2.2.2.2.2.2.2.2.2.2.2.2.1 dX5_manyOf_18 h (fun h => ?_)
    refine hj_iload_n hX rfl 1 rfl dX5_manyOf_19 ?_
    refine hj_icmp_ne hX (tgt := 27) (by decide) dX5_manyOf_20 h (fun h => ?_) (fun h => ?_)
    · refine hj_iconst hX (v := (0 : Int32)) (by decide) dX5_manyOf_27 ?_
      refine hj_iadd hX dX5_manyOf_28 ?_
      refine hj_istore_n hX rfl (Nat.le_of_ble_eq_true rfl) (lv2 := [(2, .int (v2 + (0 : Int32))), (0, .ref 92), (1, .int v1), (3, .int v3)]) rfl dX5_manyOf_29 ?_
      refine hj_iinc hX (k1 := 3) (v := (v3 + (1 : Int32))) rfl rfl (Nat.le_of_ble_eq_true rfl) (lv2 := [(3, .int (v3 + (1 : Int32))), (2, .int (v2 + (0 : Int32))), (0, .ref 92), (1, .int v1)]) rfl dX5_manyOf_30 ?_
      refine hj_goto hX (tgt := 4) (by decide) dX5_manyOf_33 ?_
      refine hj_lv hX [2, 3, 1, 0] (lv2 := [(0, .ref 92), (1, .int v1), (2, .int (v2 + (0 : Int32))), (3, .int (v3 + (1 : Int32)))]) rfl ?_
      exact hk4 _ _ _ _ h
    · refine hj_iconst hX (v := (1 : Int32)) (by decide) dX5_manyOf_23 ?_
      refine hj_goto hX (tgt := 28) (by decide) dX5_manyOf_24 ?_
      refine hj_iadd hX dX5_manyOf_28 ?_
      refine hj_istore_n hX rfl (Nat.le_of_ble_eq_true rfl) (lv2 := [(2, .int (v2 + (1 : Int32))), (0, .ref 92), (1, .int v1), (3, .int v3)]) rfl dX5_manyOf_29 ?_
      refine hj_iinc hX (k1 := 3) (v := (v3 + (1 : Int32))) rfl rfl (Nat.le_of_ble_eq_true rfl) (lv2 := [(3, .int (v3 + (1 : Int32))), (2, .int (v2 + (1 : Int32))), (0, .ref 92), (1, .int v1)]) rfl dX5_manyOf_30 ?_
      refine hj_goto hX (tgt := 4) (by decide) dX5_manyOf_33 ?_
      refine hj_lv hX [2, 3, 1, 0] (lv2 := [(0, .ref 92), (1, .int v1), (2, .int (v2 + (1 : Int32))), (3, .int (v3 + (1 : Int32)))]) rfl ?_
      exact hk4 _ _ _ _ h
set_option maxHeartbeats 4000000 in
set_option maxRecDepth 100000 in
theorem X5_manyOf_l4_ok {p : Program} {l : Launch} {e : Env} {s : State} {m : MethodId} {args : Array Value} {below : List Frame} {meth : Method} {c : Code} {D : va_G} {E : Nat → ClassId} {b z : Nat} {sh : List hS} {r : Int32} {I2 : hM} (hX : hp_X p s m args meth c yX5_manyOf.cls cX5_manyOf 4 wsX5_manyOf D E (some .int) yX5_manyOf.name) (hf0 : hq_X5 sh) : ∀ (n : Nat) (v1 : Int32) (v2 : Int32) (v3 : Int32) (I : hM), X5_manyOf_l4 n v1 v2 v3 I = some (r, I2) → hp_J p l e ({ frames := 0, cells := 0, slots := 0, locals := 44 * 0 }) s m args below meth c (MQ below (hp_Q D E b z (some (.int r)) sh I2) args s 0 0 (fun q : Nat => b ≤ q)) D E b z 4 sh 0 0 I 4 [(0, .ref 92), (1, .int v1), (2, .int v2), (3, .int v3)] [] := by
  intro n
  induction n with
  | zero => exact fun _ _ _ _ h => nomatch h
  | succ n ih => exact fun _ _ _ _ h => X5_manyOf_h4_ok hX hf0 ih h
set_option maxHeartbeats 4000000 in
set_option maxRecDepth 100000 in
theorem X5_manyOf_ok {sh : List hS} {r : Int32} {I I2 : hM} {v1 : Int32} (hf0 : hq_X5 sh) (h : X5_manyOf v1 I = some (r, I2)) : hp_C yX5_manyOf wsX5_manyOf 0 0 0 sh I [.ref 92, .int v1] (some (.int r)) sh I2 := hp_start (cc := cX5_manyOf) (maxL := 4) (ret := (some .int)) [(0, .ref 92), (1, .int v1)] (by decide) rfl (fun _ _ => rfl) (fun _ _ => Nat.le_of_ble_eq_true rfl) (fun p l e s m below meth c D E b z hX _ => by
  unfold X5_manyOf at h
  refine hj_iconst hX (v := (0 : Int32)) (by decide) dX5_manyOf_0 ?_
  refine hj_istore_n hX rfl (Nat.le_of_ble_eq_true rfl) (lv2 := [(2, .int (0 : Int32)), (0, .ref 92), (1, .int v1)]) rfl dX5_manyOf_1 ?_
  refine hj_iconst hX (v := (0 : Int32)) (by decide) dX5_manyOf_2 ?_
  refine hj_istore_n hX rfl (Nat.le_of_ble_eq_true rfl) (lv2 := [(3, .int (0 : Int32)), (2, .int (0 : Int32)), (0, .ref 92), (1, .int v1)]) rfl dX5_manyOf_3 ?_
  refine hj_lv hX [2, 3, 1, 0] (lv2 := [(0, .ref 92), (1, .int v1), (2, .int (0 : Int32)), (3, .int (0 : Int32))]) rfl ?_
  exact X5_manyOf_l4_ok hX hf0 hF _ _ _ _ h)
def X5_count (v1 : Int32) (I : hM) : Option (Int32 × hM) := if v1 = 0 then (some ((I 92 0), I)) else (if v1 = (1 : Int32) then (some ((I 92 10), I)) else (if v1 = (2 : Int32) then (gd (hx (18 : Int32) 240) (some ((I 113 ((18 : Int32)).toNatClampNeg), I))) else (if v1 = (3 : Int32) then (ob (X5_manyOf (0 : Int32) I) (fun u13 Ia14 => some (u13, Ia14))) else (if v1 = (4 : Int32) then (ob (X5_manyOf (1 : Int32) I) (fun u10 Ia11 => some (u10, Ia11))) else (if v1 = (5 : Int32) then (ob (X5_manyOf (2 : Int32) I) (fun u7 Ia8 => some (u7, Ia8))) else (if v1 = (6 : Int32) then (ob (X5_manyOf (3 : Int32) I) (fun u4 Ia5 => some (u4, Ia5))) else (if v1 = (7 : Int32) then (gd (hx (19 : Int32) 240) (some (((I 113 ((19 : Int32)).toNatClampNeg) + (10000 : Int32)), I))) else (if v1 = (8 : Int32) then (ob (X5_pins (0 : Int32) I) (fun u1 Ia2 => some (u1, Ia2))) else (if v1 = (9 : Int32) then (some ((I 92 34), I)) else (if v1 = (10 : Int32) then (some ((I 92 27), I)) else (if v1 = (11 : Int32) then (some ((I 92 28), I)) else (if v1 = (12 : Int32) then (some ((I 92 29), I)) else (some ((-1 : Int32), I))))))))))))))
theorem X5_count_hy : yX5_count.cls = RX5 ∧ yX5_count.cls ≠ "java/lang/invoke/MethodHandle" ∧ yX5_count.cls ≠ "java/lang/invoke/VarHandle" ∧ (parseMethodDescriptor yX5_count.desc).map (fun d => d.parameters.length) = some 1 := by decide +kernel
theorem X5_count_k127 : Cond.fieldLink RX5 127 "HatPinsModel" "length" "I" ∈ wsX5_count := by decide +kernel
theorem X5_count_k179 : Cond.fieldLink RX5 179 "HatPinsModel" "keeps" "I" ∈ wsX5_count := by decide +kernel
theorem X5_count_k176 : Cond.fieldLink RX5 176 "HatPinsModel" "acts" "I" ∈ wsX5_count := by decide +kernel
theorem X5_count_k182 : Cond.fieldLink RX5 182 "HatPinsModel" "notes" "I" ∈ wsX5_count := by decide +kernel
theorem X5_count_k70 : Cond.fieldLink RX5 70 "HatPinsModel" "slot" "[I" ∈ wsX5_count := by decide +kernel
theorem X5_count_k116 : Cond.fieldLink RX5 116 "HatPinsModel" "ladies" "I" ∈ wsX5_count := by decide +kernel
theorem X5_count_k110 : Cond.fieldLink RX5 110 "HatPinsModel" "many" "I" ∈ wsX5_count := by decide +kernel
theorem X5_count_w5 : ∀ w ∈ wsX50, w ∈ wsX5_count := by decide +kernel
set_option maxHeartbeats 4000000 in
set_option maxRecDepth 100000 in
theorem X5_count_ok {sh : List hS} {r : Int32} {I I2 : hM} {v1 : Int32} (hf0 : hq_X5 sh) (h : X5_count v1 I = some (r, I2)) : hp_C yX5_count wsX5_count 1 0 0 sh I [.ref 92, .int v1] (some (.int r)) sh I2 := hp_start (cc := cX5_count) (maxL := 2) (ret := (some .int)) [(0, .ref 92), (1, .int v1)] (by decide) rfl (fun _ _ => rfl) (fun _ _ => Nat.le_of_ble_eq_true rfl) (fun p l e s m below meth c D E b z hX _ => by
  unfold X5_count at h
  refine hj_iload_n hX rfl 1 rfl dX5_count_0 ?_
  refine hj_if_ne hX (tgt := 11) (by decide) dX5_count_1 h (fun h => ?_) (fun h => ?_)
  · refine hj_iload_n hX rfl 1 rfl dX5_count_11 ?_
    refine hj_iconst hX (v := (1 : Int32)) (by decide) dX5_count_12 ?_
    refine hj_icmp_ne hX (tgt := 23) (by decide) dX5_count_13 h (fun h => ?_) (fun h => ?_)
    · refine hj_iload_n hX rfl 1 rfl dX5_count_23 ?_
      refine hj_iconst hX (v := (2 : Int32)) (by decide) dX5_count_24 ?_
      refine hj_icmp_ne hX (tgt := 38) (by decide) dX5_count_25 h (fun h => ?_) (fun h => ?_)
      · refine hj_iload_n hX rfl 1 rfl dX5_count_38 ?_
        refine hj_iconst hX (v := (3 : Int32)) (by decide) dX5_count_39 ?_
        refine hj_icmp_ne hX (tgt := 51) (by decide) dX5_count_40 h (fun h => ?_) (fun h => ?_)
        · refine hj_iload_n hX rfl 1 rfl dX5_count_51 ?_
          refine hj_iconst hX (v := (4 : Int32)) (by decide) dX5_count_52 ?_
          refine hj_icmp_ne hX (tgt := 64) (by decide) dX5_count_53 h (fun h => ?_) (fun h => ?_)
          · refine hj_iload_n hX rfl 1 rfl dX5_count_64 ?_
            refine hj_iconst hX (v := (5 : Int32)) (by decide) dX5_count_65 ?_
            refine hj_icmp_ne hX (tgt := 77) (by decide) dX5_count_66 h (fun h => ?_) (fun h => ?_)
            · refine hj_iload_n hX rfl 1 rfl dX5_count_77 ?_
              refine hj_bipush hX (v := (6 : Int32)) (by decide) dX5_count_78 ?_
              refine hj_icmp_ne hX (tgt := 91) (by decide) dX5_count_80 h (fun h => ?_) (fun h => ?_)
              · refine hj_iload_n hX rfl 1 rfl dX5_count_91 ?_
                refine hj_bipush hX (v := (7 : Int32)) (by decide) dX5_count_92 ?_
                refine hj_icmp_ne hX (tgt := 111) (by decide) dX5_count_94 h (fun h => ?_) (fun h => ?_)
                · refine hj_iload_n hX rfl 1 rfl dX5_count_111 ?_
                  refine hj_bipush hX (v := (8 : Int32)) (by decide) dX5_count_112 ?_
                  refine hj_icmp_ne hX (tgt := 125) (by decide) dX5_count_114 h (fun h => ?_) (fun h => ?_)
                  · refine hj_iload_n hX rfl 1 rfl dX5_count_125 ?_
                    refine hj_bipush hX (v := (9 : Int32)) (by decide) dX5_count_126 ?_
                    refine hj_icmp_ne hX (tgt := 138) (by decide) dX5_count_128 h (fun h => ?_) (fun h => ?_)
                    · refine hj_iload_n hX rfl 1 rfl dX5_count_138 ?_
                      refine hj_bipush hX (v := (10 : Int32)) (by decide) dX5_count_139 ?_
                      refine hj_icmp_ne hX (tgt := 151) (by decide) dX5_count_141 h (fun h => ?_) (fun h => ?_)
                      · refine hj_iload_n hX rfl 1 rfl dX5_count_151 ?_
                        refine hj_bipush hX (v := (11 : Int32)) (by decide) dX5_count_152 ?_
                        refine hj_icmp_ne hX (tgt := 164) (by decide) dX5_count_154 h (fun h => ?_) (fun h => ?_)
                        · refine hj_iload_n hX rfl 1 rfl dX5_count_164 ?_
                          refine hj_bipush hX (v := (12 : Int32)) (by decide) dX5_count_165 ?_
                          refine hj_icmp_ne hX (tgt := 177) (by decide) dX5_count_167 h (fun h => ?_) (fun h => ?_)
                          · refine hj_iconst hX (v := (-1 : Int32)) (by decide) dX5_count_177 ?_
                            exact hj_iret hX dX5_count_178 h
                          · refine hj_aload_n hX rfl 0 rfl dX5_count_170 ?_
                            refine hj_geti hX (j := 29) hf0.1 rfl rfl X5_count_w5 (Nat.le_of_ble_eq_true rfl) rfl X5_count_k127 dX5_count_171 ?_
                            refine hj_goto hX (tgt := 178) (by decide) dX5_count_174 ?_
                            exact hj_iret hX dX5_count_178 h
                        · refine hj_aload_n hX rfl 0 rfl dX5_count_157 ?_
                          refine hj_geti hX (j := 28) hf0.1 rfl rfl X5_count_w5 (Nat.le_of_ble_eq_true rfl) rfl X5_count_k179 dX5_count_158 ?_
                          refine hj_goto hX (tgt := 178) (by decide) dX5_count_161 ?_
                          exact hj_iret hX dX5_count_178 h
                      · refine hj_aload_n hX rfl 0 rfl dX5_count_144 ?_
                        refine hj_geti hX (j := 27) hf0.1 rfl rfl X5_count_w5 (Nat.le_of_ble_eq_true rfl) rfl X5_count_k176 dX5_count_145 ?_
                        refine hj_goto hX (tgt := 178) (by decide) dX5_count_148 ?_
                        exact hj_iret hX dX5_count_178 h
                    · refine hj_aload_n hX rfl 0 rfl dX5_count_131 ?_
                      refine hj_geti hX (j := 34) hf0.1 rfl rfl X5_count_w5 (Nat.le_of_ble_eq_true rfl) rfl X5_count_k182 dX5_count_132 ?_
                      refine hj_goto hX (tgt := 178) (by decide) dX5_count_135 ?_
                      exact hj_iret hX dX5_count_178 h
                  · refine hj_aload_n hX rfl 0 rfl dX5_count_117 ?_
                    refine hj_iconst hX (v := (0 : Int32)) (by decide) dX5_count_118 ?_
                    obtain ⟨u1, Ia2, hc3, h⟩ := ob_e h
                    refine hj_callV hX (sh2 := sh) (I2 := Ia2) (r := (some (.int u1))) (As := [.int (0 : Int32)]) (rest := []) (st2 := [.int u1]) (X5_pins_ok hf0 hc3) gX5_count_X5_pins rfl X5_pins_hy ⟨(Nat.le_of_ble_eq_true rfl), (Nat.le_of_ble_eq_true rfl)⟩ rfl hf0.1 rfl (Nat.le_of_ble_eq_true rfl) ⟨(Nat.le_of_ble_eq_true rfl), (Nat.le_of_ble_eq_true rfl)⟩ rfl rfl rfl dX5_count_119 ?_
                    refine hj_goto hX (tgt := 178) (by decide) dX5_count_122 ?_
                    exact hj_iret hX dX5_count_178 h
                · refine hj_aload_n hX rfl 0 rfl dX5_count_97 ?_
                  refine hj_getr hX (j := 26) hf0.1 rfl rfl X5_count_w5 (Nat.le_of_ble_eq_true rfl) rfl X5_count_k70 dX5_count_98 ?_
                  refine hj_bipush hX (v := (19 : Int32)) (by decide) dX5_count_101 ?_
                  refine hj_iald hX hf0.2.2.2.2.2.2.2.2.2.2.2.2.2.2.2.2.2.2.2.2.2.1 dX5_count_103 h (fun h => ?_)
                  refine hj_sipush hX (v := (10000 : Int32)) (by decide) dX5_count_104 ?_
                  refine hj_iadd hX dX5_count_107 ?_
                  refine hj_goto hX (tgt := 178) (by decide) dX5_count_108 ?_
                  exact hj_iret hX dX5_count_178 h
              · refine hj_aload_n hX rfl 0 rfl dX5_count_83 ?_
                refine hj_iconst hX (v := (3 : Int32)) (by decide) dX5_count_84 ?_
                obtain ⟨u4, Ia5, hc6, h⟩ := ob_e h
                refine hj_callV hX (sh2 := sh) (I2 := Ia5) (r := (some (.int u4))) (As := [.int (3 : Int32)]) (rest := []) (st2 := [.int u4]) (X5_manyOf_ok hf0 hc6) gX5_count_X5_manyOf rfl X5_manyOf_hy ⟨(Nat.le_of_ble_eq_true rfl), (Nat.le_of_ble_eq_true rfl)⟩ rfl hf0.1 rfl (Nat.le_of_ble_eq_true rfl) ⟨(Nat.le_of_ble_eq_true rfl), (Nat.le_of_ble_eq_true rfl)⟩ rfl rfl rfl dX5_count_85 ?_
                refine hj_goto hX (tgt := 178) (by decide) dX5_count_88 ?_
                exact hj_iret hX dX5_count_178 h
            · refine hj_aload_n hX rfl 0 rfl dX5_count_69 ?_
              refine hj_iconst hX (v := (2 : Int32)) (by decide) dX5_count_70 ?_
              obtain ⟨u7, Ia8, hc9, h⟩ := ob_e h
              refine hj_callV hX (sh2 := sh) (I2 := Ia8) (r := (some (.int u7))) (As := [.int (2 : Int32)]) (rest := []) (st2 := [.int u7]) (X5_manyOf_ok hf0 hc9) gX5_count_X5_manyOf rfl X5_manyOf_hy ⟨(Nat.le_of_ble_eq_true rfl), (Nat.le_of_ble_eq_true rfl)⟩ rfl hf0.1 rfl (Nat.le_of_ble_eq_true rfl) ⟨(Nat.le_of_ble_eq_true rfl), (Nat.le_of_ble_eq_true rfl)⟩ rfl rfl rfl dX5_count_71 ?_
              refine hj_goto hX (tgt := 178) (by decide) dX5_count_74 ?_
              exact hj_iret hX dX5_count_178 h
          · refine hj_aload_n hX rfl 0 rfl dX5_count_56 ?_
            refine hj_iconst hX (v := (1 : Int32)) (by decide) dX5_count_57 ?_
            obtain ⟨u10, Ia11, hc12, h⟩ := ob_e h
            refine hj_callV hX (sh2 := sh) (I2 := Ia11) (r := (some (.int u10))) (As := [.int (1 : Int32)]) (rest := []) (st2 := [.int u10]) (X5_manyOf_ok hf0 hc12) gX5_count_X5_manyOf rfl X5_manyOf_hy ⟨(Nat.le_of_ble_eq_true rfl), (Nat.le_of_ble_eq_true rfl)⟩ rfl hf0.1 rfl (Nat.le_of_ble_eq_true rfl) ⟨(Nat.le_of_ble_eq_true rfl), (Nat.le_of_ble_eq_true rfl)⟩ rfl rfl rfl dX5_count_58 ?_
            refine hj_goto hX (tgt := 178) (by decide) dX5_count_61 ?_
            exact hj_iret hX dX5_count_178 h
        · refine hj_aload_n hX rfl 0 rfl dX5_count_43 ?_
          refine hj_iconst hX (v := (0 : Int32)) (by decide) dX5_count_44 ?_
          obtain ⟨u13, Ia14, hc15, h⟩ := ob_e h
          refine hj_callV hX (sh2 := sh) (I2 := Ia14) (r := (some (.int u13))) (As := [.int (0 : Int32)]) (rest := []) (st2 := [.int u13]) (X5_manyOf_ok hf0 hc15) gX5_count_X5_manyOf rfl X5_manyOf_hy ⟨(Nat.le_of_ble_eq_true rfl), (Nat.le_of_ble_eq_true rfl)⟩ rfl hf0.1 rfl (Nat.le_of_ble_eq_true rfl) ⟨(Nat.le_of_ble_eq_true rfl), (Nat.le_of_ble_eq_true rfl)⟩ rfl rfl rfl dX5_count_45 ?_
          refine hj_goto hX (tgt := 178) (by decide) dX5_count_48 ?_
          exact hj_iret hX dX5_count_178 h
      · refine hj_aload_n hX rfl 0 rfl dX5_count_28 ?_
        refine hj_getr hX (j := 26) hf0.1 rfl rfl X5_count_w5 (Nat.le_of_ble_eq_true rfl) rfl X5_count_k70 dX5_count_29 ?_
        refine hj_bipush hX (v := (18 : Int32)) (by decide) dX5_count_32 ?_
        refine hj_iald hX hf0.2.2.2.2.2.2.2.2.2.2.2.2.2.2.2.2.2.2.2.2.2.1 dX5_count_34 h (fun h => ?_)
        refine hj_goto hX (tgt := 178) (by decide) dX5_count_35 ?_
        exact hj_iret hX dX5_count_178 h
    · refine hj_aload_n hX rfl 0 rfl dX5_count_16 ?_
      refine hj_geti hX (j := 10) hf0.1 rfl rfl X5_count_w5 (Nat.le_of_ble_eq_true rfl) rfl X5_count_k116 dX5_count_17 ?_
      refine hj_goto hX (tgt := 178) (by decide) dX5_count_20 ?_
      exact hj_iret hX dX5_count_178 h
  · refine hj_aload_n hX rfl 0 rfl dX5_count_4 ?_
    refine hj_geti hX (j := 0) hf0.1 rfl rfl X5_count_w5 (Nat.le_of_ble_eq_true rfl) rfl X5_count_k110 dX5_count_5 ?_
    refine hj_goto hX (tgt := 178) (by decide) dX5_count_8 ?_
    exact hj_iret hX dX5_count_178 h)
