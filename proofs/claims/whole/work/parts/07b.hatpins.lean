def X4_hadWithout (v1 : Int32) (I : hM) : Option (Int32 × hM) := ob (X2_copyOf 31 26 I) (fun u1 Ia2 => gd (hx v1 7) (ob (X2_goBy 31 4 (60 : Int32) (hu Ia2 32 (v1).toNatClampNeg (3 : Int32))) (fun u4 Ia5 => some ((Ia5 31 1), Ia5))))
theorem X4_hadWithout_hy : yX4_hadWithout.cls = RX4 ∧ yX4_hadWithout.cls ≠ "java/lang/invoke/MethodHandle" ∧ yX4_hadWithout.cls ≠ "java/lang/invoke/VarHandle" ∧ (parseMethodDescriptor yX4_hadWithout.desc).map (fun d => d.parameters.length) = some 1 := by decide +kernel
theorem X4_hadWithout_k33 : Cond.fieldLink RX4 33 "HatPins" "trial" "LHatPins$Standing;" ∈ wsX4_hadWithout := by decide +kernel
theorem X4_hadWithout_k29 : Cond.fieldLink RX4 29 "HatPins" "now" "LHatPins$Standing;" ∈ wsX4_hadWithout := by decide +kernel
theorem X4_hadWithout_k106 : Cond.fieldLink RX4 106 "HatPins$Standing" "state" "[I" ∈ wsX4_hadWithout := by decide +kernel
theorem X4_hadWithout_k19 : Cond.fieldLink RX4 19 "HatPins" "laid" "LHatPins$Evening;" ∈ wsX4_hadWithout := by decide +kernel
theorem X4_hadWithout_k140 : Cond.fieldLink RX4 140 "HatPins$Standing" "had" "I" ∈ wsX4_hadWithout := by decide +kernel
theorem X4_hadWithout_w2 : ∀ w ∈ wsX20, w ∈ wsX4_hadWithout := by decide +kernel
theorem X4_hadWithout_w4 : ∀ w ∈ wsX40, w ∈ wsX4_hadWithout := by decide +kernel
set_option maxHeartbeats 4000000 in
set_option maxRecDepth 100000 in
theorem X4_hadWithout_ok {sh : List hS} {r : Int32} {I I2 : hM} {v1 : Int32} (hf0 : hq_X4 sh) (h : X4_hadWithout v1 I = some (r, I2)) : hp_C yX4_hadWithout wsX4_hadWithout 5 0 0 sh I [.ref 0, .int v1] (some (.int r)) sh I2 := hp_start (cc := cX4_hadWithout) (maxL := 2) (ret := (some .int)) [(0, .ref 0), (1, .int v1)] (by decide) rfl (fun _ _ => rfl) (fun _ _ => Nat.le_of_ble_eq_true rfl) (fun p l e s m below meth c D E b z hX _ => by
  unfold X4_hadWithout at h
  refine hj_aload_n hX rfl 0 rfl dX4_hadWithout_0 ?_
  refine hj_getr hX (j := 4) hf0.1 rfl rfl X4_hadWithout_w4 (Nat.le_of_ble_eq_true rfl) rfl X4_hadWithout_k33 dX4_hadWithout_1 ?_
  refine hj_aload_n hX rfl 0 rfl dX4_hadWithout_4 ?_
  refine hj_getr hX (j := 3) hf0.1 rfl rfl X4_hadWithout_w4 (Nat.le_of_ble_eq_true rfl) rfl X4_hadWithout_k29 dX4_hadWithout_5 ?_
  obtain ⟨u1, Ia2, hc3, h⟩ := ob_e h
  refine hj_callV hX (sh2 := sh) (I2 := Ia2) (r := none) (As := [.ref 26]) (rest := []) (st2 := []) (X2_copyOf_ok hf0.2.2.2.2.2.1 hf0.2.2.2.2.1 hc3) gX4_hadWithout_X2_copyOf rfl X2_copyOf_hy ⟨(Nat.le_of_ble_eq_true rfl), (Nat.le_of_ble_eq_true rfl)⟩ rfl hf0.2.2.2.2.2.1.1 rfl (Nat.le_of_ble_eq_true rfl) ⟨(Nat.le_of_ble_eq_true rfl), (Nat.le_of_ble_eq_true rfl)⟩ rfl rfl rfl dX4_hadWithout_8 ?_
  refine hj_aload_n hX rfl 0 rfl dX4_hadWithout_11 ?_
  refine hj_getr hX (j := 4) hf0.1 rfl rfl X4_hadWithout_w4 (Nat.le_of_ble_eq_true rfl) rfl X4_hadWithout_k33 dX4_hadWithout_12 ?_
  refine hj_getr hX (j := 2) hf0.2.2.2.2.2.1.1 rfl rfl X4_hadWithout_w2 (Nat.le_of_ble_eq_true rfl) rfl X4_hadWithout_k106 dX4_hadWithout_15 ?_
  refine hj_iload_n hX rfl 1 rfl dX4_hadWithout_18 ?_
  refine hj_iconst hX (v := (3 : Int32)) (by decide) dX4_hadWithout_19 ?_
  refine hj_iast hX hf0.2.2.2.2.2.1.2.1 dX4_hadWithout_20 h (fun h => ?_)
  refine hj_aload_n hX rfl 0 rfl dX4_hadWithout_21 ?_
  refine hj_getr hX (j := 4) hf0.1 rfl rfl X4_hadWithout_w4 (Nat.le_of_ble_eq_true rfl) rfl X4_hadWithout_k33 dX4_hadWithout_22 ?_
  refine hj_aload_n hX rfl 0 rfl dX4_hadWithout_25 ?_
  refine hj_getr hX (j := 1) hf0.1 rfl rfl X4_hadWithout_w4 (Nat.le_of_ble_eq_true rfl) rfl X4_hadWithout_k19 dX4_hadWithout_26 ?_
  refine hj_bipush hX (v := (60 : Int32)) (by decide) dX4_hadWithout_29 ?_
  obtain ⟨u4, Ia5, hc6, h⟩ := ob_e h
  refine hj_callV hX (sh2 := sh) (I2 := Ia5) (r := none) (As := [.ref 4, .int (60 : Int32)]) (rest := []) (st2 := []) (X2_goBy_ok hf0.2.2.2.2.2.1 hf0.2.2.1 hc6) gX4_hadWithout_X2_goBy rfl X2_goBy_hy ⟨(Nat.le_of_ble_eq_true rfl), (Nat.le_of_ble_eq_true rfl)⟩ rfl hf0.2.2.2.2.2.1.1 rfl (Nat.le_of_ble_eq_true rfl) ⟨(Nat.le_of_ble_eq_true rfl), (Nat.le_of_ble_eq_true rfl)⟩ rfl rfl rfl dX4_hadWithout_31 ?_
  refine hj_aload_n hX rfl 0 rfl dX4_hadWithout_34 ?_
  refine hj_getr hX (j := 4) hf0.1 rfl rfl X4_hadWithout_w4 (Nat.le_of_ble_eq_true rfl) rfl X4_hadWithout_k33 dX4_hadWithout_35 ?_
  refine hj_geti hX (j := 1) hf0.2.2.2.2.2.1.1 rfl rfl X4_hadWithout_w2 (Nat.le_of_ble_eq_true rfl) rfl X4_hadWithout_k140 dX4_hadWithout_38 ?_
  exact hj_iret hX dX4_hadWithout_41 h)
def X4_never_b55 (k20 : Int32 → Int32 → Int32 → Int32 → hM → Option (Int32 × hM)) (v1 : Int32) (v2 : Int32) (v3 : Int32) (v4 : Int32) (t0 : Int32) (I : hM) : Option (Int32 × hM) := if t0 ≤ v3 then ((k20 v1 v2 v3 (v4 + (1 : Int32)) I)) else ((k20 v1 v4 t0 (v4 + (1 : Int32)) I))
def X4_never_h20 (k20 : Int32 → Int32 → Int32 → Int32 → hM → Option (Int32 × hM)) (v1 : Int32) (v2 : Int32) (v3 : Int32) (v4 : Int32) (I : hM) : Option (Int32 × hM) := if (I 4 0) ≤ v4 then (ob (X4_whichOrHad v2 v3 v1 I) (fun u7 Ia8 => some (u7, Ia8))) else (gd (hx v4 7) (if (I 27 (v4).toNatClampNeg) = 0 then (ob (X4_hadWithout v4 I) (fun u10 Ia11 => (X4_never_b55 k20 v1 v2 v3 v4 u10 Ia11))) else (X4_never_b55 k20 v1 v2 v3 v4 v3 I)))
def X4_never_l20 : Nat → Int32 → Int32 → Int32 → Int32 → hM → Option (Int32 × hM)
  | 0 => fun _ _ _ _ _ => none
  | n + 1 => X4_never_h20   (X4_never_l20   n)
def X4_never (v1 : Int32) (I : hM) : Option (Int32 × hM) := ob (X4_isEither v1 I) (fun u1 Ia2 => if u1 = 0 then (some ((-1 : Int32), Ia2)) else (ob (X4_hadAsItIs Ia2) (fun u4 Ia5 => (X4_never_l20 hF v1 (-4 : Int32) u4 (0 : Int32) Ia5))))
theorem X4_never_hy : yX4_never.cls = RX4 ∧ yX4_never.cls ≠ "java/lang/invoke/MethodHandle" ∧ yX4_never.cls ≠ "java/lang/invoke/VarHandle" ∧ (parseMethodDescriptor yX4_never.desc).map (fun d => d.parameters.length) = some 1 := by decide +kernel
theorem X4_never_k19 : Cond.fieldLink RX4 19 "HatPins" "laid" "LHatPins$Evening;" ∈ wsX4_never := by decide +kernel
theorem X4_never_k82 : Cond.fieldLink RX4 82 "HatPins$Evening" "goings" "I" ∈ wsX4_never := by decide +kernel
theorem X4_never_k29 : Cond.fieldLink RX4 29 "HatPins" "now" "LHatPins$Standing;" ∈ wsX4_never := by decide +kernel
theorem X4_never_k106 : Cond.fieldLink RX4 106 "HatPins$Standing" "state" "[I" ∈ wsX4_never := by decide +kernel
theorem X4_never_w0 : ∀ w ∈ wsX00, w ∈ wsX4_never := by decide +kernel
theorem X4_never_w2 : ∀ w ∈ wsX20, w ∈ wsX4_never := by decide +kernel
theorem X4_never_w4 : ∀ w ∈ wsX40, w ∈ wsX4_never := by decide +kernel
set_option maxHeartbeats 4000000 in
set_option maxRecDepth 100000 in
theorem X4_never_b55_ok {p : Program} {l : Launch} {e : Env} {s : State} {m : MethodId} {args : Array Value} {below : List Frame} {meth : Method} {c : Code} {D : va_G} {E : Nat → ClassId} {b z : Nat} {sh : List hS} {r : Int32} {I2 : hM} {k20 : Int32 → Int32 → Int32 → Int32 → hM → Option (Int32 × hM)} {v1 : Int32} {v2 : Int32} {v3 : Int32} {v4 : Int32} {t0 : Int32} {I : hM} (hX : hp_X p s m args meth c yX4_never.cls cX4_never 6 wsX4_never D E (some .int) yX4_never.name) (hf0 : hq_X4 sh) (hk20 : ∀ (v1 : Int32) (v2 : Int32) (v3 : Int32) (v4 : Int32) (I : hM), k20 v1 v2 v3 v4 I = some (r, I2) → hp_J p l e ({ frames := 6, cells := 0, slots := 0, locals := 44 * 6 }) s m args below meth c (MQ below (hp_Q D E b z (some (.int r)) sh I2) args s 0 0 (fun q : Nat => b ≤ q)) D E b z 6 sh 0 0 I 20 [(0, .ref 0), (1, .int v1), (2, .int v2), (3, .int v3), (4, .int v4)] []) (h : X4_never_b55 k20 v1 v2 v3 v4 t0 I = some (r, I2)) : hp_J p l e ({ frames := 6, cells := 0, slots := 0, locals := 44 * 6 }) s m args below meth c (MQ below (hp_Q D E b z (some (.int r)) sh I2) args s 0 0 (fun q : Nat => b ≤ q)) D E b z 6 sh 0 0 I 55 [(0, .ref 0), (1, .int v1), (2, .int v2), (3, .int v3), (4, .int v4)] [.int t0] := by
  unfold X4_never_b55 at h
  refine hj_istore hX (Nat.le_of_ble_eq_true rfl) (lv2 := [(5, .int t0), (0, .ref 0), (1, .int v1), (2, .int v2), (3, .int v3), (4, .int v4)]) rfl dX4_never_55 ?_
  refine hj_iload hX 0 rfl dX4_never_57 ?_
  refine hj_iload_n hX rfl 4 rfl dX4_never_59 ?_
  refine hj_icmp_le hX (tgt := 69) (by decide) dX4_never_60 h (fun h => ?_) (fun h => ?_)
  · refine hj_iinc hX (k1 := 5) (v := (v4 + (1 : Int32))) rfl rfl (Nat.le_of_ble_eq_true rfl) (lv2 := [(4, .int (v4 + (1 : Int32))), (5, .int t0), (0, .ref 0), (1, .int v1), (2, .int v2), (3, .int v3)]) rfl dX4_never_69 ?_
    refine hj_goto hX (tgt := 20) (by decide) dX4_never_72 ?_
    refine hj_lv hX [2, 3, 4, 5, 0] (lv2 := [(0, .ref 0), (1, .int v1), (2, .int v2), (3, .int v3), (4, .int (v4 + (1 : Int32)))]) rfl ?_
    exact hk20 _ _ _ _ _ h
  · refine hj_iload hX 5 rfl dX4_never_63 ?_
    refine hj_istore_n hX rfl (Nat.le_of_ble_eq_true rfl) (lv2 := [(2, .int v4), (5, .int t0), (0, .ref 0), (1, .int v1), (3, .int v3), (4, .int v4)]) rfl dX4_never_65 ?_
    refine hj_iload hX 1 rfl dX4_never_66 ?_
    refine hj_istore_n hX rfl (Nat.le_of_ble_eq_true rfl) (lv2 := [(3, .int t0), (2, .int v4), (5, .int t0), (0, .ref 0), (1, .int v1), (4, .int v4)]) rfl dX4_never_68 ?_
    refine hj_iinc hX (k1 := 5) (v := (v4 + (1 : Int32))) rfl rfl (Nat.le_of_ble_eq_true rfl) (lv2 := [(4, .int (v4 + (1 : Int32))), (3, .int t0), (2, .int v4), (5, .int t0), (0, .ref 0), (1, .int v1)]) rfl dX4_never_69 ?_
    refine hj_goto hX (tgt := 20) (by decide) dX4_never_72 ?_
    refine hj_lv hX [4, 5, 2, 1, 0] (lv2 := [(0, .ref 0), (1, .int v1), (2, .int v4), (3, .int t0), (4, .int (v4 + (1 : Int32)))]) rfl ?_
    exact hk20 _ _ _ _ _ h
set_option maxHeartbeats 4000000 in
set_option maxRecDepth 100000 in
theorem X4_never_h20_ok {p : Program} {l : Launch} {e : Env} {s : State} {m : MethodId} {args : Array Value} {below : List Frame} {meth : Method} {c : Code} {D : va_G} {E : Nat → ClassId} {b z : Nat} {sh : List hS} {r : Int32} {I2 : hM} {k20 : Int32 → Int32 → Int32 → Int32 → hM → Option (Int32 × hM)} {v1 : Int32} {v2 : Int32} {v3 : Int32} {v4 : Int32} {I : hM} (hX : hp_X p s m args meth c yX4_never.cls cX4_never 6 wsX4_never D E (some .int) yX4_never.name) (hf0 : hq_X4 sh) (hk20 : ∀ (v1 : Int32) (v2 : Int32) (v3 : Int32) (v4 : Int32) (I : hM), k20 v1 v2 v3 v4 I = some (r, I2) → hp_J p l e ({ frames := 6, cells := 0, slots := 0, locals := 44 * 6 }) s m args below meth c (MQ below (hp_Q D E b z (some (.int r)) sh I2) args s 0 0 (fun q : Nat => b ≤ q)) D E b z 6 sh 0 0 I 20 [(0, .ref 0), (1, .int v1), (2, .int v2), (3, .int v3), (4, .int v4)] []) (h : X4_never_h20 k20 v1 v2 v3 v4 I = some (r, I2)) : hp_J p l e ({ frames := 6, cells := 0, slots := 0, locals := 44 * 6 }) s m args below meth c (MQ below (hp_Q D E b z (some (.int r)) sh I2) args s 0 0 (fun q : Nat => b ≤ q)) D E b z 6 sh 0 0 I 20 [(0, .ref 0), (1, .int v1), (2, .int v2), (3, .int v3), (4, .int v4)] [] := by
  unfold X4_never_h20 at h
  refine hj_iload hX 4 rfl dX4_never_20 ?_
  refine hj_aload_n hX rfl 0 rfl dX4_never_22 ?_
  refine hj_getr hX (j := 1) hf0.1 rfl rfl X4_never_w4 (Nat.le_of_ble_eq_true rfl) rfl X4_never_k19 dX4_never_23 ?_
  refine hj_geti hX (j := 0) hf0.2.2.1.1 rfl rfl X4_never_w0 (Nat.le_of_ble_eq_true rfl) rfl X4_never_k82 dX4_never_26 ?_
  refine hj_icmp_ge hX (tgt := 75) (by decide) dX4_never_29 h (fun h => ?_) (fun h => ?_)
  · refine hj_iload_n hX rfl 2 rfl dX4_never_75 ?_
    refine hj_iload_n hX rfl 3 rfl dX4_never_76 ?_
    refine hj_iload_n hX rfl 1 rfl dX4_never_77 ?_
    obtain ⟨u7, Ia8, hc9, h⟩ := ob_e h
    refine hj_callS hX (sh2 := sh) (I2 := Ia8) (r := (some (.int u7))) (As := [.int v2, .int v3, .int v1]) (rest := []) (st2 := [.int u7]) (X4_whichOrHad_ok hc9) gX4_never_X4_whichOrHad rfl X4_whichOrHad_hy.2 ⟨(Nat.le_of_ble_eq_true rfl), (Nat.le_of_ble_eq_true rfl)⟩ rfl (Nat.le_of_ble_eq_true rfl) ⟨(Nat.le_of_ble_eq_true rfl), (Nat.le_of_ble_eq_true rfl)⟩ rfl rfl rfl dX4_never_78 ?_
    exact hj_iret hX dX4_never_81 h
  · refine hj_aload_n hX rfl 0 rfl dX4_never_32 ?_
    refine hj_getr hX (j := 3) hf0.1 rfl rfl X4_never_w4 (Nat.le_of_ble_eq_true rfl) rfl X4_never_k29 dX4_never_33 ?_
    refine hj_getr hX (j := 2) hf0.2.2.2.2.1.1 rfl rfl X4_never_w2 (Nat.le_of_ble_eq_true rfl) rfl X4_never_k106 dX4_never_36 ?_
    refine hj_iload hX 4 rfl dX4_never_39 ?_
    refine hj_iald hX hf0.2.2.2.2.1.2.1 dX4_never_41 h (fun h => ?_)
    refine hj_if_ne hX (tgt := 54) (by decide) dX4_never_42 h (fun h => ?_) (fun h => ?_)
    · refine hj_iload_n hX rfl 3 rfl dX4_never_54 ?_
      exact X4_never_b55_ok hX hf0 hk20 h
    · refine hj_aload_n hX rfl 0 rfl dX4_never_45 ?_
      refine hj_iload hX 4 rfl dX4_never_46 ?_
      obtain ⟨u10, Ia11, hc12, h⟩ := ob_e h
      refine hj_callV hX (sh2 := sh) (I2 := Ia11) (r := (some (.int u10))) (As := [.int v4]) (rest := []) (st2 := [.int u10]) (X4_hadWithout_ok hf0 hc12) gX4_never_X4_hadWithout rfl X4_hadWithout_hy ⟨(Nat.le_of_ble_eq_true rfl), (Nat.le_of_ble_eq_true rfl)⟩ rfl hf0.1 rfl (Nat.le_of_ble_eq_true rfl) ⟨(Nat.le_of_ble_eq_true rfl), (Nat.le_of_ble_eq_true rfl)⟩ rfl rfl rfl dX4_never_48 ?_
      refine hj_goto hX (tgt := 55) (by decide) dX4_never_51 ?_
      exact X4_never_b55_ok hX hf0 hk20 h
set_option maxHeartbeats 4000000 in
set_option maxRecDepth 100000 in
theorem X4_never_l20_ok {p : Program} {l : Launch} {e : Env} {s : State} {m : MethodId} {args : Array Value} {below : List Frame} {meth : Method} {c : Code} {D : va_G} {E : Nat → ClassId} {b z : Nat} {sh : List hS} {r : Int32} {I2 : hM} (hX : hp_X p s m args meth c yX4_never.cls cX4_never 6 wsX4_never D E (some .int) yX4_never.name) (hf0 : hq_X4 sh) : ∀ (n : Nat) (v1 : Int32) (v2 : Int32) (v3 : Int32) (v4 : Int32) (I : hM), X4_never_l20 n v1 v2 v3 v4 I = some (r, I2) → hp_J p l e ({ frames := 6, cells := 0, slots := 0, locals := 44 * 6 }) s m args below meth c (MQ below (hp_Q D E b z (some (.int r)) sh I2) args s 0 0 (fun q : Nat => b ≤ q)) D E b z 6 sh 0 0 I 20 [(0, .ref 0), (1, .int v1), (2, .int v2), (3, .int v3), (4, .int v4)] [] := by
  intro n
  induction n with
  | zero => exact fun _ _ _ _ _ h => nomatch h
  | succ n ih => exact fun _ _ _ _ _ h => X4_never_h20_ok hX hf0 ih h
set_option maxHeartbeats 4000000 in
set_option maxRecDepth 100000 in
theorem X4_never_ok {sh : List hS} {r : Int32} {I I2 : hM} {v1 : Int32} (hf0 : hq_X4 sh) (h : X4_never v1 I = some (r, I2)) : hp_C yX4_never wsX4_never 6 0 0 sh I [.ref 0, .int v1] (some (.int r)) sh I2 := hp_start (cc := cX4_never) (maxL := 6) (ret := (some .int)) [(0, .ref 0), (1, .int v1)] (by decide) rfl (fun _ _ => rfl) (fun _ _ => Nat.le_of_ble_eq_true rfl) (fun p l e s m below meth c D E b z hX _ => by
  unfold X4_never at h
  refine hj_iload_n hX rfl 1 rfl dX4_never_0 ?_
  obtain ⟨u1, Ia2, hc3, h⟩ := ob_e h
  refine hj_callS hX (sh2 := sh) (I2 := Ia2) (r := (some (.int u1))) (As := [.int v1]) (rest := []) (st2 := [.int u1]) (X4_isEither_ok hc3) gX4_never_X4_isEither rfl X4_isEither_hy.2 ⟨(Nat.le_of_ble_eq_true rfl), (Nat.le_of_ble_eq_true rfl)⟩ rfl (Nat.le_of_ble_eq_true rfl) ⟨(Nat.le_of_ble_eq_true rfl), (Nat.le_of_ble_eq_true rfl)⟩ rfl rfl rfl dX4_never_1 ?_
  refine hj_if_ne hX (tgt := 9) (by decide) dX4_never_4 h (fun h => ?_) (fun h => ?_)
  · refine hj_bipush hX (v := (-4 : Int32)) (by decide) dX4_never_9 ?_
    refine hj_istore_n hX rfl (Nat.le_of_ble_eq_true rfl) (lv2 := [(2, .int (-4 : Int32)), (0, .ref 0), (1, .int v1)]) rfl dX4_never_11 ?_
    refine hj_aload_n hX rfl 1 rfl dX4_never_12 ?_
    obtain ⟨u4, Ia5, hc6, h⟩ := ob_e h
    refine hj_callV hX (sh2 := sh) (I2 := Ia5) (r := (some (.int u4))) (As := []) (rest := []) (st2 := [.int u4]) (X4_hadAsItIs_ok hf0 hc6) gX4_never_X4_hadAsItIs rfl X4_hadAsItIs_hy ⟨(Nat.le_of_ble_eq_true rfl), (Nat.le_of_ble_eq_true rfl)⟩ rfl hf0.1 rfl (Nat.le_of_ble_eq_true rfl) ⟨(Nat.le_of_ble_eq_true rfl), (Nat.le_of_ble_eq_true rfl)⟩ rfl rfl rfl dX4_never_13 ?_
    refine hj_istore_n hX rfl (Nat.le_of_ble_eq_true rfl) (lv2 := [(3, .int u4), (2, .int (-4 : Int32)), (0, .ref 0), (1, .int v1)]) rfl dX4_never_16 ?_
    refine hj_iconst hX (v := (0 : Int32)) (by decide) dX4_never_17 ?_
    refine hj_istore hX (Nat.le_of_ble_eq_true rfl) (lv2 := [(4, .int (0 : Int32)), (3, .int u4), (2, .int (-4 : Int32)), (0, .ref 0), (1, .int v1)]) rfl dX4_never_18 ?_
    refine hj_lv hX [3, 4, 2, 1, 0] (lv2 := [(0, .ref 0), (1, .int v1), (2, .int (-4 : Int32)), (3, .int u4), (4, .int (0 : Int32))]) rfl ?_
    exact X4_never_l20_ok hX hf0 hF _ _ _ _ _ h
  · refine hj_iconst hX (v := (-1 : Int32)) (by decide) dX4_never_7 ?_
    exact hj_iret hX dX4_never_8 h)
def X4_note (v1 : Int32) (v2 : Int32) (I : hM) : Option (Int32 × hM) := if v1 < 0 then (some ((-1 : Int32), I)) else (if (39 : Int32) < v1 then (some ((-1 : Int32), I)) else (if v2 < (-20 : Int32) then (some ((-1 : Int32), I)) else (if v2 ≤ (20 : Int32) then (if (I 0 9) < (8 : Int32) then (gd (hx (I 0 9) 8) (gd (hx ((hu I 90 ((I 0 9)).toNatClampNeg v1) 0 9) 8) (some (((hu (hu (hu I 90 ((I 0 9)).toNatClampNeg v1) 91 (((hu I 90 ((I 0 9)).toNatClampNeg v1) 0 9)).toNatClampNeg v2) 0 9 (((hu (hu I 90 ((I 0 9)).toNatClampNeg v1) 91 (((hu I 90 ((I 0 9)).toNatClampNeg v1) 0 9)).toNatClampNeg v2) 0 9) + (1 : Int32))) 0 9), (hu (hu (hu I 90 ((I 0 9)).toNatClampNeg v1) 91 (((hu I 90 ((I 0 9)).toNatClampNeg v1) 0 9)).toNatClampNeg v2) 0 9 (((hu (hu I 90 ((I 0 9)).toNatClampNeg v1) 91 (((hu I 90 ((I 0 9)).toNatClampNeg v1) 0 9)).toNatClampNeg v2) 0 9) + (1 : Int32))))))) else (some ((-3 : Int32), I))) else (some ((-1 : Int32), I)))))
theorem X4_note_hy : yX4_note.cls = RX4 ∧ yX4_note.cls ≠ "java/lang/invoke/MethodHandle" ∧ yX4_note.cls ≠ "java/lang/invoke/VarHandle" ∧ (parseMethodDescriptor yX4_note.desc).map (fun d => d.parameters.length) = some 2 := by decide +kernel
theorem X4_note_k88 : Cond.fieldLink RX4 88 "HatPins" "noted" "I" ∈ wsX4_note := by decide +kernel
theorem X4_note_k48 : Cond.fieldLink RX4 48 "HatPins" "notedMinute" "[I" ∈ wsX4_note := by decide +kernel
theorem X4_note_k52 : Cond.fieldLink RX4 52 "HatPins" "notedWorth" "[I" ∈ wsX4_note := by decide +kernel
theorem X4_note_w4 : ∀ w ∈ wsX40, w ∈ wsX4_note := by decide +kernel
set_option maxHeartbeats 4000000 in
set_option maxRecDepth 100000 in
theorem X4_note_ok {sh : List hS} {r : Int32} {I I2 : hM} {v1 : Int32} {v2 : Int32} (hf0 : hq_X4 sh) (h : X4_note v1 v2 I = some (r, I2)) : hp_C yX4_note wsX4_note 0 0 0 sh I [.ref 0, .int v1, .int v2] (some (.int r)) sh I2 := hp_start (cc := cX4_note) (maxL := 3) (ret := (some .int)) [(0, .ref 0), (1, .int v1), (2, .int v2)] (by decide) rfl (fun _ _ => rfl) (fun _ _ => Nat.le_of_ble_eq_true rfl) (fun p l e s m below meth c D E b z hX _ => by
  unfold X4_note at h
  refine hj_iload_n hX rfl 1 rfl dX4_note_0 ?_
  refine hj_if_lt hX (tgt := 22) (by decide) dX4_note_1 h (fun h => ?_) (fun h => ?_)
  · refine hj_iconst hX (v := (-1 : Int32)) (by decide) dX4_note_22 ?_
    exact hj_iret hX dX4_note_23 h
  · refine hj_iload_n hX rfl 1 rfl dX4_note_4 ?_
    refine hj_bipush hX (v := (39 : Int32)) (by decide) dX4_note_5 ?_
    refine hj_icmp_gt hX (tgt := 22) (by decide) dX4_note_7 h (fun h => ?_) (fun h => ?_)
    · refine hj_iconst hX (v := (-1 : Int32)) (by decide) dX4_note_22 ?_
      exact hj_iret hX dX4_note_23 h
    · refine hj_iload_n hX rfl 2 rfl dX4_note_10 ?_
      refine hj_bipush hX (v := (-20 : Int32)) (by decide) dX4_note_11 ?_
      refine hj_icmp_lt hX (tgt := 22) (by decide) dX4_note_13 h (fun h => ?_) (fun h => ?_)
      · refine hj_iconst hX (v := (-1 : Int32)) (by decide) dX4_note_22 ?_
        exact hj_iret hX dX4_note_23 h
      · refine hj_iload_n hX rfl 2 rfl dX4_note_16 ?_
        refine hj_bipush hX (v := (20 : Int32)) (by decide) dX4_note_17 ?_
        refine hj_icmp_le hX (tgt := 24) (by decide) dX4_note_19 h (fun h => ?_) (fun h => ?_)
        · refine hj_aload_n hX rfl 0 rfl dX4_note_24 ?_
          refine hj_geti hX (j := 9) hf0.1 rfl rfl X4_note_w4 (Nat.le_of_ble_eq_true rfl) rfl X4_note_k88 dX4_note_25 ?_
          refine hj_bipush hX (v := (8 : Int32)) (by decide) dX4_note_28 ?_
          refine hj_icmp_lt hX (tgt := 36) (by decide) dX4_note_30 h (fun h => ?_) (fun h => ?_)
          · refine hj_aload_n hX rfl 0 rfl dX4_note_36 ?_
            refine hj_getr hX (j := 7) hf0.1 rfl rfl X4_note_w4 (Nat.le_of_ble_eq_true rfl) rfl X4_note_k48 dX4_note_37 ?_
            refine hj_aload_n hX rfl 0 rfl dX4_note_40 ?_
            refine hj_geti hX (j := 9) hf0.1 rfl rfl X4_note_w4 (Nat.le_of_ble_eq_true rfl) rfl X4_note_k88 dX4_note_41 ?_
            refine hj_iload_n hX rfl 1 rfl dX4_note_44 ?_
            refine hj_iast hX hf0.2.2.2.2.2.2.2.2.1 dX4_note_45 h (fun h => ?_)
            refine hj_aload_n hX rfl 0 rfl dX4_note_46 ?_
            refine hj_getr hX (j := 8) hf0.1 rfl rfl X4_note_w4 (Nat.le_of_ble_eq_true rfl) rfl X4_note_k52 dX4_note_47 ?_
            refine hj_aload_n hX rfl 0 rfl dX4_note_50 ?_
            refine hj_geti hX (j := 9) hf0.1 rfl rfl X4_note_w4 (Nat.le_of_ble_eq_true rfl) rfl X4_note_k88 dX4_note_51 ?_
            refine hj_iload_n hX rfl 2 rfl dX4_note_54 ?_
            refine hj_iast hX hf0.2.2.2.2.2.2.2.2.2.1 dX4_note_55 h (fun h => ?_)
            refine hj_aload_n hX rfl 0 rfl dX4_note_56 ?_
            refine hj_dup hX rfl dX4_note_57 ?_
            refine hj_geti hX (j := 9) hf0.1 rfl rfl X4_note_w4 (Nat.le_of_ble_eq_true rfl) rfl X4_note_k88 dX4_note_58 ?_
            refine hj_iconst hX (v := (1 : Int32)) (by decide) dX4_note_61 ?_
            refine hj_iadd hX dX4_note_62 ?_
            refine hj_puti hX (j := 9) hf0.1 rfl rfl X4_note_w4 (Nat.le_of_ble_eq_true rfl) rfl X4_note_k88 tyX4_ok nmX4 rfl (by decide +kernel) dX4_note_63 ?_
            refine hj_aload_n hX rfl 0 rfl dX4_note_66 ?_
            refine hj_geti hX (j := 9) hf0.1 rfl rfl X4_note_w4 (Nat.le_of_ble_eq_true rfl) rfl X4_note_k88 dX4_note_67 ?_
            exact hj_iret hX dX4_note_70 h
          · refine hj_bipush hX (v := (-3 : Int32)) (by decide) dX4_note_33 ?_
            exact hj_iret hX dX4_note_35 h
        · refine hj_iconst hX (v := (-1 : Int32)) (by decide) dX4_note_22 ?_
          exact hj_iret hX dX4_note_23 h)
def X4_forget (I : hM) : Option (Int32 × hM) := some ((I 0 9), (hu I 0 9 (0 : Int32)))
theorem X4_forget_hy : yX4_forget.cls = RX4 ∧ yX4_forget.cls ≠ "java/lang/invoke/MethodHandle" ∧ yX4_forget.cls ≠ "java/lang/invoke/VarHandle" ∧ (parseMethodDescriptor yX4_forget.desc).map (fun d => d.parameters.length) = some 0 := by decide +kernel
theorem X4_forget_k88 : Cond.fieldLink RX4 88 "HatPins" "noted" "I" ∈ wsX4_forget := by decide +kernel
theorem X4_forget_w4 : ∀ w ∈ wsX40, w ∈ wsX4_forget := by decide +kernel
set_option maxHeartbeats 4000000 in
set_option maxRecDepth 100000 in
theorem X4_forget_ok {sh : List hS} {r : Int32} {I I2 : hM} (hf0 : hq_X4 sh) (h : X4_forget I = some (r, I2)) : hp_C yX4_forget wsX4_forget 0 0 0 sh I [.ref 0] (some (.int r)) sh I2 := hp_start (cc := cX4_forget) (maxL := 2) (ret := (some .int)) [(0, .ref 0)] (by decide) rfl (fun _ _ => rfl) (fun _ _ => Nat.le_of_ble_eq_true rfl) (fun p l e s m below meth c D E b z hX _ => by
  unfold X4_forget at h
  refine hj_aload_n hX rfl 0 rfl dX4_forget_0 ?_
  refine hj_geti hX (j := 9) hf0.1 rfl rfl X4_forget_w4 (Nat.le_of_ble_eq_true rfl) rfl X4_forget_k88 dX4_forget_1 ?_
  refine hj_istore_n hX rfl (Nat.le_of_ble_eq_true rfl) (lv2 := [(1, .int (I 0 9)), (0, .ref 0)]) rfl dX4_forget_4 ?_
  refine hj_aload_n hX rfl 1 rfl dX4_forget_5 ?_
  refine hj_iconst hX (v := (0 : Int32)) (by decide) dX4_forget_6 ?_
  refine hj_puti hX (j := 9) hf0.1 rfl rfl X4_forget_w4 (Nat.le_of_ble_eq_true rfl) rfl X4_forget_k88 tyX4_ok nmX4 rfl (by decide +kernel) dX4_forget_7 ?_
  refine hj_iload_n hX rfl 0 rfl dX4_forget_10 ?_
  exact hj_iret hX dX4_forget_11 h)
def X4_allNotedSo_h3 (k3 : Int32 → Int32 → Int32 → Int32 → hM → Option (Int32 × hM)) (v1 : Int32) (v2 : Int32) (v3 : Int32) (v4 : Int32) (I : hM) : Option (Int32 × hM) := if (I 0 9) ≤ v4 then (gd (decide ((1 : Int32) = (0 : Int32)) || decide ((1 : Int32) = (1 : Int32))) (some ((1 : Int32), I))) else (if (8 : Int32) ≤ v4 then (gd (decide ((1 : Int32) = (0 : Int32)) || decide ((1 : Int32) = (1 : Int32))) (some ((1 : Int32), I))) else (gd (hx v4 8) (ob (X4_worth v1 v2 v3 (I 90 (v4).toNatClampNeg) I) (fun u1 Ia2 => gd (hx v4 8) (if u1 = (Ia2 91 (v4).toNatClampNeg) then ((k3 v1 v2 v3 (v4 + (1 : Int32)) Ia2)) else (gd (decide ((0 : Int32) = (0 : Int32)) || decide ((0 : Int32) = (1 : Int32))) (some ((0 : Int32), Ia2))))))))
def X4_allNotedSo_l3 : Nat → Int32 → Int32 → Int32 → Int32 → hM → Option (Int32 × hM)
  | 0 => fun _ _ _ _ _ => none
  | n + 1 => X4_allNotedSo_h3   (X4_allNotedSo_l3   n)
def X4_allNotedSo (v1 : Int32) (v2 : Int32) (v3 : Int32) (I : hM) : Option (Int32 × hM) := (X4_allNotedSo_l3 hF v1 v2 v3 (0 : Int32) I)
theorem X4_allNotedSo_hy : yX4_allNotedSo.cls = RX4 ∧ yX4_allNotedSo.cls ≠ "java/lang/invoke/MethodHandle" ∧ yX4_allNotedSo.cls ≠ "java/lang/invoke/VarHandle" ∧ (parseMethodDescriptor yX4_allNotedSo.desc).map (fun d => d.parameters.length) = some 3 := by decide +kernel
theorem X4_allNotedSo_k88 : Cond.fieldLink RX4 88 "HatPins" "noted" "I" ∈ wsX4_allNotedSo := by decide +kernel
theorem X4_allNotedSo_k48 : Cond.fieldLink RX4 48 "HatPins" "notedMinute" "[I" ∈ wsX4_allNotedSo := by decide +kernel
theorem X4_allNotedSo_k52 : Cond.fieldLink RX4 52 "HatPins" "notedWorth" "[I" ∈ wsX4_allNotedSo := by decide +kernel
theorem X4_allNotedSo_w4 : ∀ w ∈ wsX40, w ∈ wsX4_allNotedSo := by decide +kernel
set_option maxHeartbeats 4000000 in
set_option maxRecDepth 100000 in
theorem X4_allNotedSo_h3_ok {p : Program} {l : Launch} {e : Env} {s : State} {m : MethodId} {args : Array Value} {below : List Frame} {meth : Method} {c : Code} {D : va_G} {E : Nat → ClassId} {b z : Nat} {sh : List hS} {r : Int32} {I2 : hM} {k3 : Int32 → Int32 → Int32 → Int32 → hM → Option (Int32 × hM)} {v1 : Int32} {v2 : Int32} {v3 : Int32} {v4 : Int32} {I : hM} (hX : hp_X p s m args meth c yX4_allNotedSo.cls cX4_allNotedSo 5 wsX4_allNotedSo D E (some .boolean) yX4_allNotedSo.name) (hf0 : hq_X4 sh) (hk3 : ∀ (v1 : Int32) (v2 : Int32) (v3 : Int32) (v4 : Int32) (I : hM), k3 v1 v2 v3 v4 I = some (r, I2) → hp_J p l e ({ frames := 2, cells := 0, slots := 0, locals := 44 * 2 }) s m args below meth c (MQ below (hp_Q D E b z (some (.int r)) sh I2) args s 0 0 (fun q : Nat => b ≤ q)) D E b z 5 sh 0 0 I 3 [(0, .ref 0), (1, .int v1), (2, .int v2), (3, .int v3), (4, .int v4)] []) (h : X4_allNotedSo_h3 k3 v1 v2 v3 v4 I = some (r, I2)) : hp_J p l e ({ frames := 2, cells := 0, slots := 0, locals := 44 * 2 }) s m args below meth c (MQ below (hp_Q D E b z (some (.int r)) sh I2) args s 0 0 (fun q : Nat => b ≤ q)) D E b z 5 sh 0 0 I 3 [(0, .ref 0), (1, .int v1), (2, .int v2), (3, .int v3), (4, .int v4)] [] := by
  unfold X4_allNotedSo_h3 at h
  refine hj_iload hX 4 rfl dX4_allNotedSo_3 ?_
  refine hj_aload_n hX rfl 0 rfl dX4_allNotedSo_5 ?_
  refine hj_geti hX (j := 9) hf0.1 rfl rfl X4_allNotedSo_w4 (Nat.le_of_ble_eq_true rfl) rfl X4_allNotedSo_k88 dX4_allNotedSo_6 ?_
  refine hj_icmp_ge hX (tgt := 50) (by decide) dX4_allNotedSo_9 h (fun h => ?_) (fun h => ?_)
  · refine hj_iconst hX (v := (1 : Int32)) (by decide) dX4_allNotedSo_50 ?_
    exact hj_zret hX dX4_allNotedSo_51 h
  · refine hj_iload hX 4 rfl dX4_allNotedSo_12 ?_
    refine hj_bipush hX (v := (8 : Int32)) (by decide) dX4_allNotedSo_14 ?_
    refine hj_icmp_ge hX (tgt := 50) (by decide) dX4_allNotedSo_16 h (fun h => ?_) (fun h => ?_)
    · refine hj_iconst hX (v := (1 : Int32)) (by decide) dX4_allNotedSo_50 ?_
      exact hj_zret hX dX4_allNotedSo_51 h
    · refine hj_iload_n hX rfl 1 rfl dX4_allNotedSo_19 ?_
      refine hj_iload_n hX rfl 2 rfl dX4_allNotedSo_20 ?_
      refine hj_iload_n hX rfl 3 rfl dX4_allNotedSo_21 ?_
      refine hj_aload_n hX rfl 0 rfl dX4_allNotedSo_22 ?_
      refine hj_getr hX (j := 7) hf0.1 rfl rfl X4_allNotedSo_w4 (Nat.le_of_ble_eq_true rfl) rfl X4_allNotedSo_k48 dX4_allNotedSo_23 ?_
      refine hj_iload hX 4 rfl dX4_allNotedSo_26 ?_
      refine hj_iald hX hf0.2.2.2.2.2.2.2.2.1 dX4_allNotedSo_28 h (fun h => ?_)
      obtain ⟨u1, Ia2, hc3, h⟩ := ob_e h
      refine hj_callS hX (sh2 := sh) (I2 := Ia2) (r := (some (.int u1))) (As := [.int v1, .int v2, .int v3, .int (I 90 (v4).toNatClampNeg)]) (rest := []) (st2 := [.int u1]) (X4_worth_ok hc3) gX4_allNotedSo_X4_worth rfl X4_worth_hy.2 ⟨(Nat.le_of_ble_eq_true rfl), (Nat.le_of_ble_eq_true rfl)⟩ rfl (Nat.le_of_ble_eq_true rfl) ⟨(Nat.le_of_ble_eq_true rfl), (Nat.le_of_ble_eq_true rfl)⟩ rfl rfl rfl dX4_allNotedSo_29 ?_
      refine hj_aload_n hX rfl 0 rfl dX4_allNotedSo_32 ?_
      refine hj_getr hX (j := 8) hf0.1 rfl rfl X4_allNotedSo_w4 (Nat.le_of_ble_eq_true rfl) rfl X4_allNotedSo_k52 dX4_allNotedSo_33 ?_
      refine hj_iload hX 4 rfl dX4_allNotedSo_36 ?_
      refine hj_iald hX hf0.2.2.2.2.2.2.2.2.2.1 dX4_allNotedSo_38 h (fun h => ?_)
      refine hj_icmp_eq hX (tgt := 44) (by decide) dX4_allNotedSo_39 h (fun h => ?_) (fun h => ?_)
      · refine hj_iinc hX (k1 := 4) (v := (v4 + (1 : Int32))) rfl rfl (Nat.le_of_ble_eq_true rfl) (lv2 := [(4, .int (v4 + (1 : Int32))), (0, .ref 0), (1, .int v1), (2, .int v2), (3, .int v3)]) rfl dX4_allNotedSo_44 ?_
        refine hj_goto hX (tgt := 3) (by decide) dX4_allNotedSo_47 ?_
        refine hj_lv hX [1, 2, 3, 4, 0] (lv2 := [(0, .ref 0), (1, .int v1), (2, .int v2), (3, .int v3), (4, .int (v4 + (1 : Int32)))]) rfl ?_
        exact hk3 _ _ _ _ _ h
      · refine hj_iconst hX (v := (0 : Int32)) (by decide) dX4_allNotedSo_42 ?_
        exact hj_zret hX dX4_allNotedSo_43 h
set_option maxHeartbeats 4000000 in
set_option maxRecDepth 100000 in
theorem X4_allNotedSo_l3_ok {p : Program} {l : Launch} {e : Env} {s : State} {m : MethodId} {args : Array Value} {below : List Frame} {meth : Method} {c : Code} {D : va_G} {E : Nat → ClassId} {b z : Nat} {sh : List hS} {r : Int32} {I2 : hM} (hX : hp_X p s m args meth c yX4_allNotedSo.cls cX4_allNotedSo 5 wsX4_allNotedSo D E (some .boolean) yX4_allNotedSo.name) (hf0 : hq_X4 sh) : ∀ (n : Nat) (v1 : Int32) (v2 : Int32) (v3 : Int32) (v4 : Int32) (I : hM), X4_allNotedSo_l3 n v1 v2 v3 v4 I = some (r, I2) → hp_J p l e ({ frames := 2, cells := 0, slots := 0, locals := 44 * 2 }) s m args below meth c (MQ below (hp_Q D E b z (some (.int r)) sh I2) args s 0 0 (fun q : Nat => b ≤ q)) D E b z 5 sh 0 0 I 3 [(0, .ref 0), (1, .int v1), (2, .int v2), (3, .int v3), (4, .int v4)] [] := by
  intro n
  induction n with
  | zero => exact fun _ _ _ _ _ h => nomatch h
  | succ n ih => exact fun _ _ _ _ _ h => X4_allNotedSo_h3_ok hX hf0 ih h
set_option maxHeartbeats 4000000 in
set_option maxRecDepth 100000 in
theorem X4_allNotedSo_ok {sh : List hS} {r : Int32} {I I2 : hM} {v1 : Int32} {v2 : Int32} {v3 : Int32} (hf0 : hq_X4 sh) (h : X4_allNotedSo v1 v2 v3 I = some (r, I2)) : hp_C yX4_allNotedSo wsX4_allNotedSo 2 0 0 sh I [.ref 0, .int v1, .int v2, .int v3] (some (.int r)) sh I2 := hp_start (cc := cX4_allNotedSo) (maxL := 5) (ret := (some .boolean)) [(0, .ref 0), (1, .int v1), (2, .int v2), (3, .int v3)] (by decide) rfl (fun _ _ => rfl) (fun _ _ => Nat.le_of_ble_eq_true rfl) (fun p l e s m below meth c D E b z hX _ => by
  unfold X4_allNotedSo at h
  refine hj_iconst hX (v := (0 : Int32)) (by decide) dX4_allNotedSo_0 ?_
  refine hj_istore hX (Nat.le_of_ble_eq_true rfl) (lv2 := [(4, .int (0 : Int32)), (0, .ref 0), (1, .int v1), (2, .int v2), (3, .int v3)]) rfl dX4_allNotedSo_1 ?_
  refine hj_lv hX [1, 2, 3, 4, 0] (lv2 := [(0, .ref 0), (1, .int v1), (2, .int v2), (3, .int v3), (4, .int (0 : Int32))]) rfl ?_
  exact X4_allNotedSo_l3_ok hX hf0 hF _ _ _ _ _ h)
def X4_waning_h27 (k17 : Int32 → Int32 → Int32 → Int32 → hM → Option (Int32 × hM)) (k27 : Int32 → Int32 → Int32 → Int32 → Int32 → hM → Option (Int32 × hM)) (v1 : Int32) (v2 : Int32) (v3 : Int32) (v4 : Int32) (v5 : Int32) (I : hM) : Option (Int32 × hM) := if (5 : Int32) < v5 then ((k17 v1 v2 v3 (v4 + (1 : Int32)) I)) else (ob (X4_allNotedSo (0 : Int32) v4 v5 I) (fun u4 Ia5 => if u4 = 0 then ((k27 v1 v2 v3 v4 (v5 + (1 : Int32)) Ia5)) else (if v2 = 0 then ((k27 v1 (v2 + (1 : Int32)) (((10 : Int32) * v4) + v5) v4 (v5 + (1 : Int32)) Ia5)) else ((k27 v1 (v2 + (1 : Int32)) v3 v4 (v5 + (1 : Int32)) Ia5)))))
def X4_waning_l27 (k17 : Int32 → Int32 → Int32 → Int32 → hM → Option (Int32 × hM)) : Nat → Int32 → Int32 → Int32 → Int32 → Int32 → hM → Option (Int32 × hM)
  | 0 => fun _ _ _ _ _ _ => none
  | n + 1 => X4_waning_h27  k17 (X4_waning_l27  k17 n)
def X4_waning_b77 (v1 : Int32) (v2 : Int32) (v3 : Int32) (I : hM) : Option (Int32 × hM) := if v1 = 0 then (some (v2, I)) else (some (v3, I))
def X4_waning_h17 (k17 : Int32 → Int32 → Int32 → Int32 → hM → Option (Int32 × hM)) (v1 : Int32) (v2 : Int32) (v3 : Int32) (v4 : Int32) (I : hM) : Option (Int32 × hM) := if (20 : Int32) < v4 then (X4_waning_b77 v1 v2 v3 I) else ((X4_waning_l27 k17 hF v1 v2 v3 v4 (0 : Int32) I))
def X4_waning_l17 : Nat → Int32 → Int32 → Int32 → Int32 → hM → Option (Int32 × hM)
  | 0 => fun _ _ _ _ _ => none
  | n + 1 => X4_waning_h17   (X4_waning_l17   n)
def X4_waning (v1 : Int32) (I : hM) : Option (Int32 × hM) := ob (X4_isEither v1 I) (fun u1 Ia2 => if u1 = 0 then (some ((-1 : Int32), Ia2)) else ((X4_waning_l17 hF v1 (0 : Int32) (-4 : Int32) (0 : Int32) Ia2)))
theorem X4_waning_hy : yX4_waning.cls = RX4 ∧ yX4_waning.cls ≠ "java/lang/invoke/MethodHandle" ∧ yX4_waning.cls ≠ "java/lang/invoke/VarHandle" ∧ (parseMethodDescriptor yX4_waning.desc).map (fun d => d.parameters.length) = some 1 := by decide +kernel
set_option maxHeartbeats 4000000 in
set_option maxRecDepth 100000 in
theorem X4_waning_h27_ok {p : Program} {l : Launch} {e : Env} {s : State} {m : MethodId} {args : Array Value} {below : List Frame} {meth : Method} {c : Code} {D : va_G} {E : Nat → ClassId} {b z : Nat} {sh : List hS} {r : Int32} {I2 : hM} {k17 : Int32 → Int32 → Int32 → Int32 → hM → Option (Int32 × hM)} {k27 : Int32 → Int32 → Int32 → Int32 → Int32 → hM → Option (Int32 × hM)} {v1 : Int32} {v2 : Int32} {v3 : Int32} {v4 : Int32} {v5 : Int32} {I : hM} (hX : hp_X p s m args meth c yX4_waning.cls cX4_waning 6 wsX4_waning D E (some .int) yX4_waning.name) (hf0 : hq_X4 sh) (hk17 : ∀ (v1 : Int32) (v2 : Int32) (v3 : Int32) (v4 : Int32) (I : hM), k17 v1 v2 v3 v4 I = some (r, I2) → hp_J p l e ({ frames := 3, cells := 0, slots := 0, locals := 44 * 3 }) s m args below meth c (MQ below (hp_Q D E b z (some (.int r)) sh I2) args s 0 0 (fun q : Nat => b ≤ q)) D E b z 6 sh 0 0 I 17 [(0, .ref 0), (1, .int v1), (2, .int v2), (3, .int v3), (4, .int v4)] []) (hk27 : ∀ (v1 : Int32) (v2 : Int32) (v3 : Int32) (v4 : Int32) (v5 : Int32) (I : hM), k27 v1 v2 v3 v4 v5 I = some (r, I2) → hp_J p l e ({ frames := 3, cells := 0, slots := 0, locals := 44 * 3 }) s m args below meth c (MQ below (hp_Q D E b z (some (.int r)) sh I2) args s 0 0 (fun q : Nat => b ≤ q)) D E b z 6 sh 0 0 I 27 [(0, .ref 0), (1, .int v1), (2, .int v2), (3, .int v3), (4, .int v4), (5, .int v5)] []) (h : X4_waning_h27 k17 k27 v1 v2 v3 v4 v5 I = some (r, I2)) : hp_J p l e ({ frames := 3, cells := 0, slots := 0, locals := 44 * 3 }) s m args below meth c (MQ below (hp_Q D E b z (some (.int r)) sh I2) args s 0 0 (fun q : Nat => b ≤ q)) D E b z 6 sh 0 0 I 27 [(0, .ref 0), (1, .int v1), (2, .int v2), (3, .int v3), (4, .int v4), (5, .int v5)] [] := by
  unfold X4_waning_h27 at h
  refine hj_iload hX 5 rfl dX4_waning_27 ?_
  refine hj_iconst hX (v := (5 : Int32)) (by decide) dX4_waning_29 ?_
  refine hj_icmp_gt hX (tgt := 71) (by decide) dX4_waning_30 h (fun h => ?_) (fun h => ?_)
  · refine hj_iinc hX (k1 := 4) (v := (v4 + (1 : Int32))) rfl rfl (Nat.le_of_ble_eq_true rfl) (lv2 := [(4, .int (v4 + (1 : Int32))), (0, .ref 0), (1, .int v1), (2, .int v2), (3, .int v3), (5, .int v5)]) rfl dX4_waning_71 ?_
    refine hj_goto hX (tgt := 17) (by decide) dX4_waning_74 ?_
    refine hj_lv hX [1, 2, 3, 4, 0] (lv2 := [(0, .ref 0), (1, .int v1), (2, .int v2), (3, .int v3), (4, .int (v4 + (1 : Int32)))]) rfl ?_
    exact hk17 _ _ _ _ _ h
  · refine hj_aload_n hX rfl 0 rfl dX4_waning_33 ?_
    refine hj_iconst hX (v := (0 : Int32)) (by decide) dX4_waning_34 ?_
    refine hj_iload hX 4 rfl dX4_waning_35 ?_
    refine hj_iload hX 5 rfl dX4_waning_37 ?_
    obtain ⟨u4, Ia5, hc6, h⟩ := ob_e h
    refine hj_callV hX (sh2 := sh) (I2 := Ia5) (r := (some (.int u4))) (As := [.int (0 : Int32), .int v4, .int v5]) (rest := []) (st2 := [.int u4]) (X4_allNotedSo_ok hf0 hc6) gX4_waning_X4_allNotedSo rfl X4_allNotedSo_hy ⟨(Nat.le_of_ble_eq_true rfl), (Nat.le_of_ble_eq_true rfl)⟩ rfl hf0.1 rfl (Nat.le_of_ble_eq_true rfl) ⟨(Nat.le_of_ble_eq_true rfl), (Nat.le_of_ble_eq_true rfl)⟩ rfl rfl rfl dX4_waning_39 ?_
    refine hj_if_eq hX (tgt := 65) (by decide) dX4_waning_42 h (fun h => ?_) (fun h => ?_)
    · refine hj_iinc hX (k1 := 5) (v := (v5 + (1 : Int32))) rfl rfl (Nat.le_of_ble_eq_true rfl) (lv2 := [(5, .int (v5 + (1 : Int32))), (0, .ref 0), (1, .int v1), (2, .int v2), (3, .int v3), (4, .int v4)]) rfl dX4_waning_65 ?_
      refine hj_goto hX (tgt := 27) (by decide) dX4_waning_68 ?_
      refine hj_lv hX [1, 2, 3, 4, 5, 0] (lv2 := [(0, .ref 0), (1, .int v1), (2, .int v2), (3, .int v3), (4, .int v4), (5, .int (v5 + (1 : Int32)))]) rfl ?_
      exact hk27 _ _ _ _ _ _ h
    · refine hj_iload_n hX rfl 2 rfl dX4_waning_45 ?_
      refine hj_if_ne hX (tgt := 60) (by decide) dX4_waning_46 h (fun h => ?_) (fun h => ?_)
      · refine hj_iload_n hX rfl 3 rfl dX4_waning_60 ?_
        refine hj_istore_n hX rfl (Nat.le_of_ble_eq_true rfl) (lv2 := [(3, .int v3), (0, .ref 0), (1, .int v1), (2, .int v2), (4, .int v4), (5, .int v5)]) rfl dX4_waning_61 ?_
        refine hj_iinc hX (k1 := 3) (v := (v2 + (1 : Int32))) rfl rfl (Nat.le_of_ble_eq_true rfl) (lv2 := [(2, .int (v2 + (1 : Int32))), (3, .int v3), (0, .ref 0), (1, .int v1), (4, .int v4), (5, .int v5)]) rfl dX4_waning_62 ?_
        refine hj_iinc hX (k1 := 5) (v := (v5 + (1 : Int32))) rfl rfl (Nat.le_of_ble_eq_true rfl) (lv2 := [(5, .int (v5 + (1 : Int32))), (2, .int (v2 + (1 : Int32))), (3, .int v3), (0, .ref 0), (1, .int v1), (4, .int v4)]) rfl dX4_waning_65 ?_
        refine hj_goto hX (tgt := 27) (by decide) dX4_waning_68 ?_
        refine hj_lv hX [3, 4, 1, 2, 5, 0] (lv2 := [(0, .ref 0), (1, .int v1), (2, .int (v2 + (1 : Int32))), (3, .int v3), (4, .int v4), (5, .int (v5 + (1 : Int32)))]) rfl ?_
        exact hk27 _ _ _ _ _ _ h
      · refine hj_bipush hX (v := (10 : Int32)) (by decide) dX4_waning_49 ?_
        refine hj_iload hX 4 rfl dX4_waning_51 ?_
        refine hj_imul hX dX4_waning_53 ?_
        refine hj_iload hX 5 rfl dX4_waning_54 ?_
        refine hj_iadd hX dX4_waning_56 ?_
        refine hj_goto hX (tgt := 61) (by decide) dX4_waning_57 ?_
        refine hj_istore_n hX rfl (Nat.le_of_ble_eq_true rfl) (lv2 := [(3, .int (((10 : Int32) * v4) + v5)), (0, .ref 0), (1, .int v1), (2, .int v2), (4, .int v4), (5, .int v5)]) rfl dX4_waning_61 ?_
        refine hj_iinc hX (k1 := 3) (v := (v2 + (1 : Int32))) rfl rfl (Nat.le_of_ble_eq_true rfl) (lv2 := [(2, .int (v2 + (1 : Int32))), (3, .int (((10 : Int32) * v4) + v5)), (0, .ref 0), (1, .int v1), (4, .int v4), (5, .int v5)]) rfl dX4_waning_62 ?_
        refine hj_iinc hX (k1 := 5) (v := (v5 + (1 : Int32))) rfl rfl (Nat.le_of_ble_eq_true rfl) (lv2 := [(5, .int (v5 + (1 : Int32))), (2, .int (v2 + (1 : Int32))), (3, .int (((10 : Int32) * v4) + v5)), (0, .ref 0), (1, .int v1), (4, .int v4)]) rfl dX4_waning_65 ?_
        refine hj_goto hX (tgt := 27) (by decide) dX4_waning_68 ?_
        refine hj_lv hX [3, 4, 1, 2, 5, 0] (lv2 := [(0, .ref 0), (1, .int v1), (2, .int (v2 + (1 : Int32))), (3, .int (((10 : Int32) * v4) + v5)), (4, .int v4), (5, .int (v5 + (1 : Int32)))]) rfl ?_
        exact hk27 _ _ _ _ _ _ h
set_option maxHeartbeats 4000000 in
set_option maxRecDepth 100000 in
theorem X4_waning_l27_ok {p : Program} {l : Launch} {e : Env} {s : State} {m : MethodId} {args : Array Value} {below : List Frame} {meth : Method} {c : Code} {D : va_G} {E : Nat → ClassId} {b z : Nat} {sh : List hS} {r : Int32} {I2 : hM} {k17 : Int32 → Int32 → Int32 → Int32 → hM → Option (Int32 × hM)} (hX : hp_X p s m args meth c yX4_waning.cls cX4_waning 6 wsX4_waning D E (some .int) yX4_waning.name) (hf0 : hq_X4 sh) (hk17 : ∀ (v1 : Int32) (v2 : Int32) (v3 : Int32) (v4 : Int32) (I : hM), k17 v1 v2 v3 v4 I = some (r, I2) → hp_J p l e ({ frames := 3, cells := 0, slots := 0, locals := 44 * 3 }) s m args below meth c (MQ below (hp_Q D E b z (some (.int r)) sh I2) args s 0 0 (fun q : Nat => b ≤ q)) D E b z 6 sh 0 0 I 17 [(0, .ref 0), (1, .int v1), (2, .int v2), (3, .int v3), (4, .int v4)] []) : ∀ (n : Nat) (v1 : Int32) (v2 : Int32) (v3 : Int32) (v4 : Int32) (v5 : Int32) (I : hM), X4_waning_l27 k17 n v1 v2 v3 v4 v5 I = some (r, I2) → hp_J p l e ({ frames := 3, cells := 0, slots := 0, locals := 44 * 3 }) s m args below meth c (MQ below (hp_Q D E b z (some (.int r)) sh I2) args s 0 0 (fun q : Nat => b ≤ q)) D E b z 6 sh 0 0 I 27 [(0, .ref 0), (1, .int v1), (2, .int v2), (3, .int v3), (4, .int v4), (5, .int v5)] [] := by
  intro n
  induction n with
  | zero => exact fun _ _ _ _ _ _ h => nomatch h
  | succ n ih => exact fun _ _ _ _ _ _ h => X4_waning_h27_ok hX hf0 hk17 ih h
set_option maxHeartbeats 4000000 in
set_option maxRecDepth 100000 in
theorem X4_waning_b77_ok {p : Program} {l : Launch} {e : Env} {s : State} {m : MethodId} {args : Array Value} {below : List Frame} {meth : Method} {c : Code} {D : va_G} {E : Nat → ClassId} {b z : Nat} {sh : List hS} {r : Int32} {I2 : hM} {v1 : Int32} {v2 : Int32} {v3 : Int32} {I : hM} (hX : hp_X p s m args meth c yX4_waning.cls cX4_waning 6 wsX4_waning D E (some .int) yX4_waning.name) (hf0 : hq_X4 sh) (h : X4_waning_b77 v1 v2 v3 I = some (r, I2)) : hp_J p l e ({ frames := 3, cells := 0, slots := 0, locals := 44 * 3 }) s m args below meth c (MQ below (hp_Q D E b z (some (.int r)) sh I2) args s 0 0 (fun q : Nat => b ≤ q)) D E b z 6 sh 0 0 I 77 [(1, .int v1), (2, .int v2), (3, .int v3)] [] := by
  unfold X4_waning_b77 at h
  refine hj_iload_n hX rfl 0 rfl dX4_waning_77 ?_
  refine hj_if_ne hX (tgt := 85) (by decide) dX4_waning_78 h (fun h => ?_) (fun h => ?_)
  · refine hj_iload_n hX rfl 2 rfl dX4_waning_85 ?_
    exact hj_iret hX dX4_waning_86 h
  · refine hj_iload_n hX rfl 1 rfl dX4_waning_81 ?_
    refine hj_goto hX (tgt := 86) (by decide) dX4_waning_82 ?_
    exact hj_iret hX dX4_waning_86 h
set_option maxHeartbeats 4000000 in
set_option maxRecDepth 100000 in
theorem X4_waning_h17_ok {p : Program} {l : Launch} {e : Env} {s : State} {m : MethodId} {args : Array Value} {below : List Frame} {meth : Method} {c : Code} {D : va_G} {E : Nat → ClassId} {b z : Nat} {sh : List hS} {r : Int32} {I2 : hM} {k17 : Int32 → Int32 → Int32 → Int32 → hM → Option (Int32 × hM)} {v1 : Int32} {v2 : Int32} {v3 : Int32} {v4 : Int32} {I : hM} (hX : hp_X p s m args meth c yX4_waning.cls cX4_waning 6 wsX4_waning D E (some .int) yX4_waning.name) (hf0 : hq_X4 sh) (hk17 : ∀ (v1 : Int32) (v2 : Int32) (v3 : Int32) (v4 : Int32) (I : hM), k17 v1 v2 v3 v4 I = some (r, I2) → hp_J p l e ({ frames := 3, cells := 0, slots := 0, locals := 44 * 3 }) s m args below meth c (MQ below (hp_Q D E b z (some (.int r)) sh I2) args s 0 0 (fun q : Nat => b ≤ q)) D E b z 6 sh 0 0 I 17 [(0, .ref 0), (1, .int v1), (2, .int v2), (3, .int v3), (4, .int v4)] []) (h : X4_waning_h17 k17 v1 v2 v3 v4 I = some (r, I2)) : hp_J p l e ({ frames := 3, cells := 0, slots := 0, locals := 44 * 3 }) s m args below meth c (MQ below (hp_Q D E b z (some (.int r)) sh I2) args s 0 0 (fun q : Nat => b ≤ q)) D E b z 6 sh 0 0 I 17 [(0, .ref 0), (1, .int v1), (2, .int v2), (3, .int v3), (4, .int v4)] [] := by
  unfold X4_waning_h17 at h
  refine hj_iload hX 4 rfl dX4_waning_17 ?_
  refine hj_bipush hX (v := (20 : Int32)) (by decide) dX4_waning_19 ?_
  refine hj_icmp_gt hX (tgt := 77) (by decide) dX4_waning_21 h (fun h => ?_) (fun h => ?_)
  · refine hj_lv hX [1, 2, 3] (lv2 := [(1, .int v1), (2, .int v2), (3, .int v3)]) rfl ?_
    exact X4_waning_b77_ok hX hf0 h
  · refine hj_iconst hX (v := (0 : Int32)) (by decide) dX4_waning_24 ?_
    refine hj_istore hX (Nat.le_of_ble_eq_true rfl) (lv2 := [(5, .int (0 : Int32)), (0, .ref 0), (1, .int v1), (2, .int v2), (3, .int v3), (4, .int v4)]) rfl dX4_waning_25 ?_
    refine hj_lv hX [1, 2, 3, 4, 5, 0] (lv2 := [(0, .ref 0), (1, .int v1), (2, .int v2), (3, .int v3), (4, .int v4), (5, .int (0 : Int32))]) rfl ?_
    exact X4_waning_l27_ok hX hf0 hk17 hF _ _ _ _ _ _ h
set_option maxHeartbeats 4000000 in
set_option maxRecDepth 100000 in
theorem X4_waning_l17_ok {p : Program} {l : Launch} {e : Env} {s : State} {m : MethodId} {args : Array Value} {below : List Frame} {meth : Method} {c : Code} {D : va_G} {E : Nat → ClassId} {b z : Nat} {sh : List hS} {r : Int32} {I2 : hM} (hX : hp_X p s m args meth c yX4_waning.cls cX4_waning 6 wsX4_waning D E (some .int) yX4_waning.name) (hf0 : hq_X4 sh) : ∀ (n : Nat) (v1 : Int32) (v2 : Int32) (v3 : Int32) (v4 : Int32) (I : hM), X4_waning_l17 n v1 v2 v3 v4 I = some (r, I2) → hp_J p l e ({ frames := 3, cells := 0, slots := 0, locals := 44 * 3 }) s m args below meth c (MQ below (hp_Q D E b z (some (.int r)) sh I2) args s 0 0 (fun q : Nat => b ≤ q)) D E b z 6 sh 0 0 I 17 [(0, .ref 0), (1, .int v1), (2, .int v2), (3, .int v3), (4, .int v4)] [] := by
  intro n
  induction n with
  | zero => exact fun _ _ _ _ _ h => nomatch h
  | succ n ih => exact fun _ _ _ _ _ h => X4_waning_h17_ok hX hf0 ih h
set_option maxHeartbeats 4000000 in
set_option maxRecDepth 100000 in
theorem X4_waning_ok {sh : List hS} {r : Int32} {I I2 : hM} {v1 : Int32} (hf0 : hq_X4 sh) (h : X4_waning v1 I = some (r, I2)) : hp_C yX4_waning wsX4_waning 3 0 0 sh I [.ref 0, .int v1] (some (.int r)) sh I2 := hp_start (cc := cX4_waning) (maxL := 6) (ret := (some .int)) [(0, .ref 0), (1, .int v1)] (by decide) rfl (fun _ _ => rfl) (fun _ _ => Nat.le_of_ble_eq_true rfl) (fun p l e s m below meth c D E b z hX _ => by
  unfold X4_waning at h
  refine hj_iload_n hX rfl 1 rfl dX4_waning_0 ?_
  obtain ⟨u1, Ia2, hc3, h⟩ := ob_e h
  refine hj_callS hX (sh2 := sh) (I2 := Ia2) (r := (some (.int u1))) (As := [.int v1]) (rest := []) (st2 := [.int u1]) (X4_isEither_ok hc3) gX4_waning_X4_isEither rfl X4_isEither_hy.2 ⟨(Nat.le_of_ble_eq_true rfl), (Nat.le_of_ble_eq_true rfl)⟩ rfl (Nat.le_of_ble_eq_true rfl) ⟨(Nat.le_of_ble_eq_true rfl), (Nat.le_of_ble_eq_true rfl)⟩ rfl rfl rfl dX4_waning_1 ?_
  refine hj_if_ne hX (tgt := 9) (by decide) dX4_waning_4 h (fun h => ?_) (fun h => ?_)
  · refine hj_iconst hX (v := (0 : Int32)) (by decide) dX4_waning_9 ?_
    refine hj_istore_n hX rfl (Nat.le_of_ble_eq_true rfl) (lv2 := [(2, .int (0 : Int32)), (0, .ref 0), (1, .int v1)]) rfl dX4_waning_10 ?_
    refine hj_bipush hX (v := (-4 : Int32)) (by decide) dX4_waning_11 ?_
    refine hj_istore_n hX rfl (Nat.le_of_ble_eq_true rfl) (lv2 := [(3, .int (-4 : Int32)), (2, .int (0 : Int32)), (0, .ref 0), (1, .int v1)]) rfl dX4_waning_13 ?_
    refine hj_iconst hX (v := (0 : Int32)) (by decide) dX4_waning_14 ?_
    refine hj_istore hX (Nat.le_of_ble_eq_true rfl) (lv2 := [(4, .int (0 : Int32)), (3, .int (-4 : Int32)), (2, .int (0 : Int32)), (0, .ref 0), (1, .int v1)]) rfl dX4_waning_15 ?_
    refine hj_lv hX [3, 4, 2, 1, 0] (lv2 := [(0, .ref 0), (1, .int v1), (2, .int (0 : Int32)), (3, .int (-4 : Int32)), (4, .int (0 : Int32))]) rfl ?_
    exact X4_waning_l17_ok hX hf0 hF _ _ _ _ _ h
  · refine hj_iconst hX (v := (-1 : Int32)) (by decide) dX4_waning_7 ?_
    exact hj_iret hX dX4_waning_8 h)
def X4_kinds_h14 (k14 : Int32 → Int32 → Int32 → hM → Option (Int32 × hM)) (v1 : Int32) (v2 : Int32) (v3 : Int32) (I : hM) : Option (Int32 × hM) := if (4 : Int32) ≤ v3 then (some (v2, I)) else (gd (hx v1 7) (gd (hx v1 7) (ob (X4_allNotedSo v3 (I 7 (v1).toNatClampNeg) (I 8 (v1).toNatClampNeg) I) (fun u4 Ia5 => if u4 = 0 then ((k14 v1 v2 (v3 + (1 : Int32)) Ia5)) else ((k14 v1 (v2 ||| ((1 : Int32) <<< (v3 &&& 31))) (v3 + (1 : Int32)) Ia5))))))
def X4_kinds_l14 : Nat → Int32 → Int32 → Int32 → hM → Option (Int32 × hM)
  | 0 => fun _ _ _ _ => none
  | n + 1 => X4_kinds_h14   (X4_kinds_l14   n)
def X4_kinds (v1 : Int32) (I : hM) : Option (Int32 × hM) := ob (X4_isGoing v1 I) (fun u1 Ia2 => if u1 = 0 then (some ((-1 : Int32), Ia2)) else ((X4_kinds_l14 hF v1 (0 : Int32) (0 : Int32) Ia2)))
theorem X4_kinds_hy : yX4_kinds.cls = RX4 ∧ yX4_kinds.cls ≠ "java/lang/invoke/MethodHandle" ∧ yX4_kinds.cls ≠ "java/lang/invoke/VarHandle" ∧ (parseMethodDescriptor yX4_kinds.desc).map (fun d => d.parameters.length) = some 1 := by decide +kernel
theorem X4_kinds_k19 : Cond.fieldLink RX4 19 "HatPins" "laid" "LHatPins$Evening;" ∈ wsX4_kinds := by decide +kernel
theorem X4_kinds_k97 : Cond.fieldLink RX4 97 "HatPins$Evening" "interest" "[I" ∈ wsX4_kinds := by decide +kernel
theorem X4_kinds_k100 : Cond.fieldLink RX4 100 "HatPins$Evening" "wane" "[I" ∈ wsX4_kinds := by decide +kernel
theorem X4_kinds_w0 : ∀ w ∈ wsX00, w ∈ wsX4_kinds := by decide +kernel
theorem X4_kinds_w4 : ∀ w ∈ wsX40, w ∈ wsX4_kinds := by decide +kernel
set_option maxHeartbeats 4000000 in
set_option maxRecDepth 100000 in
theorem X4_kinds_h14_ok {p : Program} {l : Launch} {e : Env} {s : State} {m : MethodId} {args : Array Value} {below : List Frame} {meth : Method} {c : Code} {D : va_G} {E : Nat → ClassId} {b z : Nat} {sh : List hS} {r : Int32} {I2 : hM} {k14 : Int32 → Int32 → Int32 → hM → Option (Int32 × hM)} {v1 : Int32} {v2 : Int32} {v3 : Int32} {I : hM} (hX : hp_X p s m args meth c yX4_kinds.cls cX4_kinds 4 wsX4_kinds D E (some .int) yX4_kinds.name) (hf0 : hq_X4 sh) (hk14 : ∀ (v1 : Int32) (v2 : Int32) (v3 : Int32) (I : hM), k14 v1 v2 v3 I = some (r, I2) → hp_J p l e ({ frames := 3, cells := 0, slots := 0, locals := 44 * 3 }) s m args below meth c (MQ below (hp_Q D E b z (some (.int r)) sh I2) args s 0 0 (fun q : Nat => b ≤ q)) D E b z 4 sh 0 0 I 14 [(0, .ref 0), (1, .int v1), (2, .int v2), (3, .int v3)] []) (h : X4_kinds_h14 k14 v1 v2 v3 I = some (r, I2)) : hp_J p l e ({ frames := 3, cells := 0, slots := 0, locals := 44 * 3 }) s m args below meth c (MQ below (hp_Q D E b z (some (.int r)) sh I2) args s 0 0 (fun q : Nat => b ≤ q)) D E b z 4 sh 0 0 I 14 [(0, .ref 0), (1, .int v1), (2, .int v2), (3, .int v3)] [] := by
  unfold X4_kinds_h14 at h
  refine hj_iload_n hX rfl 3 rfl dX4_kinds_14 ?_
  refine hj_iconst hX (v := (4 : Int32)) (by decide) dX4_kinds_15 ?_
  refine hj_icmp_ge hX (tgt := 57) (by decide) dX4_kinds_16 h (fun h => ?_) (fun h => ?_)
  · refine hj_iload_n hX rfl 2 rfl dX4_kinds_57 ?_
    exact hj_iret hX dX4_kinds_58 h
  · refine hj_aload_n hX rfl 0 rfl dX4_kinds_19 ?_
    refine hj_iload_n hX rfl 3 rfl dX4_kinds_20 ?_
    refine hj_aload_n hX rfl 0 rfl dX4_kinds_21 ?_
    refine hj_getr hX (j := 1) hf0.1 rfl rfl X4_kinds_w4 (Nat.le_of_ble_eq_true rfl) rfl X4_kinds_k19 dX4_kinds_22 ?_
    refine hj_getr hX (j := 5) hf0.2.2.1.1 rfl rfl X4_kinds_w0 (Nat.le_of_ble_eq_true rfl) rfl X4_kinds_k97 dX4_kinds_25 ?_
    refine hj_iload_n hX rfl 1 rfl dX4_kinds_28 ?_
    refine hj_iald hX hf0.2.2.1.2.2.2.1 dX4_kinds_29 h (fun h => ?_)
    refine hj_aload_n hX rfl 0 rfl dX4_kinds_30 ?_
    refine hj_getr hX (j := 1) hf0.1 rfl rfl X4_kinds_w4 (Nat.le_of_ble_eq_true rfl) rfl X4_kinds_k19 dX4_kinds_31 ?_
    refine hj_getr hX (j := 6) hf0.2.2.1.1 rfl rfl X4_kinds_w0 (Nat.le_of_ble_eq_true rfl) rfl X4_kinds_k100 dX4_kinds_34 ?_
    refine hj_iload_n hX rfl 1 rfl dX4_kinds_37 ?_
    refine hj_iald hX hf0.2.2.1.2.2.2.2.1 dX4_kinds_38 h (fun h => ?_)
    obtain ⟨u4, Ia5, hc6, h⟩ := ob_e h
    refine hj_callV hX (sh2 := sh) (I2 := Ia5) (r := (some (.int u4))) (As := [.int v3, .int (I 7 (v1).toNatClampNeg), .int (I 8 (v1).toNatClampNeg)]) (rest := []) (st2 := [.int u4]) (X4_allNotedSo_ok hf0 hc6) gX4_kinds_X4_allNotedSo rfl X4_allNotedSo_hy ⟨(Nat.le_of_ble_eq_true rfl), (Nat.le_of_ble_eq_true rfl)⟩ rfl hf0.1 rfl (Nat.le_of_ble_eq_true rfl) ⟨(Nat.le_of_ble_eq_true rfl), (Nat.le_of_ble_eq_true rfl)⟩ rfl rfl rfl dX4_kinds_39 ?_
    refine hj_if_eq hX (tgt := 51) (by decide) dX4_kinds_42 h (fun h => ?_) (fun h => ?_)
    · refine hj_iinc hX (k1 := 3) (v := (v3 + (1 : Int32))) rfl rfl (Nat.le_of_ble_eq_true rfl) (lv2 := [(3, .int (v3 + (1 : Int32))), (0, .ref 0), (1, .int v1), (2, .int v2)]) rfl dX4_kinds_51 ?_
      refine hj_goto hX (tgt := 14) (by decide) dX4_kinds_54 ?_
      refine hj_lv hX [1, 2, 3, 0] (lv2 := [(0, .ref 0), (1, .int v1), (2, .int v2), (3, .int (v3 + (1 : Int32)))]) rfl ?_
      exact hk14 _ _ _ _ h
    · refine hj_iload_n hX rfl 2 rfl dX4_kinds_45 ?_
      refine hj_iconst hX (v := (1 : Int32)) (by decide) dX4_kinds_46 ?_
      refine hj_iload_n hX rfl 3 rfl dX4_kinds_47 ?_
      refine hj_ishl hX dX4_kinds_48 ?_
      refine hj_ior hX dX4_kinds_49 ?_
      refine hj_istore_n hX rfl (Nat.le_of_ble_eq_true rfl) (lv2 := [(2, .int (v2 ||| ((1 : Int32) <<< (v3 &&& 31)))), (0, .ref 0), (1, .int v1), (3, .int v3)]) rfl dX4_kinds_50 ?_
      refine hj_iinc hX (k1 := 3) (v := (v3 + (1 : Int32))) rfl rfl (Nat.le_of_ble_eq_true rfl) (lv2 := [(3, .int (v3 + (1 : Int32))), (2, .int (v2 ||| ((1 : Int32) <<< (v3 &&& 31)))), (0, .ref 0), (1, .int v1)]) rfl dX4_kinds_51 ?_
      refine hj_goto hX (tgt := 14) (by decide) dX4_kinds_54 ?_
      refine hj_lv hX [2, 3, 1, 0] (lv2 := [(0, .ref 0), (1, .int v1), (2, .int (v2 ||| ((1 : Int32) <<< (v3 &&& 31)))), (3, .int (v3 + (1 : Int32)))]) rfl ?_
      exact hk14 _ _ _ _ h
set_option maxHeartbeats 4000000 in
set_option maxRecDepth 100000 in
theorem X4_kinds_l14_ok {p : Program} {l : Launch} {e : Env} {s : State} {m : MethodId} {args : Array Value} {below : List Frame} {meth : Method} {c : Code} {D : va_G} {E : Nat → ClassId} {b z : Nat} {sh : List hS} {r : Int32} {I2 : hM} (hX : hp_X p s m args meth c yX4_kinds.cls cX4_kinds 4 wsX4_kinds D E (some .int) yX4_kinds.name) (hf0 : hq_X4 sh) : ∀ (n : Nat) (v1 : Int32) (v2 : Int32) (v3 : Int32) (I : hM), X4_kinds_l14 n v1 v2 v3 I = some (r, I2) → hp_J p l e ({ frames := 3, cells := 0, slots := 0, locals := 44 * 3 }) s m args below meth c (MQ below (hp_Q D E b z (some (.int r)) sh I2) args s 0 0 (fun q : Nat => b ≤ q)) D E b z 4 sh 0 0 I 14 [(0, .ref 0), (1, .int v1), (2, .int v2), (3, .int v3)] [] := by
  intro n
  induction n with
  | zero => exact fun _ _ _ _ h => nomatch h
  | succ n ih => exact fun _ _ _ _ h => X4_kinds_h14_ok hX hf0 ih h
set_option maxHeartbeats 4000000 in
set_option maxRecDepth 100000 in
theorem X4_kinds_ok {sh : List hS} {r : Int32} {I I2 : hM} {v1 : Int32} (hf0 : hq_X4 sh) (h : X4_kinds v1 I = some (r, I2)) : hp_C yX4_kinds wsX4_kinds 3 0 0 sh I [.ref 0, .int v1] (some (.int r)) sh I2 := hp_start (cc := cX4_kinds) (maxL := 4) (ret := (some .int)) [(0, .ref 0), (1, .int v1)] (by decide) rfl (fun _ _ => rfl) (fun _ _ => Nat.le_of_ble_eq_true rfl) (fun p l e s m below meth c D E b z hX _ => by
  unfold X4_kinds at h
  refine hj_aload_n hX rfl 0 rfl dX4_kinds_0 ?_
  refine hj_iload_n hX rfl 1 rfl dX4_kinds_1 ?_
  obtain ⟨u1, Ia2, hc3, h⟩ := ob_e h
  refine hj_callV hX (sh2 := sh) (I2 := Ia2) (r := (some (.int u1))) (As := [.int v1]) (rest := []) (st2 := [.int u1]) (X4_isGoing_ok hf0 hc3) gX4_kinds_X4_isGoing rfl X4_isGoing_hy ⟨(Nat.le_of_ble_eq_true rfl), (Nat.le_of_ble_eq_true rfl)⟩ rfl hf0.1 rfl (Nat.le_of_ble_eq_true rfl) ⟨(Nat.le_of_ble_eq_true rfl), (Nat.le_of_ble_eq_true rfl)⟩ rfl rfl rfl dX4_kinds_2 ?_
  refine hj_if_ne hX (tgt := 10) (by decide) dX4_kinds_5 h (fun h => ?_) (fun h => ?_)
  · refine hj_iconst hX (v := (0 : Int32)) (by decide) dX4_kinds_10 ?_
    refine hj_istore_n hX rfl (Nat.le_of_ble_eq_true rfl) (lv2 := [(2, .int (0 : Int32)), (0, .ref 0), (1, .int v1)]) rfl dX4_kinds_11 ?_
    refine hj_iconst hX (v := (0 : Int32)) (by decide) dX4_kinds_12 ?_
    refine hj_istore_n hX rfl (Nat.le_of_ble_eq_true rfl) (lv2 := [(3, .int (0 : Int32)), (2, .int (0 : Int32)), (0, .ref 0), (1, .int v1)]) rfl dX4_kinds_13 ?_
    refine hj_lv hX [2, 3, 1, 0] (lv2 := [(0, .ref 0), (1, .int v1), (2, .int (0 : Int32)), (3, .int (0 : Int32))]) rfl ?_
    exact X4_kinds_l14_ok hX hf0 hF _ _ _ _ h
  · refine hj_iconst hX (v := (-1 : Int32)) (by decide) dX4_kinds_8 ?_
    exact hj_iret hX dX4_kinds_9 h)
def X4_chanceOf_h6 (k6 : Int32 → Int32 → Int32 → Int32 → Int32 → Int32 → hM → Option (Int32 × hM)) (v0 : Int32) (v1 : Int32) (v2 : Int32) (v3 : Int32) (v4 : Int32) (v5 : Int32) (I : hM) : Option (Int32 × hM) := if (7 : Int32) ≤ v5 then (some (v4, I)) else (if ((v1 >>> (v5 &&& 31)) &&& (1 : Int32)) = (1 : Int32) then (if ((v0 >>> (v5 &&& 31)) &&& (1 : Int32)) = (1 : Int32) then ((k6 v0 v1 v2 v3 (v4 * v2) (v5 + (1 : Int32)) I)) else ((k6 v0 v1 v2 v3 (v4 * v3) (v5 + (1 : Int32)) I))) else ((k6 v0 v1 v2 v3 v4 (v5 + (1 : Int32)) I)))
def X4_chanceOf_l6 : Nat → Int32 → Int32 → Int32 → Int32 → Int32 → Int32 → hM → Option (Int32 × hM)
  | 0 => fun _ _ _ _ _ _ _ => none
  | n + 1 => X4_chanceOf_h6   (X4_chanceOf_l6   n)
def X4_chanceOf (v0 : Int32) (v1 : Int32) (v2 : Int32) (v3 : Int32) (I : hM) : Option (Int32 × hM) := (X4_chanceOf_l6 hF v0 v1 v2 v3 (1 : Int32) (0 : Int32) I)
theorem X4_chanceOf_hy : yX4_chanceOf.cls = RX4 ∧ yX4_chanceOf.cls ≠ "java/lang/invoke/MethodHandle" ∧ yX4_chanceOf.cls ≠ "java/lang/invoke/VarHandle" ∧ (parseMethodDescriptor yX4_chanceOf.desc).map (fun d => d.parameters.length) = some 4 := by decide +kernel
set_option maxHeartbeats 4000000 in
set_option maxRecDepth 100000 in
theorem X4_chanceOf_h6_ok {p : Program} {l : Launch} {e : Env} {s : State} {m : MethodId} {args : Array Value} {below : List Frame} {meth : Method} {c : Code} {D : va_G} {E : Nat → ClassId} {b z : Nat} {sh : List hS} {r : Int32} {I2 : hM} {k6 : Int32 → Int32 → Int32 → Int32 → Int32 → Int32 → hM → Option (Int32 × hM)} {v0 : Int32} {v1 : Int32} {v2 : Int32} {v3 : Int32} {v4 : Int32} {v5 : Int32} {I : hM} (hX : hp_X p s m args meth c yX4_chanceOf.cls cX4_chanceOf 6 wsX4_chanceOf D E (some .int) yX4_chanceOf.name) (hk6 : ∀ (v0 : Int32) (v1 : Int32) (v2 : Int32) (v3 : Int32) (v4 : Int32) (v5 : Int32) (I : hM), k6 v0 v1 v2 v3 v4 v5 I = some (r, I2) → hp_J p l e ({ frames := 0, cells := 0, slots := 0, locals := 44 * 0 }) s m args below meth c (MQ below (hp_Q D E b z (some (.int r)) sh I2) args s 0 0 (fun q : Nat => b ≤ q)) D E b z 6 sh 0 0 I 6 [(0, .int v0), (1, .int v1), (2, .int v2), (3, .int v3), (4, .int v4), (5, .int v5)] []) (h : X4_chanceOf_h6 k6 v0 v1 v2 v3 v4 v5 I = some (r, I2)) : hp_J p l e ({ frames := 0, cells := 0, slots := 0, locals := 44 * 0 }) s m args below meth c (MQ below (hp_Q D E b z (some (.int r)) sh I2) args s 0 0 (fun q : Nat => b ≤ q)) D E b z 6 sh 0 0 I 6 [(0, .int v0), (1, .int v1), (2, .int v2), (3, .int v3), (4, .int v4), (5, .int v5)] [] := by
  unfold X4_chanceOf_h6 at h
  refine hj_iload hX 5 rfl dX4_chanceOf_6 ?_
  refine hj_bipush hX (v := (7 : Int32)) (by decide) dX4_chanceOf_8 ?_
  refine hj_icmp_ge hX (tgt := 49) (by decide) dX4_chanceOf_10 h (fun h => ?_) (fun h => ?_)
  · refine hj_iload hX 4 rfl dX4_chanceOf_49 ?_
    exact hj_iret hX dX4_chanceOf_51 h
  · refine hj_iload_n hX rfl 1 rfl dX4_chanceOf_13 ?_
    refine hj_iload hX 5 rfl dX4_chanceOf_14 ?_
    refine hj_ishr hX dX4_chanceOf_16 ?_
    refine hj_iconst hX (v := (1 : Int32)) (by decide) dX4_chanceOf_17 ?_
    refine hj_iand hX dX4_chanceOf_18 ?_
    refine hj_iconst hX (v := (1 : Int32)) (by decide) dX4_chanceOf_19 ?_
    refine hj_icmp_ne hX (tgt := 43) (by decide) dX4_chanceOf_20 h (fun h => ?_) (fun h => ?_)
    · refine hj_iinc hX (k1 := 5) (v := (v5 + (1 : Int32))) rfl rfl (Nat.le_of_ble_eq_true rfl) (lv2 := [(5, .int (v5 + (1 : Int32))), (0, .int v0), (1, .int v1), (2, .int v2), (3, .int v3), (4, .int v4)]) rfl dX4_chanceOf_43 ?_
      refine hj_goto hX (tgt := 6) (by decide) dX4_chanceOf_46 ?_
      refine hj_lv hX [1, 2, 3, 4, 5, 0] (lv2 := [(0, .int v0), (1, .int v1), (2, .int v2), (3, .int v3), (4, .int v4), (5, .int (v5 + (1 : Int32)))]) rfl ?_
      exact hk6 _ _ _ _ _ _ _ h
    · refine hj_iload hX 4 rfl dX4_chanceOf_23 ?_
      refine hj_iload_n hX rfl 0 rfl dX4_chanceOf_25 ?_
      refine hj_iload hX 5 rfl dX4_chanceOf_26 ?_
      refine hj_ishr hX dX4_chanceOf_28 ?_
      refine hj_iconst hX (v := (1 : Int32)) (by decide) dX4_chanceOf_29 ?_
      refine hj_iand hX dX4_chanceOf_30 ?_
      refine hj_iconst hX (v := (1 : Int32)) (by decide) dX4_chanceOf_31 ?_
      refine hj_icmp_ne hX (tgt := 39) (by decide) dX4_chanceOf_32 h (fun h => ?_) (fun h => ?_)
      · refine hj_iload_n hX rfl 3 rfl dX4_chanceOf_39 ?_
        refine hj_imul hX dX4_chanceOf_40 ?_
        refine hj_istore hX (Nat.le_of_ble_eq_true rfl) (lv2 := [(4, .int (v4 * v3)), (0, .int v0), (1, .int v1), (2, .int v2), (3, .int v3), (5, .int v5)]) rfl dX4_chanceOf_41 ?_
        refine hj_iinc hX (k1 := 5) (v := (v5 + (1 : Int32))) rfl rfl (Nat.le_of_ble_eq_true rfl) (lv2 := [(5, .int (v5 + (1 : Int32))), (4, .int (v4 * v3)), (0, .int v0), (1, .int v1), (2, .int v2), (3, .int v3)]) rfl dX4_chanceOf_43 ?_
        refine hj_goto hX (tgt := 6) (by decide) dX4_chanceOf_46 ?_
        refine hj_lv hX [2, 3, 4, 5, 1, 0] (lv2 := [(0, .int v0), (1, .int v1), (2, .int v2), (3, .int v3), (4, .int (v4 * v3)), (5, .int (v5 + (1 : Int32)))]) rfl ?_
        exact hk6 _ _ _ _ _ _ _ h
      · refine hj_iload_n hX rfl 2 rfl dX4_chanceOf_35 ?_
        refine hj_goto hX (tgt := 40) (by decide) dX4_chanceOf_36 ?_
        refine hj_imul hX dX4_chanceOf_40 ?_
        refine hj_istore hX (Nat.le_of_ble_eq_true rfl) (lv2 := [(4, .int (v4 * v2)), (0, .int v0), (1, .int v1), (2, .int v2), (3, .int v3), (5, .int v5)]) rfl dX4_chanceOf_41 ?_
        refine hj_iinc hX (k1 := 5) (v := (v5 + (1 : Int32))) rfl rfl (Nat.le_of_ble_eq_true rfl) (lv2 := [(5, .int (v5 + (1 : Int32))), (4, .int (v4 * v2)), (0, .int v0), (1, .int v1), (2, .int v2), (3, .int v3)]) rfl dX4_chanceOf_43 ?_
        refine hj_goto hX (tgt := 6) (by decide) dX4_chanceOf_46 ?_
        refine hj_lv hX [2, 3, 4, 5, 1, 0] (lv2 := [(0, .int v0), (1, .int v1), (2, .int v2), (3, .int v3), (4, .int (v4 * v2)), (5, .int (v5 + (1 : Int32)))]) rfl ?_
        exact hk6 _ _ _ _ _ _ _ h
set_option maxHeartbeats 4000000 in
set_option maxRecDepth 100000 in
theorem X4_chanceOf_l6_ok {p : Program} {l : Launch} {e : Env} {s : State} {m : MethodId} {args : Array Value} {below : List Frame} {meth : Method} {c : Code} {D : va_G} {E : Nat → ClassId} {b z : Nat} {sh : List hS} {r : Int32} {I2 : hM} (hX : hp_X p s m args meth c yX4_chanceOf.cls cX4_chanceOf 6 wsX4_chanceOf D E (some .int) yX4_chanceOf.name) : ∀ (n : Nat) (v0 : Int32) (v1 : Int32) (v2 : Int32) (v3 : Int32) (v4 : Int32) (v5 : Int32) (I : hM), X4_chanceOf_l6 n v0 v1 v2 v3 v4 v5 I = some (r, I2) → hp_J p l e ({ frames := 0, cells := 0, slots := 0, locals := 44 * 0 }) s m args below meth c (MQ below (hp_Q D E b z (some (.int r)) sh I2) args s 0 0 (fun q : Nat => b ≤ q)) D E b z 6 sh 0 0 I 6 [(0, .int v0), (1, .int v1), (2, .int v2), (3, .int v3), (4, .int v4), (5, .int v5)] [] := by
  intro n
  induction n with
  | zero => exact fun _ _ _ _ _ _ _ h => nomatch h
  | succ n ih => exact fun _ _ _ _ _ _ _ h => X4_chanceOf_h6_ok hX ih h
set_option maxHeartbeats 4000000 in
set_option maxRecDepth 100000 in
theorem X4_chanceOf_ok {sh : List hS} {r : Int32} {I I2 : hM} {v0 : Int32} {v1 : Int32} {v2 : Int32} {v3 : Int32} (h : X4_chanceOf v0 v1 v2 v3 I = some (r, I2)) : hp_C yX4_chanceOf wsX4_chanceOf 0 0 0 sh I [.int v0, .int v1, .int v2, .int v3] (some (.int r)) sh I2 := hp_start (cc := cX4_chanceOf) (maxL := 6) (ret := (some .int)) [(0, .int v0), (1, .int v1), (2, .int v2), (3, .int v3)] (by decide) rfl (fun _ _ => rfl) (fun _ _ => Nat.le_of_ble_eq_true rfl) (fun p l e s m below meth c D E b z hX _ => by
  unfold X4_chanceOf at h
  refine hj_iconst hX (v := (1 : Int32)) (by decide) dX4_chanceOf_0 ?_
  refine hj_istore hX (Nat.le_of_ble_eq_true rfl) (lv2 := [(4, .int (1 : Int32)), (0, .int v0), (1, .int v1), (2, .int v2), (3, .int v3)]) rfl dX4_chanceOf_1 ?_
  refine hj_iconst hX (v := (0 : Int32)) (by decide) dX4_chanceOf_3 ?_
  refine hj_istore hX (Nat.le_of_ble_eq_true rfl) (lv2 := [(5, .int (0 : Int32)), (4, .int (1 : Int32)), (0, .int v0), (1, .int v1), (2, .int v2), (3, .int v3)]) rfl dX4_chanceOf_4 ?_
  refine hj_lv hX [2, 3, 4, 5, 1, 0] (lv2 := [(0, .int v0), (1, .int v1), (2, .int v2), (3, .int v3), (4, .int (1 : Int32)), (5, .int (0 : Int32))]) rfl ?_
  exact X4_chanceOf_l6_ok hX hF _ _ _ _ _ _ _ h)
def X4_hadLate_b52 (I : hM) : Option (Int32 × hM) := ob (X2_goBy 31 4 (60 : Int32) I) (fun u4 Ia5 => some ((Ia5 31 1), Ia5))
def X4_hadLate_h13 (k13 : Int32 → Int32 → Int32 → hM → Option (Int32 × hM)) (v1 : Int32) (v2 : Int32) (v3 : Int32) (I : hM) : Option (Int32 × hM) := if (I 4 0) ≤ v3 then (X4_hadLate_b52 I) else (if ((v1 >>> (v3 &&& 31)) &&& (1 : Int32)) = (1 : Int32) then (gd (hx v3 7) (gd (hx v3 7) ((k13 v1 v2 (v3 + (1 : Int32)) (hu I 33 (v3).toNatClampNeg ((I 33 (v3).toNatClampNeg) + v2)))))) else ((k13 v1 v2 (v3 + (1 : Int32)) I)))
def X4_hadLate_l13 : Nat → Int32 → Int32 → Int32 → hM → Option (Int32 × hM)
  | 0 => fun _ _ _ _ => none
  | n + 1 => X4_hadLate_h13   (X4_hadLate_l13   n)
def X4_hadLate (v1 : Int32) (v2 : Int32) (I : hM) : Option (Int32 × hM) := ob (X2_copyOf 31 26 I) (fun u1 Ia2 => (X4_hadLate_l13 hF v1 v2 (0 : Int32) Ia2))
theorem X4_hadLate_hy : yX4_hadLate.cls = RX4 ∧ yX4_hadLate.cls ≠ "java/lang/invoke/MethodHandle" ∧ yX4_hadLate.cls ≠ "java/lang/invoke/VarHandle" ∧ (parseMethodDescriptor yX4_hadLate.desc).map (fun d => d.parameters.length) = some 2 := by decide +kernel
theorem X4_hadLate_k33 : Cond.fieldLink RX4 33 "HatPins" "trial" "LHatPins$Standing;" ∈ wsX4_hadLate := by decide +kernel
theorem X4_hadLate_k29 : Cond.fieldLink RX4 29 "HatPins" "now" "LHatPins$Standing;" ∈ wsX4_hadLate := by decide +kernel
theorem X4_hadLate_k19 : Cond.fieldLink RX4 19 "HatPins" "laid" "LHatPins$Evening;" ∈ wsX4_hadLate := by decide +kernel
theorem X4_hadLate_k82 : Cond.fieldLink RX4 82 "HatPins$Evening" "goings" "I" ∈ wsX4_hadLate := by decide +kernel
theorem X4_hadLate_k234 : Cond.fieldLink RX4 234 "HatPins$Standing" "due" "[I" ∈ wsX4_hadLate := by decide +kernel
theorem X4_hadLate_k140 : Cond.fieldLink RX4 140 "HatPins$Standing" "had" "I" ∈ wsX4_hadLate := by decide +kernel
theorem X4_hadLate_w0 : ∀ w ∈ wsX00, w ∈ wsX4_hadLate := by decide +kernel
theorem X4_hadLate_w2 : ∀ w ∈ wsX20, w ∈ wsX4_hadLate := by decide +kernel
theorem X4_hadLate_w4 : ∀ w ∈ wsX40, w ∈ wsX4_hadLate := by decide +kernel
set_option maxHeartbeats 4000000 in
set_option maxRecDepth 100000 in
theorem X4_hadLate_b52_ok {p : Program} {l : Launch} {e : Env} {s : State} {m : MethodId} {args : Array Value} {below : List Frame} {meth : Method} {c : Code} {D : va_G} {E : Nat → ClassId} {b z : Nat} {sh : List hS} {r : Int32} {I2 : hM} {I : hM} (hX : hp_X p s m args meth c yX4_hadLate.cls cX4_hadLate 4 wsX4_hadLate D E (some .int) yX4_hadLate.name) (hf0 : hq_X4 sh) (h : X4_hadLate_b52 I = some (r, I2)) : hp_J p l e ({ frames := 5, cells := 0, slots := 0, locals := 44 * 5 }) s m args below meth c (MQ below (hp_Q D E b z (some (.int r)) sh I2) args s 0 0 (fun q : Nat => b ≤ q)) D E b z 4 sh 0 0 I 52 [(0, .ref 0)] [] := by
  unfold X4_hadLate_b52 at h
  refine hj_aload_n hX rfl 0 rfl dX4_hadLate_52 ?_
  refine hj_getr hX (j := 4) hf0.1 rfl rfl X4_hadLate_w4 (Nat.le_of_ble_eq_true rfl) rfl X4_hadLate_k33 dX4_hadLate_53 ?_
  refine hj_aload_n hX rfl 0 rfl dX4_hadLate_56 ?_
  refine hj_getr hX (j := 1) hf0.1 rfl rfl X4_hadLate_w4 (Nat.le_of_ble_eq_true rfl) rfl X4_hadLate_k19 dX4_hadLate_57 ?_
  refine hj_bipush hX (v := (60 : Int32)) (by decide) dX4_hadLate_60 ?_
  obtain ⟨u4, Ia5, hc6, h⟩ := ob_e h
  refine hj_callV hX (sh2 := sh) (I2 := Ia5) (r := none) (As := [.ref 4, .int (60 : Int32)]) (rest := []) (st2 := []) (X2_goBy_ok hf0.2.2.2.2.2.1 hf0.2.2.1 hc6) gX4_hadLate_X2_goBy rfl X2_goBy_hy ⟨(Nat.le_of_ble_eq_true rfl), (Nat.le_of_ble_eq_true rfl)⟩ rfl hf0.2.2.2.2.2.1.1 rfl (Nat.le_of_ble_eq_true rfl) ⟨(Nat.le_of_ble_eq_true rfl), (Nat.le_of_ble_eq_true rfl)⟩ rfl rfl rfl dX4_hadLate_62 ?_
  refine hj_aload_n hX rfl 0 rfl dX4_hadLate_65 ?_
  refine hj_getr hX (j := 4) hf0.1 rfl rfl X4_hadLate_w4 (Nat.le_of_ble_eq_true rfl) rfl X4_hadLate_k33 dX4_hadLate_66 ?_
  refine hj_geti hX (j := 1) hf0.2.2.2.2.2.1.1 rfl rfl X4_hadLate_w2 (Nat.le_of_ble_eq_true rfl) rfl X4_hadLate_k140 dX4_hadLate_69 ?_
  exact hj_iret hX dX4_hadLate_72 h
set_option maxHeartbeats 4000000 in
set_option maxRecDepth 100000 in
theorem X4_hadLate_h13_ok {p : Program} {l : Launch} {e : Env} {s : State} {m : MethodId} {args : Array Value} {below : List Frame} {meth : Method} {c : Code} {D : va_G} {E : Nat → ClassId} {b z : Nat} {sh : List hS} {r : Int32} {I2 : hM} {k13 : Int32 → Int32 → Int32 → hM → Option (Int32 × hM)} {v1 : Int32} {v2 : Int32} {v3 : Int32} {I : hM} (hX : hp_X p s m args meth c yX4_hadLate.cls cX4_hadLate 4 wsX4_hadLate D E (some .int) yX4_hadLate.name) (hf0 : hq_X4 sh) (hk13 : ∀ (v1 : Int32) (v2 : Int32) (v3 : Int32) (I : hM), k13 v1 v2 v3 I = some (r, I2) → hp_J p l e ({ frames := 5, cells := 0, slots := 0, locals := 44 * 5 }) s m args below meth c (MQ below (hp_Q D E b z (some (.int r)) sh I2) args s 0 0 (fun q : Nat => b ≤ q)) D E b z 4 sh 0 0 I 13 [(0, .ref 0), (1, .int v1), (2, .int v2), (3, .int v3)] []) (h : X4_hadLate_h13 k13 v1 v2 v3 I = some (r, I2)) : hp_J p l e ({ frames := 5, cells := 0, slots := 0, locals := 44 * 5 }) s m args below meth c (MQ below (hp_Q D E b z (some (.int r)) sh I2) args s 0 0 (fun q : Nat => b ≤ q)) D E b z 4 sh 0 0 I 13 [(0, .ref 0), (1, .int v1), (2, .int v2), (3, .int v3)] [] := by
  unfold X4_hadLate_h13 at h
  refine hj_iload_n hX rfl 3 rfl dX4_hadLate_13 ?_
  refine hj_aload_n hX rfl 0 rfl dX4_hadLate_14 ?_
  refine hj_getr hX (j := 1) hf0.1 rfl rfl X4_hadLate_w4 (Nat.le_of_ble_eq_true rfl) rfl X4_hadLate_k19 dX4_hadLate_15 ?_
  refine hj_geti hX (j := 0) hf0.2.2.1.1 rfl rfl X4_hadLate_w0 (Nat.le_of_ble_eq_true rfl) rfl X4_hadLate_k82 dX4_hadLate_18 ?_
  refine hj_icmp_ge hX (tgt := 52) (by decide) dX4_hadLate_21 h (fun h => ?_) (fun h => ?_)
  · refine hj_lv hX [0] (lv2 := [(0, .ref 0)]) rfl ?_
    exact X4_hadLate_b52_ok hX hf0 h
  · refine hj_iload_n hX rfl 1 rfl dX4_hadLate_24 ?_
    refine hj_iload_n hX rfl 3 rfl dX4_hadLate_25 ?_
    refine hj_ishr hX dX4_hadLate_26 ?_
    refine hj_iconst hX (v := (1 : Int32)) (by decide) dX4_hadLate_27 ?_
    refine hj_iand hX dX4_hadLate_28 ?_
    refine hj_iconst hX (v := (1 : Int32)) (by decide) dX4_hadLate_29 ?_
    refine hj_icmp_ne hX (tgt := 46) (by decide) dX4_hadLate_30 h (fun h => ?_) (fun h => ?_)
    · refine hj_iinc hX (k1 := 3) (v := (v3 + (1 : Int32))) rfl rfl (Nat.le_of_ble_eq_true rfl) (lv2 := [(3, .int (v3 + (1 : Int32))), (0, .ref 0), (1, .int v1), (2, .int v2)]) rfl dX4_hadLate_46 ?_
      refine hj_goto hX (tgt := 13) (by decide) dX4_hadLate_49 ?_
      refine hj_lv hX [1, 2, 3, 0] (lv2 := [(0, .ref 0), (1, .int v1), (2, .int v2), (3, .int (v3 + (1 : Int32)))]) rfl ?_
      exact hk13 _ _ _ _ h
    · refine hj_aload_n hX rfl 0 rfl dX4_hadLate_33 ?_
      refine hj_getr hX (j := 4) hf0.1 rfl rfl X4_hadLate_w4 (Nat.le_of_ble_eq_true rfl) rfl X4_hadLate_k33 dX4_hadLate_34 ?_
      refine hj_getr hX (j := 3) hf0.2.2.2.2.2.1.1 rfl rfl X4_hadLate_w2 (Nat.le_of_ble_eq_true rfl) rfl X4_hadLate_k234 dX4_hadLate_37 ?_
      refine hj_iload_n hX rfl 3 rfl dX4_hadLate_40 ?_
      refine hj_dup2 hX rfl rfl dX4_hadLate_41 ?_
      refine hj_iald hX hf0.2.2.2.2.2.1.2.2.1 dX4_hadLate_42 h (fun h => ?_)
      refine hj_iload_n hX rfl 2 rfl dX4_hadLate_43 ?_
      refine hj_iadd hX dX4_hadLate_44 ?_
      refine hj_iast hX hf0.2.2.2.2.2.1.2.2.1 dX4_hadLate_45 h (fun h => ?_)
      refine hj_iinc hX (k1 := 3) (v := (v3 + (1 : Int32))) rfl rfl (Nat.le_of_ble_eq_true rfl) (lv2 := [(3, .int (v3 + (1 : Int32))), (0, .ref 0), (1, .int v1), (2, .int v2)]) rfl dX4_hadLate_46 ?_
      refine hj_goto hX (tgt := 13) (by decide) dX4_hadLate_49 ?_
      refine hj_lv hX [1, 2, 3, 0] (lv2 := [(0, .ref 0), (1, .int v1), (2, .int v2), (3, .int (v3 + (1 : Int32)))]) rfl ?_
      exact hk13 _ _ _ _ h
set_option maxHeartbeats 4000000 in
set_option maxRecDepth 100000 in
theorem X4_hadLate_l13_ok {p : Program} {l : Launch} {e : Env} {s : State} {m : MethodId} {args : Array Value} {below : List Frame} {meth : Method} {c : Code} {D : va_G} {E : Nat → ClassId} {b z : Nat} {sh : List hS} {r : Int32} {I2 : hM} (hX : hp_X p s m args meth c yX4_hadLate.cls cX4_hadLate 4 wsX4_hadLate D E (some .int) yX4_hadLate.name) (hf0 : hq_X4 sh) : ∀ (n : Nat) (v1 : Int32) (v2 : Int32) (v3 : Int32) (I : hM), X4_hadLate_l13 n v1 v2 v3 I = some (r, I2) → hp_J p l e ({ frames := 5, cells := 0, slots := 0, locals := 44 * 5 }) s m args below meth c (MQ below (hp_Q D E b z (some (.int r)) sh I2) args s 0 0 (fun q : Nat => b ≤ q)) D E b z 4 sh 0 0 I 13 [(0, .ref 0), (1, .int v1), (2, .int v2), (3, .int v3)] [] := by
  intro n
  induction n with
  | zero => exact fun _ _ _ _ h => nomatch h
  | succ n ih => exact fun _ _ _ _ h => X4_hadLate_h13_ok hX hf0 ih h
set_option maxHeartbeats 4000000 in
set_option maxRecDepth 100000 in
theorem X4_hadLate_ok {sh : List hS} {r : Int32} {I I2 : hM} {v1 : Int32} {v2 : Int32} (hf0 : hq_X4 sh) (h : X4_hadLate v1 v2 I = some (r, I2)) : hp_C yX4_hadLate wsX4_hadLate 5 0 0 sh I [.ref 0, .int v1, .int v2] (some (.int r)) sh I2 := hp_start (cc := cX4_hadLate) (maxL := 4) (ret := (some .int)) [(0, .ref 0), (1, .int v1), (2, .int v2)] (by decide) rfl (fun _ _ => rfl) (fun _ _ => Nat.le_of_ble_eq_true rfl) (fun p l e s m below meth c D E b z hX _ => by
  unfold X4_hadLate at h
  refine hj_aload_n hX rfl 0 rfl dX4_hadLate_0 ?_
  refine hj_getr hX (j := 4) hf0.1 rfl rfl X4_hadLate_w4 (Nat.le_of_ble_eq_true rfl) rfl X4_hadLate_k33 dX4_hadLate_1 ?_
  refine hj_aload_n hX rfl 0 rfl dX4_hadLate_4 ?_
  refine hj_getr hX (j := 3) hf0.1 rfl rfl X4_hadLate_w4 (Nat.le_of_ble_eq_true rfl) rfl X4_hadLate_k29 dX4_hadLate_5 ?_
  obtain ⟨u1, Ia2, hc3, h⟩ := ob_e h
  refine hj_callV hX (sh2 := sh) (I2 := Ia2) (r := none) (As := [.ref 26]) (rest := []) (st2 := []) (X2_copyOf_ok hf0.2.2.2.2.2.1 hf0.2.2.2.2.1 hc3) gX4_hadLate_X2_copyOf rfl X2_copyOf_hy ⟨(Nat.le_of_ble_eq_true rfl), (Nat.le_of_ble_eq_true rfl)⟩ rfl hf0.2.2.2.2.2.1.1 rfl (Nat.le_of_ble_eq_true rfl) ⟨(Nat.le_of_ble_eq_true rfl), (Nat.le_of_ble_eq_true rfl)⟩ rfl rfl rfl dX4_hadLate_8 ?_
  refine hj_iconst hX (v := (0 : Int32)) (by decide) dX4_hadLate_11 ?_
  refine hj_istore_n hX rfl (Nat.le_of_ble_eq_true rfl) (lv2 := [(3, .int (0 : Int32)), (0, .ref 0), (1, .int v1), (2, .int v2)]) rfl dX4_hadLate_12 ?_
  refine hj_lv hX [1, 2, 3, 0] (lv2 := [(0, .ref 0), (1, .int v1), (2, .int v2), (3, .int (0 : Int32))]) rfl ?_
  exact X4_hadLate_l13_ok hX hf0 hF _ _ _ _ h)
def X4_commonDivisor_h7 (k7 : Int32 → Int32 → Int32 → hM → Option (Int32 × hM)) (v2 : Int32) (v3 : Int32) (v4 : Int32) (I : hM) : Option (Int32 × hM) := if (100 : Int32) ≤ v4 then (some (v2, I)) else (if v3 = 0 then (some (v2, I)) else (gd (decide (¬ v3 = 0)) ((k7 v3 (v2 - v2 / v3 * v3) (v4 + (1 : Int32)) I))))
def X4_commonDivisor_l7 : Nat → Int32 → Int32 → Int32 → hM → Option (Int32 × hM)
  | 0 => fun _ _ _ _ => none
  | n + 1 => X4_commonDivisor_h7   (X4_commonDivisor_l7   n)
def X4_commonDivisor (v0 : Int32) (v1 : Int32) (I : hM) : Option (Int32 × hM) := (X4_commonDivisor_l7 hF v0 v1 (0 : Int32) I)
theorem X4_commonDivisor_hy : yX4_commonDivisor.cls = RX4 ∧ yX4_commonDivisor.cls ≠ "java/lang/invoke/MethodHandle" ∧ yX4_commonDivisor.cls ≠ "java/lang/invoke/VarHandle" ∧ (parseMethodDescriptor yX4_commonDivisor.desc).map (fun d => d.parameters.length) = some 2 := by decide +kernel
set_option maxHeartbeats 4000000 in
set_option maxRecDepth 100000 in
theorem X4_commonDivisor_h7_ok {p : Program} {l : Launch} {e : Env} {s : State} {m : MethodId} {args : Array Value} {below : List Frame} {meth : Method} {c : Code} {D : va_G} {E : Nat → ClassId} {b z : Nat} {sh : List hS} {r : Int32} {I2 : hM} {k7 : Int32 → Int32 → Int32 → hM → Option (Int32 × hM)} {v2 : Int32} {v3 : Int32} {v4 : Int32} {I : hM} (hX : hp_X p s m args meth c yX4_commonDivisor.cls cX4_commonDivisor 6 wsX4_commonDivisor D E (some .int) yX4_commonDivisor.name) (hk7 : ∀ (v2 : Int32) (v3 : Int32) (v4 : Int32) (I : hM), k7 v2 v3 v4 I = some (r, I2) → hp_J p l e ({ frames := 0, cells := 0, slots := 0, locals := 44 * 0 }) s m args below meth c (MQ below (hp_Q D E b z (some (.int r)) sh I2) args s 0 0 (fun q : Nat => b ≤ q)) D E b z 6 sh 0 0 I 7 [(2, .int v2), (3, .int v3), (4, .int v4)] []) (h : X4_commonDivisor_h7 k7 v2 v3 v4 I = some (r, I2)) : hp_J p l e ({ frames := 0, cells := 0, slots := 0, locals := 44 * 0 }) s m args below meth c (MQ below (hp_Q D E b z (some (.int r)) sh I2) args s 0 0 (fun q : Nat => b ≤ q)) D E b z 6 sh 0 0 I 7 [(2, .int v2), (3, .int v3), (4, .int v4)] [] := by
  unfold X4_commonDivisor_h7 at h
  refine hj_iload hX 2 rfl dX4_commonDivisor_7 ?_
  refine hj_bipush hX (v := (100 : Int32)) (by decide) dX4_commonDivisor_9 ?_
  refine hj_icmp_ge hX (tgt := 34) (by decide) dX4_commonDivisor_11 h (fun h => ?_) (fun h => ?_)
  · refine hj_iload_n hX rfl 0 rfl dX4_commonDivisor_34 ?_
    exact hj_iret hX dX4_commonDivisor_35 h
  · refine hj_iload_n hX rfl 1 rfl dX4_commonDivisor_14 ?_
    refine hj_if_eq hX (tgt := 34) (by decide) dX4_commonDivisor_15 h (fun h => ?_) (fun h => ?_)
    · refine hj_iload_n hX rfl 0 rfl dX4_commonDivisor_34 ?_
      exact hj_iret hX dX4_commonDivisor_35 h
    · refine hj_iload_n hX rfl 0 rfl dX4_commonDivisor_18 ?_
      refine hj_iload_n hX rfl 1 rfl dX4_commonDivisor_19 ?_
      refine hj_irem hX dX4_commonDivisor_20 h (fun h => ?_)
      refine hj_istore hX (Nat.le_of_ble_eq_true rfl) (lv2 := [(5, .int (v2 - v2 / v3 * v3)), (2, .int v2), (3, .int v3), (4, .int v4)]) rfl dX4_commonDivisor_21 ?_
      refine hj_iload_n hX rfl 2 rfl dX4_commonDivisor_23 ?_
      refine hj_istore_n hX rfl (Nat.le_of_ble_eq_true rfl) (lv2 := [(2, .int v3), (5, .int (v2 - v2 / v3 * v3)), (3, .int v3), (4, .int v4)]) rfl dX4_commonDivisor_24 ?_
      refine hj_iload hX 1 rfl dX4_commonDivisor_25 ?_
      refine hj_istore_n hX rfl (Nat.le_of_ble_eq_true rfl) (lv2 := [(3, .int (v2 - v2 / v3 * v3)), (2, .int v3), (5, .int (v2 - v2 / v3 * v3)), (4, .int v4)]) rfl dX4_commonDivisor_27 ?_
      refine hj_iinc hX (k1 := 3) (v := (v4 + (1 : Int32))) rfl rfl (Nat.le_of_ble_eq_true rfl) (lv2 := [(4, .int (v4 + (1 : Int32))), (3, .int (v2 - v2 / v3 * v3)), (2, .int v3), (5, .int (v2 - v2 / v3 * v3))]) rfl dX4_commonDivisor_28 ?_
      refine hj_goto hX (tgt := 7) (by decide) dX4_commonDivisor_31 ?_
      refine hj_lv hX [2, 1, 0] (lv2 := [(2, .int v3), (3, .int (v2 - v2 / v3 * v3)), (4, .int (v4 + (1 : Int32)))]) rfl ?_
      exact hk7 _ _ _ _ h
set_option maxHeartbeats 4000000 in
set_option maxRecDepth 100000 in
theorem X4_commonDivisor_l7_ok {p : Program} {l : Launch} {e : Env} {s : State} {m : MethodId} {args : Array Value} {below : List Frame} {meth : Method} {c : Code} {D : va_G} {E : Nat → ClassId} {b z : Nat} {sh : List hS} {r : Int32} {I2 : hM} (hX : hp_X p s m args meth c yX4_commonDivisor.cls cX4_commonDivisor 6 wsX4_commonDivisor D E (some .int) yX4_commonDivisor.name) : ∀ (n : Nat) (v2 : Int32) (v3 : Int32) (v4 : Int32) (I : hM), X4_commonDivisor_l7 n v2 v3 v4 I = some (r, I2) → hp_J p l e ({ frames := 0, cells := 0, slots := 0, locals := 44 * 0 }) s m args below meth c (MQ below (hp_Q D E b z (some (.int r)) sh I2) args s 0 0 (fun q : Nat => b ≤ q)) D E b z 6 sh 0 0 I 7 [(2, .int v2), (3, .int v3), (4, .int v4)] [] := by
  intro n
  induction n with
  | zero => exact fun _ _ _ _ h => nomatch h
  | succ n ih => exact fun _ _ _ _ h => X4_commonDivisor_h7_ok hX ih h
set_option maxHeartbeats 4000000 in
set_option maxRecDepth 100000 in
theorem X4_commonDivisor_ok {sh : List hS} {r : Int32} {I I2 : hM} {v0 : Int32} {v1 : Int32} (h : X4_commonDivisor v0 v1 I = some (r, I2)) : hp_C yX4_commonDivisor wsX4_commonDivisor 0 0 0 sh I [.int v0, .int v1] (some (.int r)) sh I2 := hp_start (cc := cX4_commonDivisor) (maxL := 6) (ret := (some .int)) [(0, .int v0), (1, .int v1)] (by decide) rfl (fun _ _ => rfl) (fun _ _ => Nat.le_of_ble_eq_true rfl) (fun p l e s m below meth c D E b z hX _ => by
  unfold X4_commonDivisor at h
  refine hj_iload_n hX rfl 0 rfl dX4_commonDivisor_0 ?_
  refine hj_istore_n hX rfl (Nat.le_of_ble_eq_true rfl) (lv2 := [(2, .int v0), (0, .int v0), (1, .int v1)]) rfl dX4_commonDivisor_1 ?_
  refine hj_iload_n hX rfl 2 rfl dX4_commonDivisor_2 ?_
  refine hj_istore_n hX rfl (Nat.le_of_ble_eq_true rfl) (lv2 := [(3, .int v1), (2, .int v0), (0, .int v0), (1, .int v1)]) rfl dX4_commonDivisor_3 ?_
  refine hj_iconst hX (v := (0 : Int32)) (by decide) dX4_commonDivisor_4 ?_
  refine hj_istore hX (Nat.le_of_ble_eq_true rfl) (lv2 := [(4, .int (0 : Int32)), (3, .int v1), (2, .int v0), (0, .int v0), (1, .int v1)]) rfl dX4_commonDivisor_5 ?_
  refine hj_lv hX [2, 1, 0] (lv2 := [(2, .int v0), (3, .int v1), (4, .int (0 : Int32))]) rfl ?_
  exact X4_commonDivisor_l7_ok hX hF _ _ _ _ h)
def X4_late_b131 (v4 : Int32) (v6 : Int32) (v7 : Int32) (I : hM) : Option (Int32 × hM) := ob (X4_commonDivisor v6 v7 I) (fun u16 Ia17 => if (1 : Int32) ≤ u16 then (if v4 = 0 then (gd (decide (¬ u16 = 0)) (some ((v6 / u16), Ia17))) else (gd (decide (¬ u16 = 0)) (some ((v7 / u16), Ia17)))) else (some ((-4 : Int32), Ia17)))
def X4_late_h73 (k73 : Int32 → Int32 → Int32 → Int32 → Int32 → Int32 → Int32 → Int32 → hM → Option (Int32 × hM)) (v1 : Int32) (v2 : Int32) (v3 : Int32) (v4 : Int32) (v5 : Int32) (v6 : Int32) (v7 : Int32) (v8 : Int32) (I : hM) : Option (Int32 × hM) := if ((1 : Int32) <<< ((I 4 0) &&& 31)) ≤ v8 then (X4_late_b131 v4 v6 v7 I) else (if (v8 &&& (v5 ^^^ (-1 : Int32))) = 0 then (ob (X4_hadLate v8 v1 I) (fun u10 Ia11 => if u10 < v3 then ((k73 v1 v2 v3 v4 v5 v6 v7 (v8 + (1 : Int32)) Ia11)) else (ob (X4_chanceOf v8 v5 v2 ((10 : Int32) - v2) Ia11) (fun u13 Ia14 => (k73 v1 v2 v3 v4 v5 (v6 + u13) v7 (v8 + (1 : Int32)) Ia14))))) else ((k73 v1 v2 v3 v4 v5 v6 v7 (v8 + (1 : Int32)) I)))
def X4_late_l73 : Nat → Int32 → Int32 → Int32 → Int32 → Int32 → Int32 → Int32 → Int32 → hM → Option (Int32 × hM)
  | 0 => fun _ _ _ _ _ _ _ _ _ => none
  | n + 1 => X4_late_h73   (X4_late_l73   n)
def X4_late (v1 : Int32) (v2 : Int32) (v3 : Int32) (v4 : Int32) (I : hM) : Option (Int32 × hM) := if v1 < (1 : Int32) then (some ((-1 : Int32), I)) else (if (20 : Int32) < v1 then (some ((-1 : Int32), I)) else (if v2 < 0 then (some ((-1 : Int32), I)) else (if (10 : Int32) < v2 then (some ((-1 : Int32), I)) else (if v3 < 0 then (some ((-1 : Int32), I)) else (if (999 : Int32) < v3 then (some ((-1 : Int32), I)) else (ob (X4_isEither v4 I) (fun u1 Ia2 => if u1 = 0 then (some ((-1 : Int32), Ia2)) else (ob (X2_soonBits 26 4 Ia2) (fun u4 Ia5 => ob (X4_chanceOf (0 : Int32) u4 (10 : Int32) (10 : Int32) Ia5) (fun u7 Ia8 => (X4_late_l73 hF v1 v2 v3 v4 u4 (0 : Int32) u7 (0 : Int32) Ia8)))))))))))
theorem X4_late_hy : yX4_late.cls = RX4 ∧ yX4_late.cls ≠ "java/lang/invoke/MethodHandle" ∧ yX4_late.cls ≠ "java/lang/invoke/VarHandle" ∧ (parseMethodDescriptor yX4_late.desc).map (fun d => d.parameters.length) = some 4 := by decide +kernel
theorem X4_late_k29 : Cond.fieldLink RX4 29 "HatPins" "now" "LHatPins$Standing;" ∈ wsX4_late := by decide +kernel
theorem X4_late_k19 : Cond.fieldLink RX4 19 "HatPins" "laid" "LHatPins$Evening;" ∈ wsX4_late := by decide +kernel
theorem X4_late_k82 : Cond.fieldLink RX4 82 "HatPins$Evening" "goings" "I" ∈ wsX4_late := by decide +kernel
theorem X4_late_w0 : ∀ w ∈ wsX00, w ∈ wsX4_late := by decide +kernel
theorem X4_late_w4 : ∀ w ∈ wsX40, w ∈ wsX4_late := by decide +kernel
set_option maxHeartbeats 4000000 in
set_option maxRecDepth 100000 in
theorem X4_late_b131_ok {p : Program} {l : Launch} {e : Env} {s : State} {m : MethodId} {args : Array Value} {below : List Frame} {meth : Method} {c : Code} {D : va_G} {E : Nat → ClassId} {b z : Nat} {sh : List hS} {r : Int32} {I2 : hM} {v4 : Int32} {v6 : Int32} {v7 : Int32} {I : hM} (hX : hp_X p s m args meth c yX4_late.cls cX4_late 9 wsX4_late D E (some .int) yX4_late.name) (hf0 : hq_X4 sh) (h : X4_late_b131 v4 v6 v7 I = some (r, I2)) : hp_J p l e ({ frames := 6, cells := 0, slots := 0, locals := 44 * 6 }) s m args below meth c (MQ below (hp_Q D E b z (some (.int r)) sh I2) args s 0 0 (fun q : Nat => b ≤ q)) D E b z 9 sh 0 0 I 131 [(4, .int v4), (6, .int v6), (7, .int v7)] [] := by
  unfold X4_late_b131 at h
  refine hj_iload hX 1 rfl dX4_late_131 ?_
  refine hj_iload hX 2 rfl dX4_late_133 ?_
  obtain ⟨u16, Ia17, hc18, h⟩ := ob_e h
  refine hj_callS hX (sh2 := sh) (I2 := Ia17) (r := (some (.int u16))) (As := [.int v6, .int v7]) (rest := []) (st2 := [.int u16]) (X4_commonDivisor_ok hc18) gX4_late_X4_commonDivisor rfl X4_commonDivisor_hy.2 ⟨(Nat.le_of_ble_eq_true rfl), (Nat.le_of_ble_eq_true rfl)⟩ rfl (Nat.le_of_ble_eq_true rfl) ⟨(Nat.le_of_ble_eq_true rfl), (Nat.le_of_ble_eq_true rfl)⟩ rfl rfl rfl dX4_late_135 ?_
  refine hj_istore hX (Nat.le_of_ble_eq_true rfl) (lv2 := [(8, .int u16), (4, .int v4), (6, .int v6), (7, .int v7)]) rfl dX4_late_138 ?_
  refine hj_iload hX 0 rfl dX4_late_140 ?_
  refine hj_iconst hX (v := (1 : Int32)) (by decide) dX4_late_142 ?_
  refine hj_icmp_ge hX (tgt := 149) (by decide) dX4_late_143 h (fun h => ?_) (fun h => ?_)
  · refine hj_iload hX 1 rfl dX4_late_149 ?_
    refine hj_if_ne hX (tgt := 162) (by decide) dX4_late_151 h (fun h => ?_) (fun h => ?_)
    · refine hj_iload hX 3 rfl dX4_late_162 ?_
      refine hj_iload hX 0 rfl dX4_late_164 ?_
      refine hj_idiv hX dX4_late_166 h (fun h => ?_)
      exact hj_iret hX dX4_late_167 h
    · refine hj_iload hX 2 rfl dX4_late_154 ?_
      refine hj_iload hX 0 rfl dX4_late_156 ?_
      refine hj_idiv hX dX4_late_158 h (fun h => ?_)
      refine hj_goto hX (tgt := 167) (by decide) dX4_late_159 ?_
      exact hj_iret hX dX4_late_167 h
  · refine hj_bipush hX (v := (-4 : Int32)) (by decide) dX4_late_146 ?_
    exact hj_iret hX dX4_late_148 h
set_option maxHeartbeats 4000000 in
set_option maxRecDepth 100000 in
theorem X4_late_h73_ok {p : Program} {l : Launch} {e : Env} {s : State} {m : MethodId} {args : Array Value} {below : List Frame} {meth : Method} {c : Code} {D : va_G} {E : Nat → ClassId} {b z : Nat} {sh : List hS} {r : Int32} {I2 : hM} {k73 : Int32 → Int32 → Int32 → Int32 → Int32 → Int32 → Int32 → Int32 → hM → Option (Int32 × hM)} {v1 : Int32} {v2 : Int32} {v3 : Int32} {v4 : Int32} {v5 : Int32} {v6 : Int32} {v7 : Int32} {v8 : Int32} {I : hM} (hX : hp_X p s m args meth c yX4_late.cls cX4_late 9 wsX4_late D E (some .int) yX4_late.name) (hf0 : hq_X4 sh) (hk73 : ∀ (v1 : Int32) (v2 : Int32) (v3 : Int32) (v4 : Int32) (v5 : Int32) (v6 : Int32) (v7 : Int32) (v8 : Int32) (I : hM), k73 v1 v2 v3 v4 v5 v6 v7 v8 I = some (r, I2) → hp_J p l e ({ frames := 6, cells := 0, slots := 0, locals := 44 * 6 }) s m args below meth c (MQ below (hp_Q D E b z (some (.int r)) sh I2) args s 0 0 (fun q : Nat => b ≤ q)) D E b z 9 sh 0 0 I 73 [(0, .ref 0), (1, .int v1), (2, .int v2), (3, .int v3), (4, .int v4), (5, .int v5), (6, .int v6), (7, .int v7), (8, .int v8)] []) (h : X4_late_h73 k73 v1 v2 v3 v4 v5 v6 v7 v8 I = some (r, I2)) : hp_J p l e ({ frames := 6, cells := 0, slots := 0, locals := 44 * 6 }) s m args below meth c (MQ below (hp_Q D E b z (some (.int r)) sh I2) args s 0 0 (fun q : Nat => b ≤ q)) D E b z 9 sh 0 0 I 73 [(0, .ref 0), (1, .int v1), (2, .int v2), (3, .int v3), (4, .int v4), (5, .int v5), (6, .int v6), (7, .int v7), (8, .int v8)] [] := by
  unfold X4_late_h73 at h
  refine hj_iload hX 8 rfl dX4_late_73 ?_
  refine hj_iconst hX (v := (1 : Int32)) (by decide) dX4_late_75 ?_
  refine hj_aload_n hX rfl 0 rfl dX4_late_76 ?_
  refine hj_getr hX (j := 1) hf0.1 rfl rfl X4_late_w4 (Nat.le_of_ble_eq_true rfl) rfl X4_late_k19 dX4_late_77 ?_
  refine hj_geti hX (j := 0) hf0.2.2.1.1 rfl rfl X4_late_w0 (Nat.le_of_ble_eq_true rfl) rfl X4_late_k82 dX4_late_80 ?_
  refine hj_ishl hX dX4_late_83 ?_
  refine hj_icmp_ge hX (tgt := 131) (by decide) dX4_late_84 h (fun h => ?_) (fun h => ?_)
  · refine hj_lv hX [4, 6, 7] (lv2 := [(4, .int v4), (6, .int v6), (7, .int v7)]) rfl ?_
    exact X4_late_b131_ok hX hf0 h
  · refine hj_iload hX 8 rfl dX4_late_87 ?_
    refine hj_iload hX 5 rfl dX4_late_89 ?_
    refine hj_iconst hX (v := (-1 : Int32)) (by decide) dX4_late_91 ?_
    refine hj_ixor hX dX4_late_92 ?_
    refine hj_iand hX dX4_late_93 ?_
    refine hj_if_ne hX (tgt := 125) (by decide) dX4_late_94 h (fun h => ?_) (fun h => ?_)
    · refine hj_iinc hX (k1 := 8) (v := (v8 + (1 : Int32))) rfl rfl (Nat.le_of_ble_eq_true rfl) (lv2 := [(8, .int (v8 + (1 : Int32))), (0, .ref 0), (1, .int v1), (2, .int v2), (3, .int v3), (4, .int v4), (5, .int v5), (6, .int v6), (7, .int v7)]) rfl dX4_late_125 ?_
      refine hj_goto hX (tgt := 73) (by decide) dX4_late_128 ?_
      refine hj_lv hX [1, 2, 3, 4, 5, 6, 7, 8, 0] (lv2 := [(0, .ref 0), (1, .int v1), (2, .int v2), (3, .int v3), (4, .int v4), (5, .int v5), (6, .int v6), (7, .int v7), (8, .int (v8 + (1 : Int32)))]) rfl ?_
      exact hk73 _ _ _ _ _ _ _ _ _ h
    · refine hj_aload_n hX rfl 0 rfl dX4_late_97 ?_
      refine hj_iload hX 8 rfl dX4_late_98 ?_
      refine hj_iload_n hX rfl 1 rfl dX4_late_100 ?_
      obtain ⟨u10, Ia11, hc12, h⟩ := ob_e h
      refine hj_callV hX (sh2 := sh) (I2 := Ia11) (r := (some (.int u10))) (As := [.int v8, .int v1]) (rest := []) (st2 := [.int u10]) (X4_hadLate_ok hf0 hc12) gX4_late_X4_hadLate rfl X4_hadLate_hy ⟨(Nat.le_of_ble_eq_true rfl), (Nat.le_of_ble_eq_true rfl)⟩ rfl hf0.1 rfl (Nat.le_of_ble_eq_true rfl) ⟨(Nat.le_of_ble_eq_true rfl), (Nat.le_of_ble_eq_true rfl)⟩ rfl rfl rfl dX4_late_101 ?_
      refine hj_iload_n hX rfl 3 rfl dX4_late_104 ?_
      refine hj_icmp_lt hX (tgt := 125) (by decide) dX4_late_105 h (fun h => ?_) (fun h => ?_)
      · refine hj_iinc hX (k1 := 8) (v := (v8 + (1 : Int32))) rfl rfl (Nat.le_of_ble_eq_true rfl) (lv2 := [(8, .int (v8 + (1 : Int32))), (0, .ref 0), (1, .int v1), (2, .int v2), (3, .int v3), (4, .int v4), (5, .int v5), (6, .int v6), (7, .int v7)]) rfl dX4_late_125 ?_
        refine hj_goto hX (tgt := 73) (by decide) dX4_late_128 ?_
        refine hj_lv hX [1, 2, 3, 4, 5, 6, 7, 8, 0] (lv2 := [(0, .ref 0), (1, .int v1), (2, .int v2), (3, .int v3), (4, .int v4), (5, .int v5), (6, .int v6), (7, .int v7), (8, .int (v8 + (1 : Int32)))]) rfl ?_
        exact hk73 _ _ _ _ _ _ _ _ _ h
      · refine hj_iload hX 6 rfl dX4_late_108 ?_
        refine hj_iload hX 8 rfl dX4_late_110 ?_
        refine hj_iload hX 5 rfl dX4_late_112 ?_
        refine hj_iload_n hX rfl 2 rfl dX4_late_114 ?_
        refine hj_bipush hX (v := (10 : Int32)) (by decide) dX4_late_115 ?_
        refine hj_iload_n hX rfl 2 rfl dX4_late_117 ?_
        refine hj_isub hX dX4_late_118 ?_
        obtain ⟨u13, Ia14, hc15, h⟩ := ob_e h
        refine hj_callS hX (sh2 := sh) (I2 := Ia14) (r := (some (.int u13))) (As := [.int v8, .int v5, .int v2, .int ((10 : Int32) - v2)]) (rest := [.int v6]) (st2 := [.int u13, .int v6]) (X4_chanceOf_ok hc15) gX4_late_X4_chanceOf rfl X4_chanceOf_hy.2 ⟨(Nat.le_of_ble_eq_true rfl), (Nat.le_of_ble_eq_true rfl)⟩ rfl (Nat.le_of_ble_eq_true rfl) ⟨(Nat.le_of_ble_eq_true rfl), (Nat.le_of_ble_eq_true rfl)⟩ rfl rfl rfl dX4_late_119 ?_
        refine hj_iadd hX dX4_late_122 ?_
        refine hj_istore hX (Nat.le_of_ble_eq_true rfl) (lv2 := [(6, .int (v6 + u13)), (0, .ref 0), (1, .int v1), (2, .int v2), (3, .int v3), (4, .int v4), (5, .int v5), (7, .int v7), (8, .int v8)]) rfl dX4_late_123 ?_
        refine hj_iinc hX (k1 := 8) (v := (v8 + (1 : Int32))) rfl rfl (Nat.le_of_ble_eq_true rfl) (lv2 := [(8, .int (v8 + (1 : Int32))), (6, .int (v6 + u13)), (0, .ref 0), (1, .int v1), (2, .int v2), (3, .int v3), (4, .int v4), (5, .int v5), (7, .int v7)]) rfl dX4_late_125 ?_
        refine hj_goto hX (tgt := 73) (by decide) dX4_late_128 ?_
        refine hj_lv hX [2, 3, 4, 5, 6, 7, 1, 8, 0] (lv2 := [(0, .ref 0), (1, .int v1), (2, .int v2), (3, .int v3), (4, .int v4), (5, .int v5), (6, .int (v6 + u13)), (7, .int v7), (8, .int (v8 + (1 : Int32)))]) rfl ?_
        exact hk73 _ _ _ _ _ _ _ _ _ h
set_option maxHeartbeats 4000000 in
set_option maxRecDepth 100000 in
theorem X4_late_l73_ok {p : Program} {l : Launch} {e : Env} {s : State} {m : MethodId} {args : Array Value} {below : List Frame} {meth : Method} {c : Code} {D : va_G} {E : Nat → ClassId} {b z : Nat} {sh : List hS} {r : Int32} {I2 : hM} (hX : hp_X p s m args meth c yX4_late.cls cX4_late 9 wsX4_late D E (some .int) yX4_late.name) (hf0 : hq_X4 sh) : ∀ (n : Nat) (v1 : Int32) (v2 : Int32) (v3 : Int32) (v4 : Int32) (v5 : Int32) (v6 : Int32) (v7 : Int32) (v8 : Int32) (I : hM), X4_late_l73 n v1 v2 v3 v4 v5 v6 v7 v8 I = some (r, I2) → hp_J p l e ({ frames := 6, cells := 0, slots := 0, locals := 44 * 6 }) s m args below meth c (MQ below (hp_Q D E b z (some (.int r)) sh I2) args s 0 0 (fun q : Nat => b ≤ q)) D E b z 9 sh 0 0 I 73 [(0, .ref 0), (1, .int v1), (2, .int v2), (3, .int v3), (4, .int v4), (5, .int v5), (6, .int v6), (7, .int v7), (8, .int v8)] [] := by
  intro n
  induction n with
  | zero => exact fun _ _ _ _ _ _ _ _ _ h => nomatch h
  | succ n ih => exact fun _ _ _ _ _ _ _ _ _ h => X4_late_h73_ok hX hf0 ih h
set_option maxHeartbeats 4000000 in
set_option maxRecDepth 100000 in
theorem X4_late_ok {sh : List hS} {r : Int32} {I I2 : hM} {v1 : Int32} {v2 : Int32} {v3 : Int32} {v4 : Int32} (hf0 : hq_X4 sh) (h : X4_late v1 v2 v3 v4 I = some (r, I2)) : hp_C yX4_late wsX4_late 6 0 0 sh I [.ref 0, .int v1, .int v2, .int v3, .int v4] (some (.int r)) sh I2 := hp_start (cc := cX4_late) (maxL := 9) (ret := (some .int)) [(0, .ref 0), (1, .int v1), (2, .int v2), (3, .int v3), (4, .int v4)] (by decide) rfl (fun _ _ => rfl) (fun _ _ => Nat.le_of_ble_eq_true rfl) (fun p l e s m below meth c D E b z hX _ => by
  unfold X4_late at h
  refine hj_iload_n hX rfl 1 rfl dX4_late_0 ?_
  refine hj_iconst hX (v := (1 : Int32)) (by decide) dX4_late_1 ?_
  refine hj_icmp_lt hX (tgt := 40) (by decide) dX4_late_2 h (fun h => ?_) (fun h => ?_)
  · refine hj_iconst hX (v := (-1 : Int32)) (by decide) dX4_late_40 ?_
    exact hj_iret hX dX4_late_41 h
  · refine hj_iload_n hX rfl 1 rfl dX4_late_5 ?_
    refine hj_bipush hX (v := (20 : Int32)) (by decide) dX4_late_6 ?_
    refine hj_icmp_gt hX (tgt := 40) (by decide) dX4_late_8 h (fun h => ?_) (fun h => ?_)
    · refine hj_iconst hX (v := (-1 : Int32)) (by decide) dX4_late_40 ?_
      exact hj_iret hX dX4_late_41 h
    · refine hj_iload_n hX rfl 2 rfl dX4_late_11 ?_
      refine hj_if_lt hX (tgt := 40) (by decide) dX4_late_12 h (fun h => ?_) (fun h => ?_)
      · refine hj_iconst hX (v := (-1 : Int32)) (by decide) dX4_late_40 ?_
        exact hj_iret hX dX4_late_41 h
      · refine hj_iload_n hX rfl 2 rfl dX4_late_15 ?_
        refine hj_bipush hX (v := (10 : Int32)) (by decide) dX4_late_16 ?_
        refine hj_icmp_gt hX (tgt := 40) (by decide) dX4_late_18 h (fun h => ?_) (fun h => ?_)
        · refine hj_iconst hX (v := (-1 : Int32)) (by decide) dX4_late_40 ?_
          exact hj_iret hX dX4_late_41 h
        · refine hj_iload_n hX rfl 3 rfl dX4_late_21 ?_
          refine hj_if_lt hX (tgt := 40) (by decide) dX4_late_22 h (fun h => ?_) (fun h => ?_)
          · refine hj_iconst hX (v := (-1 : Int32)) (by decide) dX4_late_40 ?_
            exact hj_iret hX dX4_late_41 h
          · refine hj_iload_n hX rfl 3 rfl dX4_late_25 ?_
            refine hj_sipush hX (v := (999 : Int32)) (by decide) dX4_late_26 ?_
            refine hj_icmp_gt hX (tgt := 40) (by decide) dX4_late_29 h (fun h => ?_) (fun h => ?_)
            · refine hj_iconst hX (v := (-1 : Int32)) (by decide) dX4_late_40 ?_
              exact hj_iret hX dX4_late_41 h
            · refine hj_iload hX 4 rfl dX4_late_32 ?_
              obtain ⟨u1, Ia2, hc3, h⟩ := ob_e h
              refine hj_callS hX (sh2 := sh) (I2 := Ia2) (r := (some (.int u1))) (As := [.int v4]) (rest := []) (st2 := [.int u1]) (X4_isEither_ok hc3) gX4_late_X4_isEither rfl X4_isEither_hy.2 ⟨(Nat.le_of_ble_eq_true rfl), (Nat.le_of_ble_eq_true rfl)⟩ rfl (Nat.le_of_ble_eq_true rfl) ⟨(Nat.le_of_ble_eq_true rfl), (Nat.le_of_ble_eq_true rfl)⟩ rfl rfl rfl dX4_late_34 ?_
              refine hj_if_ne hX (tgt := 42) (by decide) dX4_late_37 h (fun h => ?_) (fun h => ?_)
              · refine hj_aload_n hX rfl 0 rfl dX4_late_42 ?_
                refine hj_getr hX (j := 3) hf0.1 rfl rfl X4_late_w4 (Nat.le_of_ble_eq_true rfl) rfl X4_late_k29 dX4_late_43 ?_
                refine hj_aload_n hX rfl 0 rfl dX4_late_46 ?_
                refine hj_getr hX (j := 1) hf0.1 rfl rfl X4_late_w4 (Nat.le_of_ble_eq_true rfl) rfl X4_late_k19 dX4_late_47 ?_
                obtain ⟨u4, Ia5, hc6, h⟩ := ob_e h
                refine hj_callV hX (sh2 := sh) (I2 := Ia5) (r := (some (.int u4))) (As := [.ref 4]) (rest := []) (st2 := [.int u4]) (X2_soonBits_ok hf0.2.2.2.2.1 hf0.2.2.1 hc6) gX4_late_X2_soonBits rfl X2_soonBits_hy ⟨(Nat.le_of_ble_eq_true rfl), (Nat.le_of_ble_eq_true rfl)⟩ rfl hf0.2.2.2.2.1.1 rfl (Nat.le_of_ble_eq_true rfl) ⟨(Nat.le_of_ble_eq_true rfl), (Nat.le_of_ble_eq_true rfl)⟩ rfl rfl rfl dX4_late_50 ?_
                refine hj_istore hX (Nat.le_of_ble_eq_true rfl) (lv2 := [(5, .int u4), (0, .ref 0), (1, .int v1), (2, .int v2), (3, .int v3), (4, .int v4)]) rfl dX4_late_53 ?_
                refine hj_iconst hX (v := (0 : Int32)) (by decide) dX4_late_55 ?_
                refine hj_istore hX (Nat.le_of_ble_eq_true rfl) (lv2 := [(6, .int (0 : Int32)), (5, .int u4), (0, .ref 0), (1, .int v1), (2, .int v2), (3, .int v3), (4, .int v4)]) rfl dX4_late_56 ?_
                refine hj_iconst hX (v := (0 : Int32)) (by decide) dX4_late_58 ?_
                refine hj_iload hX 1 rfl dX4_late_59 ?_
                refine hj_bipush hX (v := (10 : Int32)) (by decide) dX4_late_61 ?_
                refine hj_bipush hX (v := (10 : Int32)) (by decide) dX4_late_63 ?_
                obtain ⟨u7, Ia8, hc9, h⟩ := ob_e h
                refine hj_callS hX (sh2 := sh) (I2 := Ia8) (r := (some (.int u7))) (As := [.int (0 : Int32), .int u4, .int (10 : Int32), .int (10 : Int32)]) (rest := []) (st2 := [.int u7]) (X4_chanceOf_ok hc9) gX4_late_X4_chanceOf rfl X4_chanceOf_hy.2 ⟨(Nat.le_of_ble_eq_true rfl), (Nat.le_of_ble_eq_true rfl)⟩ rfl (Nat.le_of_ble_eq_true rfl) ⟨(Nat.le_of_ble_eq_true rfl), (Nat.le_of_ble_eq_true rfl)⟩ rfl rfl rfl dX4_late_65 ?_
                refine hj_istore hX (Nat.le_of_ble_eq_true rfl) (lv2 := [(7, .int u7), (6, .int (0 : Int32)), (5, .int u4), (0, .ref 0), (1, .int v1), (2, .int v2), (3, .int v3), (4, .int v4)]) rfl dX4_late_68 ?_
                refine hj_iconst hX (v := (0 : Int32)) (by decide) dX4_late_70 ?_
                refine hj_istore hX (Nat.le_of_ble_eq_true rfl) (lv2 := [(8, .int (0 : Int32)), (7, .int u7), (6, .int (0 : Int32)), (5, .int u4), (0, .ref 0), (1, .int v1), (2, .int v2), (3, .int v3), (4, .int v4)]) rfl dX4_late_71 ?_
                refine hj_lv hX [4, 5, 6, 7, 8, 3, 2, 1, 0] (lv2 := [(0, .ref 0), (1, .int v1), (2, .int v2), (3, .int v3), (4, .int v4), (5, .int u4), (6, .int (0 : Int32)), (7, .int u7), (8, .int (0 : Int32))]) rfl ?_
                exact X4_late_l73_ok hX hf0 hF _ _ _ _ _ _ _ _ _ h
              · refine hj_iconst hX (v := (-1 : Int32)) (by decide) dX4_late_40 ?_
                exact hj_iret hX dX4_late_41 h)
def X4_draw (v0 : Int32) (v1 : Int32) (I : hM) : Option (Int32 × hM) := gd (decide (¬ (65521 : Int64) = 0)) (some ((((((((7919 : Int64) * (v0).toInt64) + ((6151 : Int64) * (v1).toInt64)) + (1 : Int64)) * ((((7919 : Int64) * (v0).toInt64) + ((6151 : Int64) * (v1).toInt64)) + (1 : Int64))) - (((((7919 : Int64) * (v0).toInt64) + ((6151 : Int64) * (v1).toInt64)) + (1 : Int64)) * ((((7919 : Int64) * (v0).toInt64) + ((6151 : Int64) * (v1).toInt64)) + (1 : Int64))) / (65521 : Int64) * (65521 : Int64))).toInt32, I))
theorem X4_draw_hy : yX4_draw.cls = RX4 ∧ yX4_draw.cls ≠ "java/lang/invoke/MethodHandle" ∧ yX4_draw.cls ≠ "java/lang/invoke/VarHandle" ∧ (parseMethodDescriptor yX4_draw.desc).map (fun d => d.parameters.length) = some 2 := by decide +kernel
theorem X4_draw_mc240 : Cond.constantLong RX4 240 (7919) ∈ wsX4_draw := by decide +kernel
theorem X4_draw_mc242 : Cond.constantLong RX4 242 (6151) ∈ wsX4_draw := by decide +kernel
theorem X4_draw_mc244 : Cond.constantLong RX4 244 (65521) ∈ wsX4_draw := by decide +kernel
set_option maxHeartbeats 4000000 in
set_option maxRecDepth 100000 in
theorem X4_draw_ok {sh : List hS} {r : Int32} {I I2 : hM} {v0 : Int32} {v1 : Int32} (h : X4_draw v0 v1 I = some (r, I2)) : hp_C yX4_draw wsX4_draw 0 0 0 sh I [.int v0, .int v1] (some (.int r)) sh I2 := hp_start (cc := cX4_draw) (maxL := 4) (ret := (some .int)) [(0, .int v0), (1, .int v1)] (by decide) rfl (fun _ _ => rfl) (fun _ _ => Nat.le_of_ble_eq_true rfl) (fun p l e s m below meth c D E b z hX _ => by
  unfold X4_draw at h
  refine hj_ldc2 hX (v := (7919 : Int64)) X4_draw_mc240 dX4_draw_0 ?_
  refine hj_iload_n hX rfl 0 rfl dX4_draw_3 ?_
  refine hj_i2l hX dX4_draw_4 ?_
  refine hj_lmul hX dX4_draw_5 ?_
  refine hj_ldc2 hX (v := (6151 : Int64)) X4_draw_mc242 dX4_draw_6 ?_
  refine hj_iload_n hX rfl 1 rfl dX4_draw_9 ?_
  refine hj_i2l hX dX4_draw_10 ?_
  refine hj_lmul hX dX4_draw_11 ?_
  refine hj_ladd hX dX4_draw_12 ?_
  refine hj_lconst hX (v := (1 : Int64)) (by decide) dX4_draw_13 ?_
  refine hj_ladd hX dX4_draw_14 ?_
  refine hj_lstore_n hX rfl (Nat.le_of_ble_eq_true rfl) (lv2 := [(2, .long ((((7919 : Int64) * (v0).toInt64) + ((6151 : Int64) * (v1).toInt64)) + (1 : Int64))), (0, .int v0), (1, .int v1)]) rfl dX4_draw_15 ?_
  refine hj_lload_n hX rfl 0 rfl dX4_draw_16 ?_
  refine hj_lload_n hX rfl 0 rfl dX4_draw_17 ?_
  refine hj_lmul hX dX4_draw_18 ?_
  refine hj_ldc2 hX (v := (65521 : Int64)) X4_draw_mc244 dX4_draw_19 ?_
  refine hj_lrem hX dX4_draw_22 h (fun h => ?_)
  refine hj_l2i hX dX4_draw_23 ?_
  exact hj_iret hX dX4_draw_24 h)
def X4_actInTrial_b96 (v4 : Int32) (v5 : Int32) (v7 : Int32) (I : hM) : Option (Int32 × hM) := if v4 = (2 : Int32) then (if v5 = v7 then (some (0, I)) else (gd (hx v5 4) (if (I 35 (v5).toNatClampNeg) ≤ 0 then (some (0, I)) else (gd (hx v7 4) (if (9 : Int32) ≤ (I 35 (v7).toNatClampNeg) then (some (0, I)) else (ob (X2_lendPin 31 v5 v7 I) (fun u7 Ia8 => some (0, Ia8)))))))) else (some (0, I))
def X4_actInTrial (v1 : Int32) (I : hM) : Option (Int32 × hM) := if (I 4 2) < (1 : Int32) then (some (0, I)) else (if (1 : Int32) ≤ (I 4 0) then (gd (decide (¬ (8 : Int32) = 0)) (gd (decide (¬ (8 : Int32) = 0)) (gd (decide (¬ (I 4 2) = 0)) (gd (decide (¬ (64 : Int32) = 0)) (gd (decide (¬ (I 4 0) = 0)) (gd (decide (¬ (64 : Int32) = 0)) (gd (decide (¬ (I 4 2) = 0)) (if (1 : Int32) < (v1 - v1 / (8 : Int32) * (8 : Int32)) then ((X4_actInTrial_b96 (v1 - v1 / (8 : Int32) * (8 : Int32)) ((v1 / (8 : Int32)) - (v1 / (8 : Int32)) / (I 4 2) * (I 4 2)) ((v1 / (64 : Int32)) - (v1 / (64 : Int32)) / (I 4 2) * (I 4 2)) I)) else (ob (X2_canPin 31 4 ((v1 / (8 : Int32)) - (v1 / (8 : Int32)) / (I 4 2) * (I 4 2)) ((v1 / (64 : Int32)) - (v1 / (64 : Int32)) / (I 4 0) * (I 4 0)) I) (fun u1 Ia2 => if u1 = 0 then ((X4_actInTrial_b96 (v1 - v1 / (8 : Int32) * (8 : Int32)) ((v1 / (8 : Int32)) - (v1 / (8 : Int32)) / (I 4 2) * (I 4 2)) ((v1 / (64 : Int32)) - (v1 / (64 : Int32)) / (I 4 2) * (I 4 2)) Ia2)) else (ob (X2_pinBy 31 4 ((v1 / (8 : Int32)) - (v1 / (8 : Int32)) / (I 4 2) * (I 4 2)) ((v1 / (64 : Int32)) - (v1 / (64 : Int32)) / (I 4 0) * (I 4 0)) Ia2) (fun u4 Ia5 => (X4_actInTrial_b96 (v1 - v1 / (8 : Int32) * (8 : Int32)) ((v1 / (8 : Int32)) - (v1 / (8 : Int32)) / (I 4 2) * (I 4 2)) ((v1 / (64 : Int32)) - (v1 / (64 : Int32)) / (I 4 2) * (I 4 2)) Ia5))))))))))))) else (some (0, I)))
theorem X4_actInTrial_hy : yX4_actInTrial.cls = RX4 ∧ yX4_actInTrial.cls ≠ "java/lang/invoke/MethodHandle" ∧ yX4_actInTrial.cls ≠ "java/lang/invoke/VarHandle" ∧ (parseMethodDescriptor yX4_actInTrial.desc).map (fun d => d.parameters.length) = some 1 := by decide +kernel
theorem X4_actInTrial_k19 : Cond.fieldLink RX4 19 "HatPins" "laid" "LHatPins$Evening;" ∈ wsX4_actInTrial := by decide +kernel
theorem X4_actInTrial_k193 : Cond.fieldLink RX4 193 "HatPins$Evening" "ladies" "I" ∈ wsX4_actInTrial := by decide +kernel
theorem X4_actInTrial_k82 : Cond.fieldLink RX4 82 "HatPins$Evening" "goings" "I" ∈ wsX4_actInTrial := by decide +kernel
theorem X4_actInTrial_k33 : Cond.fieldLink RX4 33 "HatPins" "trial" "LHatPins$Standing;" ∈ wsX4_actInTrial := by decide +kernel
theorem X4_actInTrial_k120 : Cond.fieldLink RX4 120 "HatPins$Standing" "pins" "[I" ∈ wsX4_actInTrial := by decide +kernel
theorem X4_actInTrial_w0 : ∀ w ∈ wsX00, w ∈ wsX4_actInTrial := by decide +kernel
theorem X4_actInTrial_w2 : ∀ w ∈ wsX20, w ∈ wsX4_actInTrial := by decide +kernel
theorem X4_actInTrial_w4 : ∀ w ∈ wsX40, w ∈ wsX4_actInTrial := by decide +kernel
set_option maxHeartbeats 4000000 in
set_option maxRecDepth 100000 in
theorem X4_actInTrial_b96_ok {p : Program} {l : Launch} {e : Env} {s : State} {m : MethodId} {args : Array Value} {below : List Frame} {meth : Method} {c : Code} {D : va_G} {E : Nat → ClassId} {b z : Nat} {sh : List hS} {r : Int32} {I2 : hM} {v4 : Int32} {v5 : Int32} {v7 : Int32} {I : hM} (hX : hp_X p s m args meth c yX4_actInTrial.cls cX4_actInTrial 8 wsX4_actInTrial D E none yX4_actInTrial.name) (hf0 : hq_X4 sh) (h : X4_actInTrial_b96 v4 v5 v7 I = some (r, I2)) : hp_J p l e ({ frames := 3, cells := 0, slots := 0, locals := 44 * 3 }) s m args below meth c (MQ below (hp_Q D E b z none sh I2) args s 0 0 (fun q : Nat => b ≤ q)) D E b z 8 sh 0 0 I 96 [(0, .ref 0), (4, .int v4), (5, .int v5), (7, .int v7)] [] := by
  unfold X4_actInTrial_b96 at h
  refine hj_iload hX 1 rfl dX4_actInTrial_96 ?_
  refine hj_iconst hX (v := (2 : Int32)) (by decide) dX4_actInTrial_98 ?_
  refine hj_icmp_ne hX (tgt := 148) (by decide) dX4_actInTrial_99 h (fun h => ?_) (fun h => ?_)
  · exact hj_vret hX dX4_actInTrial_148 h
  · refine hj_iload hX 2 rfl dX4_actInTrial_102 ?_
    refine hj_iload hX 3 rfl dX4_actInTrial_104 ?_
    refine hj_icmp_eq hX (tgt := 148) (by decide) dX4_actInTrial_106 h (fun h => ?_) (fun h => ?_)
    · exact hj_vret hX dX4_actInTrial_148 h
    · refine hj_aload_n hX rfl 0 rfl dX4_actInTrial_109 ?_
      refine hj_getr hX (j := 4) hf0.1 rfl rfl X4_actInTrial_w4 (Nat.le_of_ble_eq_true rfl) rfl X4_actInTrial_k33 dX4_actInTrial_110 ?_
      refine hj_getr hX (j := 5) hf0.2.2.2.2.2.1.1 rfl rfl X4_actInTrial_w2 (Nat.le_of_ble_eq_true rfl) rfl X4_actInTrial_k120 dX4_actInTrial_113 ?_
      refine hj_iload hX 2 rfl dX4_actInTrial_116 ?_
      refine hj_iald hX hf0.2.2.2.2.2.1.2.2.2.2 dX4_actInTrial_118 h (fun h => ?_)
      refine hj_if_le hX (tgt := 148) (by decide) dX4_actInTrial_119 h (fun h => ?_) (fun h => ?_)
      · exact hj_vret hX dX4_actInTrial_148 h
      · refine hj_aload_n hX rfl 0 rfl dX4_actInTrial_122 ?_
        refine hj_getr hX (j := 4) hf0.1 rfl rfl X4_actInTrial_w4 (Nat.le_of_ble_eq_true rfl) rfl X4_actInTrial_k33 dX4_actInTrial_123 ?_
        refine hj_getr hX (j := 5) hf0.2.2.2.2.2.1.1 rfl rfl X4_actInTrial_w2 (Nat.le_of_ble_eq_true rfl) rfl X4_actInTrial_k120 dX4_actInTrial_126 ?_
        refine hj_iload hX 3 rfl dX4_actInTrial_129 ?_
        refine hj_iald hX hf0.2.2.2.2.2.1.2.2.2.2 dX4_actInTrial_131 h (fun h => ?_)
        refine hj_bipush hX (v := (9 : Int32)) (by decide) dX4_actInTrial_132 ?_
        refine hj_icmp_ge hX (tgt := 148) (by decide) dX4_actInTrial_134 h (fun h => ?_) (fun h => ?_)
        · exact hj_vret hX dX4_actInTrial_148 h
        · refine hj_aload_n hX rfl 0 rfl dX4_actInTrial_137 ?_
          refine hj_getr hX (j := 4) hf0.1 rfl rfl X4_actInTrial_w4 (Nat.le_of_ble_eq_true rfl) rfl X4_actInTrial_k33 dX4_actInTrial_138 ?_
          refine hj_iload hX 2 rfl dX4_actInTrial_141 ?_
          refine hj_iload hX 3 rfl dX4_actInTrial_143 ?_
          obtain ⟨u7, Ia8, hc9, h⟩ := ob_e h
          refine hj_callV hX (sh2 := sh) (I2 := Ia8) (r := none) (As := [.int v5, .int v7]) (rest := []) (st2 := []) (X2_lendPin_ok hf0.2.2.2.2.2.1 hc9) gX4_actInTrial_X2_lendPin rfl X2_lendPin_hy ⟨(Nat.le_of_ble_eq_true rfl), (Nat.le_of_ble_eq_true rfl)⟩ rfl hf0.2.2.2.2.2.1.1 rfl (Nat.le_of_ble_eq_true rfl) ⟨(Nat.le_of_ble_eq_true rfl), (Nat.le_of_ble_eq_true rfl)⟩ rfl rfl rfl dX4_actInTrial_145 ?_
          exact hj_vret hX dX4_actInTrial_148 h
set_option maxHeartbeats 4000000 in
set_option maxRecDepth 100000 in
theorem X4_actInTrial_ok {sh : List hS} {r : Int32} {I I2 : hM} {v1 : Int32} (hf0 : hq_X4 sh) (h : X4_actInTrial v1 I = some (r, I2)) : hp_C yX4_actInTrial wsX4_actInTrial 3 0 0 sh I [.ref 0, .int v1] none sh I2 := hp_start (cc := cX4_actInTrial) (maxL := 8) (ret := none) [(0, .ref 0), (1, .int v1)] (by decide) rfl (fun _ _ => rfl) (fun _ _ => Nat.le_of_ble_eq_true rfl) (fun p l e s m below meth c D E b z hX _ => by
  unfold X4_actInTrial at h
  refine hj_aload_n hX rfl 0 rfl dX4_actInTrial_0 ?_
  refine hj_getr hX (j := 1) hf0.1 rfl rfl X4_actInTrial_w4 (Nat.le_of_ble_eq_true rfl) rfl X4_actInTrial_k19 dX4_actInTrial_1 ?_
  refine hj_geti hX (j := 2) hf0.2.2.1.1 rfl rfl X4_actInTrial_w0 (Nat.le_of_ble_eq_true rfl) rfl X4_actInTrial_k193 dX4_actInTrial_4 ?_
  refine hj_istore_n hX rfl (Nat.le_of_ble_eq_true rfl) (lv2 := [(2, .int (I 4 2)), (0, .ref 0), (1, .int v1)]) rfl dX4_actInTrial_7 ?_
  refine hj_aload_n hX rfl 1 rfl dX4_actInTrial_8 ?_
  refine hj_getr hX (j := 1) hf0.1 rfl rfl X4_actInTrial_w4 (Nat.le_of_ble_eq_true rfl) rfl X4_actInTrial_k19 dX4_actInTrial_9 ?_
  refine hj_geti hX (j := 0) hf0.2.2.1.1 rfl rfl X4_actInTrial_w0 (Nat.le_of_ble_eq_true rfl) rfl X4_actInTrial_k82 dX4_actInTrial_12 ?_
  refine hj_istore_n hX rfl (Nat.le_of_ble_eq_true rfl) (lv2 := [(3, .int (I 4 0)), (2, .int (I 4 2)), (0, .ref 0), (1, .int v1)]) rfl dX4_actInTrial_15 ?_
  refine hj_iload_n hX rfl 1 rfl dX4_actInTrial_16 ?_
  refine hj_iconst hX (v := (1 : Int32)) (by decide) dX4_actInTrial_17 ?_
  refine hj_icmp_lt hX (tgt := 26) (by decide) dX4_actInTrial_18 h (fun h => ?_) (fun h => ?_)
  · exact hj_vret hX dX4_actInTrial_26 h
  · refine hj_iload_n hX rfl 0 rfl dX4_actInTrial_21 ?_
    refine hj_iconst hX (v := (1 : Int32)) (by decide) dX4_actInTrial_22 ?_
    refine hj_icmp_ge hX (tgt := 27) (by decide) dX4_actInTrial_23 h (fun h => ?_) (fun h => ?_)
    · refine hj_iload_n hX rfl 3 rfl dX4_actInTrial_27 ?_
      refine hj_bipush hX (v := (8 : Int32)) (by decide) dX4_actInTrial_28 ?_
      refine hj_irem hX dX4_actInTrial_30 h (fun h => ?_)
      refine hj_istore hX (Nat.le_of_ble_eq_true rfl) (lv2 := [(4, .int (v1 - v1 / (8 : Int32) * (8 : Int32))), (3, .int (I 4 0)), (2, .int (I 4 2)), (0, .ref 0), (1, .int v1)]) rfl dX4_actInTrial_31 ?_
      refine hj_iload_n hX rfl 4 rfl dX4_actInTrial_33 ?_
      refine hj_bipush hX (v := (8 : Int32)) (by decide) dX4_actInTrial_34 ?_
      refine hj_idiv hX dX4_actInTrial_36 h (fun h => ?_)
      refine hj_iload_n hX rfl 2 rfl dX4_actInTrial_37 ?_
      refine hj_irem hX dX4_actInTrial_38 h (fun h => ?_)
      refine hj_istore hX (Nat.le_of_ble_eq_true rfl) (lv2 := [(5, .int ((v1 / (8 : Int32)) - (v1 / (8 : Int32)) / (I 4 2) * (I 4 2))), (4, .int (v1 - v1 / (8 : Int32) * (8 : Int32))), (3, .int (I 4 0)), (2, .int (I 4 2)), (0, .ref 0), (1, .int v1)]) rfl dX4_actInTrial_39 ?_
      refine hj_iload_n hX rfl 5 rfl dX4_actInTrial_41 ?_
      refine hj_bipush hX (v := (64 : Int32)) (by decide) dX4_actInTrial_42 ?_
      refine hj_idiv hX dX4_actInTrial_44 h (fun h => ?_)
      refine hj_iload_n hX rfl 2 rfl dX4_actInTrial_45 ?_
      refine hj_irem hX dX4_actInTrial_46 h (fun h => ?_)
      refine hj_istore hX (Nat.le_of_ble_eq_true rfl) (lv2 := [(6, .int ((v1 / (64 : Int32)) - (v1 / (64 : Int32)) / (I 4 0) * (I 4 0))), (5, .int ((v1 / (8 : Int32)) - (v1 / (8 : Int32)) / (I 4 2) * (I 4 2))), (4, .int (v1 - v1 / (8 : Int32) * (8 : Int32))), (3, .int (I 4 0)), (2, .int (I 4 2)), (0, .ref 0), (1, .int v1)]) rfl dX4_actInTrial_47 ?_
      refine hj_iload_n hX rfl 6 rfl dX4_actInTrial_49 ?_
      refine hj_bipush hX (v := (64 : Int32)) (by decide) dX4_actInTrial_50 ?_
      refine hj_idiv hX dX4_actInTrial_52 h (fun h => ?_)
      refine hj_iload_n hX rfl 4 rfl dX4_actInTrial_53 ?_
      refine hj_irem hX dX4_actInTrial_54 h (fun h => ?_)
      refine hj_istore hX (Nat.le_of_ble_eq_true rfl) (lv2 := [(7, .int ((v1 / (64 : Int32)) - (v1 / (64 : Int32)) / (I 4 2) * (I 4 2))), (6, .int ((v1 / (64 : Int32)) - (v1 / (64 : Int32)) / (I 4 0) * (I 4 0))), (5, .int ((v1 / (8 : Int32)) - (v1 / (8 : Int32)) / (I 4 2) * (I 4 2))), (4, .int (v1 - v1 / (8 : Int32) * (8 : Int32))), (3, .int (I 4 0)), (2, .int (I 4 2)), (0, .ref 0), (1, .int v1)]) rfl dX4_actInTrial_55 ?_
      refine hj_iload hX 3 rfl dX4_actInTrial_57 ?_
      refine hj_iconst hX (v := (1 : Int32)) (by decide) dX4_actInTrial_59 ?_
      refine hj_icmp_gt hX (tgt := 96) (by decide) dX4_actInTrial_60 h (fun h => ?_) (fun h => ?_)
      · refine hj_lv hX [6, 3, 2, 0] (lv2 := [(0, .ref 0), (4, .int (v1 - v1 / (8 : Int32) * (8 : Int32))), (5, .int ((v1 / (8 : Int32)) - (v1 / (8 : Int32)) / (I 4 2) * (I 4 2))), (7, .int ((v1 / (64 : Int32)) - (v1 / (64 : Int32)) / (I 4 2) * (I 4 2)))]) rfl ?_
        exact X4_actInTrial_b96_ok hX hf0 h
      · refine hj_aload_n hX rfl 6 rfl dX4_actInTrial_63 ?_
        refine hj_getr hX (j := 4) hf0.1 rfl rfl X4_actInTrial_w4 (Nat.le_of_ble_eq_true rfl) rfl X4_actInTrial_k33 dX4_actInTrial_64 ?_
        refine hj_aload_n hX rfl 6 rfl dX4_actInTrial_67 ?_
        refine hj_getr hX (j := 1) hf0.1 rfl rfl X4_actInTrial_w4 (Nat.le_of_ble_eq_true rfl) rfl X4_actInTrial_k19 dX4_actInTrial_68 ?_
        refine hj_iload hX 2 rfl dX4_actInTrial_71 ?_
        refine hj_iload hX 1 rfl dX4_actInTrial_73 ?_
        obtain ⟨u1, Ia2, hc3, h⟩ := ob_e h
        refine hj_callV hX (sh2 := sh) (I2 := Ia2) (r := (some (.int u1))) (As := [.ref 4, .int ((v1 / (8 : Int32)) - (v1 / (8 : Int32)) / (I 4 2) * (I 4 2)), .int ((v1 / (64 : Int32)) - (v1 / (64 : Int32)) / (I 4 0) * (I 4 0))]) (rest := []) (st2 := [.int u1]) (X2_canPin_ok hf0.2.2.2.2.2.1 hf0.2.2.1 hc3) gX4_actInTrial_X2_canPin rfl X2_canPin_hy ⟨(Nat.le_of_ble_eq_true rfl), (Nat.le_of_ble_eq_true rfl)⟩ rfl hf0.2.2.2.2.2.1.1 rfl (Nat.le_of_ble_eq_true rfl) ⟨(Nat.le_of_ble_eq_true rfl), (Nat.le_of_ble_eq_true rfl)⟩ rfl rfl rfl dX4_actInTrial_75 ?_
        refine hj_if_eq hX (tgt := 96) (by decide) dX4_actInTrial_78 h (fun h => ?_) (fun h => ?_)
        · refine hj_lv hX [6, 3, 2, 0] (lv2 := [(0, .ref 0), (4, .int (v1 - v1 / (8 : Int32) * (8 : Int32))), (5, .int ((v1 / (8 : Int32)) - (v1 / (8 : Int32)) / (I 4 2) * (I 4 2))), (7, .int ((v1 / (64 : Int32)) - (v1 / (64 : Int32)) / (I 4 2) * (I 4 2)))]) rfl ?_
          exact X4_actInTrial_b96_ok hX hf0 h
        · refine hj_aload_n hX rfl 6 rfl dX4_actInTrial_81 ?_
          refine hj_getr hX (j := 4) hf0.1 rfl rfl X4_actInTrial_w4 (Nat.le_of_ble_eq_true rfl) rfl X4_actInTrial_k33 dX4_actInTrial_82 ?_
          refine hj_aload_n hX rfl 6 rfl dX4_actInTrial_85 ?_
          refine hj_getr hX (j := 1) hf0.1 rfl rfl X4_actInTrial_w4 (Nat.le_of_ble_eq_true rfl) rfl X4_actInTrial_k19 dX4_actInTrial_86 ?_
          refine hj_iload hX 2 rfl dX4_actInTrial_89 ?_
          refine hj_iload hX 1 rfl dX4_actInTrial_91 ?_
          obtain ⟨u4, Ia5, hc6, h⟩ := ob_e h
          refine hj_callV hX (sh2 := sh) (I2 := Ia5) (r := none) (As := [.ref 4, .int ((v1 / (8 : Int32)) - (v1 / (8 : Int32)) / (I 4 2) * (I 4 2)), .int ((v1 / (64 : Int32)) - (v1 / (64 : Int32)) / (I 4 0) * (I 4 0))]) (rest := []) (st2 := []) (X2_pinBy_ok hf0.2.2.2.2.2.1 hf0.2.2.1 hc6) gX4_actInTrial_X2_pinBy rfl X2_pinBy_hy ⟨(Nat.le_of_ble_eq_true rfl), (Nat.le_of_ble_eq_true rfl)⟩ rfl hf0.2.2.2.2.2.1.1 rfl (Nat.le_of_ble_eq_true rfl) ⟨(Nat.le_of_ble_eq_true rfl), (Nat.le_of_ble_eq_true rfl)⟩ rfl rfl rfl dX4_actInTrial_93 ?_
          refine hj_lv hX [6, 3, 2, 0] (lv2 := [(0, .ref 0), (4, .int (v1 - v1 / (8 : Int32) * (8 : Int32))), (5, .int ((v1 / (8 : Int32)) - (v1 / (8 : Int32)) / (I 4 2) * (I 4 2))), (7, .int ((v1 / (64 : Int32)) - (v1 / (64 : Int32)) / (I 4 2) * (I 4 2)))]) rfl ?_
          exact X4_actInTrial_b96_ok hX hf0 h
    · exact hj_vret hX dX4_actInTrial_26 h)
def X4_season_b79 (v3 : Int32) (I : hM) : Option (Int32 × hM) := if v3 = 0 then (some (((I 31 1) + (10000 : Int32)), I)) else (ob (X2_pinsOfAll 31 4 I) (fun u16 Ia17 => some (u16, Ia17)))
def X4_season_h45 (k45 : Int32 → Int32 → Int32 → Int32 → hM → Option (Int32 × hM)) (v1 : Int32) (v2 : Int32) (v3 : Int32) (v4 : Int32) (I : hM) : Option (Int32 × hM) := if v2 ≤ v4 then (X4_season_b79 v3 I) else (ob (X4_draw v1 v4 I) (fun u7 Ia8 => ob (X4_actInTrial u7 Ia8) (fun u10 Ia11 => ob (X2_goBy 31 4 (1 : Int32) Ia11) (fun u13 Ia14 => (k45 v1 v2 v3 (v4 + (1 : Int32)) Ia14)))))
def X4_season_l45 : Nat → Int32 → Int32 → Int32 → Int32 → hM → Option (Int32 × hM)
  | 0 => fun _ _ _ _ _ => none
  | n + 1 => X4_season_h45   (X4_season_l45   n)
def X4_season (v1 : Int32) (v2 : Int32) (v3 : Int32) (I : hM) : Option (Int32 × hM) := if v1 < 0 then (some ((-1 : Int32), I)) else (if (9999 : Int32) < v1 then (some ((-1 : Int32), I)) else (if v2 < (1 : Int32) then (some ((-1 : Int32), I)) else (if (60 : Int32) < v2 then (some ((-1 : Int32), I)) else (ob (X4_isEither v3 I) (fun u1 Ia2 => if u1 = 0 then (some ((-1 : Int32), Ia2)) else (ob (X2_copyOf 31 26 Ia2) (fun u4 Ia5 => (X4_season_l45 hF v1 v2 v3 (0 : Int32) Ia5))))))))
theorem X4_season_hy : yX4_season.cls = RX4 ∧ yX4_season.cls ≠ "java/lang/invoke/MethodHandle" ∧ yX4_season.cls ≠ "java/lang/invoke/VarHandle" ∧ (parseMethodDescriptor yX4_season.desc).map (fun d => d.parameters.length) = some 3 := by decide +kernel
theorem X4_season_k33 : Cond.fieldLink RX4 33 "HatPins" "trial" "LHatPins$Standing;" ∈ wsX4_season := by decide +kernel
theorem X4_season_k29 : Cond.fieldLink RX4 29 "HatPins" "now" "LHatPins$Standing;" ∈ wsX4_season := by decide +kernel
theorem X4_season_k19 : Cond.fieldLink RX4 19 "HatPins" "laid" "LHatPins$Evening;" ∈ wsX4_season := by decide +kernel
theorem X4_season_k140 : Cond.fieldLink RX4 140 "HatPins$Standing" "had" "I" ∈ wsX4_season := by decide +kernel
theorem X4_season_w2 : ∀ w ∈ wsX20, w ∈ wsX4_season := by decide +kernel
theorem X4_season_w4 : ∀ w ∈ wsX40, w ∈ wsX4_season := by decide +kernel
set_option maxHeartbeats 4000000 in
set_option maxRecDepth 100000 in
theorem X4_season_b79_ok {p : Program} {l : Launch} {e : Env} {s : State} {m : MethodId} {args : Array Value} {below : List Frame} {meth : Method} {c : Code} {D : va_G} {E : Nat → ClassId} {b z : Nat} {sh : List hS} {r : Int32} {I2 : hM} {v3 : Int32} {I : hM} (hX : hp_X p s m args meth c yX4_season.cls cX4_season 5 wsX4_season D E (some .int) yX4_season.name) (hf0 : hq_X4 sh) (h : X4_season_b79 v3 I = some (r, I2)) : hp_J p l e ({ frames := 5, cells := 0, slots := 0, locals := 44 * 5 }) s m args below meth c (MQ below (hp_Q D E b z (some (.int r)) sh I2) args s 0 0 (fun q : Nat => b ≤ q)) D E b z 5 sh 0 0 I 79 [(0, .ref 0), (3, .int v3)] [] := by
  unfold X4_season_b79 at h
  refine hj_iload_n hX rfl 1 rfl dX4_season_79 ?_
  refine hj_if_ne hX (tgt := 97) (by decide) dX4_season_80 h (fun h => ?_) (fun h => ?_)
  · refine hj_aload_n hX rfl 0 rfl dX4_season_97 ?_
    refine hj_getr hX (j := 4) hf0.1 rfl rfl X4_season_w4 (Nat.le_of_ble_eq_true rfl) rfl X4_season_k33 dX4_season_98 ?_
    refine hj_aload_n hX rfl 0 rfl dX4_season_101 ?_
    refine hj_getr hX (j := 1) hf0.1 rfl rfl X4_season_w4 (Nat.le_of_ble_eq_true rfl) rfl X4_season_k19 dX4_season_102 ?_
    obtain ⟨u16, Ia17, hc18, h⟩ := ob_e h
    refine hj_callV hX (sh2 := sh) (I2 := Ia17) (r := (some (.int u16))) (As := [.ref 4]) (rest := []) (st2 := [.int u16]) (X2_pinsOfAll_ok hf0.2.2.2.2.2.1 hf0.2.2.1 hc18) gX4_season_X2_pinsOfAll rfl X2_pinsOfAll_hy ⟨(Nat.le_of_ble_eq_true rfl), (Nat.le_of_ble_eq_true rfl)⟩ rfl hf0.2.2.2.2.2.1.1 rfl (Nat.le_of_ble_eq_true rfl) ⟨(Nat.le_of_ble_eq_true rfl), (Nat.le_of_ble_eq_true rfl)⟩ rfl rfl rfl dX4_season_105 ?_
    exact hj_iret hX dX4_season_108 h
  · refine hj_aload_n hX rfl 0 rfl dX4_season_83 ?_
    refine hj_getr hX (j := 4) hf0.1 rfl rfl X4_season_w4 (Nat.le_of_ble_eq_true rfl) rfl X4_season_k33 dX4_season_84 ?_
    refine hj_geti hX (j := 1) hf0.2.2.2.2.2.1.1 rfl rfl X4_season_w2 (Nat.le_of_ble_eq_true rfl) rfl X4_season_k140 dX4_season_87 ?_
    refine hj_sipush hX (v := (10000 : Int32)) (by decide) dX4_season_90 ?_
    refine hj_iadd hX dX4_season_93 ?_
    refine hj_goto hX (tgt := 108) (by decide) dX4_season_94 ?_
    exact hj_iret hX dX4_season_108 h
set_option maxHeartbeats 4000000 in
set_option maxRecDepth 100000 in
theorem X4_season_h45_ok {p : Program} {l : Launch} {e : Env} {s : State} {m : MethodId} {args : Array Value} {below : List Frame} {meth : Method} {c : Code} {D : va_G} {E : Nat → ClassId} {b z : Nat} {sh : List hS} {r : Int32} {I2 : hM} {k45 : Int32 → Int32 → Int32 → Int32 → hM → Option (Int32 × hM)} {v1 : Int32} {v2 : Int32} {v3 : Int32} {v4 : Int32} {I : hM} (hX : hp_X p s m args meth c yX4_season.cls cX4_season 5 wsX4_season D E (some .int) yX4_season.name) (hf0 : hq_X4 sh) (hk45 : ∀ (v1 : Int32) (v2 : Int32) (v3 : Int32) (v4 : Int32) (I : hM), k45 v1 v2 v3 v4 I = some (r, I2) → hp_J p l e ({ frames := 5, cells := 0, slots := 0, locals := 44 * 5 }) s m args below meth c (MQ below (hp_Q D E b z (some (.int r)) sh I2) args s 0 0 (fun q : Nat => b ≤ q)) D E b z 5 sh 0 0 I 45 [(0, .ref 0), (1, .int v1), (2, .int v2), (3, .int v3), (4, .int v4)] []) (h : X4_season_h45 k45 v1 v2 v3 v4 I = some (r, I2)) : hp_J p l e ({ frames := 5, cells := 0, slots := 0, locals := 44 * 5 }) s m args below meth c (MQ below (hp_Q D E b z (some (.int r)) sh I2) args s 0 0 (fun q : Nat => b ≤ q)) D E b z 5 sh 0 0 I 45 [(0, .ref 0), (1, .int v1), (2, .int v2), (3, .int v3), (4, .int v4)] [] := by
  unfold X4_season_h45 at h
  refine hj_iload hX 4 rfl dX4_season_45 ?_
  refine hj_iload_n hX rfl 2 rfl dX4_season_47 ?_
  refine hj_icmp_ge hX (tgt := 79) (by decide) dX4_season_48 h (fun h => ?_) (fun h => ?_)
  · refine hj_lv hX [0, 3] (lv2 := [(0, .ref 0), (3, .int v3)]) rfl ?_
    exact X4_season_b79_ok hX hf0 h
  · refine hj_aload_n hX rfl 0 rfl dX4_season_51 ?_
    refine hj_iload_n hX rfl 1 rfl dX4_season_52 ?_
    refine hj_iload hX 4 rfl dX4_season_53 ?_
    obtain ⟨u7, Ia8, hc9, h⟩ := ob_e h
    refine hj_callS hX (sh2 := sh) (I2 := Ia8) (r := (some (.int u7))) (As := [.int v1, .int v4]) (rest := [.ref 0]) (st2 := [.int u7, .ref 0]) (X4_draw_ok hc9) gX4_season_X4_draw rfl X4_draw_hy.2 ⟨(Nat.le_of_ble_eq_true rfl), (Nat.le_of_ble_eq_true rfl)⟩ rfl (Nat.le_of_ble_eq_true rfl) ⟨(Nat.le_of_ble_eq_true rfl), (Nat.le_of_ble_eq_true rfl)⟩ rfl rfl rfl dX4_season_55 ?_
    obtain ⟨u10, Ia11, hc12, h⟩ := ob_e h
    refine hj_callV hX (sh2 := sh) (I2 := Ia11) (r := none) (As := [.int u7]) (rest := []) (st2 := []) (X4_actInTrial_ok hf0 hc12) gX4_season_X4_actInTrial rfl X4_actInTrial_hy ⟨(Nat.le_of_ble_eq_true rfl), (Nat.le_of_ble_eq_true rfl)⟩ rfl hf0.1 rfl (Nat.le_of_ble_eq_true rfl) ⟨(Nat.le_of_ble_eq_true rfl), (Nat.le_of_ble_eq_true rfl)⟩ rfl rfl rfl dX4_season_58 ?_
    refine hj_aload_n hX rfl 0 rfl dX4_season_61 ?_
    refine hj_getr hX (j := 4) hf0.1 rfl rfl X4_season_w4 (Nat.le_of_ble_eq_true rfl) rfl X4_season_k33 dX4_season_62 ?_
    refine hj_aload_n hX rfl 0 rfl dX4_season_65 ?_
    refine hj_getr hX (j := 1) hf0.1 rfl rfl X4_season_w4 (Nat.le_of_ble_eq_true rfl) rfl X4_season_k19 dX4_season_66 ?_
    refine hj_iconst hX (v := (1 : Int32)) (by decide) dX4_season_69 ?_
    obtain ⟨u13, Ia14, hc15, h⟩ := ob_e h
    refine hj_callV hX (sh2 := sh) (I2 := Ia14) (r := none) (As := [.ref 4, .int (1 : Int32)]) (rest := []) (st2 := []) (X2_goBy_ok hf0.2.2.2.2.2.1 hf0.2.2.1 hc15) gX4_season_X2_goBy rfl X2_goBy_hy ⟨(Nat.le_of_ble_eq_true rfl), (Nat.le_of_ble_eq_true rfl)⟩ rfl hf0.2.2.2.2.2.1.1 rfl (Nat.le_of_ble_eq_true rfl) ⟨(Nat.le_of_ble_eq_true rfl), (Nat.le_of_ble_eq_true rfl)⟩ rfl rfl rfl dX4_season_70 ?_
    refine hj_iinc hX (k1 := 4) (v := (v4 + (1 : Int32))) rfl rfl (Nat.le_of_ble_eq_true rfl) (lv2 := [(4, .int (v4 + (1 : Int32))), (0, .ref 0), (1, .int v1), (2, .int v2), (3, .int v3)]) rfl dX4_season_73 ?_
    refine hj_goto hX (tgt := 45) (by decide) dX4_season_76 ?_
    refine hj_lv hX [1, 2, 3, 4, 0] (lv2 := [(0, .ref 0), (1, .int v1), (2, .int v2), (3, .int v3), (4, .int (v4 + (1 : Int32)))]) rfl ?_
    exact hk45 _ _ _ _ _ h
set_option maxHeartbeats 4000000 in
set_option maxRecDepth 100000 in
theorem X4_season_l45_ok {p : Program} {l : Launch} {e : Env} {s : State} {m : MethodId} {args : Array Value} {below : List Frame} {meth : Method} {c : Code} {D : va_G} {E : Nat → ClassId} {b z : Nat} {sh : List hS} {r : Int32} {I2 : hM} (hX : hp_X p s m args meth c yX4_season.cls cX4_season 5 wsX4_season D E (some .int) yX4_season.name) (hf0 : hq_X4 sh) : ∀ (n : Nat) (v1 : Int32) (v2 : Int32) (v3 : Int32) (v4 : Int32) (I : hM), X4_season_l45 n v1 v2 v3 v4 I = some (r, I2) → hp_J p l e ({ frames := 5, cells := 0, slots := 0, locals := 44 * 5 }) s m args below meth c (MQ below (hp_Q D E b z (some (.int r)) sh I2) args s 0 0 (fun q : Nat => b ≤ q)) D E b z 5 sh 0 0 I 45 [(0, .ref 0), (1, .int v1), (2, .int v2), (3, .int v3), (4, .int v4)] [] := by
  intro n
  induction n with
  | zero => exact fun _ _ _ _ _ h => nomatch h
  | succ n ih => exact fun _ _ _ _ _ h => X4_season_h45_ok hX hf0 ih h
set_option maxHeartbeats 4000000 in
set_option maxRecDepth 100000 in
theorem X4_season_ok {sh : List hS} {r : Int32} {I I2 : hM} {v1 : Int32} {v2 : Int32} {v3 : Int32} (hf0 : hq_X4 sh) (h : X4_season v1 v2 v3 I = some (r, I2)) : hp_C yX4_season wsX4_season 5 0 0 sh I [.ref 0, .int v1, .int v2, .int v3] (some (.int r)) sh I2 := hp_start (cc := cX4_season) (maxL := 5) (ret := (some .int)) [(0, .ref 0), (1, .int v1), (2, .int v2), (3, .int v3)] (by decide) rfl (fun _ _ => rfl) (fun _ _ => Nat.le_of_ble_eq_true rfl) (fun p l e s m below meth c D E b z hX _ => by
  unfold X4_season at h
  refine hj_iload_n hX rfl 1 rfl dX4_season_0 ?_
  refine hj_if_lt hX (tgt := 29) (by decide) dX4_season_1 h (fun h => ?_) (fun h => ?_)
  · refine hj_iconst hX (v := (-1 : Int32)) (by decide) dX4_season_29 ?_
    exact hj_iret hX dX4_season_30 h
  · refine hj_iload_n hX rfl 1 rfl dX4_season_4 ?_
    refine hj_sipush hX (v := (9999 : Int32)) (by decide) dX4_season_5 ?_
    refine hj_icmp_gt hX (tgt := 29) (by decide) dX4_season_8 h (fun h => ?_) (fun h => ?_)
    · refine hj_iconst hX (v := (-1 : Int32)) (by decide) dX4_season_29 ?_
      exact hj_iret hX dX4_season_30 h
    · refine hj_iload_n hX rfl 2 rfl dX4_season_11 ?_
      refine hj_iconst hX (v := (1 : Int32)) (by decide) dX4_season_12 ?_
      refine hj_icmp_lt hX (tgt := 29) (by decide) dX4_season_13 h (fun h => ?_) (fun h => ?_)
      · refine hj_iconst hX (v := (-1 : Int32)) (by decide) dX4_season_29 ?_
        exact hj_iret hX dX4_season_30 h
      · refine hj_iload_n hX rfl 2 rfl dX4_season_16 ?_
        refine hj_bipush hX (v := (60 : Int32)) (by decide) dX4_season_17 ?_
        refine hj_icmp_gt hX (tgt := 29) (by decide) dX4_season_19 h (fun h => ?_) (fun h => ?_)
        · refine hj_iconst hX (v := (-1 : Int32)) (by decide) dX4_season_29 ?_
          exact hj_iret hX dX4_season_30 h
        · refine hj_iload_n hX rfl 3 rfl dX4_season_22 ?_
          obtain ⟨u1, Ia2, hc3, h⟩ := ob_e h
          refine hj_callS hX (sh2 := sh) (I2 := Ia2) (r := (some (.int u1))) (As := [.int v3]) (rest := []) (st2 := [.int u1]) (X4_isEither_ok hc3) gX4_season_X4_isEither rfl X4_isEither_hy.2 ⟨(Nat.le_of_ble_eq_true rfl), (Nat.le_of_ble_eq_true rfl)⟩ rfl (Nat.le_of_ble_eq_true rfl) ⟨(Nat.le_of_ble_eq_true rfl), (Nat.le_of_ble_eq_true rfl)⟩ rfl rfl rfl dX4_season_23 ?_
          refine hj_if_ne hX (tgt := 31) (by decide) dX4_season_26 h (fun h => ?_) (fun h => ?_)
          · refine hj_aload_n hX rfl 0 rfl dX4_season_31 ?_
            refine hj_getr hX (j := 4) hf0.1 rfl rfl X4_season_w4 (Nat.le_of_ble_eq_true rfl) rfl X4_season_k33 dX4_season_32 ?_
            refine hj_aload_n hX rfl 0 rfl dX4_season_35 ?_
            refine hj_getr hX (j := 3) hf0.1 rfl rfl X4_season_w4 (Nat.le_of_ble_eq_true rfl) rfl X4_season_k29 dX4_season_36 ?_
            obtain ⟨u4, Ia5, hc6, h⟩ := ob_e h
            refine hj_callV hX (sh2 := sh) (I2 := Ia5) (r := none) (As := [.ref 26]) (rest := []) (st2 := []) (X2_copyOf_ok hf0.2.2.2.2.2.1 hf0.2.2.2.2.1 hc6) gX4_season_X2_copyOf rfl X2_copyOf_hy ⟨(Nat.le_of_ble_eq_true rfl), (Nat.le_of_ble_eq_true rfl)⟩ rfl hf0.2.2.2.2.2.1.1 rfl (Nat.le_of_ble_eq_true rfl) ⟨(Nat.le_of_ble_eq_true rfl), (Nat.le_of_ble_eq_true rfl)⟩ rfl rfl rfl dX4_season_39 ?_
            refine hj_iconst hX (v := (0 : Int32)) (by decide) dX4_season_42 ?_
            refine hj_istore hX (Nat.le_of_ble_eq_true rfl) (lv2 := [(4, .int (0 : Int32)), (0, .ref 0), (1, .int v1), (2, .int v2), (3, .int v3)]) rfl dX4_season_43 ?_
            refine hj_lv hX [1, 2, 3, 4, 0] (lv2 := [(0, .ref 0), (1, .int v1), (2, .int v2), (3, .int v3), (4, .int (0 : Int32))]) rfl ?_
            exact X4_season_l45_ok hX hf0 hF _ _ _ _ _ h
          · refine hj_iconst hX (v := (-1 : Int32)) (by decide) dX4_season_29 ?_
            exact hj_iret hX dX4_season_30 h)
def X4_keep (I : hM) : Option (Int32 × hM) := if (I 78 1) < (2 : Int32) then (ob (X1_put 78 2 26 I) (fun u1 Ia2 => some ((Ia2 78 1), Ia2))) else (some ((-3 : Int32), I))
theorem X4_keep_hy : yX4_keep.cls = RX4 ∧ yX4_keep.cls ≠ "java/lang/invoke/MethodHandle" ∧ yX4_keep.cls ≠ "java/lang/invoke/VarHandle" ∧ (parseMethodDescriptor yX4_keep.desc).map (fun d => d.parameters.length) = some 0 := by decide +kernel
theorem X4_keep_k45 : Cond.fieldLink RX4 45 "HatPins" "saved" "LHatPins$Shelf;" ∈ wsX4_keep := by decide +kernel
theorem X4_keep_k85 : Cond.fieldLink RX4 85 "HatPins$Shelf" "held" "I" ∈ wsX4_keep := by decide +kernel
theorem X4_keep_k29 : Cond.fieldLink RX4 29 "HatPins" "now" "LHatPins$Standing;" ∈ wsX4_keep := by decide +kernel
theorem X4_keep_w1 : ∀ w ∈ wsX10, w ∈ wsX4_keep := by decide +kernel
theorem X4_keep_w4 : ∀ w ∈ wsX40, w ∈ wsX4_keep := by decide +kernel
set_option maxHeartbeats 4000000 in
set_option maxRecDepth 100000 in
theorem X4_keep_ok {sh : List hS} {r : Int32} {I I2 : hM} (hf0 : hq_X4 sh) (h : X4_keep I = some (r, I2)) : hp_C yX4_keep wsX4_keep 3 0 0 sh I [.ref 0] (some (.int r)) sh I2 := hp_start (cc := cX4_keep) (maxL := 1) (ret := (some .int)) [(0, .ref 0)] (by decide) rfl (fun _ _ => rfl) (fun _ _ => Nat.le_of_ble_eq_true rfl) (fun p l e s m below meth c D E b z hX _ => by
  unfold X4_keep at h
  refine hj_aload_n hX rfl 0 rfl dX4_keep_0 ?_
  refine hj_getr hX (j := 6) hf0.1 rfl rfl X4_keep_w4 (Nat.le_of_ble_eq_true rfl) rfl X4_keep_k45 dX4_keep_1 ?_
  refine hj_geti hX (j := 1) hf0.2.2.2.2.2.2.2.1.1 rfl rfl X4_keep_w1 (Nat.le_of_ble_eq_true rfl) rfl X4_keep_k85 dX4_keep_4 ?_
  refine hj_iconst hX (v := (2 : Int32)) (by decide) dX4_keep_7 ?_
  refine hj_icmp_lt hX (tgt := 14) (by decide) dX4_keep_8 h (fun h => ?_) (fun h => ?_)
  · refine hj_aload_n hX rfl 0 rfl dX4_keep_14 ?_
    refine hj_getr hX (j := 6) hf0.1 rfl rfl X4_keep_w4 (Nat.le_of_ble_eq_true rfl) rfl X4_keep_k45 dX4_keep_15 ?_
    refine hj_aload_n hX rfl 0 rfl dX4_keep_18 ?_
    refine hj_getr hX (j := 3) hf0.1 rfl rfl X4_keep_w4 (Nat.le_of_ble_eq_true rfl) rfl X4_keep_k29 dX4_keep_19 ?_
    obtain ⟨u1, Ia2, hc3, h⟩ := ob_e h
    refine hj_callV hX (sh2 := sh) (I2 := Ia2) (r := none) (As := [.ref 26]) (rest := []) (st2 := []) (X1_put_ok hf0.2.2.2.2.2.2.2.1 hf0.2.2.2.2.2.2.2.2.2.2 hf0.2.2.2.2.1 hc3) gX4_keep_X1_put rfl X1_put_hy ⟨(Nat.le_of_ble_eq_true rfl), (Nat.le_of_ble_eq_true rfl)⟩ rfl hf0.2.2.2.2.2.2.2.1.1 rfl (Nat.le_of_ble_eq_true rfl) ⟨(Nat.le_of_ble_eq_true rfl), (Nat.le_of_ble_eq_true rfl)⟩ rfl rfl rfl dX4_keep_22 ?_
    refine hj_aload_n hX rfl 0 rfl dX4_keep_25 ?_
    refine hj_getr hX (j := 6) hf0.1 rfl rfl X4_keep_w4 (Nat.le_of_ble_eq_true rfl) rfl X4_keep_k45 dX4_keep_26 ?_
    refine hj_geti hX (j := 1) hf0.2.2.2.2.2.2.2.1.1 rfl rfl X4_keep_w1 (Nat.le_of_ble_eq_true rfl) rfl X4_keep_k85 dX4_keep_29 ?_
    exact hj_iret hX dX4_keep_32 h
  · refine hj_bipush hX (v := (-3 : Int32)) (by decide) dX4_keep_11 ?_
    exact hj_iret hX dX4_keep_13 h)
def X4_back (I : hM) : Option (Int32 × hM) := ob (X1_takeInto 78 2 26 I) (fun u1 Ia2 => if u1 = 0 then (some ((-2 : Int32), Ia2)) else (some (((hu Ia2 36 1 (0 : Int32)) 78 1), (hu Ia2 36 1 (0 : Int32)))))
theorem X4_back_hy : yX4_back.cls = RX4 ∧ yX4_back.cls ≠ "java/lang/invoke/MethodHandle" ∧ yX4_back.cls ≠ "java/lang/invoke/VarHandle" ∧ (parseMethodDescriptor yX4_back.desc).map (fun d => d.parameters.length) = some 0 := by decide +kernel
theorem X4_back_k45 : Cond.fieldLink RX4 45 "HatPins" "saved" "LHatPins$Shelf;" ∈ wsX4_back := by decide +kernel
theorem X4_back_k29 : Cond.fieldLink RX4 29 "HatPins" "now" "LHatPins$Standing;" ∈ wsX4_back := by decide +kernel
theorem X4_back_k41 : Cond.fieldLink RX4 41 "HatPins" "undoable" "LHatPins$Shelf;" ∈ wsX4_back := by decide +kernel
theorem X4_back_k85 : Cond.fieldLink RX4 85 "HatPins$Shelf" "held" "I" ∈ wsX4_back := by decide +kernel
theorem X4_back_w1 : ∀ w ∈ wsX10, w ∈ wsX4_back := by decide +kernel
theorem X4_back_w4 : ∀ w ∈ wsX40, w ∈ wsX4_back := by decide +kernel
set_option maxHeartbeats 4000000 in
set_option maxRecDepth 100000 in
theorem X4_back_ok {sh : List hS} {r : Int32} {I I2 : hM} (hf0 : hq_X4 sh) (h : X4_back I = some (r, I2)) : hp_C yX4_back wsX4_back 3 0 0 sh I [.ref 0] (some (.int r)) sh I2 := hp_start (cc := cX4_back) (maxL := 1) (ret := (some .int)) [(0, .ref 0)] (by decide) rfl (fun _ _ => rfl) (fun _ _ => Nat.le_of_ble_eq_true rfl) (fun p l e s m below meth c D E b z hX _ => by
  unfold X4_back at h
  refine hj_aload_n hX rfl 0 rfl dX4_back_0 ?_
  refine hj_getr hX (j := 6) hf0.1 rfl rfl X4_back_w4 (Nat.le_of_ble_eq_true rfl) rfl X4_back_k45 dX4_back_1 ?_
  refine hj_aload_n hX rfl 0 rfl dX4_back_4 ?_
  refine hj_getr hX (j := 3) hf0.1 rfl rfl X4_back_w4 (Nat.le_of_ble_eq_true rfl) rfl X4_back_k29 dX4_back_5 ?_
  obtain ⟨u1, Ia2, hc3, h⟩ := ob_e h
  refine hj_callV hX (sh2 := sh) (I2 := Ia2) (r := (some (.int u1))) (As := [.ref 26]) (rest := []) (st2 := [.int u1]) (X1_takeInto_ok hf0.2.2.2.2.2.2.2.1 hf0.2.2.2.2.2.2.2.2.2.2 hf0.2.2.2.2.1 hc3) gX4_back_X1_takeInto rfl X1_takeInto_hy ⟨(Nat.le_of_ble_eq_true rfl), (Nat.le_of_ble_eq_true rfl)⟩ rfl hf0.2.2.2.2.2.2.2.1.1 rfl (Nat.le_of_ble_eq_true rfl) ⟨(Nat.le_of_ble_eq_true rfl), (Nat.le_of_ble_eq_true rfl)⟩ rfl rfl rfl dX4_back_8 ?_
  refine hj_if_ne hX (tgt := 17) (by decide) dX4_back_11 h (fun h => ?_) (fun h => ?_)
  · refine hj_aload_n hX rfl 0 rfl dX4_back_17 ?_
    refine hj_getr hX (j := 5) hf0.1 rfl rfl X4_back_w4 (Nat.le_of_ble_eq_true rfl) rfl X4_back_k41 dX4_back_18 ?_
    refine hj_iconst hX (v := (0 : Int32)) (by decide) dX4_back_21 ?_
    refine hj_puti hX (j := 1) hf0.2.2.2.2.2.2.1.1 rfl rfl X4_back_w1 (Nat.le_of_ble_eq_true rfl) rfl X4_back_k85 tyX1_ok nmX1 rfl (by decide +kernel) dX4_back_22 ?_
    refine hj_aload_n hX rfl 0 rfl dX4_back_25 ?_
    refine hj_getr hX (j := 6) hf0.1 rfl rfl X4_back_w4 (Nat.le_of_ble_eq_true rfl) rfl X4_back_k45 dX4_back_26 ?_
    refine hj_geti hX (j := 1) hf0.2.2.2.2.2.2.2.1.1 rfl rfl X4_back_w1 (Nat.le_of_ble_eq_true rfl) rfl X4_back_k85 dX4_back_29 ?_
    exact hj_iret hX dX4_back_32 h
  · refine hj_bipush hX (v := (-2 : Int32)) (by decide) dX4_back_14 ?_
    exact hj_iret hX dX4_back_16 h)
def X4_count (v1 : Int32) (I : hM) : Option (Int32 × hM) := if v1 = (0 : Int32) then (some ((I 4 0), I)) else (if v1 = (1 : Int32) then (some ((I 4 2), I)) else (if v1 = (2 : Int32) then (some ((I 26 0), I)) else (if v1 = (3 : Int32) then (ob (X2_howMany 26 4 (0 : Int32) I) (fun u4 Ia5 => some (u4, Ia5))) else (if v1 = (4 : Int32) then (ob (X2_howMany 26 4 (1 : Int32) I) (fun u8 Ia9 => some (u8, Ia9))) else (if v1 = (5 : Int32) then (ob (X2_howMany 26 4 (2 : Int32) I) (fun u12 Ia13 => some (u12, Ia13))) else (if v1 = (6 : Int32) then (ob (X2_howMany 26 4 (3 : Int32) I) (fun u16 Ia17 => some (u16, Ia17))) else (if v1 = (7 : Int32) then (some (((I 26 1) + (10000 : Int32)), I)) else (if v1 = (8 : Int32) then (ob (X2_pinsOfAll 26 4 I) (fun u21 Ia22 => some (u21, Ia22))) else (if v1 = (9 : Int32) then (some ((I 0 9), I)) else (if v1 = (10 : Int32) then (some ((I 36 1), I)) else (if v1 = (11 : Int32) then (some ((I 78 1), I)) else (if v1 = (12 : Int32) then (some ((I 1 1), I)) else (some ((-1 : Int32), I))))))))))))))
theorem X4_count_hy : yX4_count.cls = RX4 ∧ yX4_count.cls ≠ "java/lang/invoke/MethodHandle" ∧ yX4_count.cls ≠ "java/lang/invoke/VarHandle" ∧ (parseMethodDescriptor yX4_count.desc).map (fun d => d.parameters.length) = some 1 := by decide +kernel
theorem X4_count_k19 : Cond.fieldLink RX4 19 "HatPins" "laid" "LHatPins$Evening;" ∈ wsX4_count := by decide +kernel
theorem X4_count_k82 : Cond.fieldLink RX4 82 "HatPins$Evening" "goings" "I" ∈ wsX4_count := by decide +kernel
theorem X4_count_k193 : Cond.fieldLink RX4 193 "HatPins$Evening" "ladies" "I" ∈ wsX4_count := by decide +kernel
theorem X4_count_k29 : Cond.fieldLink RX4 29 "HatPins" "now" "LHatPins$Standing;" ∈ wsX4_count := by decide +kernel
theorem X4_count_k129 : Cond.fieldLink RX4 129 "HatPins$Standing" "minute" "I" ∈ wsX4_count := by decide +kernel
theorem X4_count_k140 : Cond.fieldLink RX4 140 "HatPins$Standing" "had" "I" ∈ wsX4_count := by decide +kernel
theorem X4_count_k88 : Cond.fieldLink RX4 88 "HatPins" "noted" "I" ∈ wsX4_count := by decide +kernel
theorem X4_count_k41 : Cond.fieldLink RX4 41 "HatPins" "undoable" "LHatPins$Shelf;" ∈ wsX4_count := by decide +kernel
theorem X4_count_k85 : Cond.fieldLink RX4 85 "HatPins$Shelf" "held" "I" ∈ wsX4_count := by decide +kernel
theorem X4_count_k45 : Cond.fieldLink RX4 45 "HatPins" "saved" "LHatPins$Shelf;" ∈ wsX4_count := by decide +kernel
theorem X4_count_k10 : Cond.fieldLink RX4 10 "HatPins" "text" "LHatPins$Text;" ∈ wsX4_count := by decide +kernel
theorem X4_count_k75 : Cond.fieldLink RX4 75 "HatPins$Text" "length" "I" ∈ wsX4_count := by decide +kernel
theorem X4_count_w0 : ∀ w ∈ wsX00, w ∈ wsX4_count := by decide +kernel
theorem X4_count_w1 : ∀ w ∈ wsX10, w ∈ wsX4_count := by decide +kernel
theorem X4_count_w2 : ∀ w ∈ wsX20, w ∈ wsX4_count := by decide +kernel
theorem X4_count_w3 : ∀ w ∈ wsX30, w ∈ wsX4_count := by decide +kernel
theorem X4_count_w4 : ∀ w ∈ wsX40, w ∈ wsX4_count := by decide +kernel
set_option maxHeartbeats 4000000 in
set_option maxRecDepth 100000 in
theorem X4_count_ok {sh : List hS} {r : Int32} {I I2 : hM} {v1 : Int32} (hf0 : hq_X4 sh) (h : X4_count v1 I = some (r, I2)) : hp_C yX4_count wsX4_count 1 0 0 sh I [.ref 0, .int v1] (some (.int r)) sh I2 := hp_start (cc := cX4_count) (maxL := 2) (ret := (some .int)) [(0, .ref 0), (1, .int v1)] (by decide) rfl (fun _ _ => rfl) (fun _ _ => Nat.le_of_ble_eq_true rfl) (fun p l e s m below meth c D E b z hX _ => by
  unfold X4_count at h
  refine hj_iload_n hX rfl 1 rfl dX4_count_0 ?_
  refine hp_ite h (fun c1 h => ?_) (fun c1 h => ?_)
  · refine hj_tabIn hX (tgt := 68) (off := 67) (kx := 0) c1 (by decide) (by decide) (by decide) (by decide) dX4_count_1 ?_
    refine hj_aload_n hX rfl 0 rfl dX4_count_68 ?_
    refine hj_getr hX (j := 1) hf0.1 rfl rfl X4_count_w4 (Nat.le_of_ble_eq_true rfl) rfl X4_count_k19 dX4_count_69 ?_
    refine hj_geti hX (j := 0) hf0.2.2.1.1 rfl rfl X4_count_w0 (Nat.le_of_ble_eq_true rfl) rfl X4_count_k82 dX4_count_72 ?_
    exact hj_iret hX dX4_count_75 h
  · refine hp_ite h (fun c2 h => ?_) (fun c2 h => ?_)
    · refine hj_tabIn hX (tgt := 76) (off := 75) (kx := 1) c2 (by decide) (by decide) (by decide) (by decide) dX4_count_1 ?_
      refine hj_aload_n hX rfl 0 rfl dX4_count_76 ?_
      refine hj_getr hX (j := 1) hf0.1 rfl rfl X4_count_w4 (Nat.le_of_ble_eq_true rfl) rfl X4_count_k19 dX4_count_77 ?_
      refine hj_geti hX (j := 2) hf0.2.2.1.1 rfl rfl X4_count_w0 (Nat.le_of_ble_eq_true rfl) rfl X4_count_k193 dX4_count_80 ?_
      exact hj_iret hX dX4_count_83 h
    · refine hp_ite h (fun c3 h => ?_) (fun c3 h => ?_)
      · refine hj_tabIn hX (tgt := 84) (off := 83) (kx := 2) c3 (by decide) (by decide) (by decide) (by decide) dX4_count_1 ?_
        refine hj_aload_n hX rfl 0 rfl dX4_count_84 ?_
        refine hj_getr hX (j := 3) hf0.1 rfl rfl X4_count_w4 (Nat.le_of_ble_eq_true rfl) rfl X4_count_k29 dX4_count_85 ?_
        refine hj_geti hX (j := 0) hf0.2.2.2.2.1.1 rfl rfl X4_count_w2 (Nat.le_of_ble_eq_true rfl) rfl X4_count_k129 dX4_count_88 ?_
        exact hj_iret hX dX4_count_91 h
      · refine hp_ite h (fun c7 h => ?_) (fun c7 h => ?_)
        · refine hj_tabIn hX (tgt := 92) (off := 91) (kx := 3) c7 (by decide) (by decide) (by decide) (by decide) dX4_count_1 ?_
          refine hj_aload_n hX rfl 0 rfl dX4_count_92 ?_
          refine hj_getr hX (j := 3) hf0.1 rfl rfl X4_count_w4 (Nat.le_of_ble_eq_true rfl) rfl X4_count_k29 dX4_count_93 ?_
          refine hj_aload_n hX rfl 0 rfl dX4_count_96 ?_
          refine hj_getr hX (j := 1) hf0.1 rfl rfl X4_count_w4 (Nat.le_of_ble_eq_true rfl) rfl X4_count_k19 dX4_count_97 ?_
          refine hj_iconst hX (v := (0 : Int32)) (by decide) dX4_count_100 ?_
          obtain ⟨u4, Ia5, hc6, h⟩ := ob_e h
          refine hj_callV hX (sh2 := sh) (I2 := Ia5) (r := (some (.int u4))) (As := [.ref 4, .int (0 : Int32)]) (rest := []) (st2 := [.int u4]) (X2_howMany_ok hf0.2.2.2.2.1 hf0.2.2.1 hc6) gX4_count_X2_howMany rfl X2_howMany_hy ⟨(Nat.le_of_ble_eq_true rfl), (Nat.le_of_ble_eq_true rfl)⟩ rfl hf0.2.2.2.2.1.1 rfl (Nat.le_of_ble_eq_true rfl) ⟨(Nat.le_of_ble_eq_true rfl), (Nat.le_of_ble_eq_true rfl)⟩ rfl rfl rfl dX4_count_101 ?_
          exact hj_iret hX dX4_count_104 h
        · refine hp_ite h (fun c11 h => ?_) (fun c11 h => ?_)
          · refine hj_tabIn hX (tgt := 105) (off := 104) (kx := 4) c11 (by decide) (by decide) (by decide) (by decide) dX4_count_1 ?_
            refine hj_aload_n hX rfl 0 rfl dX4_count_105 ?_
            refine hj_getr hX (j := 3) hf0.1 rfl rfl X4_count_w4 (Nat.le_of_ble_eq_true rfl) rfl X4_count_k29 dX4_count_106 ?_
            refine hj_aload_n hX rfl 0 rfl dX4_count_109 ?_
            refine hj_getr hX (j := 1) hf0.1 rfl rfl X4_count_w4 (Nat.le_of_ble_eq_true rfl) rfl X4_count_k19 dX4_count_110 ?_
            refine hj_iconst hX (v := (1 : Int32)) (by decide) dX4_count_113 ?_
            obtain ⟨u8, Ia9, hc10, h⟩ := ob_e h
            refine hj_callV hX (sh2 := sh) (I2 := Ia9) (r := (some (.int u8))) (As := [.ref 4, .int (1 : Int32)]) (rest := []) (st2 := [.int u8]) (X2_howMany_ok hf0.2.2.2.2.1 hf0.2.2.1 hc10) gX4_count_X2_howMany rfl X2_howMany_hy ⟨(Nat.le_of_ble_eq_true rfl), (Nat.le_of_ble_eq_true rfl)⟩ rfl hf0.2.2.2.2.1.1 rfl (Nat.le_of_ble_eq_true rfl) ⟨(Nat.le_of_ble_eq_true rfl), (Nat.le_of_ble_eq_true rfl)⟩ rfl rfl rfl dX4_count_114 ?_
            exact hj_iret hX dX4_count_117 h
          · refine hp_ite h (fun c15 h => ?_) (fun c15 h => ?_)
            · refine hj_tabIn hX (tgt := 118) (off := 117) (kx := 5) c15 (by decide) (by decide) (by decide) (by decide) dX4_count_1 ?_
              refine hj_aload_n hX rfl 0 rfl dX4_count_118 ?_
              refine hj_getr hX (j := 3) hf0.1 rfl rfl X4_count_w4 (Nat.le_of_ble_eq_true rfl) rfl X4_count_k29 dX4_count_119 ?_
              refine hj_aload_n hX rfl 0 rfl dX4_count_122 ?_
              refine hj_getr hX (j := 1) hf0.1 rfl rfl X4_count_w4 (Nat.le_of_ble_eq_true rfl) rfl X4_count_k19 dX4_count_123 ?_
              refine hj_iconst hX (v := (2 : Int32)) (by decide) dX4_count_126 ?_
              obtain ⟨u12, Ia13, hc14, h⟩ := ob_e h
              refine hj_callV hX (sh2 := sh) (I2 := Ia13) (r := (some (.int u12))) (As := [.ref 4, .int (2 : Int32)]) (rest := []) (st2 := [.int u12]) (X2_howMany_ok hf0.2.2.2.2.1 hf0.2.2.1 hc14) gX4_count_X2_howMany rfl X2_howMany_hy ⟨(Nat.le_of_ble_eq_true rfl), (Nat.le_of_ble_eq_true rfl)⟩ rfl hf0.2.2.2.2.1.1 rfl (Nat.le_of_ble_eq_true rfl) ⟨(Nat.le_of_ble_eq_true rfl), (Nat.le_of_ble_eq_true rfl)⟩ rfl rfl rfl dX4_count_127 ?_
              exact hj_iret hX dX4_count_130 h
            · refine hp_ite h (fun c19 h => ?_) (fun c19 h => ?_)
              · refine hj_tabIn hX (tgt := 131) (off := 130) (kx := 6) c19 (by decide) (by decide) (by decide) (by decide) dX4_count_1 ?_
                refine hj_aload_n hX rfl 0 rfl dX4_count_131 ?_
                refine hj_getr hX (j := 3) hf0.1 rfl rfl X4_count_w4 (Nat.le_of_ble_eq_true rfl) rfl X4_count_k29 dX4_count_132 ?_
                refine hj_aload_n hX rfl 0 rfl dX4_count_135 ?_
                refine hj_getr hX (j := 1) hf0.1 rfl rfl X4_count_w4 (Nat.le_of_ble_eq_true rfl) rfl X4_count_k19 dX4_count_136 ?_
                refine hj_iconst hX (v := (3 : Int32)) (by decide) dX4_count_139 ?_
                obtain ⟨u16, Ia17, hc18, h⟩ := ob_e h
                refine hj_callV hX (sh2 := sh) (I2 := Ia17) (r := (some (.int u16))) (As := [.ref 4, .int (3 : Int32)]) (rest := []) (st2 := [.int u16]) (X2_howMany_ok hf0.2.2.2.2.1 hf0.2.2.1 hc18) gX4_count_X2_howMany rfl X2_howMany_hy ⟨(Nat.le_of_ble_eq_true rfl), (Nat.le_of_ble_eq_true rfl)⟩ rfl hf0.2.2.2.2.1.1 rfl (Nat.le_of_ble_eq_true rfl) ⟨(Nat.le_of_ble_eq_true rfl), (Nat.le_of_ble_eq_true rfl)⟩ rfl rfl rfl dX4_count_140 ?_
                exact hj_iret hX dX4_count_143 h
              · refine hp_ite h (fun c20 h => ?_) (fun c20 h => ?_)
                · refine hj_tabIn hX (tgt := 144) (off := 143) (kx := 7) c20 (by decide) (by decide) (by decide) (by decide) dX4_count_1 ?_
                  refine hj_aload_n hX rfl 0 rfl dX4_count_144 ?_
                  refine hj_getr hX (j := 3) hf0.1 rfl rfl X4_count_w4 (Nat.le_of_ble_eq_true rfl) rfl X4_count_k29 dX4_count_145 ?_
                  refine hj_geti hX (j := 1) hf0.2.2.2.2.1.1 rfl rfl X4_count_w2 (Nat.le_of_ble_eq_true rfl) rfl X4_count_k140 dX4_count_148 ?_
                  refine hj_sipush hX (v := (10000 : Int32)) (by decide) dX4_count_151 ?_
                  refine hj_iadd hX dX4_count_154 ?_
                  exact hj_iret hX dX4_count_155 h
                · refine hp_ite h (fun c24 h => ?_) (fun c24 h => ?_)
                  · refine hj_tabIn hX (tgt := 156) (off := 155) (kx := 8) c24 (by decide) (by decide) (by decide) (by decide) dX4_count_1 ?_
                    refine hj_aload_n hX rfl 0 rfl dX4_count_156 ?_
                    refine hj_getr hX (j := 3) hf0.1 rfl rfl X4_count_w4 (Nat.le_of_ble_eq_true rfl) rfl X4_count_k29 dX4_count_157 ?_
                    refine hj_aload_n hX rfl 0 rfl dX4_count_160 ?_
                    refine hj_getr hX (j := 1) hf0.1 rfl rfl X4_count_w4 (Nat.le_of_ble_eq_true rfl) rfl X4_count_k19 dX4_count_161 ?_
                    obtain ⟨u21, Ia22, hc23, h⟩ := ob_e h
                    refine hj_callV hX (sh2 := sh) (I2 := Ia22) (r := (some (.int u21))) (As := [.ref 4]) (rest := []) (st2 := [.int u21]) (X2_pinsOfAll_ok hf0.2.2.2.2.1 hf0.2.2.1 hc23) gX4_count_X2_pinsOfAll rfl X2_pinsOfAll_hy ⟨(Nat.le_of_ble_eq_true rfl), (Nat.le_of_ble_eq_true rfl)⟩ rfl hf0.2.2.2.2.1.1 rfl (Nat.le_of_ble_eq_true rfl) ⟨(Nat.le_of_ble_eq_true rfl), (Nat.le_of_ble_eq_true rfl)⟩ rfl rfl rfl dX4_count_164 ?_
                    exact hj_iret hX dX4_count_167 h
                  · refine hp_ite h (fun c25 h => ?_) (fun c25 h => ?_)
                    · refine hj_tabIn hX (tgt := 168) (off := 167) (kx := 9) c25 (by decide) (by decide) (by decide) (by decide) dX4_count_1 ?_
                      refine hj_aload_n hX rfl 0 rfl dX4_count_168 ?_
                      refine hj_geti hX (j := 9) hf0.1 rfl rfl X4_count_w4 (Nat.le_of_ble_eq_true rfl) rfl X4_count_k88 dX4_count_169 ?_
                      exact hj_iret hX dX4_count_172 h
                    · refine hp_ite h (fun c26 h => ?_) (fun c26 h => ?_)
                      · refine hj_tabIn hX (tgt := 173) (off := 172) (kx := 10) c26 (by decide) (by decide) (by decide) (by decide) dX4_count_1 ?_
                        refine hj_aload_n hX rfl 0 rfl dX4_count_173 ?_
                        refine hj_getr hX (j := 5) hf0.1 rfl rfl X4_count_w4 (Nat.le_of_ble_eq_true rfl) rfl X4_count_k41 dX4_count_174 ?_
                        refine hj_geti hX (j := 1) hf0.2.2.2.2.2.2.1.1 rfl rfl X4_count_w1 (Nat.le_of_ble_eq_true rfl) rfl X4_count_k85 dX4_count_177 ?_
                        exact hj_iret hX dX4_count_180 h
                      · refine hp_ite h (fun c27 h => ?_) (fun c27 h => ?_)
                        · refine hj_tabIn hX (tgt := 181) (off := 180) (kx := 11) c27 (by decide) (by decide) (by decide) (by decide) dX4_count_1 ?_
                          refine hj_aload_n hX rfl 0 rfl dX4_count_181 ?_
                          refine hj_getr hX (j := 6) hf0.1 rfl rfl X4_count_w4 (Nat.le_of_ble_eq_true rfl) rfl X4_count_k45 dX4_count_182 ?_
                          refine hj_geti hX (j := 1) hf0.2.2.2.2.2.2.2.1.1 rfl rfl X4_count_w1 (Nat.le_of_ble_eq_true rfl) rfl X4_count_k85 dX4_count_185 ?_
                          exact hj_iret hX dX4_count_188 h
                        · refine hp_ite h (fun c28 h => ?_) (fun c28 h => ?_)
                          · refine hj_tabIn hX (tgt := 189) (off := 188) (kx := 12) c28 (by decide) (by decide) (by decide) (by decide) dX4_count_1 ?_
                            refine hj_aload_n hX rfl 0 rfl dX4_count_189 ?_
                            refine hj_getr hX (j := 0) hf0.1 rfl rfl X4_count_w4 (Nat.le_of_ble_eq_true rfl) rfl X4_count_k10 dX4_count_190 ?_
                            refine hj_geti hX (j := 1) hf0.2.1.1 rfl rfl X4_count_w3 (Nat.le_of_ble_eq_true rfl) rfl X4_count_k75 dX4_count_193 ?_
                            exact hj_iret hX dX4_count_196 h
                          · have e0 := lv_neT (a := 0) c1 (by decide)
                            have e1 := lv_neT (a := 1) c2 (by decide)
                            have e2 := lv_neT (a := 2) c3 (by decide)
                            have e3 := lv_neT (a := 3) c7 (by decide)
                            have e4 := lv_neT (a := 4) c11 (by decide)
                            have e5 := lv_neT (a := 5) c15 (by decide)
                            have e6 := lv_neT (a := 6) c19 (by decide)
                            have e7 := lv_neT (a := 7) c20 (by decide)
                            have e8 := lv_neT (a := 8) c24 (by decide)
                            have e9 := lv_neT (a := 9) c25 (by decide)
                            have e10 := lv_neT (a := 10) c26 (by decide)
                            have e11 := lv_neT (a := 11) c27 (by decide)
                            have e12 := lv_neT (a := 12) c28 (by decide)
                            refine hj_tabOut hX (tgt := 197) (by omega) (by decide) dX4_count_1 ?_
                            refine hj_iconst hX (v := (-1 : Int32)) (by decide) dX4_count_197 ?_
                            exact hj_iret hX dX4_count_198 h)
