def X4_write (v1 : Int32) (I : hM) : Option (Int32 × hM) := if v1 < (32 : Int32) then (some ((-1 : Int32), I)) else (if v1 ≤ (126 : Int32) then (ob (X3_append 1 v1 I) (fun u1 Ia2 => if u1 = 0 then (some ((-3 : Int32), Ia2)) else (some ((Ia2 1 1), Ia2)))) else (some ((-1 : Int32), I)))
theorem X4_write_hy : yX4_write.cls = RX4 ∧ yX4_write.cls ≠ "java/lang/invoke/MethodHandle" ∧ yX4_write.cls ≠ "java/lang/invoke/VarHandle" ∧ (parseMethodDescriptor yX4_write.desc).map (fun d => d.parameters.length) = some 1 := by decide +kernel
theorem X4_write_k10 : Cond.fieldLink RX4 10 "HatPins" "text" "LHatPins$Text;" ∈ wsX4_write := by decide +kernel
theorem X4_write_k75 : Cond.fieldLink RX4 75 "HatPins$Text" "length" "I" ∈ wsX4_write := by decide +kernel
theorem X4_write_w3 : ∀ w ∈ wsX30, w ∈ wsX4_write := by decide +kernel
theorem X4_write_w4 : ∀ w ∈ wsX40, w ∈ wsX4_write := by decide +kernel
set_option maxHeartbeats 4000000 in
set_option maxRecDepth 100000 in
theorem X4_write_ok {sh : List hS} {r : Int32} {I I2 : hM} {v1 : Int32} (hf0 : hq_X4 sh) (h : X4_write v1 I = some (r, I2)) : hp_C yX4_write wsX4_write 1 0 0 sh I [.ref 0, .int v1] (some (.int r)) sh I2 := hp_start (cc := cX4_write) (maxL := 2) (ret := (some .int)) [(0, .ref 0), (1, .int v1)] (by decide) rfl (fun _ _ => rfl) (fun _ _ => Nat.le_of_ble_eq_true rfl) (fun p l e s m below meth c D E b z hX _ => by
  unfold X4_write at h
  refine hj_iload_n hX rfl 1 rfl dX4_write_0 ?_
  refine hj_bipush hX (v := (32 : Int32)) (by decide) dX4_write_1 ?_
  refine hj_icmp_lt hX (tgt := 12) (by decide) dX4_write_3 h (fun h => ?_) (fun h => ?_)
  · refine hj_iconst hX (v := (-1 : Int32)) (by decide) dX4_write_12 ?_
    exact hj_iret hX dX4_write_13 h
  · refine hj_iload_n hX rfl 1 rfl dX4_write_6 ?_
    refine hj_bipush hX (v := (126 : Int32)) (by decide) dX4_write_7 ?_
    refine hj_icmp_le hX (tgt := 14) (by decide) dX4_write_9 h (fun h => ?_) (fun h => ?_)
    · refine hj_aload_n hX rfl 0 rfl dX4_write_14 ?_
      refine hj_getr hX (j := 0) hf0.1 rfl rfl X4_write_w4 (Nat.le_of_ble_eq_true rfl) rfl X4_write_k10 dX4_write_15 ?_
      refine hj_iload_n hX rfl 1 rfl dX4_write_18 ?_
      obtain ⟨u1, Ia2, hc3, h⟩ := ob_e h
      refine hj_callV hX (sh2 := sh) (I2 := Ia2) (r := (some (.int u1))) (As := [.int v1]) (rest := []) (st2 := [.int u1]) (X3_append_ok hf0.2.1 hc3) gX4_write_X3_append rfl X3_append_hy ⟨(Nat.le_of_ble_eq_true rfl), (Nat.le_of_ble_eq_true rfl)⟩ rfl hf0.2.1.1 rfl (Nat.le_of_ble_eq_true rfl) ⟨(Nat.le_of_ble_eq_true rfl), (Nat.le_of_ble_eq_true rfl)⟩ rfl rfl rfl dX4_write_19 ?_
      refine hj_if_eq hX (tgt := 35) (by decide) dX4_write_22 h (fun h => ?_) (fun h => ?_)
      · refine hj_bipush hX (v := (-3 : Int32)) (by decide) dX4_write_35 ?_
        exact hj_iret hX dX4_write_37 h
      · refine hj_aload_n hX rfl 0 rfl dX4_write_25 ?_
        refine hj_getr hX (j := 0) hf0.1 rfl rfl X4_write_w4 (Nat.le_of_ble_eq_true rfl) rfl X4_write_k10 dX4_write_26 ?_
        refine hj_geti hX (j := 1) hf0.2.1.1 rfl rfl X4_write_w3 (Nat.le_of_ble_eq_true rfl) rfl X4_write_k75 dX4_write_29 ?_
        refine hj_goto hX (tgt := 37) (by decide) dX4_write_32 ?_
        exact hj_iret hX dX4_write_37 h
    · refine hj_iconst hX (v := (-1 : Int32)) (by decide) dX4_write_12 ?_
      exact hj_iret hX dX4_write_13 h)
def X4_wipe (I : hM) : Option (Int32 × hM) := some ((I 1 1), (hu I 1 1 (0 : Int32)))
theorem X4_wipe_hy : yX4_wipe.cls = RX4 ∧ yX4_wipe.cls ≠ "java/lang/invoke/MethodHandle" ∧ yX4_wipe.cls ≠ "java/lang/invoke/VarHandle" ∧ (parseMethodDescriptor yX4_wipe.desc).map (fun d => d.parameters.length) = some 0 := by decide +kernel
theorem X4_wipe_k10 : Cond.fieldLink RX4 10 "HatPins" "text" "LHatPins$Text;" ∈ wsX4_wipe := by decide +kernel
theorem X4_wipe_k75 : Cond.fieldLink RX4 75 "HatPins$Text" "length" "I" ∈ wsX4_wipe := by decide +kernel
theorem X4_wipe_w3 : ∀ w ∈ wsX30, w ∈ wsX4_wipe := by decide +kernel
theorem X4_wipe_w4 : ∀ w ∈ wsX40, w ∈ wsX4_wipe := by decide +kernel
set_option maxHeartbeats 4000000 in
set_option maxRecDepth 100000 in
theorem X4_wipe_ok {sh : List hS} {r : Int32} {I I2 : hM} (hf0 : hq_X4 sh) (h : X4_wipe I = some (r, I2)) : hp_C yX4_wipe wsX4_wipe 0 0 0 sh I [.ref 0] (some (.int r)) sh I2 := hp_start (cc := cX4_wipe) (maxL := 2) (ret := (some .int)) [(0, .ref 0)] (by decide) rfl (fun _ _ => rfl) (fun _ _ => Nat.le_of_ble_eq_true rfl) (fun p l e s m below meth c D E b z hX _ => by
  unfold X4_wipe at h
  refine hj_aload_n hX rfl 0 rfl dX4_wipe_0 ?_
  refine hj_getr hX (j := 0) hf0.1 rfl rfl X4_wipe_w4 (Nat.le_of_ble_eq_true rfl) rfl X4_wipe_k10 dX4_wipe_1 ?_
  refine hj_geti hX (j := 1) hf0.2.1.1 rfl rfl X4_wipe_w3 (Nat.le_of_ble_eq_true rfl) rfl X4_wipe_k75 dX4_wipe_4 ?_
  refine hj_istore_n hX rfl (Nat.le_of_ble_eq_true rfl) (lv2 := [(1, .int (I 1 1)), (0, .ref 0)]) rfl dX4_wipe_7 ?_
  refine hj_aload_n hX rfl 1 rfl dX4_wipe_8 ?_
  refine hj_getr hX (j := 0) hf0.1 rfl rfl X4_wipe_w4 (Nat.le_of_ble_eq_true rfl) rfl X4_wipe_k10 dX4_wipe_9 ?_
  refine hj_iconst hX (v := (0 : Int32)) (by decide) dX4_wipe_12 ?_
  refine hj_puti hX (j := 1) hf0.2.1.1 rfl rfl X4_wipe_w3 (Nat.le_of_ble_eq_true rfl) rfl X4_wipe_k75 tyX3_ok nmX3 rfl (by decide +kernel) dX4_wipe_13 ?_
  refine hj_iload_n hX rfl 0 rfl dX4_wipe_16 ?_
  exact hj_iret hX dX4_wipe_17 h)
def X4_fault (I : hM) : Option (Int32 × hM) := ob (X3_readInto 1 15 I) (fun u1 Ia2 => some (u1, Ia2))
theorem X4_fault_hy : yX4_fault.cls = RX4 ∧ yX4_fault.cls ≠ "java/lang/invoke/MethodHandle" ∧ yX4_fault.cls ≠ "java/lang/invoke/VarHandle" ∧ (parseMethodDescriptor yX4_fault.desc).map (fun d => d.parameters.length) = some 0 := by decide +kernel
theorem X4_fault_k10 : Cond.fieldLink RX4 10 "HatPins" "text" "LHatPins$Text;" ∈ wsX4_fault := by decide +kernel
theorem X4_fault_k23 : Cond.fieldLink RX4 23 "HatPins" "draft" "LHatPins$Evening;" ∈ wsX4_fault := by decide +kernel
theorem X4_fault_w4 : ∀ w ∈ wsX40, w ∈ wsX4_fault := by decide +kernel
set_option maxHeartbeats 4000000 in
set_option maxRecDepth 100000 in
theorem X4_fault_ok {sh : List hS} {r : Int32} {I I2 : hM} (hf0 : hq_X4 sh) (h : X4_fault I = some (r, I2)) : hp_C yX4_fault wsX4_fault 4 0 0 sh I [.ref 0] (some (.int r)) sh I2 := hp_start (cc := cX4_fault) (maxL := 1) (ret := (some .int)) [(0, .ref 0)] (by decide) rfl (fun _ _ => rfl) (fun _ _ => Nat.le_of_ble_eq_true rfl) (fun p l e s m below meth c D E b z hX _ => by
  unfold X4_fault at h
  refine hj_aload_n hX rfl 0 rfl dX4_fault_0 ?_
  refine hj_getr hX (j := 0) hf0.1 rfl rfl X4_fault_w4 (Nat.le_of_ble_eq_true rfl) rfl X4_fault_k10 dX4_fault_1 ?_
  refine hj_aload_n hX rfl 0 rfl dX4_fault_4 ?_
  refine hj_getr hX (j := 2) hf0.1 rfl rfl X4_fault_w4 (Nat.le_of_ble_eq_true rfl) rfl X4_fault_k23 dX4_fault_5 ?_
  obtain ⟨u1, Ia2, hc3, h⟩ := ob_e h
  refine hj_callV hX (sh2 := sh) (I2 := Ia2) (r := (some (.int u1))) (As := [.ref 15]) (rest := []) (st2 := [.int u1]) (X3_readInto_ok hf0.2.1 hf0.2.2.2.1 hc3) gX4_fault_X3_readInto rfl X3_readInto_hy ⟨(Nat.le_of_ble_eq_true rfl), (Nat.le_of_ble_eq_true rfl)⟩ rfl hf0.2.1.1 rfl (Nat.le_of_ble_eq_true rfl) ⟨(Nat.le_of_ble_eq_true rfl), (Nat.le_of_ble_eq_true rfl)⟩ rfl rfl rfl dX4_fault_8 ?_
  exact hj_iret hX dX4_fault_11 h)
def X4_lay (I : hM) : Option (Int32 × hM) := ob (X3_readInto 1 15 I) (fun u1 Ia2 => if u1 = (-4 : Int32) then (if (Ia2 15 0) = 0 then (some ((-2 : Int32), Ia2)) else (ob (X3_readInto 1 4 Ia2) (fun u4 Ia5 => ob (X2_start 26 4 Ia5) (fun u7 Ia8 => some (((hu (hu (hu Ia8 36 1 (0 : Int32)) 78 1 (0 : Int32)) 0 9 (0 : Int32)) 4 0), (hu (hu (hu Ia8 36 1 (0 : Int32)) 78 1 (0 : Int32)) 0 9 (0 : Int32))))))) else (some ((-2 : Int32), Ia2)))
theorem X4_lay_hy : yX4_lay.cls = RX4 ∧ yX4_lay.cls ≠ "java/lang/invoke/MethodHandle" ∧ yX4_lay.cls ≠ "java/lang/invoke/VarHandle" ∧ (parseMethodDescriptor yX4_lay.desc).map (fun d => d.parameters.length) = some 0 := by decide +kernel
theorem X4_lay_k10 : Cond.fieldLink RX4 10 "HatPins" "text" "LHatPins$Text;" ∈ wsX4_lay := by decide +kernel
theorem X4_lay_k23 : Cond.fieldLink RX4 23 "HatPins" "draft" "LHatPins$Evening;" ∈ wsX4_lay := by decide +kernel
theorem X4_lay_k82 : Cond.fieldLink RX4 82 "HatPins$Evening" "goings" "I" ∈ wsX4_lay := by decide +kernel
theorem X4_lay_k19 : Cond.fieldLink RX4 19 "HatPins" "laid" "LHatPins$Evening;" ∈ wsX4_lay := by decide +kernel
theorem X4_lay_k29 : Cond.fieldLink RX4 29 "HatPins" "now" "LHatPins$Standing;" ∈ wsX4_lay := by decide +kernel
theorem X4_lay_k41 : Cond.fieldLink RX4 41 "HatPins" "undoable" "LHatPins$Shelf;" ∈ wsX4_lay := by decide +kernel
theorem X4_lay_k85 : Cond.fieldLink RX4 85 "HatPins$Shelf" "held" "I" ∈ wsX4_lay := by decide +kernel
theorem X4_lay_k45 : Cond.fieldLink RX4 45 "HatPins" "saved" "LHatPins$Shelf;" ∈ wsX4_lay := by decide +kernel
theorem X4_lay_k88 : Cond.fieldLink RX4 88 "HatPins" "noted" "I" ∈ wsX4_lay := by decide +kernel
theorem X4_lay_w0 : ∀ w ∈ wsX00, w ∈ wsX4_lay := by decide +kernel
theorem X4_lay_w1 : ∀ w ∈ wsX10, w ∈ wsX4_lay := by decide +kernel
theorem X4_lay_w4 : ∀ w ∈ wsX40, w ∈ wsX4_lay := by decide +kernel
set_option maxHeartbeats 4000000 in
set_option maxRecDepth 100000 in
theorem X4_lay_ok {sh : List hS} {r : Int32} {I I2 : hM} (hf0 : hq_X4 sh) (h : X4_lay I = some (r, I2)) : hp_C yX4_lay wsX4_lay 4 0 0 sh I [.ref 0] (some (.int r)) sh I2 := hp_start (cc := cX4_lay) (maxL := 1) (ret := (some .int)) [(0, .ref 0)] (by decide) rfl (fun _ _ => rfl) (fun _ _ => Nat.le_of_ble_eq_true rfl) (fun p l e s m below meth c D E b z hX _ => by
  unfold X4_lay at h
  refine hj_aload_n hX rfl 0 rfl dX4_lay_0 ?_
  refine hj_getr hX (j := 0) hf0.1 rfl rfl X4_lay_w4 (Nat.le_of_ble_eq_true rfl) rfl X4_lay_k10 dX4_lay_1 ?_
  refine hj_aload_n hX rfl 0 rfl dX4_lay_4 ?_
  refine hj_getr hX (j := 2) hf0.1 rfl rfl X4_lay_w4 (Nat.le_of_ble_eq_true rfl) rfl X4_lay_k23 dX4_lay_5 ?_
  obtain ⟨u1, Ia2, hc3, h⟩ := ob_e h
  refine hj_callV hX (sh2 := sh) (I2 := Ia2) (r := (some (.int u1))) (As := [.ref 15]) (rest := []) (st2 := [.int u1]) (X3_readInto_ok hf0.2.1 hf0.2.2.2.1 hc3) gX4_lay_X3_readInto rfl X3_readInto_hy ⟨(Nat.le_of_ble_eq_true rfl), (Nat.le_of_ble_eq_true rfl)⟩ rfl hf0.2.1.1 rfl (Nat.le_of_ble_eq_true rfl) ⟨(Nat.le_of_ble_eq_true rfl), (Nat.le_of_ble_eq_true rfl)⟩ rfl rfl rfl dX4_lay_8 ?_
  refine hj_bipush hX (v := (-4 : Int32)) (by decide) dX4_lay_11 ?_
  refine hj_icmp_ne hX (tgt := 26) (by decide) dX4_lay_13 h (fun h => ?_) (fun h => ?_)
  · refine hj_bipush hX (v := (-2 : Int32)) (by decide) dX4_lay_26 ?_
    exact hj_iret hX dX4_lay_28 h
  · refine hj_aload_n hX rfl 0 rfl dX4_lay_16 ?_
    refine hj_getr hX (j := 2) hf0.1 rfl rfl X4_lay_w4 (Nat.le_of_ble_eq_true rfl) rfl X4_lay_k23 dX4_lay_17 ?_
    refine hj_geti hX (j := 0) hf0.2.2.2.1.1 rfl rfl X4_lay_w0 (Nat.le_of_ble_eq_true rfl) rfl X4_lay_k82 dX4_lay_20 ?_
    refine hj_if_ne hX (tgt := 29) (by decide) dX4_lay_23 h (fun h => ?_) (fun h => ?_)
    · refine hj_aload_n hX rfl 0 rfl dX4_lay_29 ?_
      refine hj_getr hX (j := 0) hf0.1 rfl rfl X4_lay_w4 (Nat.le_of_ble_eq_true rfl) rfl X4_lay_k10 dX4_lay_30 ?_
      refine hj_aload_n hX rfl 0 rfl dX4_lay_33 ?_
      refine hj_getr hX (j := 1) hf0.1 rfl rfl X4_lay_w4 (Nat.le_of_ble_eq_true rfl) rfl X4_lay_k19 dX4_lay_34 ?_
      obtain ⟨u4, Ia5, hc6, h⟩ := ob_e h
      refine hj_callV hX (sh2 := sh) (I2 := Ia5) (r := (some (.int u4))) (As := [.ref 4]) (rest := []) (st2 := [.int u4]) (X3_readInto_ok hf0.2.1 hf0.2.2.1 hc6) gX4_lay_X3_readInto rfl X3_readInto_hy ⟨(Nat.le_of_ble_eq_true rfl), (Nat.le_of_ble_eq_true rfl)⟩ rfl hf0.2.1.1 rfl (Nat.le_of_ble_eq_true rfl) ⟨(Nat.le_of_ble_eq_true rfl), (Nat.le_of_ble_eq_true rfl)⟩ rfl rfl rfl dX4_lay_37 ?_
      refine hj_pop hX rfl dX4_lay_40 ?_
      refine hj_aload_n hX rfl 0 rfl dX4_lay_41 ?_
      refine hj_getr hX (j := 3) hf0.1 rfl rfl X4_lay_w4 (Nat.le_of_ble_eq_true rfl) rfl X4_lay_k29 dX4_lay_42 ?_
      refine hj_aload_n hX rfl 0 rfl dX4_lay_45 ?_
      refine hj_getr hX (j := 1) hf0.1 rfl rfl X4_lay_w4 (Nat.le_of_ble_eq_true rfl) rfl X4_lay_k19 dX4_lay_46 ?_
      obtain ⟨u7, Ia8, hc9, h⟩ := ob_e h
      refine hj_callV hX (sh2 := sh) (I2 := Ia8) (r := none) (As := [.ref 4]) (rest := []) (st2 := []) (X2_start_ok hf0.2.2.2.2.1 hf0.2.2.1 hc9) gX4_lay_X2_start rfl X2_start_hy ⟨(Nat.le_of_ble_eq_true rfl), (Nat.le_of_ble_eq_true rfl)⟩ rfl hf0.2.2.2.2.1.1 rfl (Nat.le_of_ble_eq_true rfl) ⟨(Nat.le_of_ble_eq_true rfl), (Nat.le_of_ble_eq_true rfl)⟩ rfl rfl rfl dX4_lay_49 ?_
      refine hj_aload_n hX rfl 0 rfl dX4_lay_52 ?_
      refine hj_getr hX (j := 5) hf0.1 rfl rfl X4_lay_w4 (Nat.le_of_ble_eq_true rfl) rfl X4_lay_k41 dX4_lay_53 ?_
      refine hj_iconst hX (v := (0 : Int32)) (by decide) dX4_lay_56 ?_
      refine hj_puti hX (j := 1) hf0.2.2.2.2.2.2.1.1 rfl rfl X4_lay_w1 (Nat.le_of_ble_eq_true rfl) rfl X4_lay_k85 tyX1_ok nmX1 rfl (by decide +kernel) dX4_lay_57 ?_
      refine hj_aload_n hX rfl 0 rfl dX4_lay_60 ?_
      refine hj_getr hX (j := 6) hf0.1 rfl rfl X4_lay_w4 (Nat.le_of_ble_eq_true rfl) rfl X4_lay_k45 dX4_lay_61 ?_
      refine hj_iconst hX (v := (0 : Int32)) (by decide) dX4_lay_64 ?_
      refine hj_puti hX (j := 1) hf0.2.2.2.2.2.2.2.1.1 rfl rfl X4_lay_w1 (Nat.le_of_ble_eq_true rfl) rfl X4_lay_k85 tyX1_ok nmX1 rfl (by decide +kernel) dX4_lay_65 ?_
      refine hj_aload_n hX rfl 0 rfl dX4_lay_68 ?_
      refine hj_iconst hX (v := (0 : Int32)) (by decide) dX4_lay_69 ?_
      refine hj_puti hX (j := 9) hf0.1 rfl rfl X4_lay_w4 (Nat.le_of_ble_eq_true rfl) rfl X4_lay_k88 tyX4_ok nmX4 rfl (by decide +kernel) dX4_lay_70 ?_
      refine hj_aload_n hX rfl 0 rfl dX4_lay_73 ?_
      refine hj_getr hX (j := 1) hf0.1 rfl rfl X4_lay_w4 (Nat.le_of_ble_eq_true rfl) rfl X4_lay_k19 dX4_lay_74 ?_
      refine hj_geti hX (j := 0) hf0.2.2.1.1 rfl rfl X4_lay_w0 (Nat.le_of_ble_eq_true rfl) rfl X4_lay_k82 dX4_lay_77 ?_
      exact hj_iret hX dX4_lay_80 h
    · refine hj_bipush hX (v := (-2 : Int32)) (by decide) dX4_lay_26 ?_
      exact hj_iret hX dX4_lay_28 h)
def X4_isGoing (v1 : Int32) (I : hM) : Option (Int32 × hM) := if v1 < 0 then (gd (decide ((0 : Int32) = (0 : Int32)) || decide ((0 : Int32) = (1 : Int32))) (some ((0 : Int32), I))) else (if (I 4 0) ≤ v1 then (gd (decide ((0 : Int32) = (0 : Int32)) || decide ((0 : Int32) = (1 : Int32))) (some ((0 : Int32), I))) else (gd (decide ((1 : Int32) = (0 : Int32)) || decide ((1 : Int32) = (1 : Int32))) (some ((1 : Int32), I))))
theorem X4_isGoing_hy : yX4_isGoing.cls = RX4 ∧ yX4_isGoing.cls ≠ "java/lang/invoke/MethodHandle" ∧ yX4_isGoing.cls ≠ "java/lang/invoke/VarHandle" ∧ (parseMethodDescriptor yX4_isGoing.desc).map (fun d => d.parameters.length) = some 1 := by decide +kernel
theorem X4_isGoing_k19 : Cond.fieldLink RX4 19 "HatPins" "laid" "LHatPins$Evening;" ∈ wsX4_isGoing := by decide +kernel
theorem X4_isGoing_k82 : Cond.fieldLink RX4 82 "HatPins$Evening" "goings" "I" ∈ wsX4_isGoing := by decide +kernel
theorem X4_isGoing_w0 : ∀ w ∈ wsX00, w ∈ wsX4_isGoing := by decide +kernel
theorem X4_isGoing_w4 : ∀ w ∈ wsX40, w ∈ wsX4_isGoing := by decide +kernel
set_option maxHeartbeats 4000000 in
set_option maxRecDepth 100000 in
theorem X4_isGoing_ok {sh : List hS} {r : Int32} {I I2 : hM} {v1 : Int32} (hf0 : hq_X4 sh) (h : X4_isGoing v1 I = some (r, I2)) : hp_C yX4_isGoing wsX4_isGoing 0 0 0 sh I [.ref 0, .int v1] (some (.int r)) sh I2 := hp_start (cc := cX4_isGoing) (maxL := 2) (ret := (some .boolean)) [(0, .ref 0), (1, .int v1)] (by decide) rfl (fun _ _ => rfl) (fun _ _ => Nat.le_of_ble_eq_true rfl) (fun p l e s m below meth c D E b z hX _ => by
  unfold X4_isGoing at h
  refine hj_iload_n hX rfl 1 rfl dX4_isGoing_0 ?_
  refine hj_if_lt hX (tgt := 19) (by decide) dX4_isGoing_1 h (fun h => ?_) (fun h => ?_)
  · refine hj_iconst hX (v := (0 : Int32)) (by decide) dX4_isGoing_19 ?_
    exact hj_zret hX dX4_isGoing_20 h
  · refine hj_iload_n hX rfl 1 rfl dX4_isGoing_4 ?_
    refine hj_aload_n hX rfl 0 rfl dX4_isGoing_5 ?_
    refine hj_getr hX (j := 1) hf0.1 rfl rfl X4_isGoing_w4 (Nat.le_of_ble_eq_true rfl) rfl X4_isGoing_k19 dX4_isGoing_6 ?_
    refine hj_geti hX (j := 0) hf0.2.2.1.1 rfl rfl X4_isGoing_w0 (Nat.le_of_ble_eq_true rfl) rfl X4_isGoing_k82 dX4_isGoing_9 ?_
    refine hj_icmp_ge hX (tgt := 19) (by decide) dX4_isGoing_12 h (fun h => ?_) (fun h => ?_)
    · refine hj_iconst hX (v := (0 : Int32)) (by decide) dX4_isGoing_19 ?_
      exact hj_zret hX dX4_isGoing_20 h
    · refine hj_iconst hX (v := (1 : Int32)) (by decide) dX4_isGoing_15 ?_
      refine hj_goto hX (tgt := 20) (by decide) dX4_isGoing_16 ?_
      exact hj_zret hX dX4_isGoing_20 h)
def X4_going (v1 : Int32) (v2 : Int32) (I : hM) : Option (Int32 × hM) := ob (X4_isGoing v1 I) (fun u1 Ia2 => if u1 = 0 then (some ((-1 : Int32), Ia2)) else (if v2 = (0 : Int32) then (gd (hx v1 7) (some ((Ia2 5 (v1).toNatClampNeg), Ia2))) else (if v2 = (1 : Int32) then (gd (hx v1 7) (some ((Ia2 7 (v1).toNatClampNeg), Ia2))) else (if v2 = (2 : Int32) then (gd (hx v1 7) (some ((Ia2 8 (v1).toNatClampNeg), Ia2))) else (if v2 = (3 : Int32) then (gd (hx v1 7) (some ((Ia2 9 (v1).toNatClampNeg), Ia2))) else (if v2 = (4 : Int32) then (gd (hx v1 7) (some ((Ia2 27 (v1).toNatClampNeg), Ia2))) else (if v2 = (5 : Int32) then (ob (X2_whenOf 26 v1 Ia2) (fun u9 Ia10 => some (u9, Ia10))) else (if v2 = (6 : Int32) then (gd (hx v1 7) (if (Ia2 27 (v1).toNatClampNeg) = (1 : Int32) then (ob (X2_worthOf 26 4 v1 Ia2) (fun u13 Ia14 => some ((u13 + (20 : Int32)), Ia14))) else (some ((20 : Int32), Ia2)))) else (some ((-1 : Int32), Ia2))))))))))
theorem X4_going_hy : yX4_going.cls = RX4 ∧ yX4_going.cls ≠ "java/lang/invoke/MethodHandle" ∧ yX4_going.cls ≠ "java/lang/invoke/VarHandle" ∧ (parseMethodDescriptor yX4_going.desc).map (fun d => d.parameters.length) = some 2 := by decide +kernel
theorem X4_going_k19 : Cond.fieldLink RX4 19 "HatPins" "laid" "LHatPins$Evening;" ∈ wsX4_going := by decide +kernel
theorem X4_going_k94 : Cond.fieldLink RX4 94 "HatPins$Evening" "kind" "[I" ∈ wsX4_going := by decide +kernel
theorem X4_going_k97 : Cond.fieldLink RX4 97 "HatPins$Evening" "interest" "[I" ∈ wsX4_going := by decide +kernel
theorem X4_going_k100 : Cond.fieldLink RX4 100 "HatPins$Evening" "wane" "[I" ∈ wsX4_going := by decide +kernel
theorem X4_going_k103 : Cond.fieldLink RX4 103 "HatPins$Evening" "minutes" "[I" ∈ wsX4_going := by decide +kernel
theorem X4_going_k29 : Cond.fieldLink RX4 29 "HatPins" "now" "LHatPins$Standing;" ∈ wsX4_going := by decide +kernel
theorem X4_going_k106 : Cond.fieldLink RX4 106 "HatPins$Standing" "state" "[I" ∈ wsX4_going := by decide +kernel
theorem X4_going_w0 : ∀ w ∈ wsX00, w ∈ wsX4_going := by decide +kernel
theorem X4_going_w2 : ∀ w ∈ wsX20, w ∈ wsX4_going := by decide +kernel
theorem X4_going_w4 : ∀ w ∈ wsX40, w ∈ wsX4_going := by decide +kernel
set_option maxHeartbeats 4000000 in
set_option maxRecDepth 100000 in
theorem X4_going_ok {sh : List hS} {r : Int32} {I I2 : hM} {v1 : Int32} {v2 : Int32} (hf0 : hq_X4 sh) (h : X4_going v1 v2 I = some (r, I2)) : hp_C yX4_going wsX4_going 3 0 0 sh I [.ref 0, .int v1, .int v2] (some (.int r)) sh I2 := hp_start (cc := cX4_going) (maxL := 3) (ret := (some .int)) [(0, .ref 0), (1, .int v1), (2, .int v2)] (by decide) rfl (fun _ _ => rfl) (fun _ _ => Nat.le_of_ble_eq_true rfl) (fun p l e s m below meth c D E b z hX _ => by
  unfold X4_going at h
  refine hj_aload_n hX rfl 0 rfl dX4_going_0 ?_
  refine hj_iload_n hX rfl 1 rfl dX4_going_1 ?_
  obtain ⟨u1, Ia2, hc3, h⟩ := ob_e h
  refine hj_callV hX (sh2 := sh) (I2 := Ia2) (r := (some (.int u1))) (As := [.int v1]) (rest := []) (st2 := [.int u1]) (X4_isGoing_ok hf0 hc3) gX4_going_X4_isGoing rfl X4_isGoing_hy ⟨(Nat.le_of_ble_eq_true rfl), (Nat.le_of_ble_eq_true rfl)⟩ rfl hf0.1 rfl (Nat.le_of_ble_eq_true rfl) ⟨(Nat.le_of_ble_eq_true rfl), (Nat.le_of_ble_eq_true rfl)⟩ rfl rfl rfl dX4_going_2 ?_
  refine hj_if_ne hX (tgt := 10) (by decide) dX4_going_5 h (fun h => ?_) (fun h => ?_)
  · refine hj_iload_n hX rfl 2 rfl dX4_going_10 ?_
    refine hp_ite h (fun c4 h => ?_) (fun c4 h => ?_)
    · refine hj_tabIn hX (tgt := 52) (off := 41) (kx := 0) c4 (by decide) (by decide) (by decide) (by decide) dX4_going_11 ?_
      refine hj_aload_n hX rfl 0 rfl dX4_going_52 ?_
      refine hj_getr hX (j := 1) hf0.1 rfl rfl X4_going_w4 (Nat.le_of_ble_eq_true rfl) rfl X4_going_k19 dX4_going_53 ?_
      refine hj_getr hX (j := 3) hf0.2.2.1.1 rfl rfl X4_going_w0 (Nat.le_of_ble_eq_true rfl) rfl X4_going_k94 dX4_going_56 ?_
      refine hj_iload_n hX rfl 1 rfl dX4_going_59 ?_
      refine hj_iald hX hf0.2.2.1.2.1 dX4_going_60 h (fun h => ?_)
      exact hj_iret hX dX4_going_61 h
    · refine hp_ite h (fun c5 h => ?_) (fun c5 h => ?_)
      · refine hj_tabIn hX (tgt := 62) (off := 51) (kx := 1) c5 (by decide) (by decide) (by decide) (by decide) dX4_going_11 ?_
        refine hj_aload_n hX rfl 0 rfl dX4_going_62 ?_
        refine hj_getr hX (j := 1) hf0.1 rfl rfl X4_going_w4 (Nat.le_of_ble_eq_true rfl) rfl X4_going_k19 dX4_going_63 ?_
        refine hj_getr hX (j := 5) hf0.2.2.1.1 rfl rfl X4_going_w0 (Nat.le_of_ble_eq_true rfl) rfl X4_going_k97 dX4_going_66 ?_
        refine hj_iload_n hX rfl 1 rfl dX4_going_69 ?_
        refine hj_iald hX hf0.2.2.1.2.2.2.1 dX4_going_70 h (fun h => ?_)
        exact hj_iret hX dX4_going_71 h
      · refine hp_ite h (fun c6 h => ?_) (fun c6 h => ?_)
        · refine hj_tabIn hX (tgt := 72) (off := 61) (kx := 2) c6 (by decide) (by decide) (by decide) (by decide) dX4_going_11 ?_
          refine hj_aload_n hX rfl 0 rfl dX4_going_72 ?_
          refine hj_getr hX (j := 1) hf0.1 rfl rfl X4_going_w4 (Nat.le_of_ble_eq_true rfl) rfl X4_going_k19 dX4_going_73 ?_
          refine hj_getr hX (j := 6) hf0.2.2.1.1 rfl rfl X4_going_w0 (Nat.le_of_ble_eq_true rfl) rfl X4_going_k100 dX4_going_76 ?_
          refine hj_iload_n hX rfl 1 rfl dX4_going_79 ?_
          refine hj_iald hX hf0.2.2.1.2.2.2.2.1 dX4_going_80 h (fun h => ?_)
          exact hj_iret hX dX4_going_81 h
        · refine hp_ite h (fun c7 h => ?_) (fun c7 h => ?_)
          · refine hj_tabIn hX (tgt := 82) (off := 71) (kx := 3) c7 (by decide) (by decide) (by decide) (by decide) dX4_going_11 ?_
            refine hj_aload_n hX rfl 0 rfl dX4_going_82 ?_
            refine hj_getr hX (j := 1) hf0.1 rfl rfl X4_going_w4 (Nat.le_of_ble_eq_true rfl) rfl X4_going_k19 dX4_going_83 ?_
            refine hj_getr hX (j := 7) hf0.2.2.1.1 rfl rfl X4_going_w0 (Nat.le_of_ble_eq_true rfl) rfl X4_going_k103 dX4_going_86 ?_
            refine hj_iload_n hX rfl 1 rfl dX4_going_89 ?_
            refine hj_iald hX hf0.2.2.1.2.2.2.2.2.1 dX4_going_90 h (fun h => ?_)
            exact hj_iret hX dX4_going_91 h
          · refine hp_ite h (fun c8 h => ?_) (fun c8 h => ?_)
            · refine hj_tabIn hX (tgt := 92) (off := 81) (kx := 4) c8 (by decide) (by decide) (by decide) (by decide) dX4_going_11 ?_
              refine hj_aload_n hX rfl 0 rfl dX4_going_92 ?_
              refine hj_getr hX (j := 3) hf0.1 rfl rfl X4_going_w4 (Nat.le_of_ble_eq_true rfl) rfl X4_going_k29 dX4_going_93 ?_
              refine hj_getr hX (j := 2) hf0.2.2.2.2.1.1 rfl rfl X4_going_w2 (Nat.le_of_ble_eq_true rfl) rfl X4_going_k106 dX4_going_96 ?_
              refine hj_iload_n hX rfl 1 rfl dX4_going_99 ?_
              refine hj_iald hX hf0.2.2.2.2.1.2.1 dX4_going_100 h (fun h => ?_)
              exact hj_iret hX dX4_going_101 h
            · refine hp_ite h (fun c12 h => ?_) (fun c12 h => ?_)
              · refine hj_tabIn hX (tgt := 102) (off := 91) (kx := 5) c12 (by decide) (by decide) (by decide) (by decide) dX4_going_11 ?_
                refine hj_aload_n hX rfl 0 rfl dX4_going_102 ?_
                refine hj_getr hX (j := 3) hf0.1 rfl rfl X4_going_w4 (Nat.le_of_ble_eq_true rfl) rfl X4_going_k29 dX4_going_103 ?_
                refine hj_iload_n hX rfl 1 rfl dX4_going_106 ?_
                obtain ⟨u9, Ia10, hc11, h⟩ := ob_e h
                refine hj_callV hX (sh2 := sh) (I2 := Ia10) (r := (some (.int u9))) (As := [.int v1]) (rest := []) (st2 := [.int u9]) (X2_whenOf_ok hf0.2.2.2.2.1 hc11) gX4_going_X2_whenOf rfl X2_whenOf_hy ⟨(Nat.le_of_ble_eq_true rfl), (Nat.le_of_ble_eq_true rfl)⟩ rfl hf0.2.2.2.2.1.1 rfl (Nat.le_of_ble_eq_true rfl) ⟨(Nat.le_of_ble_eq_true rfl), (Nat.le_of_ble_eq_true rfl)⟩ rfl rfl rfl dX4_going_107 ?_
                exact hj_iret hX dX4_going_110 h
              · refine hp_ite h (fun c16 h => ?_) (fun c16 h => ?_)
                · refine hj_tabIn hX (tgt := 111) (off := 100) (kx := 6) c16 (by decide) (by decide) (by decide) (by decide) dX4_going_11 ?_
                  refine hj_aload_n hX rfl 0 rfl dX4_going_111 ?_
                  refine hj_getr hX (j := 3) hf0.1 rfl rfl X4_going_w4 (Nat.le_of_ble_eq_true rfl) rfl X4_going_k29 dX4_going_112 ?_
                  refine hj_getr hX (j := 2) hf0.2.2.2.2.1.1 rfl rfl X4_going_w2 (Nat.le_of_ble_eq_true rfl) rfl X4_going_k106 dX4_going_115 ?_
                  refine hj_iload_n hX rfl 1 rfl dX4_going_118 ?_
                  refine hj_iald hX hf0.2.2.2.2.1.2.1 dX4_going_119 h (fun h => ?_)
                  refine hj_iconst hX (v := (1 : Int32)) (by decide) dX4_going_120 ?_
                  refine hj_icmp_ne hX (tgt := 142) (by decide) dX4_going_121 h (fun h => ?_) (fun h => ?_)
                  · refine hj_bipush hX (v := (20 : Int32)) (by decide) dX4_going_142 ?_
                    exact hj_iret hX dX4_going_144 h
                  · refine hj_aload_n hX rfl 0 rfl dX4_going_124 ?_
                    refine hj_getr hX (j := 3) hf0.1 rfl rfl X4_going_w4 (Nat.le_of_ble_eq_true rfl) rfl X4_going_k29 dX4_going_125 ?_
                    refine hj_aload_n hX rfl 0 rfl dX4_going_128 ?_
                    refine hj_getr hX (j := 1) hf0.1 rfl rfl X4_going_w4 (Nat.le_of_ble_eq_true rfl) rfl X4_going_k19 dX4_going_129 ?_
                    refine hj_iload_n hX rfl 1 rfl dX4_going_132 ?_
                    obtain ⟨u13, Ia14, hc15, h⟩ := ob_e h
                    refine hj_callV hX (sh2 := sh) (I2 := Ia14) (r := (some (.int u13))) (As := [.ref 4, .int v1]) (rest := []) (st2 := [.int u13]) (X2_worthOf_ok hf0.2.2.2.2.1 hf0.2.2.1 hc15) gX4_going_X2_worthOf rfl X2_worthOf_hy ⟨(Nat.le_of_ble_eq_true rfl), (Nat.le_of_ble_eq_true rfl)⟩ rfl hf0.2.2.2.2.1.1 rfl (Nat.le_of_ble_eq_true rfl) ⟨(Nat.le_of_ble_eq_true rfl), (Nat.le_of_ble_eq_true rfl)⟩ rfl rfl rfl dX4_going_133 ?_
                    refine hj_bipush hX (v := (20 : Int32)) (by decide) dX4_going_136 ?_
                    refine hj_iadd hX dX4_going_138 ?_
                    refine hj_goto hX (tgt := 144) (by decide) dX4_going_139 ?_
                    exact hj_iret hX dX4_going_144 h
                · have e0 := lv_neT (a := 0) c4 (by decide)
                  have e1 := lv_neT (a := 1) c5 (by decide)
                  have e2 := lv_neT (a := 2) c6 (by decide)
                  have e3 := lv_neT (a := 3) c7 (by decide)
                  have e4 := lv_neT (a := 4) c8 (by decide)
                  have e5 := lv_neT (a := 5) c12 (by decide)
                  have e6 := lv_neT (a := 6) c16 (by decide)
                  refine hj_tabOut hX (tgt := 145) (by omega) (by decide) dX4_going_11 ?_
                  refine hj_iconst hX (v := (-1 : Int32)) (by decide) dX4_going_145 ?_
                  exact hj_iret hX dX4_going_146 h
  · refine hj_iconst hX (v := (-1 : Int32)) (by decide) dX4_going_8 ?_
    exact hj_iret hX dX4_going_9 h)
def X4_isLady (v1 : Int32) (I : hM) : Option (Int32 × hM) := if v1 < 0 then (gd (decide ((0 : Int32) = (0 : Int32)) || decide ((0 : Int32) = (1 : Int32))) (some ((0 : Int32), I))) else (if (I 4 2) ≤ v1 then (gd (decide ((0 : Int32) = (0 : Int32)) || decide ((0 : Int32) = (1 : Int32))) (some ((0 : Int32), I))) else (gd (decide ((1 : Int32) = (0 : Int32)) || decide ((1 : Int32) = (1 : Int32))) (some ((1 : Int32), I))))
theorem X4_isLady_hy : yX4_isLady.cls = RX4 ∧ yX4_isLady.cls ≠ "java/lang/invoke/MethodHandle" ∧ yX4_isLady.cls ≠ "java/lang/invoke/VarHandle" ∧ (parseMethodDescriptor yX4_isLady.desc).map (fun d => d.parameters.length) = some 1 := by decide +kernel
theorem X4_isLady_k19 : Cond.fieldLink RX4 19 "HatPins" "laid" "LHatPins$Evening;" ∈ wsX4_isLady := by decide +kernel
theorem X4_isLady_k193 : Cond.fieldLink RX4 193 "HatPins$Evening" "ladies" "I" ∈ wsX4_isLady := by decide +kernel
theorem X4_isLady_w0 : ∀ w ∈ wsX00, w ∈ wsX4_isLady := by decide +kernel
theorem X4_isLady_w4 : ∀ w ∈ wsX40, w ∈ wsX4_isLady := by decide +kernel
set_option maxHeartbeats 4000000 in
set_option maxRecDepth 100000 in
theorem X4_isLady_ok {sh : List hS} {r : Int32} {I I2 : hM} {v1 : Int32} (hf0 : hq_X4 sh) (h : X4_isLady v1 I = some (r, I2)) : hp_C yX4_isLady wsX4_isLady 0 0 0 sh I [.ref 0, .int v1] (some (.int r)) sh I2 := hp_start (cc := cX4_isLady) (maxL := 2) (ret := (some .boolean)) [(0, .ref 0), (1, .int v1)] (by decide) rfl (fun _ _ => rfl) (fun _ _ => Nat.le_of_ble_eq_true rfl) (fun p l e s m below meth c D E b z hX _ => by
  unfold X4_isLady at h
  refine hj_iload_n hX rfl 1 rfl dX4_isLady_0 ?_
  refine hj_if_lt hX (tgt := 19) (by decide) dX4_isLady_1 h (fun h => ?_) (fun h => ?_)
  · refine hj_iconst hX (v := (0 : Int32)) (by decide) dX4_isLady_19 ?_
    exact hj_zret hX dX4_isLady_20 h
  · refine hj_iload_n hX rfl 1 rfl dX4_isLady_4 ?_
    refine hj_aload_n hX rfl 0 rfl dX4_isLady_5 ?_
    refine hj_getr hX (j := 1) hf0.1 rfl rfl X4_isLady_w4 (Nat.le_of_ble_eq_true rfl) rfl X4_isLady_k19 dX4_isLady_6 ?_
    refine hj_geti hX (j := 2) hf0.2.2.1.1 rfl rfl X4_isLady_w0 (Nat.le_of_ble_eq_true rfl) rfl X4_isLady_k193 dX4_isLady_9 ?_
    refine hj_icmp_ge hX (tgt := 19) (by decide) dX4_isLady_12 h (fun h => ?_) (fun h => ?_)
    · refine hj_iconst hX (v := (0 : Int32)) (by decide) dX4_isLady_19 ?_
      exact hj_zret hX dX4_isLady_20 h
    · refine hj_iconst hX (v := (1 : Int32)) (by decide) dX4_isLady_15 ?_
      refine hj_goto hX (tgt := 20) (by decide) dX4_isLady_16 ?_
      exact hj_zret hX dX4_isLady_20 h)
def X4_lady (v1 : Int32) (v2 : Int32) (I : hM) : Option (Int32 × hM) := ob (X4_isLady v1 I) (fun u1 Ia2 => if u1 = 0 then (some ((-1 : Int32), Ia2)) else (if v2 = (0 : Int32) then (gd (hx v1 4) (some ((Ia2 30 (v1).toNatClampNeg), Ia2))) else (if v2 = (1 : Int32) then (gd (hx v1 4) (some ((Ia2 14 (v1).toNatClampNeg), Ia2))) else (if v2 = (2 : Int32) then (ob (X2_pinnableBy 26 4 v1 Ia2) (fun u6 Ia7 => some (u6, Ia7))) else (some ((-1 : Int32), Ia2))))))
theorem X4_lady_hy : yX4_lady.cls = RX4 ∧ yX4_lady.cls ≠ "java/lang/invoke/MethodHandle" ∧ yX4_lady.cls ≠ "java/lang/invoke/VarHandle" ∧ (parseMethodDescriptor yX4_lady.desc).map (fun d => d.parameters.length) = some 2 := by decide +kernel
theorem X4_lady_k29 : Cond.fieldLink RX4 29 "HatPins" "now" "LHatPins$Standing;" ∈ wsX4_lady := by decide +kernel
theorem X4_lady_k120 : Cond.fieldLink RX4 120 "HatPins$Standing" "pins" "[I" ∈ wsX4_lady := by decide +kernel
theorem X4_lady_k19 : Cond.fieldLink RX4 19 "HatPins" "laid" "LHatPins$Evening;" ∈ wsX4_lady := by decide +kernel
theorem X4_lady_k123 : Cond.fieldLink RX4 123 "HatPins$Evening" "reach" "[I" ∈ wsX4_lady := by decide +kernel
theorem X4_lady_w0 : ∀ w ∈ wsX00, w ∈ wsX4_lady := by decide +kernel
theorem X4_lady_w2 : ∀ w ∈ wsX20, w ∈ wsX4_lady := by decide +kernel
theorem X4_lady_w4 : ∀ w ∈ wsX40, w ∈ wsX4_lady := by decide +kernel
set_option maxHeartbeats 4000000 in
set_option maxRecDepth 100000 in
theorem X4_lady_ok {sh : List hS} {r : Int32} {I I2 : hM} {v1 : Int32} {v2 : Int32} (hf0 : hq_X4 sh) (h : X4_lady v1 v2 I = some (r, I2)) : hp_C yX4_lady wsX4_lady 2 0 0 sh I [.ref 0, .int v1, .int v2] (some (.int r)) sh I2 := hp_start (cc := cX4_lady) (maxL := 3) (ret := (some .int)) [(0, .ref 0), (1, .int v1), (2, .int v2)] (by decide) rfl (fun _ _ => rfl) (fun _ _ => Nat.le_of_ble_eq_true rfl) (fun p l e s m below meth c D E b z hX _ => by
  unfold X4_lady at h
  refine hj_aload_n hX rfl 0 rfl dX4_lady_0 ?_
  refine hj_iload_n hX rfl 1 rfl dX4_lady_1 ?_
  obtain ⟨u1, Ia2, hc3, h⟩ := ob_e h
  refine hj_callV hX (sh2 := sh) (I2 := Ia2) (r := (some (.int u1))) (As := [.int v1]) (rest := []) (st2 := [.int u1]) (X4_isLady_ok hf0 hc3) gX4_lady_X4_isLady rfl X4_isLady_hy ⟨(Nat.le_of_ble_eq_true rfl), (Nat.le_of_ble_eq_true rfl)⟩ rfl hf0.1 rfl (Nat.le_of_ble_eq_true rfl) ⟨(Nat.le_of_ble_eq_true rfl), (Nat.le_of_ble_eq_true rfl)⟩ rfl rfl rfl dX4_lady_2 ?_
  refine hj_if_ne hX (tgt := 10) (by decide) dX4_lady_5 h (fun h => ?_) (fun h => ?_)
  · refine hj_iload_n hX rfl 2 rfl dX4_lady_10 ?_
    refine hp_ite h (fun c4 h => ?_) (fun c4 h => ?_)
    · refine hj_tabIn hX (tgt := 36) (off := 25) (kx := 0) c4 (by decide) (by decide) (by decide) (by decide) dX4_lady_11 ?_
      refine hj_aload_n hX rfl 0 rfl dX4_lady_36 ?_
      refine hj_getr hX (j := 3) hf0.1 rfl rfl X4_lady_w4 (Nat.le_of_ble_eq_true rfl) rfl X4_lady_k29 dX4_lady_37 ?_
      refine hj_getr hX (j := 5) hf0.2.2.2.2.1.1 rfl rfl X4_lady_w2 (Nat.le_of_ble_eq_true rfl) rfl X4_lady_k120 dX4_lady_40 ?_
      refine hj_iload_n hX rfl 1 rfl dX4_lady_43 ?_
      refine hj_iald hX hf0.2.2.2.2.1.2.2.2.2 dX4_lady_44 h (fun h => ?_)
      exact hj_iret hX dX4_lady_45 h
    · refine hp_ite h (fun c5 h => ?_) (fun c5 h => ?_)
      · refine hj_tabIn hX (tgt := 46) (off := 35) (kx := 1) c5 (by decide) (by decide) (by decide) (by decide) dX4_lady_11 ?_
        refine hj_aload_n hX rfl 0 rfl dX4_lady_46 ?_
        refine hj_getr hX (j := 1) hf0.1 rfl rfl X4_lady_w4 (Nat.le_of_ble_eq_true rfl) rfl X4_lady_k19 dX4_lady_47 ?_
        refine hj_getr hX (j := 12) hf0.2.2.1.1 rfl rfl X4_lady_w0 (Nat.le_of_ble_eq_true rfl) rfl X4_lady_k123 dX4_lady_50 ?_
        refine hj_iload_n hX rfl 1 rfl dX4_lady_53 ?_
        refine hj_iald hX hf0.2.2.1.2.2.2.2.2.2.2.2.2.2 dX4_lady_54 h (fun h => ?_)
        exact hj_iret hX dX4_lady_55 h
      · refine hp_ite h (fun c9 h => ?_) (fun c9 h => ?_)
        · refine hj_tabIn hX (tgt := 56) (off := 45) (kx := 2) c9 (by decide) (by decide) (by decide) (by decide) dX4_lady_11 ?_
          refine hj_aload_n hX rfl 0 rfl dX4_lady_56 ?_
          refine hj_getr hX (j := 3) hf0.1 rfl rfl X4_lady_w4 (Nat.le_of_ble_eq_true rfl) rfl X4_lady_k29 dX4_lady_57 ?_
          refine hj_aload_n hX rfl 0 rfl dX4_lady_60 ?_
          refine hj_getr hX (j := 1) hf0.1 rfl rfl X4_lady_w4 (Nat.le_of_ble_eq_true rfl) rfl X4_lady_k19 dX4_lady_61 ?_
          refine hj_iload_n hX rfl 1 rfl dX4_lady_64 ?_
          obtain ⟨u6, Ia7, hc8, h⟩ := ob_e h
          refine hj_callV hX (sh2 := sh) (I2 := Ia7) (r := (some (.int u6))) (As := [.ref 4, .int v1]) (rest := []) (st2 := [.int u6]) (X2_pinnableBy_ok hf0.2.2.2.2.1 hf0.2.2.1 hc8) gX4_lady_X2_pinnableBy rfl X2_pinnableBy_hy ⟨(Nat.le_of_ble_eq_true rfl), (Nat.le_of_ble_eq_true rfl)⟩ rfl hf0.2.2.2.2.1.1 rfl (Nat.le_of_ble_eq_true rfl) ⟨(Nat.le_of_ble_eq_true rfl), (Nat.le_of_ble_eq_true rfl)⟩ rfl rfl rfl dX4_lady_65 ?_
          exact hj_iret hX dX4_lady_68 h
        · have e0 := lv_neT (a := 0) c4 (by decide)
          have e1 := lv_neT (a := 1) c5 (by decide)
          have e2 := lv_neT (a := 2) c9 (by decide)
          refine hj_tabOut hX (tgt := 69) (by omega) (by decide) dX4_lady_11 ?_
          refine hj_iconst hX (v := (-1 : Int32)) (by decide) dX4_lady_69 ?_
          exact hj_iret hX dX4_lady_70 h
  · refine hj_iconst hX (v := (-1 : Int32)) (by decide) dX4_lady_8 ?_
    exact hj_iret hX dX4_lady_9 h)
def X4_pass (v1 : Int32) (I : hM) : Option (Int32 × hM) := if v1 < (1 : Int32) then (some ((-1 : Int32), I)) else (if v1 ≤ (24 : Int32) then (if ((I 26 0) + v1) ≤ (999 : Int32) then (ob (X1_put 36 8 26 I) (fun u1 Ia2 => ob (X2_goBy 26 4 v1 Ia2) (fun u4 Ia5 => some (((Ia5 26 1) + (10000 : Int32)), Ia5)))) else (some ((-2 : Int32), I))) else (some ((-1 : Int32), I)))
theorem X4_pass_hy : yX4_pass.cls = RX4 ∧ yX4_pass.cls ≠ "java/lang/invoke/MethodHandle" ∧ yX4_pass.cls ≠ "java/lang/invoke/VarHandle" ∧ (parseMethodDescriptor yX4_pass.desc).map (fun d => d.parameters.length) = some 1 := by decide +kernel
theorem X4_pass_k29 : Cond.fieldLink RX4 29 "HatPins" "now" "LHatPins$Standing;" ∈ wsX4_pass := by decide +kernel
theorem X4_pass_k129 : Cond.fieldLink RX4 129 "HatPins$Standing" "minute" "I" ∈ wsX4_pass := by decide +kernel
theorem X4_pass_k41 : Cond.fieldLink RX4 41 "HatPins" "undoable" "LHatPins$Shelf;" ∈ wsX4_pass := by decide +kernel
theorem X4_pass_k19 : Cond.fieldLink RX4 19 "HatPins" "laid" "LHatPins$Evening;" ∈ wsX4_pass := by decide +kernel
theorem X4_pass_k140 : Cond.fieldLink RX4 140 "HatPins$Standing" "had" "I" ∈ wsX4_pass := by decide +kernel
theorem X4_pass_w2 : ∀ w ∈ wsX20, w ∈ wsX4_pass := by decide +kernel
theorem X4_pass_w4 : ∀ w ∈ wsX40, w ∈ wsX4_pass := by decide +kernel
set_option maxHeartbeats 4000000 in
set_option maxRecDepth 100000 in
theorem X4_pass_ok {sh : List hS} {r : Int32} {I I2 : hM} {v1 : Int32} (hf0 : hq_X4 sh) (h : X4_pass v1 I = some (r, I2)) : hp_C yX4_pass wsX4_pass 5 0 0 sh I [.ref 0, .int v1] (some (.int r)) sh I2 := hp_start (cc := cX4_pass) (maxL := 2) (ret := (some .int)) [(0, .ref 0), (1, .int v1)] (by decide) rfl (fun _ _ => rfl) (fun _ _ => Nat.le_of_ble_eq_true rfl) (fun p l e s m below meth c D E b z hX _ => by
  unfold X4_pass at h
  refine hj_iload_n hX rfl 1 rfl dX4_pass_0 ?_
  refine hj_iconst hX (v := (1 : Int32)) (by decide) dX4_pass_1 ?_
  refine hj_icmp_lt hX (tgt := 11) (by decide) dX4_pass_2 h (fun h => ?_) (fun h => ?_)
  · refine hj_iconst hX (v := (-1 : Int32)) (by decide) dX4_pass_11 ?_
    exact hj_iret hX dX4_pass_12 h
  · refine hj_iload_n hX rfl 1 rfl dX4_pass_5 ?_
    refine hj_bipush hX (v := (24 : Int32)) (by decide) dX4_pass_6 ?_
    refine hj_icmp_le hX (tgt := 13) (by decide) dX4_pass_8 h (fun h => ?_) (fun h => ?_)
    · refine hj_aload_n hX rfl 0 rfl dX4_pass_13 ?_
      refine hj_getr hX (j := 3) hf0.1 rfl rfl X4_pass_w4 (Nat.le_of_ble_eq_true rfl) rfl X4_pass_k29 dX4_pass_14 ?_
      refine hj_geti hX (j := 0) hf0.2.2.2.2.1.1 rfl rfl X4_pass_w2 (Nat.le_of_ble_eq_true rfl) rfl X4_pass_k129 dX4_pass_17 ?_
      refine hj_iload_n hX rfl 1 rfl dX4_pass_20 ?_
      refine hj_iadd hX dX4_pass_21 ?_
      refine hj_sipush hX (v := (999 : Int32)) (by decide) dX4_pass_22 ?_
      refine hj_icmp_le hX (tgt := 31) (by decide) dX4_pass_25 h (fun h => ?_) (fun h => ?_)
      · refine hj_aload_n hX rfl 0 rfl dX4_pass_31 ?_
        refine hj_getr hX (j := 5) hf0.1 rfl rfl X4_pass_w4 (Nat.le_of_ble_eq_true rfl) rfl X4_pass_k41 dX4_pass_32 ?_
        refine hj_aload_n hX rfl 0 rfl dX4_pass_35 ?_
        refine hj_getr hX (j := 3) hf0.1 rfl rfl X4_pass_w4 (Nat.le_of_ble_eq_true rfl) rfl X4_pass_k29 dX4_pass_36 ?_
        obtain ⟨u1, Ia2, hc3, h⟩ := ob_e h
        refine hj_callV hX (sh2 := sh) (I2 := Ia2) (r := none) (As := [.ref 26]) (rest := []) (st2 := []) (X1_put_ok hf0.2.2.2.2.2.2.1 hf0.2.2.2.2.2.2.2.2.2.2 hf0.2.2.2.2.1 hc3) gX4_pass_X1_put rfl X1_put_hy ⟨(Nat.le_of_ble_eq_true rfl), (Nat.le_of_ble_eq_true rfl)⟩ rfl hf0.2.2.2.2.2.2.1.1 rfl (Nat.le_of_ble_eq_true rfl) ⟨(Nat.le_of_ble_eq_true rfl), (Nat.le_of_ble_eq_true rfl)⟩ rfl rfl rfl dX4_pass_39 ?_
        refine hj_aload_n hX rfl 0 rfl dX4_pass_42 ?_
        refine hj_getr hX (j := 3) hf0.1 rfl rfl X4_pass_w4 (Nat.le_of_ble_eq_true rfl) rfl X4_pass_k29 dX4_pass_43 ?_
        refine hj_aload_n hX rfl 0 rfl dX4_pass_46 ?_
        refine hj_getr hX (j := 1) hf0.1 rfl rfl X4_pass_w4 (Nat.le_of_ble_eq_true rfl) rfl X4_pass_k19 dX4_pass_47 ?_
        refine hj_iload_n hX rfl 1 rfl dX4_pass_50 ?_
        obtain ⟨u4, Ia5, hc6, h⟩ := ob_e h
        refine hj_callV hX (sh2 := sh) (I2 := Ia5) (r := none) (As := [.ref 4, .int v1]) (rest := []) (st2 := []) (X2_goBy_ok hf0.2.2.2.2.1 hf0.2.2.1 hc6) gX4_pass_X2_goBy rfl X2_goBy_hy ⟨(Nat.le_of_ble_eq_true rfl), (Nat.le_of_ble_eq_true rfl)⟩ rfl hf0.2.2.2.2.1.1 rfl (Nat.le_of_ble_eq_true rfl) ⟨(Nat.le_of_ble_eq_true rfl), (Nat.le_of_ble_eq_true rfl)⟩ rfl rfl rfl dX4_pass_51 ?_
        refine hj_aload_n hX rfl 0 rfl dX4_pass_54 ?_
        refine hj_getr hX (j := 3) hf0.1 rfl rfl X4_pass_w4 (Nat.le_of_ble_eq_true rfl) rfl X4_pass_k29 dX4_pass_55 ?_
        refine hj_geti hX (j := 1) hf0.2.2.2.2.1.1 rfl rfl X4_pass_w2 (Nat.le_of_ble_eq_true rfl) rfl X4_pass_k140 dX4_pass_58 ?_
        refine hj_sipush hX (v := (10000 : Int32)) (by decide) dX4_pass_61 ?_
        refine hj_iadd hX dX4_pass_64 ?_
        exact hj_iret hX dX4_pass_65 h
      · refine hj_bipush hX (v := (-2 : Int32)) (by decide) dX4_pass_28 ?_
        exact hj_iret hX dX4_pass_30 h
    · refine hj_iconst hX (v := (-1 : Int32)) (by decide) dX4_pass_11 ?_
      exact hj_iret hX dX4_pass_12 h)
def X4_pin (v1 : Int32) (v2 : Int32) (I : hM) : Option (Int32 × hM) := ob (X4_isLady v1 I) (fun u1 Ia2 => if u1 = 0 then (some ((-1 : Int32), Ia2)) else (ob (X4_isGoing v2 Ia2) (fun u4 Ia5 => if u4 = 0 then (some ((-1 : Int32), Ia5)) else (ob (X2_canPin 26 4 v1 v2 Ia5) (fun u7 Ia8 => if u7 = 0 then (some ((-2 : Int32), Ia8)) else (ob (X1_put 36 8 26 Ia8) (fun u10 Ia11 => ob (X2_pinBy 26 4 v1 v2 Ia11) (fun u13 Ia14 => gd (hx v1 4) (some ((Ia14 30 (v1).toNatClampNeg), Ia14))))))))))
theorem X4_pin_hy : yX4_pin.cls = RX4 ∧ yX4_pin.cls ≠ "java/lang/invoke/MethodHandle" ∧ yX4_pin.cls ≠ "java/lang/invoke/VarHandle" ∧ (parseMethodDescriptor yX4_pin.desc).map (fun d => d.parameters.length) = some 2 := by decide +kernel
theorem X4_pin_k29 : Cond.fieldLink RX4 29 "HatPins" "now" "LHatPins$Standing;" ∈ wsX4_pin := by decide +kernel
theorem X4_pin_k19 : Cond.fieldLink RX4 19 "HatPins" "laid" "LHatPins$Evening;" ∈ wsX4_pin := by decide +kernel
theorem X4_pin_k41 : Cond.fieldLink RX4 41 "HatPins" "undoable" "LHatPins$Shelf;" ∈ wsX4_pin := by decide +kernel
theorem X4_pin_k120 : Cond.fieldLink RX4 120 "HatPins$Standing" "pins" "[I" ∈ wsX4_pin := by decide +kernel
theorem X4_pin_w2 : ∀ w ∈ wsX20, w ∈ wsX4_pin := by decide +kernel
theorem X4_pin_w4 : ∀ w ∈ wsX40, w ∈ wsX4_pin := by decide +kernel
set_option maxHeartbeats 4000000 in
set_option maxRecDepth 100000 in
theorem X4_pin_ok {sh : List hS} {r : Int32} {I I2 : hM} {v1 : Int32} {v2 : Int32} (hf0 : hq_X4 sh) (h : X4_pin v1 v2 I = some (r, I2)) : hp_C yX4_pin wsX4_pin 3 0 0 sh I [.ref 0, .int v1, .int v2] (some (.int r)) sh I2 := hp_start (cc := cX4_pin) (maxL := 3) (ret := (some .int)) [(0, .ref 0), (1, .int v1), (2, .int v2)] (by decide) rfl (fun _ _ => rfl) (fun _ _ => Nat.le_of_ble_eq_true rfl) (fun p l e s m below meth c D E b z hX _ => by
  unfold X4_pin at h
  refine hj_aload_n hX rfl 0 rfl dX4_pin_0 ?_
  refine hj_iload_n hX rfl 1 rfl dX4_pin_1 ?_
  obtain ⟨u1, Ia2, hc3, h⟩ := ob_e h
  refine hj_callV hX (sh2 := sh) (I2 := Ia2) (r := (some (.int u1))) (As := [.int v1]) (rest := []) (st2 := [.int u1]) (X4_isLady_ok hf0 hc3) gX4_pin_X4_isLady rfl X4_isLady_hy ⟨(Nat.le_of_ble_eq_true rfl), (Nat.le_of_ble_eq_true rfl)⟩ rfl hf0.1 rfl (Nat.le_of_ble_eq_true rfl) ⟨(Nat.le_of_ble_eq_true rfl), (Nat.le_of_ble_eq_true rfl)⟩ rfl rfl rfl dX4_pin_2 ?_
  refine hj_if_eq hX (tgt := 16) (by decide) dX4_pin_5 h (fun h => ?_) (fun h => ?_)
  · refine hj_iconst hX (v := (-1 : Int32)) (by decide) dX4_pin_16 ?_
    exact hj_iret hX dX4_pin_17 h
  · refine hj_aload_n hX rfl 0 rfl dX4_pin_8 ?_
    refine hj_iload_n hX rfl 2 rfl dX4_pin_9 ?_
    obtain ⟨u4, Ia5, hc6, h⟩ := ob_e h
    refine hj_callV hX (sh2 := sh) (I2 := Ia5) (r := (some (.int u4))) (As := [.int v2]) (rest := []) (st2 := [.int u4]) (X4_isGoing_ok hf0 hc6) gX4_pin_X4_isGoing rfl X4_isGoing_hy ⟨(Nat.le_of_ble_eq_true rfl), (Nat.le_of_ble_eq_true rfl)⟩ rfl hf0.1 rfl (Nat.le_of_ble_eq_true rfl) ⟨(Nat.le_of_ble_eq_true rfl), (Nat.le_of_ble_eq_true rfl)⟩ rfl rfl rfl dX4_pin_10 ?_
    refine hj_if_ne hX (tgt := 18) (by decide) dX4_pin_13 h (fun h => ?_) (fun h => ?_)
    · refine hj_aload_n hX rfl 0 rfl dX4_pin_18 ?_
      refine hj_getr hX (j := 3) hf0.1 rfl rfl X4_pin_w4 (Nat.le_of_ble_eq_true rfl) rfl X4_pin_k29 dX4_pin_19 ?_
      refine hj_aload_n hX rfl 0 rfl dX4_pin_22 ?_
      refine hj_getr hX (j := 1) hf0.1 rfl rfl X4_pin_w4 (Nat.le_of_ble_eq_true rfl) rfl X4_pin_k19 dX4_pin_23 ?_
      refine hj_iload_n hX rfl 1 rfl dX4_pin_26 ?_
      refine hj_iload_n hX rfl 2 rfl dX4_pin_27 ?_
      obtain ⟨u7, Ia8, hc9, h⟩ := ob_e h
      refine hj_callV hX (sh2 := sh) (I2 := Ia8) (r := (some (.int u7))) (As := [.ref 4, .int v1, .int v2]) (rest := []) (st2 := [.int u7]) (X2_canPin_ok hf0.2.2.2.2.1 hf0.2.2.1 hc9) gX4_pin_X2_canPin rfl X2_canPin_hy ⟨(Nat.le_of_ble_eq_true rfl), (Nat.le_of_ble_eq_true rfl)⟩ rfl hf0.2.2.2.2.1.1 rfl (Nat.le_of_ble_eq_true rfl) ⟨(Nat.le_of_ble_eq_true rfl), (Nat.le_of_ble_eq_true rfl)⟩ rfl rfl rfl dX4_pin_28 ?_
      refine hj_if_ne hX (tgt := 37) (by decide) dX4_pin_31 h (fun h => ?_) (fun h => ?_)
      · refine hj_aload_n hX rfl 0 rfl dX4_pin_37 ?_
        refine hj_getr hX (j := 5) hf0.1 rfl rfl X4_pin_w4 (Nat.le_of_ble_eq_true rfl) rfl X4_pin_k41 dX4_pin_38 ?_
        refine hj_aload_n hX rfl 0 rfl dX4_pin_41 ?_
        refine hj_getr hX (j := 3) hf0.1 rfl rfl X4_pin_w4 (Nat.le_of_ble_eq_true rfl) rfl X4_pin_k29 dX4_pin_42 ?_
        obtain ⟨u10, Ia11, hc12, h⟩ := ob_e h
        refine hj_callV hX (sh2 := sh) (I2 := Ia11) (r := none) (As := [.ref 26]) (rest := []) (st2 := []) (X1_put_ok hf0.2.2.2.2.2.2.1 hf0.2.2.2.2.2.2.2.2.2.2 hf0.2.2.2.2.1 hc12) gX4_pin_X1_put rfl X1_put_hy ⟨(Nat.le_of_ble_eq_true rfl), (Nat.le_of_ble_eq_true rfl)⟩ rfl hf0.2.2.2.2.2.2.1.1 rfl (Nat.le_of_ble_eq_true rfl) ⟨(Nat.le_of_ble_eq_true rfl), (Nat.le_of_ble_eq_true rfl)⟩ rfl rfl rfl dX4_pin_45 ?_
        refine hj_aload_n hX rfl 0 rfl dX4_pin_48 ?_
        refine hj_getr hX (j := 3) hf0.1 rfl rfl X4_pin_w4 (Nat.le_of_ble_eq_true rfl) rfl X4_pin_k29 dX4_pin_49 ?_
        refine hj_aload_n hX rfl 0 rfl dX4_pin_52 ?_
        refine hj_getr hX (j := 1) hf0.1 rfl rfl X4_pin_w4 (Nat.le_of_ble_eq_true rfl) rfl X4_pin_k19 dX4_pin_53 ?_
        refine hj_iload_n hX rfl 1 rfl dX4_pin_56 ?_
        refine hj_iload_n hX rfl 2 rfl dX4_pin_57 ?_
        obtain ⟨u13, Ia14, hc15, h⟩ := ob_e h
        refine hj_callV hX (sh2 := sh) (I2 := Ia14) (r := none) (As := [.ref 4, .int v1, .int v2]) (rest := []) (st2 := []) (X2_pinBy_ok hf0.2.2.2.2.1 hf0.2.2.1 hc15) gX4_pin_X2_pinBy rfl X2_pinBy_hy ⟨(Nat.le_of_ble_eq_true rfl), (Nat.le_of_ble_eq_true rfl)⟩ rfl hf0.2.2.2.2.1.1 rfl (Nat.le_of_ble_eq_true rfl) ⟨(Nat.le_of_ble_eq_true rfl), (Nat.le_of_ble_eq_true rfl)⟩ rfl rfl rfl dX4_pin_58 ?_
        refine hj_aload_n hX rfl 0 rfl dX4_pin_61 ?_
        refine hj_getr hX (j := 3) hf0.1 rfl rfl X4_pin_w4 (Nat.le_of_ble_eq_true rfl) rfl X4_pin_k29 dX4_pin_62 ?_
        refine hj_getr hX (j := 5) hf0.2.2.2.2.1.1 rfl rfl X4_pin_w2 (Nat.le_of_ble_eq_true rfl) rfl X4_pin_k120 dX4_pin_65 ?_
        refine hj_iload_n hX rfl 1 rfl dX4_pin_68 ?_
        refine hj_iald hX hf0.2.2.2.2.1.2.2.2.2 dX4_pin_69 h (fun h => ?_)
        exact hj_iret hX dX4_pin_70 h
      · refine hj_bipush hX (v := (-2 : Int32)) (by decide) dX4_pin_34 ?_
        exact hj_iret hX dX4_pin_36 h
    · refine hj_iconst hX (v := (-1 : Int32)) (by decide) dX4_pin_16 ?_
      exact hj_iret hX dX4_pin_17 h)
def X4_lend (v1 : Int32) (v2 : Int32) (I : hM) : Option (Int32 × hM) := ob (X4_isLady v1 I) (fun u1 Ia2 => if u1 = 0 then (some ((-1 : Int32), Ia2)) else (ob (X4_isLady v2 Ia2) (fun u4 Ia5 => if u4 = 0 then (some ((-1 : Int32), Ia5)) else (if v1 = v2 then (some ((-1 : Int32), Ia5)) else (gd (hx v1 4) (if (1 : Int32) ≤ (Ia5 30 (v1).toNatClampNeg) then (gd (hx v2 4) (if (Ia5 30 (v2).toNatClampNeg) < (9 : Int32) then (ob (X1_put 36 8 26 Ia5) (fun u7 Ia8 => ob (X2_lendPin 26 v1 v2 Ia8) (fun u10 Ia11 => gd (hx v2 4) (some ((Ia11 30 (v2).toNatClampNeg), Ia11))))) else (some ((-3 : Int32), Ia5)))) else (some ((-2 : Int32), Ia5))))))))
theorem X4_lend_hy : yX4_lend.cls = RX4 ∧ yX4_lend.cls ≠ "java/lang/invoke/MethodHandle" ∧ yX4_lend.cls ≠ "java/lang/invoke/VarHandle" ∧ (parseMethodDescriptor yX4_lend.desc).map (fun d => d.parameters.length) = some 2 := by decide +kernel
theorem X4_lend_k29 : Cond.fieldLink RX4 29 "HatPins" "now" "LHatPins$Standing;" ∈ wsX4_lend := by decide +kernel
theorem X4_lend_k120 : Cond.fieldLink RX4 120 "HatPins$Standing" "pins" "[I" ∈ wsX4_lend := by decide +kernel
theorem X4_lend_k41 : Cond.fieldLink RX4 41 "HatPins" "undoable" "LHatPins$Shelf;" ∈ wsX4_lend := by decide +kernel
theorem X4_lend_w2 : ∀ w ∈ wsX20, w ∈ wsX4_lend := by decide +kernel
theorem X4_lend_w4 : ∀ w ∈ wsX40, w ∈ wsX4_lend := by decide +kernel
set_option maxHeartbeats 4000000 in
set_option maxRecDepth 100000 in
theorem X4_lend_ok {sh : List hS} {r : Int32} {I I2 : hM} {v1 : Int32} {v2 : Int32} (hf0 : hq_X4 sh) (h : X4_lend v1 v2 I = some (r, I2)) : hp_C yX4_lend wsX4_lend 3 0 0 sh I [.ref 0, .int v1, .int v2] (some (.int r)) sh I2 := hp_start (cc := cX4_lend) (maxL := 3) (ret := (some .int)) [(0, .ref 0), (1, .int v1), (2, .int v2)] (by decide) rfl (fun _ _ => rfl) (fun _ _ => Nat.le_of_ble_eq_true rfl) (fun p l e s m below meth c D E b z hX _ => by
  unfold X4_lend at h
  refine hj_aload_n hX rfl 0 rfl dX4_lend_0 ?_
  refine hj_iload_n hX rfl 1 rfl dX4_lend_1 ?_
  obtain ⟨u1, Ia2, hc3, h⟩ := ob_e h
  refine hj_callV hX (sh2 := sh) (I2 := Ia2) (r := (some (.int u1))) (As := [.int v1]) (rest := []) (st2 := [.int u1]) (X4_isLady_ok hf0 hc3) gX4_lend_X4_isLady rfl X4_isLady_hy ⟨(Nat.le_of_ble_eq_true rfl), (Nat.le_of_ble_eq_true rfl)⟩ rfl hf0.1 rfl (Nat.le_of_ble_eq_true rfl) ⟨(Nat.le_of_ble_eq_true rfl), (Nat.le_of_ble_eq_true rfl)⟩ rfl rfl rfl dX4_lend_2 ?_
  refine hj_if_eq hX (tgt := 21) (by decide) dX4_lend_5 h (fun h => ?_) (fun h => ?_)
  · refine hj_iconst hX (v := (-1 : Int32)) (by decide) dX4_lend_21 ?_
    exact hj_iret hX dX4_lend_22 h
  · refine hj_aload_n hX rfl 0 rfl dX4_lend_8 ?_
    refine hj_iload_n hX rfl 2 rfl dX4_lend_9 ?_
    obtain ⟨u4, Ia5, hc6, h⟩ := ob_e h
    refine hj_callV hX (sh2 := sh) (I2 := Ia5) (r := (some (.int u4))) (As := [.int v2]) (rest := []) (st2 := [.int u4]) (X4_isLady_ok hf0 hc6) gX4_lend_X4_isLady rfl X4_isLady_hy ⟨(Nat.le_of_ble_eq_true rfl), (Nat.le_of_ble_eq_true rfl)⟩ rfl hf0.1 rfl (Nat.le_of_ble_eq_true rfl) ⟨(Nat.le_of_ble_eq_true rfl), (Nat.le_of_ble_eq_true rfl)⟩ rfl rfl rfl dX4_lend_10 ?_
    refine hj_if_eq hX (tgt := 21) (by decide) dX4_lend_13 h (fun h => ?_) (fun h => ?_)
    · refine hj_iconst hX (v := (-1 : Int32)) (by decide) dX4_lend_21 ?_
      exact hj_iret hX dX4_lend_22 h
    · refine hj_iload_n hX rfl 1 rfl dX4_lend_16 ?_
      refine hj_iload_n hX rfl 2 rfl dX4_lend_17 ?_
      refine hj_icmp_ne hX (tgt := 23) (by decide) dX4_lend_18 h (fun h => ?_) (fun h => ?_)
      · refine hj_aload_n hX rfl 0 rfl dX4_lend_23 ?_
        refine hj_getr hX (j := 3) hf0.1 rfl rfl X4_lend_w4 (Nat.le_of_ble_eq_true rfl) rfl X4_lend_k29 dX4_lend_24 ?_
        refine hj_getr hX (j := 5) hf0.2.2.2.2.1.1 rfl rfl X4_lend_w2 (Nat.le_of_ble_eq_true rfl) rfl X4_lend_k120 dX4_lend_27 ?_
        refine hj_iload_n hX rfl 1 rfl dX4_lend_30 ?_
        refine hj_iald hX hf0.2.2.2.2.1.2.2.2.2 dX4_lend_31 h (fun h => ?_)
        refine hj_iconst hX (v := (1 : Int32)) (by decide) dX4_lend_32 ?_
        refine hj_icmp_ge hX (tgt := 39) (by decide) dX4_lend_33 h (fun h => ?_) (fun h => ?_)
        · refine hj_aload_n hX rfl 0 rfl dX4_lend_39 ?_
          refine hj_getr hX (j := 3) hf0.1 rfl rfl X4_lend_w4 (Nat.le_of_ble_eq_true rfl) rfl X4_lend_k29 dX4_lend_40 ?_
          refine hj_getr hX (j := 5) hf0.2.2.2.2.1.1 rfl rfl X4_lend_w2 (Nat.le_of_ble_eq_true rfl) rfl X4_lend_k120 dX4_lend_43 ?_
          refine hj_iload_n hX rfl 2 rfl dX4_lend_46 ?_
          refine hj_iald hX hf0.2.2.2.2.1.2.2.2.2 dX4_lend_47 h (fun h => ?_)
          refine hj_bipush hX (v := (9 : Int32)) (by decide) dX4_lend_48 ?_
          refine hj_icmp_lt hX (tgt := 56) (by decide) dX4_lend_50 h (fun h => ?_) (fun h => ?_)
          · refine hj_aload_n hX rfl 0 rfl dX4_lend_56 ?_
            refine hj_getr hX (j := 5) hf0.1 rfl rfl X4_lend_w4 (Nat.le_of_ble_eq_true rfl) rfl X4_lend_k41 dX4_lend_57 ?_
            refine hj_aload_n hX rfl 0 rfl dX4_lend_60 ?_
            refine hj_getr hX (j := 3) hf0.1 rfl rfl X4_lend_w4 (Nat.le_of_ble_eq_true rfl) rfl X4_lend_k29 dX4_lend_61 ?_
            obtain ⟨u7, Ia8, hc9, h⟩ := ob_e h
            refine hj_callV hX (sh2 := sh) (I2 := Ia8) (r := none) (As := [.ref 26]) (rest := []) (st2 := []) (X1_put_ok hf0.2.2.2.2.2.2.1 hf0.2.2.2.2.2.2.2.2.2.2 hf0.2.2.2.2.1 hc9) gX4_lend_X1_put rfl X1_put_hy ⟨(Nat.le_of_ble_eq_true rfl), (Nat.le_of_ble_eq_true rfl)⟩ rfl hf0.2.2.2.2.2.2.1.1 rfl (Nat.le_of_ble_eq_true rfl) ⟨(Nat.le_of_ble_eq_true rfl), (Nat.le_of_ble_eq_true rfl)⟩ rfl rfl rfl dX4_lend_64 ?_
            refine hj_aload_n hX rfl 0 rfl dX4_lend_67 ?_
            refine hj_getr hX (j := 3) hf0.1 rfl rfl X4_lend_w4 (Nat.le_of_ble_eq_true rfl) rfl X4_lend_k29 dX4_lend_68 ?_
            refine hj_iload_n hX rfl 1 rfl dX4_lend_71 ?_
            refine hj_iload_n hX rfl 2 rfl dX4_lend_72 ?_
            obtain ⟨u10, Ia11, hc12, h⟩ := ob_e h
            refine hj_callV hX (sh2 := sh) (I2 := Ia11) (r := none) (As := [.int v1, .int v2]) (rest := []) (st2 := []) (X2_lendPin_ok hf0.2.2.2.2.1 hc12) gX4_lend_X2_lendPin rfl X2_lendPin_hy ⟨(Nat.le_of_ble_eq_true rfl), (Nat.le_of_ble_eq_true rfl)⟩ rfl hf0.2.2.2.2.1.1 rfl (Nat.le_of_ble_eq_true rfl) ⟨(Nat.le_of_ble_eq_true rfl), (Nat.le_of_ble_eq_true rfl)⟩ rfl rfl rfl dX4_lend_73 ?_
            refine hj_aload_n hX rfl 0 rfl dX4_lend_76 ?_
            refine hj_getr hX (j := 3) hf0.1 rfl rfl X4_lend_w4 (Nat.le_of_ble_eq_true rfl) rfl X4_lend_k29 dX4_lend_77 ?_
            refine hj_getr hX (j := 5) hf0.2.2.2.2.1.1 rfl rfl X4_lend_w2 (Nat.le_of_ble_eq_true rfl) rfl X4_lend_k120 dX4_lend_80 ?_
            refine hj_iload_n hX rfl 2 rfl dX4_lend_83 ?_
            refine hj_iald hX hf0.2.2.2.2.1.2.2.2.2 dX4_lend_84 h (fun h => ?_)
            exact hj_iret hX dX4_lend_85 h
          · refine hj_bipush hX (v := (-3 : Int32)) (by decide) dX4_lend_53 ?_
            exact hj_iret hX dX4_lend_55 h
        · refine hj_bipush hX (v := (-2 : Int32)) (by decide) dX4_lend_36 ?_
          exact hj_iret hX dX4_lend_38 h
      · refine hj_iconst hX (v := (-1 : Int32)) (by decide) dX4_lend_21 ?_
        exact hj_iret hX dX4_lend_22 h)
def X4_undo (I : hM) : Option (Int32 × hM) := ob (X1_takeInto 36 8 26 I) (fun u1 Ia2 => if u1 = 0 then (some ((-2 : Int32), Ia2)) else (some ((Ia2 36 1), Ia2)))
theorem X4_undo_hy : yX4_undo.cls = RX4 ∧ yX4_undo.cls ≠ "java/lang/invoke/MethodHandle" ∧ yX4_undo.cls ≠ "java/lang/invoke/VarHandle" ∧ (parseMethodDescriptor yX4_undo.desc).map (fun d => d.parameters.length) = some 0 := by decide +kernel
theorem X4_undo_k41 : Cond.fieldLink RX4 41 "HatPins" "undoable" "LHatPins$Shelf;" ∈ wsX4_undo := by decide +kernel
theorem X4_undo_k29 : Cond.fieldLink RX4 29 "HatPins" "now" "LHatPins$Standing;" ∈ wsX4_undo := by decide +kernel
theorem X4_undo_k85 : Cond.fieldLink RX4 85 "HatPins$Shelf" "held" "I" ∈ wsX4_undo := by decide +kernel
theorem X4_undo_w1 : ∀ w ∈ wsX10, w ∈ wsX4_undo := by decide +kernel
theorem X4_undo_w4 : ∀ w ∈ wsX40, w ∈ wsX4_undo := by decide +kernel
set_option maxHeartbeats 4000000 in
set_option maxRecDepth 100000 in
theorem X4_undo_ok {sh : List hS} {r : Int32} {I I2 : hM} (hf0 : hq_X4 sh) (h : X4_undo I = some (r, I2)) : hp_C yX4_undo wsX4_undo 3 0 0 sh I [.ref 0] (some (.int r)) sh I2 := hp_start (cc := cX4_undo) (maxL := 1) (ret := (some .int)) [(0, .ref 0)] (by decide) rfl (fun _ _ => rfl) (fun _ _ => Nat.le_of_ble_eq_true rfl) (fun p l e s m below meth c D E b z hX _ => by
  unfold X4_undo at h
  refine hj_aload_n hX rfl 0 rfl dX4_undo_0 ?_
  refine hj_getr hX (j := 5) hf0.1 rfl rfl X4_undo_w4 (Nat.le_of_ble_eq_true rfl) rfl X4_undo_k41 dX4_undo_1 ?_
  refine hj_aload_n hX rfl 0 rfl dX4_undo_4 ?_
  refine hj_getr hX (j := 3) hf0.1 rfl rfl X4_undo_w4 (Nat.le_of_ble_eq_true rfl) rfl X4_undo_k29 dX4_undo_5 ?_
  obtain ⟨u1, Ia2, hc3, h⟩ := ob_e h
  refine hj_callV hX (sh2 := sh) (I2 := Ia2) (r := (some (.int u1))) (As := [.ref 26]) (rest := []) (st2 := [.int u1]) (X1_takeInto_ok hf0.2.2.2.2.2.2.1 hf0.2.2.2.2.2.2.2.2.2.2 hf0.2.2.2.2.1 hc3) gX4_undo_X1_takeInto rfl X1_takeInto_hy ⟨(Nat.le_of_ble_eq_true rfl), (Nat.le_of_ble_eq_true rfl)⟩ rfl hf0.2.2.2.2.2.2.1.1 rfl (Nat.le_of_ble_eq_true rfl) ⟨(Nat.le_of_ble_eq_true rfl), (Nat.le_of_ble_eq_true rfl)⟩ rfl rfl rfl dX4_undo_8 ?_
  refine hj_if_eq hX (tgt := 24) (by decide) dX4_undo_11 h (fun h => ?_) (fun h => ?_)
  · refine hj_bipush hX (v := (-2 : Int32)) (by decide) dX4_undo_24 ?_
    exact hj_iret hX dX4_undo_26 h
  · refine hj_aload_n hX rfl 0 rfl dX4_undo_14 ?_
    refine hj_getr hX (j := 5) hf0.1 rfl rfl X4_undo_w4 (Nat.le_of_ble_eq_true rfl) rfl X4_undo_k41 dX4_undo_15 ?_
    refine hj_geti hX (j := 1) hf0.2.2.2.2.2.2.1.1 rfl rfl X4_undo_w1 (Nat.le_of_ble_eq_true rfl) rfl X4_undo_k85 dX4_undo_18 ?_
    refine hj_goto hX (tgt := 26) (by decide) dX4_undo_21 ?_
    exact hj_iret hX dX4_undo_26 h)
def X4_isEither (v0 : Int32) (I : hM) : Option (Int32 × hM) := if v0 = 0 then (gd (decide ((1 : Int32) = (0 : Int32)) || decide ((1 : Int32) = (1 : Int32))) (some ((1 : Int32), I))) else (if v0 = (1 : Int32) then (gd (decide ((1 : Int32) = (0 : Int32)) || decide ((1 : Int32) = (1 : Int32))) (some ((1 : Int32), I))) else (gd (decide ((0 : Int32) = (0 : Int32)) || decide ((0 : Int32) = (1 : Int32))) (some ((0 : Int32), I))))
theorem X4_isEither_hy : yX4_isEither.cls = RX4 ∧ yX4_isEither.cls ≠ "java/lang/invoke/MethodHandle" ∧ yX4_isEither.cls ≠ "java/lang/invoke/VarHandle" ∧ (parseMethodDescriptor yX4_isEither.desc).map (fun d => d.parameters.length) = some 1 := by decide +kernel
set_option maxHeartbeats 4000000 in
set_option maxRecDepth 100000 in
theorem X4_isEither_ok {sh : List hS} {r : Int32} {I I2 : hM} {v0 : Int32} (h : X4_isEither v0 I = some (r, I2)) : hp_C yX4_isEither wsX4_isEither 0 0 0 sh I [.int v0] (some (.int r)) sh I2 := hp_start (cc := cX4_isEither) (maxL := 1) (ret := (some .boolean)) [(0, .int v0)] (by decide) rfl (fun _ _ => rfl) (fun _ _ => Nat.le_of_ble_eq_true rfl) (fun p l e s m below meth c D E b z hX _ => by
  unfold X4_isEither at h
  refine hj_iload_n hX rfl 0 rfl dX4_isEither_0 ?_
  refine hj_if_eq hX (tgt := 9) (by decide) dX4_isEither_1 h (fun h => ?_) (fun h => ?_)
  · refine hj_iconst hX (v := (1 : Int32)) (by decide) dX4_isEither_9 ?_
    refine hj_goto hX (tgt := 14) (by decide) dX4_isEither_10 ?_
    exact hj_zret hX dX4_isEither_14 h
  · refine hj_iload_n hX rfl 0 rfl dX4_isEither_4 ?_
    refine hj_iconst hX (v := (1 : Int32)) (by decide) dX4_isEither_5 ?_
    refine hj_icmp_ne hX (tgt := 13) (by decide) dX4_isEither_6 h (fun h => ?_) (fun h => ?_)
    · refine hj_iconst hX (v := (0 : Int32)) (by decide) dX4_isEither_13 ?_
      exact hj_zret hX dX4_isEither_14 h
    · refine hj_iconst hX (v := (1 : Int32)) (by decide) dX4_isEither_9 ?_
      refine hj_goto hX (tgt := 14) (by decide) dX4_isEither_10 ?_
      exact hj_zret hX dX4_isEither_14 h)
def X4_behind (v1 : Int32) (v2 : Int32) (I : hM) : Option (Int32 × hM) := if v1 < 0 then (some ((-1 : Int32), I)) else (if (60 : Int32) < v1 then (some ((-1 : Int32), I)) else (ob (X4_isEither v2 I) (fun u1 Ia2 => if u1 = 0 then (some ((-1 : Int32), Ia2)) else (ob (X2_copyOf 31 26 Ia2) (fun u4 Ia5 => ob (X2_goBy 31 4 v1 Ia5) (fun u7 Ia8 => if v2 = 0 then (some (((Ia8 31 1) + (10000 : Int32)), Ia8)) else (ob (X2_onBits 31 4 Ia8) (fun u10 Ia11 => some (u10, Ia11)))))))))
theorem X4_behind_hy : yX4_behind.cls = RX4 ∧ yX4_behind.cls ≠ "java/lang/invoke/MethodHandle" ∧ yX4_behind.cls ≠ "java/lang/invoke/VarHandle" ∧ (parseMethodDescriptor yX4_behind.desc).map (fun d => d.parameters.length) = some 2 := by decide +kernel
theorem X4_behind_k33 : Cond.fieldLink RX4 33 "HatPins" "trial" "LHatPins$Standing;" ∈ wsX4_behind := by decide +kernel
theorem X4_behind_k29 : Cond.fieldLink RX4 29 "HatPins" "now" "LHatPins$Standing;" ∈ wsX4_behind := by decide +kernel
theorem X4_behind_k19 : Cond.fieldLink RX4 19 "HatPins" "laid" "LHatPins$Evening;" ∈ wsX4_behind := by decide +kernel
theorem X4_behind_k140 : Cond.fieldLink RX4 140 "HatPins$Standing" "had" "I" ∈ wsX4_behind := by decide +kernel
theorem X4_behind_w2 : ∀ w ∈ wsX20, w ∈ wsX4_behind := by decide +kernel
theorem X4_behind_w4 : ∀ w ∈ wsX40, w ∈ wsX4_behind := by decide +kernel
set_option maxHeartbeats 4000000 in
set_option maxRecDepth 100000 in
theorem X4_behind_ok {sh : List hS} {r : Int32} {I I2 : hM} {v1 : Int32} {v2 : Int32} (hf0 : hq_X4 sh) (h : X4_behind v1 v2 I = some (r, I2)) : hp_C yX4_behind wsX4_behind 5 0 0 sh I [.ref 0, .int v1, .int v2] (some (.int r)) sh I2 := hp_start (cc := cX4_behind) (maxL := 3) (ret := (some .int)) [(0, .ref 0), (1, .int v1), (2, .int v2)] (by decide) rfl (fun _ _ => rfl) (fun _ _ => Nat.le_of_ble_eq_true rfl) (fun p l e s m below meth c D E b z hX _ => by
  unfold X4_behind at h
  refine hj_iload_n hX rfl 1 rfl dX4_behind_0 ?_
  refine hj_if_lt hX (tgt := 17) (by decide) dX4_behind_1 h (fun h => ?_) (fun h => ?_)
  · refine hj_iconst hX (v := (-1 : Int32)) (by decide) dX4_behind_17 ?_
    exact hj_iret hX dX4_behind_18 h
  · refine hj_iload_n hX rfl 1 rfl dX4_behind_4 ?_
    refine hj_bipush hX (v := (60 : Int32)) (by decide) dX4_behind_5 ?_
    refine hj_icmp_gt hX (tgt := 17) (by decide) dX4_behind_7 h (fun h => ?_) (fun h => ?_)
    · refine hj_iconst hX (v := (-1 : Int32)) (by decide) dX4_behind_17 ?_
      exact hj_iret hX dX4_behind_18 h
    · refine hj_iload_n hX rfl 2 rfl dX4_behind_10 ?_
      obtain ⟨u1, Ia2, hc3, h⟩ := ob_e h
      refine hj_callS hX (sh2 := sh) (I2 := Ia2) (r := (some (.int u1))) (As := [.int v2]) (rest := []) (st2 := [.int u1]) (X4_isEither_ok hc3) gX4_behind_X4_isEither rfl X4_isEither_hy.2 ⟨(Nat.le_of_ble_eq_true rfl), (Nat.le_of_ble_eq_true rfl)⟩ rfl (Nat.le_of_ble_eq_true rfl) ⟨(Nat.le_of_ble_eq_true rfl), (Nat.le_of_ble_eq_true rfl)⟩ rfl rfl rfl dX4_behind_11 ?_
      refine hj_if_ne hX (tgt := 19) (by decide) dX4_behind_14 h (fun h => ?_) (fun h => ?_)
      · refine hj_aload_n hX rfl 0 rfl dX4_behind_19 ?_
        refine hj_getr hX (j := 4) hf0.1 rfl rfl X4_behind_w4 (Nat.le_of_ble_eq_true rfl) rfl X4_behind_k33 dX4_behind_20 ?_
        refine hj_aload_n hX rfl 0 rfl dX4_behind_23 ?_
        refine hj_getr hX (j := 3) hf0.1 rfl rfl X4_behind_w4 (Nat.le_of_ble_eq_true rfl) rfl X4_behind_k29 dX4_behind_24 ?_
        obtain ⟨u4, Ia5, hc6, h⟩ := ob_e h
        refine hj_callV hX (sh2 := sh) (I2 := Ia5) (r := none) (As := [.ref 26]) (rest := []) (st2 := []) (X2_copyOf_ok hf0.2.2.2.2.2.1 hf0.2.2.2.2.1 hc6) gX4_behind_X2_copyOf rfl X2_copyOf_hy ⟨(Nat.le_of_ble_eq_true rfl), (Nat.le_of_ble_eq_true rfl)⟩ rfl hf0.2.2.2.2.2.1.1 rfl (Nat.le_of_ble_eq_true rfl) ⟨(Nat.le_of_ble_eq_true rfl), (Nat.le_of_ble_eq_true rfl)⟩ rfl rfl rfl dX4_behind_27 ?_
        refine hj_aload_n hX rfl 0 rfl dX4_behind_30 ?_
        refine hj_getr hX (j := 4) hf0.1 rfl rfl X4_behind_w4 (Nat.le_of_ble_eq_true rfl) rfl X4_behind_k33 dX4_behind_31 ?_
        refine hj_aload_n hX rfl 0 rfl dX4_behind_34 ?_
        refine hj_getr hX (j := 1) hf0.1 rfl rfl X4_behind_w4 (Nat.le_of_ble_eq_true rfl) rfl X4_behind_k19 dX4_behind_35 ?_
        refine hj_iload_n hX rfl 1 rfl dX4_behind_38 ?_
        obtain ⟨u7, Ia8, hc9, h⟩ := ob_e h
        refine hj_callV hX (sh2 := sh) (I2 := Ia8) (r := none) (As := [.ref 4, .int v1]) (rest := []) (st2 := []) (X2_goBy_ok hf0.2.2.2.2.2.1 hf0.2.2.1 hc9) gX4_behind_X2_goBy rfl X2_goBy_hy ⟨(Nat.le_of_ble_eq_true rfl), (Nat.le_of_ble_eq_true rfl)⟩ rfl hf0.2.2.2.2.2.1.1 rfl (Nat.le_of_ble_eq_true rfl) ⟨(Nat.le_of_ble_eq_true rfl), (Nat.le_of_ble_eq_true rfl)⟩ rfl rfl rfl dX4_behind_39 ?_
        refine hj_iload_n hX rfl 2 rfl dX4_behind_42 ?_
        refine hj_if_ne hX (tgt := 60) (by decide) dX4_behind_43 h (fun h => ?_) (fun h => ?_)
        · refine hj_aload_n hX rfl 0 rfl dX4_behind_60 ?_
          refine hj_getr hX (j := 4) hf0.1 rfl rfl X4_behind_w4 (Nat.le_of_ble_eq_true rfl) rfl X4_behind_k33 dX4_behind_61 ?_
          refine hj_aload_n hX rfl 0 rfl dX4_behind_64 ?_
          refine hj_getr hX (j := 1) hf0.1 rfl rfl X4_behind_w4 (Nat.le_of_ble_eq_true rfl) rfl X4_behind_k19 dX4_behind_65 ?_
          obtain ⟨u10, Ia11, hc12, h⟩ := ob_e h
          refine hj_callV hX (sh2 := sh) (I2 := Ia11) (r := (some (.int u10))) (As := [.ref 4]) (rest := []) (st2 := [.int u10]) (X2_onBits_ok hf0.2.2.2.2.2.1 hf0.2.2.1 hc12) gX4_behind_X2_onBits rfl X2_onBits_hy ⟨(Nat.le_of_ble_eq_true rfl), (Nat.le_of_ble_eq_true rfl)⟩ rfl hf0.2.2.2.2.2.1.1 rfl (Nat.le_of_ble_eq_true rfl) ⟨(Nat.le_of_ble_eq_true rfl), (Nat.le_of_ble_eq_true rfl)⟩ rfl rfl rfl dX4_behind_68 ?_
          exact hj_iret hX dX4_behind_71 h
        · refine hj_aload_n hX rfl 0 rfl dX4_behind_46 ?_
          refine hj_getr hX (j := 4) hf0.1 rfl rfl X4_behind_w4 (Nat.le_of_ble_eq_true rfl) rfl X4_behind_k33 dX4_behind_47 ?_
          refine hj_geti hX (j := 1) hf0.2.2.2.2.2.1.1 rfl rfl X4_behind_w2 (Nat.le_of_ble_eq_true rfl) rfl X4_behind_k140 dX4_behind_50 ?_
          refine hj_sipush hX (v := (10000 : Int32)) (by decide) dX4_behind_53 ?_
          refine hj_iadd hX dX4_behind_56 ?_
          refine hj_goto hX (tgt := 71) (by decide) dX4_behind_57 ?_
          exact hj_iret hX dX4_behind_71 h
      · refine hj_iconst hX (v := (-1 : Int32)) (by decide) dX4_behind_17 ?_
        exact hj_iret hX dX4_behind_18 h)
def X4_dull_h13 (k13 : Int32 → hM → Option (Int32 × hM)) (v1 : Int32) (I : hM) : Option (Int32 × hM) := if (60 : Int32) < v1 then (some ((-4 : Int32), I)) else (ob (X2_beginDue 31 4 I) (fun u4 Ia5 => ob (X2_worthOfAll 31 4 Ia5) (fun u7 Ia8 => if 0 ≤ u7 then (ob (X2_endMinute 31 4 Ia8) (fun u10 Ia11 => (k13 (v1 + (1 : Int32)) Ia11))) else (some (v1, Ia8)))))
def X4_dull_l13 : Nat → Int32 → hM → Option (Int32 × hM)
  | 0 => fun _ _ => none
  | n + 1 => X4_dull_h13   (X4_dull_l13   n)
def X4_dull (I : hM) : Option (Int32 × hM) := ob (X2_copyOf 31 26 I) (fun u1 Ia2 => (X4_dull_l13 hF (0 : Int32) Ia2))
theorem X4_dull_hy : yX4_dull.cls = RX4 ∧ yX4_dull.cls ≠ "java/lang/invoke/MethodHandle" ∧ yX4_dull.cls ≠ "java/lang/invoke/VarHandle" ∧ (parseMethodDescriptor yX4_dull.desc).map (fun d => d.parameters.length) = some 0 := by decide +kernel
theorem X4_dull_k33 : Cond.fieldLink RX4 33 "HatPins" "trial" "LHatPins$Standing;" ∈ wsX4_dull := by decide +kernel
theorem X4_dull_k29 : Cond.fieldLink RX4 29 "HatPins" "now" "LHatPins$Standing;" ∈ wsX4_dull := by decide +kernel
theorem X4_dull_k19 : Cond.fieldLink RX4 19 "HatPins" "laid" "LHatPins$Evening;" ∈ wsX4_dull := by decide +kernel
theorem X4_dull_w4 : ∀ w ∈ wsX40, w ∈ wsX4_dull := by decide +kernel
set_option maxHeartbeats 4000000 in
set_option maxRecDepth 100000 in
theorem X4_dull_h13_ok {p : Program} {l : Launch} {e : Env} {s : State} {m : MethodId} {args : Array Value} {below : List Frame} {meth : Method} {c : Code} {D : va_G} {E : Nat → ClassId} {b z : Nat} {sh : List hS} {r : Int32} {I2 : hM} {k13 : Int32 → hM → Option (Int32 × hM)} {v1 : Int32} {I : hM} (hX : hp_X p s m args meth c yX4_dull.cls cX4_dull 2 wsX4_dull D E (some .int) yX4_dull.name) (hf0 : hq_X4 sh) (hk13 : ∀ (v1 : Int32) (I : hM), k13 v1 I = some (r, I2) → hp_J p l e ({ frames := 4, cells := 0, slots := 0, locals := 44 * 4 }) s m args below meth c (MQ below (hp_Q D E b z (some (.int r)) sh I2) args s 0 0 (fun q : Nat => b ≤ q)) D E b z 2 sh 0 0 I 13 [(0, .ref 0), (1, .int v1)] []) (h : X4_dull_h13 k13 v1 I = some (r, I2)) : hp_J p l e ({ frames := 4, cells := 0, slots := 0, locals := 44 * 4 }) s m args below meth c (MQ below (hp_Q D E b z (some (.int r)) sh I2) args s 0 0 (fun q : Nat => b ≤ q)) D E b z 2 sh 0 0 I 13 [(0, .ref 0), (1, .int v1)] [] := by
  unfold X4_dull_h13 at h
  refine hj_iload_n hX rfl 1 rfl dX4_dull_13 ?_
  refine hj_bipush hX (v := (60 : Int32)) (by decide) dX4_dull_14 ?_
  refine hj_icmp_gt hX (tgt := 63) (by decide) dX4_dull_16 h (fun h => ?_) (fun h => ?_)
  · refine hj_bipush hX (v := (-4 : Int32)) (by decide) dX4_dull_63 ?_
    exact hj_iret hX dX4_dull_65 h
  · refine hj_aload_n hX rfl 0 rfl dX4_dull_19 ?_
    refine hj_getr hX (j := 4) hf0.1 rfl rfl X4_dull_w4 (Nat.le_of_ble_eq_true rfl) rfl X4_dull_k33 dX4_dull_20 ?_
    refine hj_aload_n hX rfl 0 rfl dX4_dull_23 ?_
    refine hj_getr hX (j := 1) hf0.1 rfl rfl X4_dull_w4 (Nat.le_of_ble_eq_true rfl) rfl X4_dull_k19 dX4_dull_24 ?_
    obtain ⟨u4, Ia5, hc6, h⟩ := ob_e h
    refine hj_callV hX (sh2 := sh) (I2 := Ia5) (r := none) (As := [.ref 4]) (rest := []) (st2 := []) (X2_beginDue_ok hf0.2.2.2.2.2.1 hf0.2.2.1 hc6) gX4_dull_X2_beginDue rfl X2_beginDue_hy ⟨(Nat.le_of_ble_eq_true rfl), (Nat.le_of_ble_eq_true rfl)⟩ rfl hf0.2.2.2.2.2.1.1 rfl (Nat.le_of_ble_eq_true rfl) ⟨(Nat.le_of_ble_eq_true rfl), (Nat.le_of_ble_eq_true rfl)⟩ rfl rfl rfl dX4_dull_27 ?_
    refine hj_aload_n hX rfl 0 rfl dX4_dull_30 ?_
    refine hj_getr hX (j := 4) hf0.1 rfl rfl X4_dull_w4 (Nat.le_of_ble_eq_true rfl) rfl X4_dull_k33 dX4_dull_31 ?_
    refine hj_aload_n hX rfl 0 rfl dX4_dull_34 ?_
    refine hj_getr hX (j := 1) hf0.1 rfl rfl X4_dull_w4 (Nat.le_of_ble_eq_true rfl) rfl X4_dull_k19 dX4_dull_35 ?_
    obtain ⟨u7, Ia8, hc9, h⟩ := ob_e h
    refine hj_callV hX (sh2 := sh) (I2 := Ia8) (r := (some (.int u7))) (As := [.ref 4]) (rest := []) (st2 := [.int u7]) (X2_worthOfAll_ok hf0.2.2.2.2.2.1 hf0.2.2.1 hc9) gX4_dull_X2_worthOfAll rfl X2_worthOfAll_hy ⟨(Nat.le_of_ble_eq_true rfl), (Nat.le_of_ble_eq_true rfl)⟩ rfl hf0.2.2.2.2.2.1.1 rfl (Nat.le_of_ble_eq_true rfl) ⟨(Nat.le_of_ble_eq_true rfl), (Nat.le_of_ble_eq_true rfl)⟩ rfl rfl rfl dX4_dull_38 ?_
    refine hj_if_ge hX (tgt := 46) (by decide) dX4_dull_41 h (fun h => ?_) (fun h => ?_)
    · refine hj_aload_n hX rfl 0 rfl dX4_dull_46 ?_
      refine hj_getr hX (j := 4) hf0.1 rfl rfl X4_dull_w4 (Nat.le_of_ble_eq_true rfl) rfl X4_dull_k33 dX4_dull_47 ?_
      refine hj_aload_n hX rfl 0 rfl dX4_dull_50 ?_
      refine hj_getr hX (j := 1) hf0.1 rfl rfl X4_dull_w4 (Nat.le_of_ble_eq_true rfl) rfl X4_dull_k19 dX4_dull_51 ?_
      obtain ⟨u10, Ia11, hc12, h⟩ := ob_e h
      refine hj_callV hX (sh2 := sh) (I2 := Ia11) (r := none) (As := [.ref 4]) (rest := []) (st2 := []) (X2_endMinute_ok hf0.2.2.2.2.2.1 hf0.2.2.1 hc12) gX4_dull_X2_endMinute rfl X2_endMinute_hy ⟨(Nat.le_of_ble_eq_true rfl), (Nat.le_of_ble_eq_true rfl)⟩ rfl hf0.2.2.2.2.2.1.1 rfl (Nat.le_of_ble_eq_true rfl) ⟨(Nat.le_of_ble_eq_true rfl), (Nat.le_of_ble_eq_true rfl)⟩ rfl rfl rfl dX4_dull_54 ?_
      refine hj_iinc hX (k1 := 1) (v := (v1 + (1 : Int32))) rfl rfl (Nat.le_of_ble_eq_true rfl) (lv2 := [(1, .int (v1 + (1 : Int32))), (0, .ref 0)]) rfl dX4_dull_57 ?_
      refine hj_goto hX (tgt := 13) (by decide) dX4_dull_60 ?_
      refine hj_lv hX [1, 0] (lv2 := [(0, .ref 0), (1, .int (v1 + (1 : Int32)))]) rfl ?_
      exact hk13 _ _ h
    · refine hj_iload_n hX rfl 1 rfl dX4_dull_44 ?_
      exact hj_iret hX dX4_dull_45 h
set_option maxHeartbeats 4000000 in
set_option maxRecDepth 100000 in
theorem X4_dull_l13_ok {p : Program} {l : Launch} {e : Env} {s : State} {m : MethodId} {args : Array Value} {below : List Frame} {meth : Method} {c : Code} {D : va_G} {E : Nat → ClassId} {b z : Nat} {sh : List hS} {r : Int32} {I2 : hM} (hX : hp_X p s m args meth c yX4_dull.cls cX4_dull 2 wsX4_dull D E (some .int) yX4_dull.name) (hf0 : hq_X4 sh) : ∀ (n : Nat) (v1 : Int32) (I : hM), X4_dull_l13 n v1 I = some (r, I2) → hp_J p l e ({ frames := 4, cells := 0, slots := 0, locals := 44 * 4 }) s m args below meth c (MQ below (hp_Q D E b z (some (.int r)) sh I2) args s 0 0 (fun q : Nat => b ≤ q)) D E b z 2 sh 0 0 I 13 [(0, .ref 0), (1, .int v1)] [] := by
  intro n
  induction n with
  | zero => exact fun _ _ h => nomatch h
  | succ n ih => exact fun _ _ h => X4_dull_h13_ok hX hf0 ih h
set_option maxHeartbeats 4000000 in
set_option maxRecDepth 100000 in
theorem X4_dull_ok {sh : List hS} {r : Int32} {I I2 : hM} (hf0 : hq_X4 sh) (h : X4_dull I = some (r, I2)) : hp_C yX4_dull wsX4_dull 4 0 0 sh I [.ref 0] (some (.int r)) sh I2 := hp_start (cc := cX4_dull) (maxL := 2) (ret := (some .int)) [(0, .ref 0)] (by decide) rfl (fun _ _ => rfl) (fun _ _ => Nat.le_of_ble_eq_true rfl) (fun p l e s m below meth c D E b z hX _ => by
  unfold X4_dull at h
  refine hj_aload_n hX rfl 0 rfl dX4_dull_0 ?_
  refine hj_getr hX (j := 4) hf0.1 rfl rfl X4_dull_w4 (Nat.le_of_ble_eq_true rfl) rfl X4_dull_k33 dX4_dull_1 ?_
  refine hj_aload_n hX rfl 0 rfl dX4_dull_4 ?_
  refine hj_getr hX (j := 3) hf0.1 rfl rfl X4_dull_w4 (Nat.le_of_ble_eq_true rfl) rfl X4_dull_k29 dX4_dull_5 ?_
  obtain ⟨u1, Ia2, hc3, h⟩ := ob_e h
  refine hj_callV hX (sh2 := sh) (I2 := Ia2) (r := none) (As := [.ref 26]) (rest := []) (st2 := []) (X2_copyOf_ok hf0.2.2.2.2.2.1 hf0.2.2.2.2.1 hc3) gX4_dull_X2_copyOf rfl X2_copyOf_hy ⟨(Nat.le_of_ble_eq_true rfl), (Nat.le_of_ble_eq_true rfl)⟩ rfl hf0.2.2.2.2.2.1.1 rfl (Nat.le_of_ble_eq_true rfl) ⟨(Nat.le_of_ble_eq_true rfl), (Nat.le_of_ble_eq_true rfl)⟩ rfl rfl rfl dX4_dull_8 ?_
  refine hj_iconst hX (v := (0 : Int32)) (by decide) dX4_dull_11 ?_
  refine hj_istore_n hX rfl (Nat.le_of_ble_eq_true rfl) (lv2 := [(1, .int (0 : Int32)), (0, .ref 0)]) rfl dX4_dull_12 ?_
  refine hj_lv hX [1, 0] (lv2 := [(0, .ref 0), (1, .int (0 : Int32))]) rfl ?_
  exact X4_dull_l13_ok hX hf0 hF _ _ h)
def X4_quiet_b55 (k17 : Int32 → Int32 → Int32 → hM → Option (Int32 × hM)) (v2 : Int32) (v3 : Int32) (t0 : Int32) (I : hM) : Option (Int32 × hM) := ob (X2_endMinute 31 4 I) (fun u10 Ia11 => (k17 t0 (hmax v2 t0) (v3 + (1 : Int32)) Ia11))
def X4_quiet_h17 (k17 : Int32 → Int32 → Int32 → hM → Option (Int32 × hM)) (v1 : Int32) (v2 : Int32) (v3 : Int32) (I : hM) : Option (Int32 × hM) := if (60 : Int32) ≤ v3 then (some (v2, I)) else (ob (X2_beginDue 31 4 I) (fun u4 Ia5 => ob (X2_onBits 31 4 Ia5) (fun u7 Ia8 => if u7 = 0 then ((X4_quiet_b55 k17 v2 v3 (v1 + (1 : Int32)) Ia8)) else ((X4_quiet_b55 k17 v2 v3 (0 : Int32) Ia8)))))
def X4_quiet_l17 : Nat → Int32 → Int32 → Int32 → hM → Option (Int32 × hM)
  | 0 => fun _ _ _ _ => none
  | n + 1 => X4_quiet_h17   (X4_quiet_l17   n)
def X4_quiet (I : hM) : Option (Int32 × hM) := ob (X2_copyOf 31 26 I) (fun u1 Ia2 => (X4_quiet_l17 hF (0 : Int32) (0 : Int32) (0 : Int32) Ia2))
theorem X4_quiet_hy : yX4_quiet.cls = RX4 ∧ yX4_quiet.cls ≠ "java/lang/invoke/MethodHandle" ∧ yX4_quiet.cls ≠ "java/lang/invoke/VarHandle" ∧ (parseMethodDescriptor yX4_quiet.desc).map (fun d => d.parameters.length) = some 0 := by decide +kernel
theorem X4_quiet_k33 : Cond.fieldLink RX4 33 "HatPins" "trial" "LHatPins$Standing;" ∈ wsX4_quiet := by decide +kernel
theorem X4_quiet_k29 : Cond.fieldLink RX4 29 "HatPins" "now" "LHatPins$Standing;" ∈ wsX4_quiet := by decide +kernel
theorem X4_quiet_k19 : Cond.fieldLink RX4 19 "HatPins" "laid" "LHatPins$Evening;" ∈ wsX4_quiet := by decide +kernel
theorem X4_quiet_ml177 : Cond.methodLink RX4 177 Lib.Math.max.name ∈ wsX4_quiet := by decide +kernel
theorem X4_quiet_msmax : Cond.static Lib.Math.max.name ∈ wsX4_quiet := by decide +kernel
theorem X4_quiet_mim : Cond.initialized "java/lang/Math" ∈ wsX4_quiet := by decide +kernel
theorem X4_quiet_mcmax : Cond.code Lib.Math.max.name Lib.Math.max.code 2 (some .int) ∈ wsX4_quiet := by decide +kernel
theorem X4_quiet_w4 : ∀ w ∈ wsX40, w ∈ wsX4_quiet := by decide +kernel
set_option maxHeartbeats 4000000 in
set_option maxRecDepth 100000 in
theorem X4_quiet_b55_ok {p : Program} {l : Launch} {e : Env} {s : State} {m : MethodId} {args : Array Value} {below : List Frame} {meth : Method} {c : Code} {D : va_G} {E : Nat → ClassId} {b z : Nat} {sh : List hS} {r : Int32} {I2 : hM} {k17 : Int32 → Int32 → Int32 → hM → Option (Int32 × hM)} {v2 : Int32} {v3 : Int32} {t0 : Int32} {I : hM} (hX : hp_X p s m args meth c yX4_quiet.cls cX4_quiet 4 wsX4_quiet D E (some .int) yX4_quiet.name) (hf0 : hq_X4 sh) (hk17 : ∀ (v1 : Int32) (v2 : Int32) (v3 : Int32) (I : hM), k17 v1 v2 v3 I = some (r, I2) → hp_J p l e ({ frames := 3, cells := 0, slots := 0, locals := 44 * 3 }) s m args below meth c (MQ below (hp_Q D E b z (some (.int r)) sh I2) args s 0 0 (fun q : Nat => b ≤ q)) D E b z 4 sh 0 0 I 17 [(0, .ref 0), (1, .int v1), (2, .int v2), (3, .int v3)] []) (h : X4_quiet_b55 k17 v2 v3 t0 I = some (r, I2)) : hp_J p l e ({ frames := 3, cells := 0, slots := 0, locals := 44 * 3 }) s m args below meth c (MQ below (hp_Q D E b z (some (.int r)) sh I2) args s 0 0 (fun q : Nat => b ≤ q)) D E b z 4 sh 0 0 I 55 [(0, .ref 0), (2, .int v2), (3, .int v3)] [.int t0] := by
  unfold X4_quiet_b55 at h
  refine hj_istore_n hX rfl (Nat.le_of_ble_eq_true rfl) (lv2 := [(1, .int t0), (0, .ref 0), (2, .int v2), (3, .int v3)]) rfl dX4_quiet_55 ?_
  refine hj_iload_n hX rfl 2 rfl dX4_quiet_56 ?_
  refine hj_iload_n hX rfl 0 rfl dX4_quiet_57 ?_
  refine hj_mmax hX X4_quiet_ml177 X4_quiet_msmax X4_quiet_mim X4_quiet_mcmax (Nat.le_of_ble_eq_true rfl) (Nat.le_of_ble_eq_true rfl) ⟨(Nat.le_of_ble_eq_true rfl), (Nat.le_of_ble_eq_true rfl)⟩ dX4_quiet_58 ?_
  refine hj_istore_n hX rfl (Nat.le_of_ble_eq_true rfl) (lv2 := [(2, .int (hmax v2 t0)), (1, .int t0), (0, .ref 0), (3, .int v3)]) rfl dX4_quiet_61 ?_
  refine hj_aload_n hX rfl 2 rfl dX4_quiet_62 ?_
  refine hj_getr hX (j := 4) hf0.1 rfl rfl X4_quiet_w4 (Nat.le_of_ble_eq_true rfl) rfl X4_quiet_k33 dX4_quiet_63 ?_
  refine hj_aload_n hX rfl 2 rfl dX4_quiet_66 ?_
  refine hj_getr hX (j := 1) hf0.1 rfl rfl X4_quiet_w4 (Nat.le_of_ble_eq_true rfl) rfl X4_quiet_k19 dX4_quiet_67 ?_
  obtain ⟨u10, Ia11, hc12, h⟩ := ob_e h
  refine hj_callV hX (sh2 := sh) (I2 := Ia11) (r := none) (As := [.ref 4]) (rest := []) (st2 := []) (X2_endMinute_ok hf0.2.2.2.2.2.1 hf0.2.2.1 hc12) gX4_quiet_X2_endMinute rfl X2_endMinute_hy ⟨(Nat.le_of_ble_eq_true rfl), (Nat.le_of_ble_eq_true rfl)⟩ rfl hf0.2.2.2.2.2.1.1 rfl (Nat.le_of_ble_eq_true rfl) ⟨(Nat.le_of_ble_eq_true rfl), (Nat.le_of_ble_eq_true rfl)⟩ rfl rfl rfl dX4_quiet_70 ?_
  refine hj_iinc hX (k1 := 3) (v := (v3 + (1 : Int32))) rfl rfl (Nat.le_of_ble_eq_true rfl) (lv2 := [(3, .int (v3 + (1 : Int32))), (2, .int (hmax v2 t0)), (1, .int t0), (0, .ref 0)]) rfl dX4_quiet_73 ?_
  refine hj_goto hX (tgt := 17) (by decide) dX4_quiet_76 ?_
  refine hj_lv hX [3, 2, 1, 0] (lv2 := [(0, .ref 0), (1, .int t0), (2, .int (hmax v2 t0)), (3, .int (v3 + (1 : Int32)))]) rfl ?_
  exact hk17 _ _ _ _ h
set_option maxHeartbeats 4000000 in
set_option maxRecDepth 100000 in
theorem X4_quiet_h17_ok {p : Program} {l : Launch} {e : Env} {s : State} {m : MethodId} {args : Array Value} {below : List Frame} {meth : Method} {c : Code} {D : va_G} {E : Nat → ClassId} {b z : Nat} {sh : List hS} {r : Int32} {I2 : hM} {k17 : Int32 → Int32 → Int32 → hM → Option (Int32 × hM)} {v1 : Int32} {v2 : Int32} {v3 : Int32} {I : hM} (hX : hp_X p s m args meth c yX4_quiet.cls cX4_quiet 4 wsX4_quiet D E (some .int) yX4_quiet.name) (hf0 : hq_X4 sh) (hk17 : ∀ (v1 : Int32) (v2 : Int32) (v3 : Int32) (I : hM), k17 v1 v2 v3 I = some (r, I2) → hp_J p l e ({ frames := 3, cells := 0, slots := 0, locals := 44 * 3 }) s m args below meth c (MQ below (hp_Q D E b z (some (.int r)) sh I2) args s 0 0 (fun q : Nat => b ≤ q)) D E b z 4 sh 0 0 I 17 [(0, .ref 0), (1, .int v1), (2, .int v2), (3, .int v3)] []) (h : X4_quiet_h17 k17 v1 v2 v3 I = some (r, I2)) : hp_J p l e ({ frames := 3, cells := 0, slots := 0, locals := 44 * 3 }) s m args below meth c (MQ below (hp_Q D E b z (some (.int r)) sh I2) args s 0 0 (fun q : Nat => b ≤ q)) D E b z 4 sh 0 0 I 17 [(0, .ref 0), (1, .int v1), (2, .int v2), (3, .int v3)] [] := by
  unfold X4_quiet_h17 at h
  refine hj_iload_n hX rfl 3 rfl dX4_quiet_17 ?_
  refine hj_bipush hX (v := (60 : Int32)) (by decide) dX4_quiet_18 ?_
  refine hj_icmp_ge hX (tgt := 79) (by decide) dX4_quiet_20 h (fun h => ?_) (fun h => ?_)
  · refine hj_iload_n hX rfl 2 rfl dX4_quiet_79 ?_
    exact hj_iret hX dX4_quiet_80 h
  · refine hj_aload_n hX rfl 0 rfl dX4_quiet_23 ?_
    refine hj_getr hX (j := 4) hf0.1 rfl rfl X4_quiet_w4 (Nat.le_of_ble_eq_true rfl) rfl X4_quiet_k33 dX4_quiet_24 ?_
    refine hj_aload_n hX rfl 0 rfl dX4_quiet_27 ?_
    refine hj_getr hX (j := 1) hf0.1 rfl rfl X4_quiet_w4 (Nat.le_of_ble_eq_true rfl) rfl X4_quiet_k19 dX4_quiet_28 ?_
    obtain ⟨u4, Ia5, hc6, h⟩ := ob_e h
    refine hj_callV hX (sh2 := sh) (I2 := Ia5) (r := none) (As := [.ref 4]) (rest := []) (st2 := []) (X2_beginDue_ok hf0.2.2.2.2.2.1 hf0.2.2.1 hc6) gX4_quiet_X2_beginDue rfl X2_beginDue_hy ⟨(Nat.le_of_ble_eq_true rfl), (Nat.le_of_ble_eq_true rfl)⟩ rfl hf0.2.2.2.2.2.1.1 rfl (Nat.le_of_ble_eq_true rfl) ⟨(Nat.le_of_ble_eq_true rfl), (Nat.le_of_ble_eq_true rfl)⟩ rfl rfl rfl dX4_quiet_31 ?_
    refine hj_aload_n hX rfl 0 rfl dX4_quiet_34 ?_
    refine hj_getr hX (j := 4) hf0.1 rfl rfl X4_quiet_w4 (Nat.le_of_ble_eq_true rfl) rfl X4_quiet_k33 dX4_quiet_35 ?_
    refine hj_aload_n hX rfl 0 rfl dX4_quiet_38 ?_
    refine hj_getr hX (j := 1) hf0.1 rfl rfl X4_quiet_w4 (Nat.le_of_ble_eq_true rfl) rfl X4_quiet_k19 dX4_quiet_39 ?_
    obtain ⟨u7, Ia8, hc9, h⟩ := ob_e h
    refine hj_callV hX (sh2 := sh) (I2 := Ia8) (r := (some (.int u7))) (As := [.ref 4]) (rest := []) (st2 := [.int u7]) (X2_onBits_ok hf0.2.2.2.2.2.1 hf0.2.2.1 hc9) gX4_quiet_X2_onBits rfl X2_onBits_hy ⟨(Nat.le_of_ble_eq_true rfl), (Nat.le_of_ble_eq_true rfl)⟩ rfl hf0.2.2.2.2.2.1.1 rfl (Nat.le_of_ble_eq_true rfl) ⟨(Nat.le_of_ble_eq_true rfl), (Nat.le_of_ble_eq_true rfl)⟩ rfl rfl rfl dX4_quiet_42 ?_
    refine hj_if_ne hX (tgt := 54) (by decide) dX4_quiet_45 h (fun h => ?_) (fun h => ?_)
    · refine hj_iconst hX (v := (0 : Int32)) (by decide) dX4_quiet_54 ?_
      refine hj_lv hX [0, 2, 3] (lv2 := [(0, .ref 0), (2, .int v2), (3, .int v3)]) rfl ?_
      exact X4_quiet_b55_ok hX hf0 hk17 h
    · refine hj_iload_n hX rfl 1 rfl dX4_quiet_48 ?_
      refine hj_iconst hX (v := (1 : Int32)) (by decide) dX4_quiet_49 ?_
      refine hj_iadd hX dX4_quiet_50 ?_
      refine hj_goto hX (tgt := 55) (by decide) dX4_quiet_51 ?_
      refine hj_lv hX [0, 2, 3] (lv2 := [(0, .ref 0), (2, .int v2), (3, .int v3)]) rfl ?_
      exact X4_quiet_b55_ok hX hf0 hk17 h
set_option maxHeartbeats 4000000 in
set_option maxRecDepth 100000 in
theorem X4_quiet_l17_ok {p : Program} {l : Launch} {e : Env} {s : State} {m : MethodId} {args : Array Value} {below : List Frame} {meth : Method} {c : Code} {D : va_G} {E : Nat → ClassId} {b z : Nat} {sh : List hS} {r : Int32} {I2 : hM} (hX : hp_X p s m args meth c yX4_quiet.cls cX4_quiet 4 wsX4_quiet D E (some .int) yX4_quiet.name) (hf0 : hq_X4 sh) : ∀ (n : Nat) (v1 : Int32) (v2 : Int32) (v3 : Int32) (I : hM), X4_quiet_l17 n v1 v2 v3 I = some (r, I2) → hp_J p l e ({ frames := 3, cells := 0, slots := 0, locals := 44 * 3 }) s m args below meth c (MQ below (hp_Q D E b z (some (.int r)) sh I2) args s 0 0 (fun q : Nat => b ≤ q)) D E b z 4 sh 0 0 I 17 [(0, .ref 0), (1, .int v1), (2, .int v2), (3, .int v3)] [] := by
  intro n
  induction n with
  | zero => exact fun _ _ _ _ h => nomatch h
  | succ n ih => exact fun _ _ _ _ h => X4_quiet_h17_ok hX hf0 ih h
set_option maxHeartbeats 4000000 in
set_option maxRecDepth 100000 in
theorem X4_quiet_ok {sh : List hS} {r : Int32} {I I2 : hM} (hf0 : hq_X4 sh) (h : X4_quiet I = some (r, I2)) : hp_C yX4_quiet wsX4_quiet 3 0 0 sh I [.ref 0] (some (.int r)) sh I2 := hp_start (cc := cX4_quiet) (maxL := 4) (ret := (some .int)) [(0, .ref 0)] (by decide) rfl (fun _ _ => rfl) (fun _ _ => Nat.le_of_ble_eq_true rfl) (fun p l e s m below meth c D E b z hX _ => by
  unfold X4_quiet at h
  refine hj_iconst hX (v := (0 : Int32)) (by decide) dX4_quiet_0 ?_
  refine hj_istore_n hX rfl (Nat.le_of_ble_eq_true rfl) (lv2 := [(1, .int (0 : Int32)), (0, .ref 0)]) rfl dX4_quiet_1 ?_
  refine hj_iconst hX (v := (0 : Int32)) (by decide) dX4_quiet_2 ?_
  refine hj_istore_n hX rfl (Nat.le_of_ble_eq_true rfl) (lv2 := [(2, .int (0 : Int32)), (1, .int (0 : Int32)), (0, .ref 0)]) rfl dX4_quiet_3 ?_
  refine hj_aload_n hX rfl 2 rfl dX4_quiet_4 ?_
  refine hj_getr hX (j := 4) hf0.1 rfl rfl X4_quiet_w4 (Nat.le_of_ble_eq_true rfl) rfl X4_quiet_k33 dX4_quiet_5 ?_
  refine hj_aload_n hX rfl 2 rfl dX4_quiet_8 ?_
  refine hj_getr hX (j := 3) hf0.1 rfl rfl X4_quiet_w4 (Nat.le_of_ble_eq_true rfl) rfl X4_quiet_k29 dX4_quiet_9 ?_
  obtain ⟨u1, Ia2, hc3, h⟩ := ob_e h
  refine hj_callV hX (sh2 := sh) (I2 := Ia2) (r := none) (As := [.ref 26]) (rest := []) (st2 := []) (X2_copyOf_ok hf0.2.2.2.2.2.1 hf0.2.2.2.2.1 hc3) gX4_quiet_X2_copyOf rfl X2_copyOf_hy ⟨(Nat.le_of_ble_eq_true rfl), (Nat.le_of_ble_eq_true rfl)⟩ rfl hf0.2.2.2.2.2.1.1 rfl (Nat.le_of_ble_eq_true rfl) ⟨(Nat.le_of_ble_eq_true rfl), (Nat.le_of_ble_eq_true rfl)⟩ rfl rfl rfl dX4_quiet_12 ?_
  refine hj_iconst hX (v := (0 : Int32)) (by decide) dX4_quiet_15 ?_
  refine hj_istore_n hX rfl (Nat.le_of_ble_eq_true rfl) (lv2 := [(3, .int (0 : Int32)), (2, .int (0 : Int32)), (1, .int (0 : Int32)), (0, .ref 0)]) rfl dX4_quiet_16 ?_
  refine hj_lv hX [3, 2, 1, 0] (lv2 := [(0, .ref 0), (1, .int (0 : Int32)), (2, .int (0 : Int32)), (3, .int (0 : Int32))]) rfl ?_
  exact X4_quiet_l17_ok hX hf0 hF _ _ _ _ h)
def X4_hadAsItIs (I : hM) : Option (Int32 × hM) := ob (X2_copyOf 31 26 I) (fun u1 Ia2 => ob (X2_goBy 31 4 (60 : Int32) Ia2) (fun u4 Ia5 => some ((Ia5 31 1), Ia5)))
theorem X4_hadAsItIs_hy : yX4_hadAsItIs.cls = RX4 ∧ yX4_hadAsItIs.cls ≠ "java/lang/invoke/MethodHandle" ∧ yX4_hadAsItIs.cls ≠ "java/lang/invoke/VarHandle" ∧ (parseMethodDescriptor yX4_hadAsItIs.desc).map (fun d => d.parameters.length) = some 0 := by decide +kernel
theorem X4_hadAsItIs_k33 : Cond.fieldLink RX4 33 "HatPins" "trial" "LHatPins$Standing;" ∈ wsX4_hadAsItIs := by decide +kernel
theorem X4_hadAsItIs_k29 : Cond.fieldLink RX4 29 "HatPins" "now" "LHatPins$Standing;" ∈ wsX4_hadAsItIs := by decide +kernel
theorem X4_hadAsItIs_k19 : Cond.fieldLink RX4 19 "HatPins" "laid" "LHatPins$Evening;" ∈ wsX4_hadAsItIs := by decide +kernel
theorem X4_hadAsItIs_k140 : Cond.fieldLink RX4 140 "HatPins$Standing" "had" "I" ∈ wsX4_hadAsItIs := by decide +kernel
theorem X4_hadAsItIs_w2 : ∀ w ∈ wsX20, w ∈ wsX4_hadAsItIs := by decide +kernel
theorem X4_hadAsItIs_w4 : ∀ w ∈ wsX40, w ∈ wsX4_hadAsItIs := by decide +kernel
set_option maxHeartbeats 4000000 in
set_option maxRecDepth 100000 in
theorem X4_hadAsItIs_ok {sh : List hS} {r : Int32} {I I2 : hM} (hf0 : hq_X4 sh) (h : X4_hadAsItIs I = some (r, I2)) : hp_C yX4_hadAsItIs wsX4_hadAsItIs 5 0 0 sh I [.ref 0] (some (.int r)) sh I2 := hp_start (cc := cX4_hadAsItIs) (maxL := 1) (ret := (some .int)) [(0, .ref 0)] (by decide) rfl (fun _ _ => rfl) (fun _ _ => Nat.le_of_ble_eq_true rfl) (fun p l e s m below meth c D E b z hX _ => by
  unfold X4_hadAsItIs at h
  refine hj_aload_n hX rfl 0 rfl dX4_hadAsItIs_0 ?_
  refine hj_getr hX (j := 4) hf0.1 rfl rfl X4_hadAsItIs_w4 (Nat.le_of_ble_eq_true rfl) rfl X4_hadAsItIs_k33 dX4_hadAsItIs_1 ?_
  refine hj_aload_n hX rfl 0 rfl dX4_hadAsItIs_4 ?_
  refine hj_getr hX (j := 3) hf0.1 rfl rfl X4_hadAsItIs_w4 (Nat.le_of_ble_eq_true rfl) rfl X4_hadAsItIs_k29 dX4_hadAsItIs_5 ?_
  obtain ⟨u1, Ia2, hc3, h⟩ := ob_e h
  refine hj_callV hX (sh2 := sh) (I2 := Ia2) (r := none) (As := [.ref 26]) (rest := []) (st2 := []) (X2_copyOf_ok hf0.2.2.2.2.2.1 hf0.2.2.2.2.1 hc3) gX4_hadAsItIs_X2_copyOf rfl X2_copyOf_hy ⟨(Nat.le_of_ble_eq_true rfl), (Nat.le_of_ble_eq_true rfl)⟩ rfl hf0.2.2.2.2.2.1.1 rfl (Nat.le_of_ble_eq_true rfl) ⟨(Nat.le_of_ble_eq_true rfl), (Nat.le_of_ble_eq_true rfl)⟩ rfl rfl rfl dX4_hadAsItIs_8 ?_
  refine hj_aload_n hX rfl 0 rfl dX4_hadAsItIs_11 ?_
  refine hj_getr hX (j := 4) hf0.1 rfl rfl X4_hadAsItIs_w4 (Nat.le_of_ble_eq_true rfl) rfl X4_hadAsItIs_k33 dX4_hadAsItIs_12 ?_
  refine hj_aload_n hX rfl 0 rfl dX4_hadAsItIs_15 ?_
  refine hj_getr hX (j := 1) hf0.1 rfl rfl X4_hadAsItIs_w4 (Nat.le_of_ble_eq_true rfl) rfl X4_hadAsItIs_k19 dX4_hadAsItIs_16 ?_
  refine hj_bipush hX (v := (60 : Int32)) (by decide) dX4_hadAsItIs_19 ?_
  obtain ⟨u4, Ia5, hc6, h⟩ := ob_e h
  refine hj_callV hX (sh2 := sh) (I2 := Ia5) (r := none) (As := [.ref 4, .int (60 : Int32)]) (rest := []) (st2 := []) (X2_goBy_ok hf0.2.2.2.2.2.1 hf0.2.2.1 hc6) gX4_hadAsItIs_X2_goBy rfl X2_goBy_hy ⟨(Nat.le_of_ble_eq_true rfl), (Nat.le_of_ble_eq_true rfl)⟩ rfl hf0.2.2.2.2.2.1.1 rfl (Nat.le_of_ble_eq_true rfl) ⟨(Nat.le_of_ble_eq_true rfl), (Nat.le_of_ble_eq_true rfl)⟩ rfl rfl rfl dX4_hadAsItIs_21 ?_
  refine hj_aload_n hX rfl 0 rfl dX4_hadAsItIs_24 ?_
  refine hj_getr hX (j := 4) hf0.1 rfl rfl X4_hadAsItIs_w4 (Nat.le_of_ble_eq_true rfl) rfl X4_hadAsItIs_k33 dX4_hadAsItIs_25 ?_
  refine hj_geti hX (j := 1) hf0.2.2.2.2.2.1.1 rfl rfl X4_hadAsItIs_w2 (Nat.le_of_ble_eq_true rfl) rfl X4_hadAsItIs_k140 dX4_hadAsItIs_28 ?_
  exact hj_iret hX dX4_hadAsItIs_31 h)
def X4_hadStopping_b57 (k25 : Int32 → Int32 → hM → Option (Int32 × hM)) (v1 : Int32) (v3 : Int32) (I : hM) : Option (Int32 × hM) := ob (X2_goBy 31 4 (1 : Int32) I) (fun u10 Ia11 => (k25 v1 (v3 + (1 : Int32)) Ia11))
def X4_hadStopping_h25 (k25 : Int32 → Int32 → hM → Option (Int32 × hM)) (v1 : Int32) (v3 : Int32) (I : hM) : Option (Int32 × hM) := if (60 : Int32) ≤ v3 then (some ((I 31 1), I)) else (gd (hx v1 7) (if (I 32 (v1).toNatClampNeg) = (1 : Int32) then (ob (X2_finish 31 4 v1 (3 : Int32) I) (fun u7 Ia8 => (X4_hadStopping_b57 k25 v1 v3 Ia8))) else (X4_hadStopping_b57 k25 v1 v3 I)))
def X4_hadStopping_l25 : Nat → Int32 → Int32 → hM → Option (Int32 × hM)
  | 0 => fun _ _ _ => none
  | n + 1 => X4_hadStopping_h25   (X4_hadStopping_l25   n)
def X4_hadStopping (v1 : Int32) (v2 : Int32) (I : hM) : Option (Int32 × hM) := ob (X2_copyOf 31 26 I) (fun u1 Ia2 => ob (X2_goBy 31 4 v2 Ia2) (fun u4 Ia5 => (X4_hadStopping_l25 hF v1 v2 Ia5)))
theorem X4_hadStopping_hy : yX4_hadStopping.cls = RX4 ∧ yX4_hadStopping.cls ≠ "java/lang/invoke/MethodHandle" ∧ yX4_hadStopping.cls ≠ "java/lang/invoke/VarHandle" ∧ (parseMethodDescriptor yX4_hadStopping.desc).map (fun d => d.parameters.length) = some 2 := by decide +kernel
theorem X4_hadStopping_k33 : Cond.fieldLink RX4 33 "HatPins" "trial" "LHatPins$Standing;" ∈ wsX4_hadStopping := by decide +kernel
theorem X4_hadStopping_k29 : Cond.fieldLink RX4 29 "HatPins" "now" "LHatPins$Standing;" ∈ wsX4_hadStopping := by decide +kernel
theorem X4_hadStopping_k19 : Cond.fieldLink RX4 19 "HatPins" "laid" "LHatPins$Evening;" ∈ wsX4_hadStopping := by decide +kernel
theorem X4_hadStopping_k140 : Cond.fieldLink RX4 140 "HatPins$Standing" "had" "I" ∈ wsX4_hadStopping := by decide +kernel
theorem X4_hadStopping_k106 : Cond.fieldLink RX4 106 "HatPins$Standing" "state" "[I" ∈ wsX4_hadStopping := by decide +kernel
theorem X4_hadStopping_w2 : ∀ w ∈ wsX20, w ∈ wsX4_hadStopping := by decide +kernel
theorem X4_hadStopping_w4 : ∀ w ∈ wsX40, w ∈ wsX4_hadStopping := by decide +kernel
set_option maxHeartbeats 4000000 in
set_option maxRecDepth 100000 in
theorem X4_hadStopping_b57_ok {p : Program} {l : Launch} {e : Env} {s : State} {m : MethodId} {args : Array Value} {below : List Frame} {meth : Method} {c : Code} {D : va_G} {E : Nat → ClassId} {b z : Nat} {sh : List hS} {r : Int32} {I2 : hM} {k25 : Int32 → Int32 → hM → Option (Int32 × hM)} {v1 : Int32} {v3 : Int32} {I : hM} (hX : hp_X p s m args meth c yX4_hadStopping.cls cX4_hadStopping 4 wsX4_hadStopping D E (some .int) yX4_hadStopping.name) (hf0 : hq_X4 sh) (hk25 : ∀ (v1 : Int32) (v3 : Int32) (I : hM), k25 v1 v3 I = some (r, I2) → hp_J p l e ({ frames := 5, cells := 0, slots := 0, locals := 44 * 5 }) s m args below meth c (MQ below (hp_Q D E b z (some (.int r)) sh I2) args s 0 0 (fun q : Nat => b ≤ q)) D E b z 4 sh 0 0 I 25 [(0, .ref 0), (1, .int v1), (3, .int v3)] []) (h : X4_hadStopping_b57 k25 v1 v3 I = some (r, I2)) : hp_J p l e ({ frames := 5, cells := 0, slots := 0, locals := 44 * 5 }) s m args below meth c (MQ below (hp_Q D E b z (some (.int r)) sh I2) args s 0 0 (fun q : Nat => b ≤ q)) D E b z 4 sh 0 0 I 57 [(0, .ref 0), (1, .int v1), (3, .int v3)] [] := by
  unfold X4_hadStopping_b57 at h
  refine hj_aload_n hX rfl 0 rfl dX4_hadStopping_57 ?_
  refine hj_getr hX (j := 4) hf0.1 rfl rfl X4_hadStopping_w4 (Nat.le_of_ble_eq_true rfl) rfl X4_hadStopping_k33 dX4_hadStopping_58 ?_
  refine hj_aload_n hX rfl 0 rfl dX4_hadStopping_61 ?_
  refine hj_getr hX (j := 1) hf0.1 rfl rfl X4_hadStopping_w4 (Nat.le_of_ble_eq_true rfl) rfl X4_hadStopping_k19 dX4_hadStopping_62 ?_
  refine hj_iconst hX (v := (1 : Int32)) (by decide) dX4_hadStopping_65 ?_
  obtain ⟨u10, Ia11, hc12, h⟩ := ob_e h
  refine hj_callV hX (sh2 := sh) (I2 := Ia11) (r := none) (As := [.ref 4, .int (1 : Int32)]) (rest := []) (st2 := []) (X2_goBy_ok hf0.2.2.2.2.2.1 hf0.2.2.1 hc12) gX4_hadStopping_X2_goBy rfl X2_goBy_hy ⟨(Nat.le_of_ble_eq_true rfl), (Nat.le_of_ble_eq_true rfl)⟩ rfl hf0.2.2.2.2.2.1.1 rfl (Nat.le_of_ble_eq_true rfl) ⟨(Nat.le_of_ble_eq_true rfl), (Nat.le_of_ble_eq_true rfl)⟩ rfl rfl rfl dX4_hadStopping_66 ?_
  refine hj_iinc hX (k1 := 2) (v := (v3 + (1 : Int32))) rfl rfl (Nat.le_of_ble_eq_true rfl) (lv2 := [(3, .int (v3 + (1 : Int32))), (0, .ref 0), (1, .int v1)]) rfl dX4_hadStopping_69 ?_
  refine hj_goto hX (tgt := 25) (by decide) dX4_hadStopping_72 ?_
  refine hj_lv hX [1, 2, 0] (lv2 := [(0, .ref 0), (1, .int v1), (3, .int (v3 + (1 : Int32)))]) rfl ?_
  exact hk25 _ _ _ h
set_option maxHeartbeats 4000000 in
set_option maxRecDepth 100000 in
theorem X4_hadStopping_h25_ok {p : Program} {l : Launch} {e : Env} {s : State} {m : MethodId} {args : Array Value} {below : List Frame} {meth : Method} {c : Code} {D : va_G} {E : Nat → ClassId} {b z : Nat} {sh : List hS} {r : Int32} {I2 : hM} {k25 : Int32 → Int32 → hM → Option (Int32 × hM)} {v1 : Int32} {v3 : Int32} {I : hM} (hX : hp_X p s m args meth c yX4_hadStopping.cls cX4_hadStopping 4 wsX4_hadStopping D E (some .int) yX4_hadStopping.name) (hf0 : hq_X4 sh) (hk25 : ∀ (v1 : Int32) (v3 : Int32) (I : hM), k25 v1 v3 I = some (r, I2) → hp_J p l e ({ frames := 5, cells := 0, slots := 0, locals := 44 * 5 }) s m args below meth c (MQ below (hp_Q D E b z (some (.int r)) sh I2) args s 0 0 (fun q : Nat => b ≤ q)) D E b z 4 sh 0 0 I 25 [(0, .ref 0), (1, .int v1), (3, .int v3)] []) (h : X4_hadStopping_h25 k25 v1 v3 I = some (r, I2)) : hp_J p l e ({ frames := 5, cells := 0, slots := 0, locals := 44 * 5 }) s m args below meth c (MQ below (hp_Q D E b z (some (.int r)) sh I2) args s 0 0 (fun q : Nat => b ≤ q)) D E b z 4 sh 0 0 I 25 [(0, .ref 0), (1, .int v1), (3, .int v3)] [] := by
  unfold X4_hadStopping_h25 at h
  refine hj_iload_n hX rfl 2 rfl dX4_hadStopping_25 ?_
  refine hj_bipush hX (v := (60 : Int32)) (by decide) dX4_hadStopping_26 ?_
  refine hj_icmp_ge hX (tgt := 75) (by decide) dX4_hadStopping_28 h (fun h => ?_) (fun h => ?_)
  · refine hj_aload_n hX rfl 0 rfl dX4_hadStopping_75 ?_
    refine hj_getr hX (j := 4) hf0.1 rfl rfl X4_hadStopping_w4 (Nat.le_of_ble_eq_true rfl) rfl X4_hadStopping_k33 dX4_hadStopping_76 ?_
    refine hj_geti hX (j := 1) hf0.2.2.2.2.2.1.1 rfl rfl X4_hadStopping_w2 (Nat.le_of_ble_eq_true rfl) rfl X4_hadStopping_k140 dX4_hadStopping_79 ?_
    exact hj_iret hX dX4_hadStopping_82 h
  · refine hj_aload_n hX rfl 0 rfl dX4_hadStopping_31 ?_
    refine hj_getr hX (j := 4) hf0.1 rfl rfl X4_hadStopping_w4 (Nat.le_of_ble_eq_true rfl) rfl X4_hadStopping_k33 dX4_hadStopping_32 ?_
    refine hj_getr hX (j := 2) hf0.2.2.2.2.2.1.1 rfl rfl X4_hadStopping_w2 (Nat.le_of_ble_eq_true rfl) rfl X4_hadStopping_k106 dX4_hadStopping_35 ?_
    refine hj_iload_n hX rfl 1 rfl dX4_hadStopping_38 ?_
    refine hj_iald hX hf0.2.2.2.2.2.1.2.1 dX4_hadStopping_39 h (fun h => ?_)
    refine hj_iconst hX (v := (1 : Int32)) (by decide) dX4_hadStopping_40 ?_
    refine hj_icmp_ne hX (tgt := 57) (by decide) dX4_hadStopping_41 h (fun h => ?_) (fun h => ?_)
    · exact X4_hadStopping_b57_ok hX hf0 hk25 h
    · refine hj_aload_n hX rfl 0 rfl dX4_hadStopping_44 ?_
      refine hj_getr hX (j := 4) hf0.1 rfl rfl X4_hadStopping_w4 (Nat.le_of_ble_eq_true rfl) rfl X4_hadStopping_k33 dX4_hadStopping_45 ?_
      refine hj_aload_n hX rfl 0 rfl dX4_hadStopping_48 ?_
      refine hj_getr hX (j := 1) hf0.1 rfl rfl X4_hadStopping_w4 (Nat.le_of_ble_eq_true rfl) rfl X4_hadStopping_k19 dX4_hadStopping_49 ?_
      refine hj_iload_n hX rfl 1 rfl dX4_hadStopping_52 ?_
      refine hj_iconst hX (v := (3 : Int32)) (by decide) dX4_hadStopping_53 ?_
      obtain ⟨u7, Ia8, hc9, h⟩ := ob_e h
      refine hj_callV hX (sh2 := sh) (I2 := Ia8) (r := none) (As := [.ref 4, .int v1, .int (3 : Int32)]) (rest := []) (st2 := []) (X2_finish_ok hf0.2.2.2.2.2.1 hf0.2.2.1 hc9) gX4_hadStopping_X2_finish rfl X2_finish_hy ⟨(Nat.le_of_ble_eq_true rfl), (Nat.le_of_ble_eq_true rfl)⟩ rfl hf0.2.2.2.2.2.1.1 rfl (Nat.le_of_ble_eq_true rfl) ⟨(Nat.le_of_ble_eq_true rfl), (Nat.le_of_ble_eq_true rfl)⟩ rfl rfl rfl dX4_hadStopping_54 ?_
      exact X4_hadStopping_b57_ok hX hf0 hk25 h
set_option maxHeartbeats 4000000 in
set_option maxRecDepth 100000 in
theorem X4_hadStopping_l25_ok {p : Program} {l : Launch} {e : Env} {s : State} {m : MethodId} {args : Array Value} {below : List Frame} {meth : Method} {c : Code} {D : va_G} {E : Nat → ClassId} {b z : Nat} {sh : List hS} {r : Int32} {I2 : hM} (hX : hp_X p s m args meth c yX4_hadStopping.cls cX4_hadStopping 4 wsX4_hadStopping D E (some .int) yX4_hadStopping.name) (hf0 : hq_X4 sh) : ∀ (n : Nat) (v1 : Int32) (v3 : Int32) (I : hM), X4_hadStopping_l25 n v1 v3 I = some (r, I2) → hp_J p l e ({ frames := 5, cells := 0, slots := 0, locals := 44 * 5 }) s m args below meth c (MQ below (hp_Q D E b z (some (.int r)) sh I2) args s 0 0 (fun q : Nat => b ≤ q)) D E b z 4 sh 0 0 I 25 [(0, .ref 0), (1, .int v1), (3, .int v3)] [] := by
  intro n
  induction n with
  | zero => exact fun _ _ _ h => nomatch h
  | succ n ih => exact fun _ _ _ h => X4_hadStopping_h25_ok hX hf0 ih h
set_option maxHeartbeats 4000000 in
set_option maxRecDepth 100000 in
theorem X4_hadStopping_ok {sh : List hS} {r : Int32} {I I2 : hM} {v1 : Int32} {v2 : Int32} (hf0 : hq_X4 sh) (h : X4_hadStopping v1 v2 I = some (r, I2)) : hp_C yX4_hadStopping wsX4_hadStopping 5 0 0 sh I [.ref 0, .int v1, .int v2] (some (.int r)) sh I2 := hp_start (cc := cX4_hadStopping) (maxL := 4) (ret := (some .int)) [(0, .ref 0), (1, .int v1), (2, .int v2)] (by decide) rfl (fun _ _ => rfl) (fun _ _ => Nat.le_of_ble_eq_true rfl) (fun p l e s m below meth c D E b z hX _ => by
  unfold X4_hadStopping at h
  refine hj_aload_n hX rfl 0 rfl dX4_hadStopping_0 ?_
  refine hj_getr hX (j := 4) hf0.1 rfl rfl X4_hadStopping_w4 (Nat.le_of_ble_eq_true rfl) rfl X4_hadStopping_k33 dX4_hadStopping_1 ?_
  refine hj_aload_n hX rfl 0 rfl dX4_hadStopping_4 ?_
  refine hj_getr hX (j := 3) hf0.1 rfl rfl X4_hadStopping_w4 (Nat.le_of_ble_eq_true rfl) rfl X4_hadStopping_k29 dX4_hadStopping_5 ?_
  obtain ⟨u1, Ia2, hc3, h⟩ := ob_e h
  refine hj_callV hX (sh2 := sh) (I2 := Ia2) (r := none) (As := [.ref 26]) (rest := []) (st2 := []) (X2_copyOf_ok hf0.2.2.2.2.2.1 hf0.2.2.2.2.1 hc3) gX4_hadStopping_X2_copyOf rfl X2_copyOf_hy ⟨(Nat.le_of_ble_eq_true rfl), (Nat.le_of_ble_eq_true rfl)⟩ rfl hf0.2.2.2.2.2.1.1 rfl (Nat.le_of_ble_eq_true rfl) ⟨(Nat.le_of_ble_eq_true rfl), (Nat.le_of_ble_eq_true rfl)⟩ rfl rfl rfl dX4_hadStopping_8 ?_
  refine hj_aload_n hX rfl 0 rfl dX4_hadStopping_11 ?_
  refine hj_getr hX (j := 4) hf0.1 rfl rfl X4_hadStopping_w4 (Nat.le_of_ble_eq_true rfl) rfl X4_hadStopping_k33 dX4_hadStopping_12 ?_
  refine hj_aload_n hX rfl 0 rfl dX4_hadStopping_15 ?_
  refine hj_getr hX (j := 1) hf0.1 rfl rfl X4_hadStopping_w4 (Nat.le_of_ble_eq_true rfl) rfl X4_hadStopping_k19 dX4_hadStopping_16 ?_
  refine hj_iload_n hX rfl 2 rfl dX4_hadStopping_19 ?_
  obtain ⟨u4, Ia5, hc6, h⟩ := ob_e h
  refine hj_callV hX (sh2 := sh) (I2 := Ia5) (r := none) (As := [.ref 4, .int v2]) (rest := []) (st2 := []) (X2_goBy_ok hf0.2.2.2.2.2.1 hf0.2.2.1 hc6) gX4_hadStopping_X2_goBy rfl X2_goBy_hy ⟨(Nat.le_of_ble_eq_true rfl), (Nat.le_of_ble_eq_true rfl)⟩ rfl hf0.2.2.2.2.2.1.1 rfl (Nat.le_of_ble_eq_true rfl) ⟨(Nat.le_of_ble_eq_true rfl), (Nat.le_of_ble_eq_true rfl)⟩ rfl rfl rfl dX4_hadStopping_20 ?_
  refine hj_iload_n hX rfl 2 rfl dX4_hadStopping_23 ?_
  refine hj_istore_n hX rfl (Nat.le_of_ble_eq_true rfl) (lv2 := [(3, .int v2), (0, .ref 0), (1, .int v1), (2, .int v2)]) rfl dX4_hadStopping_24 ?_
  refine hj_lv hX [1, 2, 0] (lv2 := [(0, .ref 0), (1, .int v1), (3, .int v2)]) rfl ?_
  exact X4_hadStopping_l25_ok hX hf0 hF _ _ _ h)
def X4_whichOrHad (v0 : Int32) (v1 : Int32) (v2 : Int32) (I : hM) : Option (Int32 × hM) := if v0 = (-4 : Int32) then (some ((-4 : Int32), I)) else (if v2 = 0 then (some (v0, I)) else (some ((v1 + (10000 : Int32)), I)))
theorem X4_whichOrHad_hy : yX4_whichOrHad.cls = RX4 ∧ yX4_whichOrHad.cls ≠ "java/lang/invoke/MethodHandle" ∧ yX4_whichOrHad.cls ≠ "java/lang/invoke/VarHandle" ∧ (parseMethodDescriptor yX4_whichOrHad.desc).map (fun d => d.parameters.length) = some 3 := by decide +kernel
set_option maxHeartbeats 4000000 in
set_option maxRecDepth 100000 in
theorem X4_whichOrHad_ok {sh : List hS} {r : Int32} {I I2 : hM} {v0 : Int32} {v1 : Int32} {v2 : Int32} (h : X4_whichOrHad v0 v1 v2 I = some (r, I2)) : hp_C yX4_whichOrHad wsX4_whichOrHad 0 0 0 sh I [.int v0, .int v1, .int v2] (some (.int r)) sh I2 := hp_start (cc := cX4_whichOrHad) (maxL := 3) (ret := (some .int)) [(0, .int v0), (1, .int v1), (2, .int v2)] (by decide) rfl (fun _ _ => rfl) (fun _ _ => Nat.le_of_ble_eq_true rfl) (fun p l e s m below meth c D E b z hX _ => by
  unfold X4_whichOrHad at h
  refine hj_iload_n hX rfl 0 rfl dX4_whichOrHad_0 ?_
  refine hj_bipush hX (v := (-4 : Int32)) (by decide) dX4_whichOrHad_1 ?_
  refine hj_icmp_ne hX (tgt := 9) (by decide) dX4_whichOrHad_3 h (fun h => ?_) (fun h => ?_)
  · refine hj_iload_n hX rfl 2 rfl dX4_whichOrHad_9 ?_
    refine hj_if_ne hX (tgt := 17) (by decide) dX4_whichOrHad_10 h (fun h => ?_) (fun h => ?_)
    · refine hj_iload_n hX rfl 1 rfl dX4_whichOrHad_17 ?_
      refine hj_sipush hX (v := (10000 : Int32)) (by decide) dX4_whichOrHad_18 ?_
      refine hj_iadd hX dX4_whichOrHad_21 ?_
      exact hj_iret hX dX4_whichOrHad_22 h
    · refine hj_iload_n hX rfl 0 rfl dX4_whichOrHad_13 ?_
      refine hj_goto hX (tgt := 22) (by decide) dX4_whichOrHad_14 ?_
      exact hj_iret hX dX4_whichOrHad_22 h
  · refine hj_bipush hX (v := (-4 : Int32)) (by decide) dX4_whichOrHad_6 ?_
    exact hj_iret hX dX4_whichOrHad_8 h)
def X4_stop_h58 (k58 : Int32 → Int32 → Int32 → Int32 → Int32 → hM → Option (Int32 × hM)) (v1 : Int32) (v2 : Int32) (v3 : Int32) (v4 : Int32) (v5 : Int32) (I : hM) : Option (Int32 × hM) := if (40 : Int32) < v5 then (ob (X4_whichOrHad v3 v4 v2 I) (fun u10 Ia11 => some (u10, Ia11))) else (ob (X4_hadStopping v1 v5 I) (fun u13 Ia14 => if u13 ≤ v4 then ((k58 v1 v2 v3 v4 (v5 + (1 : Int32)) Ia14)) else ((k58 v1 v2 v5 u13 (v5 + (1 : Int32)) Ia14))))
def X4_stop_l58 : Nat → Int32 → Int32 → Int32 → Int32 → Int32 → hM → Option (Int32 × hM)
  | 0 => fun _ _ _ _ _ _ => none
  | n + 1 => X4_stop_h58   (X4_stop_l58   n)
def X4_stop (v1 : Int32) (v2 : Int32) (I : hM) : Option (Int32 × hM) := ob (X4_isGoing v1 I) (fun u1 Ia2 => if u1 = 0 then (some ((-1 : Int32), Ia2)) else (ob (X4_isEither v2 Ia2) (fun u4 Ia5 => if u4 = 0 then (some ((-1 : Int32), Ia5)) else (gd (hx v1 7) (if (Ia5 27 (v1).toNatClampNeg) = (2 : Int32) then (some ((-2 : Int32), Ia5)) else (gd (hx v1 7) (if (Ia5 27 (v1).toNatClampNeg) = (3 : Int32) then (some ((-2 : Int32), Ia5)) else (ob (X4_hadAsItIs Ia5) (fun u7 Ia8 => (X4_stop_l58 hF v1 v2 (-4 : Int32) u7 (0 : Int32) Ia8))))))))))
theorem X4_stop_hy : yX4_stop.cls = RX4 ∧ yX4_stop.cls ≠ "java/lang/invoke/MethodHandle" ∧ yX4_stop.cls ≠ "java/lang/invoke/VarHandle" ∧ (parseMethodDescriptor yX4_stop.desc).map (fun d => d.parameters.length) = some 2 := by decide +kernel
theorem X4_stop_k29 : Cond.fieldLink RX4 29 "HatPins" "now" "LHatPins$Standing;" ∈ wsX4_stop := by decide +kernel
theorem X4_stop_k106 : Cond.fieldLink RX4 106 "HatPins$Standing" "state" "[I" ∈ wsX4_stop := by decide +kernel
theorem X4_stop_w2 : ∀ w ∈ wsX20, w ∈ wsX4_stop := by decide +kernel
theorem X4_stop_w4 : ∀ w ∈ wsX40, w ∈ wsX4_stop := by decide +kernel
set_option maxHeartbeats 4000000 in
set_option maxRecDepth 100000 in
theorem X4_stop_h58_ok {p : Program} {l : Launch} {e : Env} {s : State} {m : MethodId} {args : Array Value} {below : List Frame} {meth : Method} {c : Code} {D : va_G} {E : Nat → ClassId} {b z : Nat} {sh : List hS} {r : Int32} {I2 : hM} {k58 : Int32 → Int32 → Int32 → Int32 → Int32 → hM → Option (Int32 × hM)} {v1 : Int32} {v2 : Int32} {v3 : Int32} {v4 : Int32} {v5 : Int32} {I : hM} (hX : hp_X p s m args meth c yX4_stop.cls cX4_stop 7 wsX4_stop D E (some .int) yX4_stop.name) (hf0 : hq_X4 sh) (hk58 : ∀ (v1 : Int32) (v2 : Int32) (v3 : Int32) (v4 : Int32) (v5 : Int32) (I : hM), k58 v1 v2 v3 v4 v5 I = some (r, I2) → hp_J p l e ({ frames := 6, cells := 0, slots := 0, locals := 44 * 6 }) s m args below meth c (MQ below (hp_Q D E b z (some (.int r)) sh I2) args s 0 0 (fun q : Nat => b ≤ q)) D E b z 7 sh 0 0 I 58 [(0, .ref 0), (1, .int v1), (2, .int v2), (3, .int v3), (4, .int v4), (5, .int v5)] []) (h : X4_stop_h58 k58 v1 v2 v3 v4 v5 I = some (r, I2)) : hp_J p l e ({ frames := 6, cells := 0, slots := 0, locals := 44 * 6 }) s m args below meth c (MQ below (hp_Q D E b z (some (.int r)) sh I2) args s 0 0 (fun q : Nat => b ≤ q)) D E b z 7 sh 0 0 I 58 [(0, .ref 0), (1, .int v1), (2, .int v2), (3, .int v3), (4, .int v4), (5, .int v5)] [] := by
  unfold X4_stop_h58 at h
  refine hj_iload hX 5 rfl dX4_stop_58 ?_
  refine hj_bipush hX (v := (40 : Int32)) (by decide) dX4_stop_60 ?_
  refine hj_icmp_gt hX (tgt := 94) (by decide) dX4_stop_62 h (fun h => ?_) (fun h => ?_)
  · refine hj_iload_n hX rfl 3 rfl dX4_stop_94 ?_
    refine hj_iload hX 4 rfl dX4_stop_95 ?_
    refine hj_iload_n hX rfl 2 rfl dX4_stop_97 ?_
    obtain ⟨u10, Ia11, hc12, h⟩ := ob_e h
    refine hj_callS hX (sh2 := sh) (I2 := Ia11) (r := (some (.int u10))) (As := [.int v3, .int v4, .int v2]) (rest := []) (st2 := [.int u10]) (X4_whichOrHad_ok hc12) gX4_stop_X4_whichOrHad rfl X4_whichOrHad_hy.2 ⟨(Nat.le_of_ble_eq_true rfl), (Nat.le_of_ble_eq_true rfl)⟩ rfl (Nat.le_of_ble_eq_true rfl) ⟨(Nat.le_of_ble_eq_true rfl), (Nat.le_of_ble_eq_true rfl)⟩ rfl rfl rfl dX4_stop_98 ?_
    exact hj_iret hX dX4_stop_101 h
  · refine hj_aload_n hX rfl 0 rfl dX4_stop_65 ?_
    refine hj_iload_n hX rfl 1 rfl dX4_stop_66 ?_
    refine hj_iload hX 5 rfl dX4_stop_67 ?_
    obtain ⟨u13, Ia14, hc15, h⟩ := ob_e h
    refine hj_callV hX (sh2 := sh) (I2 := Ia14) (r := (some (.int u13))) (As := [.int v1, .int v5]) (rest := []) (st2 := [.int u13]) (X4_hadStopping_ok hf0 hc15) gX4_stop_X4_hadStopping rfl X4_hadStopping_hy ⟨(Nat.le_of_ble_eq_true rfl), (Nat.le_of_ble_eq_true rfl)⟩ rfl hf0.1 rfl (Nat.le_of_ble_eq_true rfl) ⟨(Nat.le_of_ble_eq_true rfl), (Nat.le_of_ble_eq_true rfl)⟩ rfl rfl rfl dX4_stop_69 ?_
    refine hj_istore hX (Nat.le_of_ble_eq_true rfl) (lv2 := [(6, .int u13), (0, .ref 0), (1, .int v1), (2, .int v2), (3, .int v3), (4, .int v4), (5, .int v5)]) rfl dX4_stop_72 ?_
    refine hj_iload hX 0 rfl dX4_stop_74 ?_
    refine hj_iload hX 5 rfl dX4_stop_76 ?_
    refine hj_icmp_le hX (tgt := 88) (by decide) dX4_stop_78 h (fun h => ?_) (fun h => ?_)
    · refine hj_iinc hX (k1 := 6) (v := (v5 + (1 : Int32))) rfl rfl (Nat.le_of_ble_eq_true rfl) (lv2 := [(5, .int (v5 + (1 : Int32))), (6, .int u13), (0, .ref 0), (1, .int v1), (2, .int v2), (3, .int v3), (4, .int v4)]) rfl dX4_stop_88 ?_
      refine hj_goto hX (tgt := 58) (by decide) dX4_stop_91 ?_
      refine hj_lv hX [2, 3, 4, 5, 6, 0] (lv2 := [(0, .ref 0), (1, .int v1), (2, .int v2), (3, .int v3), (4, .int v4), (5, .int (v5 + (1 : Int32)))]) rfl ?_
      exact hk58 _ _ _ _ _ _ h
    · refine hj_iload hX 6 rfl dX4_stop_81 ?_
      refine hj_istore_n hX rfl (Nat.le_of_ble_eq_true rfl) (lv2 := [(3, .int v5), (6, .int u13), (0, .ref 0), (1, .int v1), (2, .int v2), (4, .int v4), (5, .int v5)]) rfl dX4_stop_83 ?_
      refine hj_iload hX 1 rfl dX4_stop_84 ?_
      refine hj_istore hX (Nat.le_of_ble_eq_true rfl) (lv2 := [(4, .int u13), (3, .int v5), (6, .int u13), (0, .ref 0), (1, .int v1), (2, .int v2), (5, .int v5)]) rfl dX4_stop_86 ?_
      refine hj_iinc hX (k1 := 6) (v := (v5 + (1 : Int32))) rfl rfl (Nat.le_of_ble_eq_true rfl) (lv2 := [(5, .int (v5 + (1 : Int32))), (4, .int u13), (3, .int v5), (6, .int u13), (0, .ref 0), (1, .int v1), (2, .int v2)]) rfl dX4_stop_88 ?_
      refine hj_goto hX (tgt := 58) (by decide) dX4_stop_91 ?_
      refine hj_lv hX [4, 5, 6, 2, 1, 0] (lv2 := [(0, .ref 0), (1, .int v1), (2, .int v2), (3, .int v5), (4, .int u13), (5, .int (v5 + (1 : Int32)))]) rfl ?_
      exact hk58 _ _ _ _ _ _ h
set_option maxHeartbeats 4000000 in
set_option maxRecDepth 100000 in
theorem X4_stop_l58_ok {p : Program} {l : Launch} {e : Env} {s : State} {m : MethodId} {args : Array Value} {below : List Frame} {meth : Method} {c : Code} {D : va_G} {E : Nat → ClassId} {b z : Nat} {sh : List hS} {r : Int32} {I2 : hM} (hX : hp_X p s m args meth c yX4_stop.cls cX4_stop 7 wsX4_stop D E (some .int) yX4_stop.name) (hf0 : hq_X4 sh) : ∀ (n : Nat) (v1 : Int32) (v2 : Int32) (v3 : Int32) (v4 : Int32) (v5 : Int32) (I : hM), X4_stop_l58 n v1 v2 v3 v4 v5 I = some (r, I2) → hp_J p l e ({ frames := 6, cells := 0, slots := 0, locals := 44 * 6 }) s m args below meth c (MQ below (hp_Q D E b z (some (.int r)) sh I2) args s 0 0 (fun q : Nat => b ≤ q)) D E b z 7 sh 0 0 I 58 [(0, .ref 0), (1, .int v1), (2, .int v2), (3, .int v3), (4, .int v4), (5, .int v5)] [] := by
  intro n
  induction n with
  | zero => exact fun _ _ _ _ _ _ h => nomatch h
  | succ n ih => exact fun _ _ _ _ _ _ h => X4_stop_h58_ok hX hf0 ih h
set_option maxHeartbeats 4000000 in
set_option maxRecDepth 100000 in
theorem X4_stop_ok {sh : List hS} {r : Int32} {I I2 : hM} {v1 : Int32} {v2 : Int32} (hf0 : hq_X4 sh) (h : X4_stop v1 v2 I = some (r, I2)) : hp_C yX4_stop wsX4_stop 6 0 0 sh I [.ref 0, .int v1, .int v2] (some (.int r)) sh I2 := hp_start (cc := cX4_stop) (maxL := 7) (ret := (some .int)) [(0, .ref 0), (1, .int v1), (2, .int v2)] (by decide) rfl (fun _ _ => rfl) (fun _ _ => Nat.le_of_ble_eq_true rfl) (fun p l e s m below meth c D E b z hX _ => by
  unfold X4_stop at h
  refine hj_aload_n hX rfl 0 rfl dX4_stop_0 ?_
  refine hj_iload_n hX rfl 1 rfl dX4_stop_1 ?_
  obtain ⟨u1, Ia2, hc3, h⟩ := ob_e h
  refine hj_callV hX (sh2 := sh) (I2 := Ia2) (r := (some (.int u1))) (As := [.int v1]) (rest := []) (st2 := [.int u1]) (X4_isGoing_ok hf0 hc3) gX4_stop_X4_isGoing rfl X4_isGoing_hy ⟨(Nat.le_of_ble_eq_true rfl), (Nat.le_of_ble_eq_true rfl)⟩ rfl hf0.1 rfl (Nat.le_of_ble_eq_true rfl) ⟨(Nat.le_of_ble_eq_true rfl), (Nat.le_of_ble_eq_true rfl)⟩ rfl rfl rfl dX4_stop_2 ?_
  refine hj_if_eq hX (tgt := 15) (by decide) dX4_stop_5 h (fun h => ?_) (fun h => ?_)
  · refine hj_iconst hX (v := (-1 : Int32)) (by decide) dX4_stop_15 ?_
    exact hj_iret hX dX4_stop_16 h
  · refine hj_iload_n hX rfl 2 rfl dX4_stop_8 ?_
    obtain ⟨u4, Ia5, hc6, h⟩ := ob_e h
    refine hj_callS hX (sh2 := sh) (I2 := Ia5) (r := (some (.int u4))) (As := [.int v2]) (rest := []) (st2 := [.int u4]) (X4_isEither_ok hc6) gX4_stop_X4_isEither rfl X4_isEither_hy.2 ⟨(Nat.le_of_ble_eq_true rfl), (Nat.le_of_ble_eq_true rfl)⟩ rfl (Nat.le_of_ble_eq_true rfl) ⟨(Nat.le_of_ble_eq_true rfl), (Nat.le_of_ble_eq_true rfl)⟩ rfl rfl rfl dX4_stop_9 ?_
    refine hj_if_ne hX (tgt := 17) (by decide) dX4_stop_12 h (fun h => ?_) (fun h => ?_)
    · refine hj_aload_n hX rfl 0 rfl dX4_stop_17 ?_
      refine hj_getr hX (j := 3) hf0.1 rfl rfl X4_stop_w4 (Nat.le_of_ble_eq_true rfl) rfl X4_stop_k29 dX4_stop_18 ?_
      refine hj_getr hX (j := 2) hf0.2.2.2.2.1.1 rfl rfl X4_stop_w2 (Nat.le_of_ble_eq_true rfl) rfl X4_stop_k106 dX4_stop_21 ?_
      refine hj_iload_n hX rfl 1 rfl dX4_stop_24 ?_
      refine hj_iald hX hf0.2.2.2.2.1.2.1 dX4_stop_25 h (fun h => ?_)
      refine hj_iconst hX (v := (2 : Int32)) (by decide) dX4_stop_26 ?_
      refine hj_icmp_eq hX (tgt := 43) (by decide) dX4_stop_27 h (fun h => ?_) (fun h => ?_)
      · refine hj_bipush hX (v := (-2 : Int32)) (by decide) dX4_stop_43 ?_
        exact hj_iret hX dX4_stop_45 h
      · refine hj_aload_n hX rfl 0 rfl dX4_stop_30 ?_
        refine hj_getr hX (j := 3) hf0.1 rfl rfl X4_stop_w4 (Nat.le_of_ble_eq_true rfl) rfl X4_stop_k29 dX4_stop_31 ?_
        refine hj_getr hX (j := 2) hf0.2.2.2.2.1.1 rfl rfl X4_stop_w2 (Nat.le_of_ble_eq_true rfl) rfl X4_stop_k106 dX4_stop_34 ?_
        refine hj_iload_n hX rfl 1 rfl dX4_stop_37 ?_
        refine hj_iald hX hf0.2.2.2.2.1.2.1 dX4_stop_38 h (fun h => ?_)
        refine hj_iconst hX (v := (3 : Int32)) (by decide) dX4_stop_39 ?_
        refine hj_icmp_ne hX (tgt := 46) (by decide) dX4_stop_40 h (fun h => ?_) (fun h => ?_)
        · refine hj_bipush hX (v := (-4 : Int32)) (by decide) dX4_stop_46 ?_
          refine hj_istore_n hX rfl (Nat.le_of_ble_eq_true rfl) (lv2 := [(3, .int (-4 : Int32)), (0, .ref 0), (1, .int v1), (2, .int v2)]) rfl dX4_stop_48 ?_
          refine hj_aload_n hX rfl 1 rfl dX4_stop_49 ?_
          obtain ⟨u7, Ia8, hc9, h⟩ := ob_e h
          refine hj_callV hX (sh2 := sh) (I2 := Ia8) (r := (some (.int u7))) (As := []) (rest := []) (st2 := [.int u7]) (X4_hadAsItIs_ok hf0 hc9) gX4_stop_X4_hadAsItIs rfl X4_hadAsItIs_hy ⟨(Nat.le_of_ble_eq_true rfl), (Nat.le_of_ble_eq_true rfl)⟩ rfl hf0.1 rfl (Nat.le_of_ble_eq_true rfl) ⟨(Nat.le_of_ble_eq_true rfl), (Nat.le_of_ble_eq_true rfl)⟩ rfl rfl rfl dX4_stop_50 ?_
          refine hj_istore hX (Nat.le_of_ble_eq_true rfl) (lv2 := [(4, .int u7), (3, .int (-4 : Int32)), (0, .ref 0), (1, .int v1), (2, .int v2)]) rfl dX4_stop_53 ?_
          refine hj_iconst hX (v := (0 : Int32)) (by decide) dX4_stop_55 ?_
          refine hj_istore hX (Nat.le_of_ble_eq_true rfl) (lv2 := [(5, .int (0 : Int32)), (4, .int u7), (3, .int (-4 : Int32)), (0, .ref 0), (1, .int v1), (2, .int v2)]) rfl dX4_stop_56 ?_
          refine hj_lv hX [3, 4, 5, 2, 1, 0] (lv2 := [(0, .ref 0), (1, .int v1), (2, .int v2), (3, .int (-4 : Int32)), (4, .int u7), (5, .int (0 : Int32))]) rfl ?_
          exact X4_stop_l58_ok hX hf0 hF _ _ _ _ _ _ h
        · refine hj_bipush hX (v := (-2 : Int32)) (by decide) dX4_stop_43 ?_
          exact hj_iret hX dX4_stop_45 h
    · refine hj_iconst hX (v := (-1 : Int32)) (by decide) dX4_stop_15 ?_
      exact hj_iret hX dX4_stop_16 h)
def X4_hadPinning_b52 (I : hM) : Option (Int32 × hM) := ob (X2_goBy 31 4 (60 : Int32) I) (fun u7 Ia8 => some ((Ia8 31 1), Ia8))
def X4_hadPinning_h13 (k13 : Int32 → Int32 → hM → Option (Int32 × hM)) (v1 : Int32) (v2 : Int32) (I : hM) : Option (Int32 × hM) := if (I 4 0) ≤ v2 then (X4_hadPinning_b52 I) else (if ((v1 >>> (v2 &&& 31)) &&& (1 : Int32)) = (1 : Int32) then (ob (X2_finish 31 4 v2 (3 : Int32) I) (fun u4 Ia5 => (k13 v1 (v2 + (1 : Int32)) Ia5))) else ((k13 v1 (v2 + (1 : Int32)) I)))
def X4_hadPinning_l13 : Nat → Int32 → Int32 → hM → Option (Int32 × hM)
  | 0 => fun _ _ _ => none
  | n + 1 => X4_hadPinning_h13   (X4_hadPinning_l13   n)
def X4_hadPinning (v1 : Int32) (I : hM) : Option (Int32 × hM) := ob (X2_copyOf 31 26 I) (fun u1 Ia2 => (X4_hadPinning_l13 hF v1 (0 : Int32) Ia2))
theorem X4_hadPinning_hy : yX4_hadPinning.cls = RX4 ∧ yX4_hadPinning.cls ≠ "java/lang/invoke/MethodHandle" ∧ yX4_hadPinning.cls ≠ "java/lang/invoke/VarHandle" ∧ (parseMethodDescriptor yX4_hadPinning.desc).map (fun d => d.parameters.length) = some 1 := by decide +kernel
theorem X4_hadPinning_k33 : Cond.fieldLink RX4 33 "HatPins" "trial" "LHatPins$Standing;" ∈ wsX4_hadPinning := by decide +kernel
theorem X4_hadPinning_k29 : Cond.fieldLink RX4 29 "HatPins" "now" "LHatPins$Standing;" ∈ wsX4_hadPinning := by decide +kernel
theorem X4_hadPinning_k19 : Cond.fieldLink RX4 19 "HatPins" "laid" "LHatPins$Evening;" ∈ wsX4_hadPinning := by decide +kernel
theorem X4_hadPinning_k82 : Cond.fieldLink RX4 82 "HatPins$Evening" "goings" "I" ∈ wsX4_hadPinning := by decide +kernel
theorem X4_hadPinning_k140 : Cond.fieldLink RX4 140 "HatPins$Standing" "had" "I" ∈ wsX4_hadPinning := by decide +kernel
theorem X4_hadPinning_w0 : ∀ w ∈ wsX00, w ∈ wsX4_hadPinning := by decide +kernel
theorem X4_hadPinning_w2 : ∀ w ∈ wsX20, w ∈ wsX4_hadPinning := by decide +kernel
theorem X4_hadPinning_w4 : ∀ w ∈ wsX40, w ∈ wsX4_hadPinning := by decide +kernel
set_option maxHeartbeats 4000000 in
set_option maxRecDepth 100000 in
theorem X4_hadPinning_b52_ok {p : Program} {l : Launch} {e : Env} {s : State} {m : MethodId} {args : Array Value} {below : List Frame} {meth : Method} {c : Code} {D : va_G} {E : Nat → ClassId} {b z : Nat} {sh : List hS} {r : Int32} {I2 : hM} {I : hM} (hX : hp_X p s m args meth c yX4_hadPinning.cls cX4_hadPinning 3 wsX4_hadPinning D E (some .int) yX4_hadPinning.name) (hf0 : hq_X4 sh) (h : X4_hadPinning_b52 I = some (r, I2)) : hp_J p l e ({ frames := 5, cells := 0, slots := 0, locals := 44 * 5 }) s m args below meth c (MQ below (hp_Q D E b z (some (.int r)) sh I2) args s 0 0 (fun q : Nat => b ≤ q)) D E b z 3 sh 0 0 I 52 [(0, .ref 0)] [] := by
  unfold X4_hadPinning_b52 at h
  refine hj_aload_n hX rfl 0 rfl dX4_hadPinning_52 ?_
  refine hj_getr hX (j := 4) hf0.1 rfl rfl X4_hadPinning_w4 (Nat.le_of_ble_eq_true rfl) rfl X4_hadPinning_k33 dX4_hadPinning_53 ?_
  refine hj_aload_n hX rfl 0 rfl dX4_hadPinning_56 ?_
  refine hj_getr hX (j := 1) hf0.1 rfl rfl X4_hadPinning_w4 (Nat.le_of_ble_eq_true rfl) rfl X4_hadPinning_k19 dX4_hadPinning_57 ?_
  refine hj_bipush hX (v := (60 : Int32)) (by decide) dX4_hadPinning_60 ?_
  obtain ⟨u7, Ia8, hc9, h⟩ := ob_e h
  refine hj_callV hX (sh2 := sh) (I2 := Ia8) (r := none) (As := [.ref 4, .int (60 : Int32)]) (rest := []) (st2 := []) (X2_goBy_ok hf0.2.2.2.2.2.1 hf0.2.2.1 hc9) gX4_hadPinning_X2_goBy rfl X2_goBy_hy ⟨(Nat.le_of_ble_eq_true rfl), (Nat.le_of_ble_eq_true rfl)⟩ rfl hf0.2.2.2.2.2.1.1 rfl (Nat.le_of_ble_eq_true rfl) ⟨(Nat.le_of_ble_eq_true rfl), (Nat.le_of_ble_eq_true rfl)⟩ rfl rfl rfl dX4_hadPinning_62 ?_
  refine hj_aload_n hX rfl 0 rfl dX4_hadPinning_65 ?_
  refine hj_getr hX (j := 4) hf0.1 rfl rfl X4_hadPinning_w4 (Nat.le_of_ble_eq_true rfl) rfl X4_hadPinning_k33 dX4_hadPinning_66 ?_
  refine hj_geti hX (j := 1) hf0.2.2.2.2.2.1.1 rfl rfl X4_hadPinning_w2 (Nat.le_of_ble_eq_true rfl) rfl X4_hadPinning_k140 dX4_hadPinning_69 ?_
  exact hj_iret hX dX4_hadPinning_72 h
set_option maxHeartbeats 4000000 in
set_option maxRecDepth 100000 in
theorem X4_hadPinning_h13_ok {p : Program} {l : Launch} {e : Env} {s : State} {m : MethodId} {args : Array Value} {below : List Frame} {meth : Method} {c : Code} {D : va_G} {E : Nat → ClassId} {b z : Nat} {sh : List hS} {r : Int32} {I2 : hM} {k13 : Int32 → Int32 → hM → Option (Int32 × hM)} {v1 : Int32} {v2 : Int32} {I : hM} (hX : hp_X p s m args meth c yX4_hadPinning.cls cX4_hadPinning 3 wsX4_hadPinning D E (some .int) yX4_hadPinning.name) (hf0 : hq_X4 sh) (hk13 : ∀ (v1 : Int32) (v2 : Int32) (I : hM), k13 v1 v2 I = some (r, I2) → hp_J p l e ({ frames := 5, cells := 0, slots := 0, locals := 44 * 5 }) s m args below meth c (MQ below (hp_Q D E b z (some (.int r)) sh I2) args s 0 0 (fun q : Nat => b ≤ q)) D E b z 3 sh 0 0 I 13 [(0, .ref 0), (1, .int v1), (2, .int v2)] []) (h : X4_hadPinning_h13 k13 v1 v2 I = some (r, I2)) : hp_J p l e ({ frames := 5, cells := 0, slots := 0, locals := 44 * 5 }) s m args below meth c (MQ below (hp_Q D E b z (some (.int r)) sh I2) args s 0 0 (fun q : Nat => b ≤ q)) D E b z 3 sh 0 0 I 13 [(0, .ref 0), (1, .int v1), (2, .int v2)] [] := by
  unfold X4_hadPinning_h13 at h
  refine hj_iload_n hX rfl 2 rfl dX4_hadPinning_13 ?_
  refine hj_aload_n hX rfl 0 rfl dX4_hadPinning_14 ?_
  refine hj_getr hX (j := 1) hf0.1 rfl rfl X4_hadPinning_w4 (Nat.le_of_ble_eq_true rfl) rfl X4_hadPinning_k19 dX4_hadPinning_15 ?_
  refine hj_geti hX (j := 0) hf0.2.2.1.1 rfl rfl X4_hadPinning_w0 (Nat.le_of_ble_eq_true rfl) rfl X4_hadPinning_k82 dX4_hadPinning_18 ?_
  refine hj_icmp_ge hX (tgt := 52) (by decide) dX4_hadPinning_21 h (fun h => ?_) (fun h => ?_)
  · refine hj_lv hX [0] (lv2 := [(0, .ref 0)]) rfl ?_
    exact X4_hadPinning_b52_ok hX hf0 h
  · refine hj_iload_n hX rfl 1 rfl dX4_hadPinning_24 ?_
    refine hj_iload_n hX rfl 2 rfl dX4_hadPinning_25 ?_
    refine hj_ishr hX dX4_hadPinning_26 ?_
    refine hj_iconst hX (v := (1 : Int32)) (by decide) dX4_hadPinning_27 ?_
    refine hj_iand hX dX4_hadPinning_28 ?_
    refine hj_iconst hX (v := (1 : Int32)) (by decide) dX4_hadPinning_29 ?_
    refine hj_icmp_ne hX (tgt := 46) (by decide) dX4_hadPinning_30 h (fun h => ?_) (fun h => ?_)
    · refine hj_iinc hX (k1 := 2) (v := (v2 + (1 : Int32))) rfl rfl (Nat.le_of_ble_eq_true rfl) (lv2 := [(2, .int (v2 + (1 : Int32))), (0, .ref 0), (1, .int v1)]) rfl dX4_hadPinning_46 ?_
      refine hj_goto hX (tgt := 13) (by decide) dX4_hadPinning_49 ?_
      refine hj_lv hX [1, 2, 0] (lv2 := [(0, .ref 0), (1, .int v1), (2, .int (v2 + (1 : Int32)))]) rfl ?_
      exact hk13 _ _ _ h
    · refine hj_aload_n hX rfl 0 rfl dX4_hadPinning_33 ?_
      refine hj_getr hX (j := 4) hf0.1 rfl rfl X4_hadPinning_w4 (Nat.le_of_ble_eq_true rfl) rfl X4_hadPinning_k33 dX4_hadPinning_34 ?_
      refine hj_aload_n hX rfl 0 rfl dX4_hadPinning_37 ?_
      refine hj_getr hX (j := 1) hf0.1 rfl rfl X4_hadPinning_w4 (Nat.le_of_ble_eq_true rfl) rfl X4_hadPinning_k19 dX4_hadPinning_38 ?_
      refine hj_iload_n hX rfl 2 rfl dX4_hadPinning_41 ?_
      refine hj_iconst hX (v := (3 : Int32)) (by decide) dX4_hadPinning_42 ?_
      obtain ⟨u4, Ia5, hc6, h⟩ := ob_e h
      refine hj_callV hX (sh2 := sh) (I2 := Ia5) (r := none) (As := [.ref 4, .int v2, .int (3 : Int32)]) (rest := []) (st2 := []) (X2_finish_ok hf0.2.2.2.2.2.1 hf0.2.2.1 hc6) gX4_hadPinning_X2_finish rfl X2_finish_hy ⟨(Nat.le_of_ble_eq_true rfl), (Nat.le_of_ble_eq_true rfl)⟩ rfl hf0.2.2.2.2.2.1.1 rfl (Nat.le_of_ble_eq_true rfl) ⟨(Nat.le_of_ble_eq_true rfl), (Nat.le_of_ble_eq_true rfl)⟩ rfl rfl rfl dX4_hadPinning_43 ?_
      refine hj_iinc hX (k1 := 2) (v := (v2 + (1 : Int32))) rfl rfl (Nat.le_of_ble_eq_true rfl) (lv2 := [(2, .int (v2 + (1 : Int32))), (0, .ref 0), (1, .int v1)]) rfl dX4_hadPinning_46 ?_
      refine hj_goto hX (tgt := 13) (by decide) dX4_hadPinning_49 ?_
      refine hj_lv hX [1, 2, 0] (lv2 := [(0, .ref 0), (1, .int v1), (2, .int (v2 + (1 : Int32)))]) rfl ?_
      exact hk13 _ _ _ h
set_option maxHeartbeats 4000000 in
set_option maxRecDepth 100000 in
theorem X4_hadPinning_l13_ok {p : Program} {l : Launch} {e : Env} {s : State} {m : MethodId} {args : Array Value} {below : List Frame} {meth : Method} {c : Code} {D : va_G} {E : Nat → ClassId} {b z : Nat} {sh : List hS} {r : Int32} {I2 : hM} (hX : hp_X p s m args meth c yX4_hadPinning.cls cX4_hadPinning 3 wsX4_hadPinning D E (some .int) yX4_hadPinning.name) (hf0 : hq_X4 sh) : ∀ (n : Nat) (v1 : Int32) (v2 : Int32) (I : hM), X4_hadPinning_l13 n v1 v2 I = some (r, I2) → hp_J p l e ({ frames := 5, cells := 0, slots := 0, locals := 44 * 5 }) s m args below meth c (MQ below (hp_Q D E b z (some (.int r)) sh I2) args s 0 0 (fun q : Nat => b ≤ q)) D E b z 3 sh 0 0 I 13 [(0, .ref 0), (1, .int v1), (2, .int v2)] [] := by
  intro n
  induction n with
  | zero => exact fun _ _ _ h => nomatch h
  | succ n ih => exact fun _ _ _ h => X4_hadPinning_h13_ok hX hf0 ih h
set_option maxHeartbeats 4000000 in
set_option maxRecDepth 100000 in
theorem X4_hadPinning_ok {sh : List hS} {r : Int32} {I I2 : hM} {v1 : Int32} (hf0 : hq_X4 sh) (h : X4_hadPinning v1 I = some (r, I2)) : hp_C yX4_hadPinning wsX4_hadPinning 5 0 0 sh I [.ref 0, .int v1] (some (.int r)) sh I2 := hp_start (cc := cX4_hadPinning) (maxL := 3) (ret := (some .int)) [(0, .ref 0), (1, .int v1)] (by decide) rfl (fun _ _ => rfl) (fun _ _ => Nat.le_of_ble_eq_true rfl) (fun p l e s m below meth c D E b z hX _ => by
  unfold X4_hadPinning at h
  refine hj_aload_n hX rfl 0 rfl dX4_hadPinning_0 ?_
  refine hj_getr hX (j := 4) hf0.1 rfl rfl X4_hadPinning_w4 (Nat.le_of_ble_eq_true rfl) rfl X4_hadPinning_k33 dX4_hadPinning_1 ?_
  refine hj_aload_n hX rfl 0 rfl dX4_hadPinning_4 ?_
  refine hj_getr hX (j := 3) hf0.1 rfl rfl X4_hadPinning_w4 (Nat.le_of_ble_eq_true rfl) rfl X4_hadPinning_k29 dX4_hadPinning_5 ?_
  obtain ⟨u1, Ia2, hc3, h⟩ := ob_e h
  refine hj_callV hX (sh2 := sh) (I2 := Ia2) (r := none) (As := [.ref 26]) (rest := []) (st2 := []) (X2_copyOf_ok hf0.2.2.2.2.2.1 hf0.2.2.2.2.1 hc3) gX4_hadPinning_X2_copyOf rfl X2_copyOf_hy ⟨(Nat.le_of_ble_eq_true rfl), (Nat.le_of_ble_eq_true rfl)⟩ rfl hf0.2.2.2.2.2.1.1 rfl (Nat.le_of_ble_eq_true rfl) ⟨(Nat.le_of_ble_eq_true rfl), (Nat.le_of_ble_eq_true rfl)⟩ rfl rfl rfl dX4_hadPinning_8 ?_
  refine hj_iconst hX (v := (0 : Int32)) (by decide) dX4_hadPinning_11 ?_
  refine hj_istore_n hX rfl (Nat.le_of_ble_eq_true rfl) (lv2 := [(2, .int (0 : Int32)), (0, .ref 0), (1, .int v1)]) rfl dX4_hadPinning_12 ?_
  refine hj_lv hX [1, 2, 0] (lv2 := [(0, .ref 0), (1, .int v1), (2, .int (0 : Int32))]) rfl ?_
  exact X4_hadPinning_l13_ok hX hf0 hF _ _ _ h)
def X4_best_b77 (k20 : Int32 → Int32 → Int32 → Int32 → hM → Option (Int32 × hM)) (k35 : Int32 → Int32 → Int32 → Int32 → Int32 → hM → Option (Int32 × hM)) (v1 : Int32) (v2 : Int32) (v3 : Int32) (v4 : Int32) (v5 : Int32) (t0 : Int32) (I : hM) : Option (Int32 × hM) := if t0 ≤ v3 then ((k35 v1 v2 v3 v4 (v5 + (1 : Int32)) I)) else ((k35 v1 (((10 : Int32) * v4) + v5) t0 v4 (v5 + (1 : Int32)) I))
def X4_best_h35 (k20 : Int32 → Int32 → Int32 → Int32 → hM → Option (Int32 × hM)) (k35 : Int32 → Int32 → Int32 → Int32 → Int32 → hM → Option (Int32 × hM)) (v1 : Int32) (v2 : Int32) (v3 : Int32) (v4 : Int32) (v5 : Int32) (I : hM) : Option (Int32 × hM) := if (I 4 0) ≤ v5 then ((k20 v1 v2 v3 (v4 + (1 : Int32)) I)) else (ob (X2_canPin 26 4 v4 v5 I) (fun u10 Ia11 => if u10 = 0 then (X4_best_b77 k20 k35 v1 v2 v3 v4 v5 v3 Ia11) else (ob (X4_hadPinning ((1 : Int32) <<< (v5 &&& 31)) Ia11) (fun u13 Ia14 => (X4_best_b77 k20 k35 v1 v2 v3 v4 v5 u13 Ia14)))))
def X4_best_l35 (k20 : Int32 → Int32 → Int32 → Int32 → hM → Option (Int32 × hM)) : Nat → Int32 → Int32 → Int32 → Int32 → Int32 → hM → Option (Int32 × hM)
  | 0 => fun _ _ _ _ _ _ => none
  | n + 1 => X4_best_h35  k20 (X4_best_l35  k20 n)
def X4_best_h20 (k20 : Int32 → Int32 → Int32 → Int32 → hM → Option (Int32 × hM)) (v1 : Int32) (v2 : Int32) (v3 : Int32) (v4 : Int32) (I : hM) : Option (Int32 × hM) := if (I 4 2) ≤ v4 then (ob (X4_whichOrHad v2 v3 v1 I) (fun u7 Ia8 => some (u7, Ia8))) else ((X4_best_l35 k20 hF v1 v2 v3 v4 (0 : Int32) I))
def X4_best_l20 : Nat → Int32 → Int32 → Int32 → Int32 → hM → Option (Int32 × hM)
  | 0 => fun _ _ _ _ _ => none
  | n + 1 => X4_best_h20   (X4_best_l20   n)
def X4_best (v1 : Int32) (I : hM) : Option (Int32 × hM) := ob (X4_isEither v1 I) (fun u1 Ia2 => if u1 = 0 then (some ((-1 : Int32), Ia2)) else (ob (X4_hadAsItIs Ia2) (fun u4 Ia5 => (X4_best_l20 hF v1 (-4 : Int32) u4 (0 : Int32) Ia5))))
theorem X4_best_hy : yX4_best.cls = RX4 ∧ yX4_best.cls ≠ "java/lang/invoke/MethodHandle" ∧ yX4_best.cls ≠ "java/lang/invoke/VarHandle" ∧ (parseMethodDescriptor yX4_best.desc).map (fun d => d.parameters.length) = some 1 := by decide +kernel
theorem X4_best_k19 : Cond.fieldLink RX4 19 "HatPins" "laid" "LHatPins$Evening;" ∈ wsX4_best := by decide +kernel
theorem X4_best_k193 : Cond.fieldLink RX4 193 "HatPins$Evening" "ladies" "I" ∈ wsX4_best := by decide +kernel
theorem X4_best_k82 : Cond.fieldLink RX4 82 "HatPins$Evening" "goings" "I" ∈ wsX4_best := by decide +kernel
theorem X4_best_k29 : Cond.fieldLink RX4 29 "HatPins" "now" "LHatPins$Standing;" ∈ wsX4_best := by decide +kernel
theorem X4_best_w0 : ∀ w ∈ wsX00, w ∈ wsX4_best := by decide +kernel
theorem X4_best_w4 : ∀ w ∈ wsX40, w ∈ wsX4_best := by decide +kernel
set_option maxHeartbeats 4000000 in
set_option maxRecDepth 100000 in
theorem X4_best_b77_ok {p : Program} {l : Launch} {e : Env} {s : State} {m : MethodId} {args : Array Value} {below : List Frame} {meth : Method} {c : Code} {D : va_G} {E : Nat → ClassId} {b z : Nat} {sh : List hS} {r : Int32} {I2 : hM} {k20 : Int32 → Int32 → Int32 → Int32 → hM → Option (Int32 × hM)} {k35 : Int32 → Int32 → Int32 → Int32 → Int32 → hM → Option (Int32 × hM)} {v1 : Int32} {v2 : Int32} {v3 : Int32} {v4 : Int32} {v5 : Int32} {t0 : Int32} {I : hM} (hX : hp_X p s m args meth c yX4_best.cls cX4_best 7 wsX4_best D E (some .int) yX4_best.name) (hf0 : hq_X4 sh) (hk20 : ∀ (v1 : Int32) (v2 : Int32) (v3 : Int32) (v4 : Int32) (I : hM), k20 v1 v2 v3 v4 I = some (r, I2) → hp_J p l e ({ frames := 6, cells := 0, slots := 0, locals := 44 * 6 }) s m args below meth c (MQ below (hp_Q D E b z (some (.int r)) sh I2) args s 0 0 (fun q : Nat => b ≤ q)) D E b z 7 sh 0 0 I 20 [(0, .ref 0), (1, .int v1), (2, .int v2), (3, .int v3), (4, .int v4)] []) (hk35 : ∀ (v1 : Int32) (v2 : Int32) (v3 : Int32) (v4 : Int32) (v5 : Int32) (I : hM), k35 v1 v2 v3 v4 v5 I = some (r, I2) → hp_J p l e ({ frames := 6, cells := 0, slots := 0, locals := 44 * 6 }) s m args below meth c (MQ below (hp_Q D E b z (some (.int r)) sh I2) args s 0 0 (fun q : Nat => b ≤ q)) D E b z 7 sh 0 0 I 35 [(0, .ref 0), (1, .int v1), (2, .int v2), (3, .int v3), (4, .int v4), (5, .int v5)] []) (h : X4_best_b77 k20 k35 v1 v2 v3 v4 v5 t0 I = some (r, I2)) : hp_J p l e ({ frames := 6, cells := 0, slots := 0, locals := 44 * 6 }) s m args below meth c (MQ below (hp_Q D E b z (some (.int r)) sh I2) args s 0 0 (fun q : Nat => b ≤ q)) D E b z 7 sh 0 0 I 77 [(0, .ref 0), (1, .int v1), (2, .int v2), (3, .int v3), (4, .int v4), (5, .int v5)] [.int t0] := by
  unfold X4_best_b77 at h
  refine hj_istore hX (Nat.le_of_ble_eq_true rfl) (lv2 := [(6, .int t0), (0, .ref 0), (1, .int v1), (2, .int v2), (3, .int v3), (4, .int v4), (5, .int v5)]) rfl dX4_best_77 ?_
  refine hj_iload hX 0 rfl dX4_best_79 ?_
  refine hj_iload_n hX rfl 4 rfl dX4_best_81 ?_
  refine hj_icmp_le hX (tgt := 97) (by decide) dX4_best_82 h (fun h => ?_) (fun h => ?_)
  · refine hj_iinc hX (k1 := 6) (v := (v5 + (1 : Int32))) rfl rfl (Nat.le_of_ble_eq_true rfl) (lv2 := [(5, .int (v5 + (1 : Int32))), (6, .int t0), (0, .ref 0), (1, .int v1), (2, .int v2), (3, .int v3), (4, .int v4)]) rfl dX4_best_97 ?_
    refine hj_goto hX (tgt := 35) (by decide) dX4_best_100 ?_
    refine hj_lv hX [2, 3, 4, 5, 6, 0] (lv2 := [(0, .ref 0), (1, .int v1), (2, .int v2), (3, .int v3), (4, .int v4), (5, .int (v5 + (1 : Int32)))]) rfl ?_
    exact hk35 _ _ _ _ _ _ h
  · refine hj_bipush hX (v := (10 : Int32)) (by decide) dX4_best_85 ?_
    refine hj_iload hX 5 rfl dX4_best_87 ?_
    refine hj_imul hX dX4_best_89 ?_
    refine hj_iload hX 6 rfl dX4_best_90 ?_
    refine hj_iadd hX dX4_best_92 ?_
    refine hj_istore_n hX rfl (Nat.le_of_ble_eq_true rfl) (lv2 := [(2, .int (((10 : Int32) * v4) + v5)), (6, .int t0), (0, .ref 0), (1, .int v1), (3, .int v3), (4, .int v4), (5, .int v5)]) rfl dX4_best_93 ?_
    refine hj_iload hX 1 rfl dX4_best_94 ?_
    refine hj_istore_n hX rfl (Nat.le_of_ble_eq_true rfl) (lv2 := [(3, .int t0), (2, .int (((10 : Int32) * v4) + v5)), (6, .int t0), (0, .ref 0), (1, .int v1), (4, .int v4), (5, .int v5)]) rfl dX4_best_96 ?_
    refine hj_iinc hX (k1 := 6) (v := (v5 + (1 : Int32))) rfl rfl (Nat.le_of_ble_eq_true rfl) (lv2 := [(5, .int (v5 + (1 : Int32))), (3, .int t0), (2, .int (((10 : Int32) * v4) + v5)), (6, .int t0), (0, .ref 0), (1, .int v1), (4, .int v4)]) rfl dX4_best_97 ?_
    refine hj_goto hX (tgt := 35) (by decide) dX4_best_100 ?_
    refine hj_lv hX [4, 5, 2, 1, 6, 0] (lv2 := [(0, .ref 0), (1, .int v1), (2, .int (((10 : Int32) * v4) + v5)), (3, .int t0), (4, .int v4), (5, .int (v5 + (1 : Int32)))]) rfl ?_
    exact hk35 _ _ _ _ _ _ h
set_option maxHeartbeats 4000000 in
set_option maxRecDepth 100000 in
theorem X4_best_h35_ok {p : Program} {l : Launch} {e : Env} {s : State} {m : MethodId} {args : Array Value} {below : List Frame} {meth : Method} {c : Code} {D : va_G} {E : Nat → ClassId} {b z : Nat} {sh : List hS} {r : Int32} {I2 : hM} {k20 : Int32 → Int32 → Int32 → Int32 → hM → Option (Int32 × hM)} {k35 : Int32 → Int32 → Int32 → Int32 → Int32 → hM → Option (Int32 × hM)} {v1 : Int32} {v2 : Int32} {v3 : Int32} {v4 : Int32} {v5 : Int32} {I : hM} (hX : hp_X p s m args meth c yX4_best.cls cX4_best 7 wsX4_best D E (some .int) yX4_best.name) (hf0 : hq_X4 sh) (hk20 : ∀ (v1 : Int32) (v2 : Int32) (v3 : Int32) (v4 : Int32) (I : hM), k20 v1 v2 v3 v4 I = some (r, I2) → hp_J p l e ({ frames := 6, cells := 0, slots := 0, locals := 44 * 6 }) s m args below meth c (MQ below (hp_Q D E b z (some (.int r)) sh I2) args s 0 0 (fun q : Nat => b ≤ q)) D E b z 7 sh 0 0 I 20 [(0, .ref 0), (1, .int v1), (2, .int v2), (3, .int v3), (4, .int v4)] []) (hk35 : ∀ (v1 : Int32) (v2 : Int32) (v3 : Int32) (v4 : Int32) (v5 : Int32) (I : hM), k35 v1 v2 v3 v4 v5 I = some (r, I2) → hp_J p l e ({ frames := 6, cells := 0, slots := 0, locals := 44 * 6 }) s m args below meth c (MQ below (hp_Q D E b z (some (.int r)) sh I2) args s 0 0 (fun q : Nat => b ≤ q)) D E b z 7 sh 0 0 I 35 [(0, .ref 0), (1, .int v1), (2, .int v2), (3, .int v3), (4, .int v4), (5, .int v5)] []) (h : X4_best_h35 k20 k35 v1 v2 v3 v4 v5 I = some (r, I2)) : hp_J p l e ({ frames := 6, cells := 0, slots := 0, locals := 44 * 6 }) s m args below meth c (MQ below (hp_Q D E b z (some (.int r)) sh I2) args s 0 0 (fun q : Nat => b ≤ q)) D E b z 7 sh 0 0 I 35 [(0, .ref 0), (1, .int v1), (2, .int v2), (3, .int v3), (4, .int v4), (5, .int v5)] [] := by
  unfold X4_best_h35 at h
  refine hj_iload hX 5 rfl dX4_best_35 ?_
  refine hj_aload_n hX rfl 0 rfl dX4_best_37 ?_
  refine hj_getr hX (j := 1) hf0.1 rfl rfl X4_best_w4 (Nat.le_of_ble_eq_true rfl) rfl X4_best_k19 dX4_best_38 ?_
  refine hj_geti hX (j := 0) hf0.2.2.1.1 rfl rfl X4_best_w0 (Nat.le_of_ble_eq_true rfl) rfl X4_best_k82 dX4_best_41 ?_
  refine hj_icmp_ge hX (tgt := 103) (by decide) dX4_best_44 h (fun h => ?_) (fun h => ?_)
  · refine hj_iinc hX (k1 := 4) (v := (v4 + (1 : Int32))) rfl rfl (Nat.le_of_ble_eq_true rfl) (lv2 := [(4, .int (v4 + (1 : Int32))), (0, .ref 0), (1, .int v1), (2, .int v2), (3, .int v3), (5, .int v5)]) rfl dX4_best_103 ?_
    refine hj_goto hX (tgt := 20) (by decide) dX4_best_106 ?_
    refine hj_lv hX [1, 2, 3, 4, 0] (lv2 := [(0, .ref 0), (1, .int v1), (2, .int v2), (3, .int v3), (4, .int (v4 + (1 : Int32)))]) rfl ?_
    exact hk20 _ _ _ _ _ h
  · refine hj_aload_n hX rfl 0 rfl dX4_best_47 ?_
    refine hj_getr hX (j := 3) hf0.1 rfl rfl X4_best_w4 (Nat.le_of_ble_eq_true rfl) rfl X4_best_k29 dX4_best_48 ?_
    refine hj_aload_n hX rfl 0 rfl dX4_best_51 ?_
    refine hj_getr hX (j := 1) hf0.1 rfl rfl X4_best_w4 (Nat.le_of_ble_eq_true rfl) rfl X4_best_k19 dX4_best_52 ?_
    refine hj_iload hX 4 rfl dX4_best_55 ?_
    refine hj_iload hX 5 rfl dX4_best_57 ?_
    obtain ⟨u10, Ia11, hc12, h⟩ := ob_e h
    refine hj_callV hX (sh2 := sh) (I2 := Ia11) (r := (some (.int u10))) (As := [.ref 4, .int v4, .int v5]) (rest := []) (st2 := [.int u10]) (X2_canPin_ok hf0.2.2.2.2.1 hf0.2.2.1 hc12) gX4_best_X2_canPin rfl X2_canPin_hy ⟨(Nat.le_of_ble_eq_true rfl), (Nat.le_of_ble_eq_true rfl)⟩ rfl hf0.2.2.2.2.1.1 rfl (Nat.le_of_ble_eq_true rfl) ⟨(Nat.le_of_ble_eq_true rfl), (Nat.le_of_ble_eq_true rfl)⟩ rfl rfl rfl dX4_best_59 ?_
    refine hj_if_eq hX (tgt := 76) (by decide) dX4_best_62 h (fun h => ?_) (fun h => ?_)
    · refine hj_iload_n hX rfl 3 rfl dX4_best_76 ?_
      exact X4_best_b77_ok hX hf0 hk20 hk35 h
    · refine hj_aload_n hX rfl 0 rfl dX4_best_65 ?_
      refine hj_iconst hX (v := (1 : Int32)) (by decide) dX4_best_66 ?_
      refine hj_iload hX 5 rfl dX4_best_67 ?_
      refine hj_ishl hX dX4_best_69 ?_
      obtain ⟨u13, Ia14, hc15, h⟩ := ob_e h
      refine hj_callV hX (sh2 := sh) (I2 := Ia14) (r := (some (.int u13))) (As := [.int ((1 : Int32) <<< (v5 &&& 31))]) (rest := []) (st2 := [.int u13]) (X4_hadPinning_ok hf0 hc15) gX4_best_X4_hadPinning rfl X4_hadPinning_hy ⟨(Nat.le_of_ble_eq_true rfl), (Nat.le_of_ble_eq_true rfl)⟩ rfl hf0.1 rfl (Nat.le_of_ble_eq_true rfl) ⟨(Nat.le_of_ble_eq_true rfl), (Nat.le_of_ble_eq_true rfl)⟩ rfl rfl rfl dX4_best_70 ?_
      refine hj_goto hX (tgt := 77) (by decide) dX4_best_73 ?_
      exact X4_best_b77_ok hX hf0 hk20 hk35 h
set_option maxHeartbeats 4000000 in
set_option maxRecDepth 100000 in
theorem X4_best_l35_ok {p : Program} {l : Launch} {e : Env} {s : State} {m : MethodId} {args : Array Value} {below : List Frame} {meth : Method} {c : Code} {D : va_G} {E : Nat → ClassId} {b z : Nat} {sh : List hS} {r : Int32} {I2 : hM} {k20 : Int32 → Int32 → Int32 → Int32 → hM → Option (Int32 × hM)} (hX : hp_X p s m args meth c yX4_best.cls cX4_best 7 wsX4_best D E (some .int) yX4_best.name) (hf0 : hq_X4 sh) (hk20 : ∀ (v1 : Int32) (v2 : Int32) (v3 : Int32) (v4 : Int32) (I : hM), k20 v1 v2 v3 v4 I = some (r, I2) → hp_J p l e ({ frames := 6, cells := 0, slots := 0, locals := 44 * 6 }) s m args below meth c (MQ below (hp_Q D E b z (some (.int r)) sh I2) args s 0 0 (fun q : Nat => b ≤ q)) D E b z 7 sh 0 0 I 20 [(0, .ref 0), (1, .int v1), (2, .int v2), (3, .int v3), (4, .int v4)] []) : ∀ (n : Nat) (v1 : Int32) (v2 : Int32) (v3 : Int32) (v4 : Int32) (v5 : Int32) (I : hM), X4_best_l35 k20 n v1 v2 v3 v4 v5 I = some (r, I2) → hp_J p l e ({ frames := 6, cells := 0, slots := 0, locals := 44 * 6 }) s m args below meth c (MQ below (hp_Q D E b z (some (.int r)) sh I2) args s 0 0 (fun q : Nat => b ≤ q)) D E b z 7 sh 0 0 I 35 [(0, .ref 0), (1, .int v1), (2, .int v2), (3, .int v3), (4, .int v4), (5, .int v5)] [] := by
  intro n
  induction n with
  | zero => exact fun _ _ _ _ _ _ h => nomatch h
  | succ n ih => exact fun _ _ _ _ _ _ h => X4_best_h35_ok hX hf0 hk20 ih h
set_option maxHeartbeats 4000000 in
set_option maxRecDepth 100000 in
theorem X4_best_h20_ok {p : Program} {l : Launch} {e : Env} {s : State} {m : MethodId} {args : Array Value} {below : List Frame} {meth : Method} {c : Code} {D : va_G} {E : Nat → ClassId} {b z : Nat} {sh : List hS} {r : Int32} {I2 : hM} {k20 : Int32 → Int32 → Int32 → Int32 → hM → Option (Int32 × hM)} {v1 : Int32} {v2 : Int32} {v3 : Int32} {v4 : Int32} {I : hM} (hX : hp_X p s m args meth c yX4_best.cls cX4_best 7 wsX4_best D E (some .int) yX4_best.name) (hf0 : hq_X4 sh) (hk20 : ∀ (v1 : Int32) (v2 : Int32) (v3 : Int32) (v4 : Int32) (I : hM), k20 v1 v2 v3 v4 I = some (r, I2) → hp_J p l e ({ frames := 6, cells := 0, slots := 0, locals := 44 * 6 }) s m args below meth c (MQ below (hp_Q D E b z (some (.int r)) sh I2) args s 0 0 (fun q : Nat => b ≤ q)) D E b z 7 sh 0 0 I 20 [(0, .ref 0), (1, .int v1), (2, .int v2), (3, .int v3), (4, .int v4)] []) (h : X4_best_h20 k20 v1 v2 v3 v4 I = some (r, I2)) : hp_J p l e ({ frames := 6, cells := 0, slots := 0, locals := 44 * 6 }) s m args below meth c (MQ below (hp_Q D E b z (some (.int r)) sh I2) args s 0 0 (fun q : Nat => b ≤ q)) D E b z 7 sh 0 0 I 20 [(0, .ref 0), (1, .int v1), (2, .int v2), (3, .int v3), (4, .int v4)] [] := by
  unfold X4_best_h20 at h
  refine hj_iload hX 4 rfl dX4_best_20 ?_
  refine hj_aload_n hX rfl 0 rfl dX4_best_22 ?_
  refine hj_getr hX (j := 1) hf0.1 rfl rfl X4_best_w4 (Nat.le_of_ble_eq_true rfl) rfl X4_best_k19 dX4_best_23 ?_
  refine hj_geti hX (j := 2) hf0.2.2.1.1 rfl rfl X4_best_w0 (Nat.le_of_ble_eq_true rfl) rfl X4_best_k193 dX4_best_26 ?_
  refine hj_icmp_ge hX (tgt := 109) (by decide) dX4_best_29 h (fun h => ?_) (fun h => ?_)
  · refine hj_iload_n hX rfl 2 rfl dX4_best_109 ?_
    refine hj_iload_n hX rfl 3 rfl dX4_best_110 ?_
    refine hj_iload_n hX rfl 1 rfl dX4_best_111 ?_
    obtain ⟨u7, Ia8, hc9, h⟩ := ob_e h
    refine hj_callS hX (sh2 := sh) (I2 := Ia8) (r := (some (.int u7))) (As := [.int v2, .int v3, .int v1]) (rest := []) (st2 := [.int u7]) (X4_whichOrHad_ok hc9) gX4_best_X4_whichOrHad rfl X4_whichOrHad_hy.2 ⟨(Nat.le_of_ble_eq_true rfl), (Nat.le_of_ble_eq_true rfl)⟩ rfl (Nat.le_of_ble_eq_true rfl) ⟨(Nat.le_of_ble_eq_true rfl), (Nat.le_of_ble_eq_true rfl)⟩ rfl rfl rfl dX4_best_112 ?_
    exact hj_iret hX dX4_best_115 h
  · refine hj_iconst hX (v := (0 : Int32)) (by decide) dX4_best_32 ?_
    refine hj_istore hX (Nat.le_of_ble_eq_true rfl) (lv2 := [(5, .int (0 : Int32)), (0, .ref 0), (1, .int v1), (2, .int v2), (3, .int v3), (4, .int v4)]) rfl dX4_best_33 ?_
    refine hj_lv hX [1, 2, 3, 4, 5, 0] (lv2 := [(0, .ref 0), (1, .int v1), (2, .int v2), (3, .int v3), (4, .int v4), (5, .int (0 : Int32))]) rfl ?_
    exact X4_best_l35_ok hX hf0 hk20 hF _ _ _ _ _ _ h
set_option maxHeartbeats 4000000 in
set_option maxRecDepth 100000 in
theorem X4_best_l20_ok {p : Program} {l : Launch} {e : Env} {s : State} {m : MethodId} {args : Array Value} {below : List Frame} {meth : Method} {c : Code} {D : va_G} {E : Nat → ClassId} {b z : Nat} {sh : List hS} {r : Int32} {I2 : hM} (hX : hp_X p s m args meth c yX4_best.cls cX4_best 7 wsX4_best D E (some .int) yX4_best.name) (hf0 : hq_X4 sh) : ∀ (n : Nat) (v1 : Int32) (v2 : Int32) (v3 : Int32) (v4 : Int32) (I : hM), X4_best_l20 n v1 v2 v3 v4 I = some (r, I2) → hp_J p l e ({ frames := 6, cells := 0, slots := 0, locals := 44 * 6 }) s m args below meth c (MQ below (hp_Q D E b z (some (.int r)) sh I2) args s 0 0 (fun q : Nat => b ≤ q)) D E b z 7 sh 0 0 I 20 [(0, .ref 0), (1, .int v1), (2, .int v2), (3, .int v3), (4, .int v4)] [] := by
  intro n
  induction n with
  | zero => exact fun _ _ _ _ _ h => nomatch h
  | succ n ih => exact fun _ _ _ _ _ h => X4_best_h20_ok hX hf0 ih h
set_option maxHeartbeats 4000000 in
set_option maxRecDepth 100000 in
theorem X4_best_ok {sh : List hS} {r : Int32} {I I2 : hM} {v1 : Int32} (hf0 : hq_X4 sh) (h : X4_best v1 I = some (r, I2)) : hp_C yX4_best wsX4_best 6 0 0 sh I [.ref 0, .int v1] (some (.int r)) sh I2 := hp_start (cc := cX4_best) (maxL := 7) (ret := (some .int)) [(0, .ref 0), (1, .int v1)] (by decide) rfl (fun _ _ => rfl) (fun _ _ => Nat.le_of_ble_eq_true rfl) (fun p l e s m below meth c D E b z hX _ => by
  unfold X4_best at h
  refine hj_iload_n hX rfl 1 rfl dX4_best_0 ?_
  obtain ⟨u1, Ia2, hc3, h⟩ := ob_e h
  refine hj_callS hX (sh2 := sh) (I2 := Ia2) (r := (some (.int u1))) (As := [.int v1]) (rest := []) (st2 := [.int u1]) (X4_isEither_ok hc3) gX4_best_X4_isEither rfl X4_isEither_hy.2 ⟨(Nat.le_of_ble_eq_true rfl), (Nat.le_of_ble_eq_true rfl)⟩ rfl (Nat.le_of_ble_eq_true rfl) ⟨(Nat.le_of_ble_eq_true rfl), (Nat.le_of_ble_eq_true rfl)⟩ rfl rfl rfl dX4_best_1 ?_
  refine hj_if_ne hX (tgt := 9) (by decide) dX4_best_4 h (fun h => ?_) (fun h => ?_)
  · refine hj_bipush hX (v := (-4 : Int32)) (by decide) dX4_best_9 ?_
    refine hj_istore_n hX rfl (Nat.le_of_ble_eq_true rfl) (lv2 := [(2, .int (-4 : Int32)), (0, .ref 0), (1, .int v1)]) rfl dX4_best_11 ?_
    refine hj_aload_n hX rfl 1 rfl dX4_best_12 ?_
    obtain ⟨u4, Ia5, hc6, h⟩ := ob_e h
    refine hj_callV hX (sh2 := sh) (I2 := Ia5) (r := (some (.int u4))) (As := []) (rest := []) (st2 := [.int u4]) (X4_hadAsItIs_ok hf0 hc6) gX4_best_X4_hadAsItIs rfl X4_hadAsItIs_hy ⟨(Nat.le_of_ble_eq_true rfl), (Nat.le_of_ble_eq_true rfl)⟩ rfl hf0.1 rfl (Nat.le_of_ble_eq_true rfl) ⟨(Nat.le_of_ble_eq_true rfl), (Nat.le_of_ble_eq_true rfl)⟩ rfl rfl rfl dX4_best_13 ?_
    refine hj_istore_n hX rfl (Nat.le_of_ble_eq_true rfl) (lv2 := [(3, .int u4), (2, .int (-4 : Int32)), (0, .ref 0), (1, .int v1)]) rfl dX4_best_16 ?_
    refine hj_iconst hX (v := (0 : Int32)) (by decide) dX4_best_17 ?_
    refine hj_istore hX (Nat.le_of_ble_eq_true rfl) (lv2 := [(4, .int (0 : Int32)), (3, .int u4), (2, .int (-4 : Int32)), (0, .ref 0), (1, .int v1)]) rfl dX4_best_18 ?_
    refine hj_lv hX [3, 4, 2, 1, 0] (lv2 := [(0, .ref 0), (1, .int v1), (2, .int (-4 : Int32)), (3, .int u4), (4, .int (0 : Int32))]) rfl ?_
    exact X4_best_l20_ok hX hf0 hF _ _ _ _ _ h
  · refine hj_iconst hX (v := (-1 : Int32)) (by decide) dX4_best_7 ?_
    exact hj_iret hX dX4_best_8 h)
def X4_both_b105 (k17 : Int32 → Int32 → Int32 → Int32 → hM → Option (Int32 × hM)) (k35 : Int32 → Int32 → Int32 → Int32 → Int32 → hM → Option (Int32 × hM)) (v1 : Int32) (v4 : Int32) (v5 : Int32) (v6 : Int32) (I : hM) : Option (Int32 × hM) := (k35 v1 (((10 : Int32) * v4) + v5) v6 v4 (v5 + (1 : Int32)) I)
def X4_both_h35 (k17 : Int32 → Int32 → Int32 → Int32 → hM → Option (Int32 × hM)) (k35 : Int32 → Int32 → Int32 → Int32 → Int32 → hM → Option (Int32 × hM)) (v1 : Int32) (v2 : Int32) (v3 : Int32) (v4 : Int32) (v5 : Int32) (I : hM) : Option (Int32 × hM) := if (I 4 0) ≤ v5 then ((k17 v1 v2 v3 (v4 + (1 : Int32)) I)) else (gd (hx v4 7) (if (I 27 (v4).toNatClampNeg) = (1 : Int32) then (gd (hx v5 7) (if (I 27 (v5).toNatClampNeg) = (1 : Int32) then (ob (X4_hadPinning (((1 : Int32) <<< (v4 &&& 31)) ||| ((1 : Int32) <<< (v5 &&& 31))) I) (fun u7 Ia8 => if v2 = (-4 : Int32) then (X4_both_b105 k17 k35 v1 v4 v5 u7 Ia8) else (if u7 ≤ v3 then ((k35 v1 v2 v3 v4 (v5 + (1 : Int32)) Ia8)) else (X4_both_b105 k17 k35 v1 v4 v5 u7 Ia8)))) else ((k35 v1 v2 v3 v4 (v5 + (1 : Int32)) I)))) else ((k35 v1 v2 v3 v4 (v5 + (1 : Int32)) I))))
def X4_both_l35 (k17 : Int32 → Int32 → Int32 → Int32 → hM → Option (Int32 × hM)) : Nat → Int32 → Int32 → Int32 → Int32 → Int32 → hM → Option (Int32 × hM)
  | 0 => fun _ _ _ _ _ _ => none
  | n + 1 => X4_both_h35  k17 (X4_both_l35  k17 n)
def X4_both_h17 (k17 : Int32 → Int32 → Int32 → Int32 → hM → Option (Int32 × hM)) (v1 : Int32) (v2 : Int32) (v3 : Int32) (v4 : Int32) (I : hM) : Option (Int32 × hM) := if (I 4 0) ≤ v4 then (ob (X4_whichOrHad v2 v3 v1 I) (fun u4 Ia5 => some (u4, Ia5))) else ((X4_both_l35 k17 hF v1 v2 v3 v4 (v4 + (1 : Int32)) I))
def X4_both_l17 : Nat → Int32 → Int32 → Int32 → Int32 → hM → Option (Int32 × hM)
  | 0 => fun _ _ _ _ _ => none
  | n + 1 => X4_both_h17   (X4_both_l17   n)
def X4_both (v1 : Int32) (I : hM) : Option (Int32 × hM) := ob (X4_isEither v1 I) (fun u1 Ia2 => if u1 = 0 then (some ((-1 : Int32), Ia2)) else ((X4_both_l17 hF v1 (-4 : Int32) (0 : Int32) (0 : Int32) Ia2)))
theorem X4_both_hy : yX4_both.cls = RX4 ∧ yX4_both.cls ≠ "java/lang/invoke/MethodHandle" ∧ yX4_both.cls ≠ "java/lang/invoke/VarHandle" ∧ (parseMethodDescriptor yX4_both.desc).map (fun d => d.parameters.length) = some 1 := by decide +kernel
theorem X4_both_k19 : Cond.fieldLink RX4 19 "HatPins" "laid" "LHatPins$Evening;" ∈ wsX4_both := by decide +kernel
theorem X4_both_k82 : Cond.fieldLink RX4 82 "HatPins$Evening" "goings" "I" ∈ wsX4_both := by decide +kernel
theorem X4_both_k29 : Cond.fieldLink RX4 29 "HatPins" "now" "LHatPins$Standing;" ∈ wsX4_both := by decide +kernel
theorem X4_both_k106 : Cond.fieldLink RX4 106 "HatPins$Standing" "state" "[I" ∈ wsX4_both := by decide +kernel
theorem X4_both_w0 : ∀ w ∈ wsX00, w ∈ wsX4_both := by decide +kernel
theorem X4_both_w2 : ∀ w ∈ wsX20, w ∈ wsX4_both := by decide +kernel
theorem X4_both_w4 : ∀ w ∈ wsX40, w ∈ wsX4_both := by decide +kernel
set_option maxHeartbeats 4000000 in
set_option maxRecDepth 100000 in
theorem X4_both_b105_ok {p : Program} {l : Launch} {e : Env} {s : State} {m : MethodId} {args : Array Value} {below : List Frame} {meth : Method} {c : Code} {D : va_G} {E : Nat → ClassId} {b z : Nat} {sh : List hS} {r : Int32} {I2 : hM} {k17 : Int32 → Int32 → Int32 → Int32 → hM → Option (Int32 × hM)} {k35 : Int32 → Int32 → Int32 → Int32 → Int32 → hM → Option (Int32 × hM)} {v1 : Int32} {v4 : Int32} {v5 : Int32} {v6 : Int32} {I : hM} (hX : hp_X p s m args meth c yX4_both.cls cX4_both 7 wsX4_both D E (some .int) yX4_both.name) (hf0 : hq_X4 sh) (hk17 : ∀ (v1 : Int32) (v2 : Int32) (v3 : Int32) (v4 : Int32) (I : hM), k17 v1 v2 v3 v4 I = some (r, I2) → hp_J p l e ({ frames := 6, cells := 0, slots := 0, locals := 44 * 6 }) s m args below meth c (MQ below (hp_Q D E b z (some (.int r)) sh I2) args s 0 0 (fun q : Nat => b ≤ q)) D E b z 7 sh 0 0 I 17 [(0, .ref 0), (1, .int v1), (2, .int v2), (3, .int v3), (4, .int v4)] []) (hk35 : ∀ (v1 : Int32) (v2 : Int32) (v3 : Int32) (v4 : Int32) (v5 : Int32) (I : hM), k35 v1 v2 v3 v4 v5 I = some (r, I2) → hp_J p l e ({ frames := 6, cells := 0, slots := 0, locals := 44 * 6 }) s m args below meth c (MQ below (hp_Q D E b z (some (.int r)) sh I2) args s 0 0 (fun q : Nat => b ≤ q)) D E b z 7 sh 0 0 I 35 [(0, .ref 0), (1, .int v1), (2, .int v2), (3, .int v3), (4, .int v4), (5, .int v5)] []) (h : X4_both_b105 k17 k35 v1 v4 v5 v6 I = some (r, I2)) : hp_J p l e ({ frames := 6, cells := 0, slots := 0, locals := 44 * 6 }) s m args below meth c (MQ below (hp_Q D E b z (some (.int r)) sh I2) args s 0 0 (fun q : Nat => b ≤ q)) D E b z 7 sh 0 0 I 105 [(0, .ref 0), (1, .int v1), (4, .int v4), (5, .int v5), (6, .int v6)] [] := by
  unfold X4_both_b105 at h
  refine hj_bipush hX (v := (10 : Int32)) (by decide) dX4_both_105 ?_
  refine hj_iload hX 2 rfl dX4_both_107 ?_
  refine hj_imul hX dX4_both_109 ?_
  refine hj_iload hX 3 rfl dX4_both_110 ?_
  refine hj_iadd hX dX4_both_112 ?_
  refine hj_istore_n hX rfl (Nat.le_of_ble_eq_true rfl) (lv2 := [(2, .int (((10 : Int32) * v4) + v5)), (0, .ref 0), (1, .int v1), (4, .int v4), (5, .int v5), (6, .int v6)]) rfl dX4_both_113 ?_
  refine hj_iload hX 5 rfl dX4_both_114 ?_
  refine hj_istore_n hX rfl (Nat.le_of_ble_eq_true rfl) (lv2 := [(3, .int v6), (2, .int (((10 : Int32) * v4) + v5)), (0, .ref 0), (1, .int v1), (4, .int v4), (5, .int v5), (6, .int v6)]) rfl dX4_both_116 ?_
  refine hj_iinc hX (k1 := 5) (v := (v5 + (1 : Int32))) rfl rfl (Nat.le_of_ble_eq_true rfl) (lv2 := [(5, .int (v5 + (1 : Int32))), (3, .int v6), (2, .int (((10 : Int32) * v4) + v5)), (0, .ref 0), (1, .int v1), (4, .int v4), (6, .int v6)]) rfl dX4_both_117 ?_
  refine hj_goto hX (tgt := 35) (by decide) dX4_both_120 ?_
  refine hj_lv hX [3, 4, 2, 1, 5, 0] (lv2 := [(0, .ref 0), (1, .int v1), (2, .int (((10 : Int32) * v4) + v5)), (3, .int v6), (4, .int v4), (5, .int (v5 + (1 : Int32)))]) rfl ?_
  exact hk35 _ _ _ _ _ _ h
set_option maxHeartbeats 4000000 in
set_option maxRecDepth 100000 in
theorem X4_both_h35_ok {p : Program} {l : Launch} {e : Env} {s : State} {m : MethodId} {args : Array Value} {below : List Frame} {meth : Method} {c : Code} {D : va_G} {E : Nat → ClassId} {b z : Nat} {sh : List hS} {r : Int32} {I2 : hM} {k17 : Int32 → Int32 → Int32 → Int32 → hM → Option (Int32 × hM)} {k35 : Int32 → Int32 → Int32 → Int32 → Int32 → hM → Option (Int32 × hM)} {v1 : Int32} {v2 : Int32} {v3 : Int32} {v4 : Int32} {v5 : Int32} {I : hM} (hX : hp_X p s m args meth c yX4_both.cls cX4_both 7 wsX4_both D E (some .int) yX4_both.name) (hf0 : hq_X4 sh) (hk17 : ∀ (v1 : Int32) (v2 : Int32) (v3 : Int32) (v4 : Int32) (I : hM), k17 v1 v2 v3 v4 I = some (r, I2) → hp_J p l e ({ frames := 6, cells := 0, slots := 0, locals := 44 * 6 }) s m args below meth c (MQ below (hp_Q D E b z (some (.int r)) sh I2) args s 0 0 (fun q : Nat => b ≤ q)) D E b z 7 sh 0 0 I 17 [(0, .ref 0), (1, .int v1), (2, .int v2), (3, .int v3), (4, .int v4)] []) (hk35 : ∀ (v1 : Int32) (v2 : Int32) (v3 : Int32) (v4 : Int32) (v5 : Int32) (I : hM), k35 v1 v2 v3 v4 v5 I = some (r, I2) → hp_J p l e ({ frames := 6, cells := 0, slots := 0, locals := 44 * 6 }) s m args below meth c (MQ below (hp_Q D E b z (some (.int r)) sh I2) args s 0 0 (fun q : Nat => b ≤ q)) D E b z 7 sh 0 0 I 35 [(0, .ref 0), (1, .int v1), (2, .int v2), (3, .int v3), (4, .int v4), (5, .int v5)] []) (h : X4_both_h35 k17 k35 v1 v2 v3 v4 v5 I = some (r, I2)) : hp_J p l e ({ frames := 6, cells := 0, slots := 0, locals := 44 * 6 }) s m args below meth c (MQ below (hp_Q D E b z (some (.int r)) sh I2) args s 0 0 (fun q : Nat => b ≤ q)) D E b z 7 sh 0 0 I 35 [(0, .ref 0), (1, .int v1), (2, .int v2), (3, .int v3), (4, .int v4), (5, .int v5)] [] := by
  unfold X4_both_h35 at h
  refine hj_iload hX 5 rfl dX4_both_35 ?_
  refine hj_aload_n hX rfl 0 rfl dX4_both_37 ?_
  refine hj_getr hX (j := 1) hf0.1 rfl rfl X4_both_w4 (Nat.le_of_ble_eq_true rfl) rfl X4_both_k19 dX4_both_38 ?_
  refine hj_geti hX (j := 0) hf0.2.2.1.1 rfl rfl X4_both_w0 (Nat.le_of_ble_eq_true rfl) rfl X4_both_k82 dX4_both_41 ?_
  refine hj_icmp_ge hX (tgt := 123) (by decide) dX4_both_44 h (fun h => ?_) (fun h => ?_)
  · refine hj_iinc hX (k1 := 4) (v := (v4 + (1 : Int32))) rfl rfl (Nat.le_of_ble_eq_true rfl) (lv2 := [(4, .int (v4 + (1 : Int32))), (0, .ref 0), (1, .int v1), (2, .int v2), (3, .int v3), (5, .int v5)]) rfl dX4_both_123 ?_
    refine hj_goto hX (tgt := 17) (by decide) dX4_both_126 ?_
    refine hj_lv hX [1, 2, 3, 4, 0] (lv2 := [(0, .ref 0), (1, .int v1), (2, .int v2), (3, .int v3), (4, .int (v4 + (1 : Int32)))]) rfl ?_
    exact hk17 _ _ _ _ _ h
  · refine hj_aload_n hX rfl 0 rfl dX4_both_47 ?_
    refine hj_getr hX (j := 3) hf0.1 rfl rfl X4_both_w4 (Nat.le_of_ble_eq_true rfl) rfl X4_both_k29 dX4_both_48 ?_
    refine hj_getr hX (j := 2) hf0.2.2.2.2.1.1 rfl rfl X4_both_w2 (Nat.le_of_ble_eq_true rfl) rfl X4_both_k106 dX4_both_51 ?_
    refine hj_iload hX 4 rfl dX4_both_54 ?_
    refine hj_iald hX hf0.2.2.2.2.1.2.1 dX4_both_56 h (fun h => ?_)
    refine hj_iconst hX (v := (1 : Int32)) (by decide) dX4_both_57 ?_
    refine hj_icmp_ne hX (tgt := 117) (by decide) dX4_both_58 h (fun h => ?_) (fun h => ?_)
    · refine hj_iinc hX (k1 := 5) (v := (v5 + (1 : Int32))) rfl rfl (Nat.le_of_ble_eq_true rfl) (lv2 := [(5, .int (v5 + (1 : Int32))), (0, .ref 0), (1, .int v1), (2, .int v2), (3, .int v3), (4, .int v4)]) rfl dX4_both_117 ?_
      refine hj_goto hX (tgt := 35) (by decide) dX4_both_120 ?_
      refine hj_lv hX [1, 2, 3, 4, 5, 0] (lv2 := [(0, .ref 0), (1, .int v1), (2, .int v2), (3, .int v3), (4, .int v4), (5, .int (v5 + (1 : Int32)))]) rfl ?_
      exact hk35 _ _ _ _ _ _ h
    · refine hj_aload_n hX rfl 0 rfl dX4_both_61 ?_
      refine hj_getr hX (j := 3) hf0.1 rfl rfl X4_both_w4 (Nat.le_of_ble_eq_true rfl) rfl X4_both_k29 dX4_both_62 ?_
      refine hj_getr hX (j := 2) hf0.2.2.2.2.1.1 rfl rfl X4_both_w2 (Nat.le_of_ble_eq_true rfl) rfl X4_both_k106 dX4_both_65 ?_
      refine hj_iload hX 5 rfl dX4_both_68 ?_
      refine hj_iald hX hf0.2.2.2.2.1.2.1 dX4_both_70 h (fun h => ?_)
      refine hj_iconst hX (v := (1 : Int32)) (by decide) dX4_both_71 ?_
      refine hj_icmp_eq hX (tgt := 78) (by decide) dX4_both_72 h (fun h => ?_) (fun h => ?_)
      · refine hj_aload_n hX rfl 0 rfl dX4_both_78 ?_
        refine hj_iconst hX (v := (1 : Int32)) (by decide) dX4_both_79 ?_
        refine hj_iload hX 4 rfl dX4_both_80 ?_
        refine hj_ishl hX dX4_both_82 ?_
        refine hj_iconst hX (v := (1 : Int32)) (by decide) dX4_both_83 ?_
        refine hj_iload hX 5 rfl dX4_both_84 ?_
        refine hj_ishl hX dX4_both_86 ?_
        refine hj_ior hX dX4_both_87 ?_
        obtain ⟨u7, Ia8, hc9, h⟩ := ob_e h
        refine hj_callV hX (sh2 := sh) (I2 := Ia8) (r := (some (.int u7))) (As := [.int (((1 : Int32) <<< (v4 &&& 31)) ||| ((1 : Int32) <<< (v5 &&& 31)))]) (rest := []) (st2 := [.int u7]) (X4_hadPinning_ok hf0 hc9) gX4_both_X4_hadPinning rfl X4_hadPinning_hy ⟨(Nat.le_of_ble_eq_true rfl), (Nat.le_of_ble_eq_true rfl)⟩ rfl hf0.1 rfl (Nat.le_of_ble_eq_true rfl) ⟨(Nat.le_of_ble_eq_true rfl), (Nat.le_of_ble_eq_true rfl)⟩ rfl rfl rfl dX4_both_88 ?_
        refine hj_istore hX (Nat.le_of_ble_eq_true rfl) (lv2 := [(6, .int u7), (0, .ref 0), (1, .int v1), (2, .int v2), (3, .int v3), (4, .int v4), (5, .int v5)]) rfl dX4_both_91 ?_
        refine hj_iload_n hX rfl 3 rfl dX4_both_93 ?_
        refine hj_bipush hX (v := (-4 : Int32)) (by decide) dX4_both_94 ?_
        refine hj_icmp_eq hX (tgt := 105) (by decide) dX4_both_96 h (fun h => ?_) (fun h => ?_)
        · refine hj_lv hX [1, 2, 5, 6, 0] (lv2 := [(0, .ref 0), (1, .int v1), (4, .int v4), (5, .int v5), (6, .int u7)]) rfl ?_
          exact X4_both_b105_ok hX hf0 hk17 hk35 h
        · refine hj_iload hX 0 rfl dX4_both_99 ?_
          refine hj_iload_n hX rfl 4 rfl dX4_both_101 ?_
          refine hj_icmp_le hX (tgt := 117) (by decide) dX4_both_102 h (fun h => ?_) (fun h => ?_)
          · refine hj_iinc hX (k1 := 6) (v := (v5 + (1 : Int32))) rfl rfl (Nat.le_of_ble_eq_true rfl) (lv2 := [(5, .int (v5 + (1 : Int32))), (6, .int u7), (0, .ref 0), (1, .int v1), (2, .int v2), (3, .int v3), (4, .int v4)]) rfl dX4_both_117 ?_
            refine hj_goto hX (tgt := 35) (by decide) dX4_both_120 ?_
            refine hj_lv hX [2, 3, 4, 5, 6, 0] (lv2 := [(0, .ref 0), (1, .int v1), (2, .int v2), (3, .int v3), (4, .int v4), (5, .int (v5 + (1 : Int32)))]) rfl ?_
            exact hk35 _ _ _ _ _ _ h
          · refine hj_lv hX [1, 2, 5, 6, 0] (lv2 := [(0, .ref 0), (1, .int v1), (4, .int v4), (5, .int v5), (6, .int u7)]) rfl ?_
            exact X4_both_b105_ok hX hf0 hk17 hk35 h
      · refine hj_goto hX (tgt := 117) (by decide) dX4_both_75 ?_
        refine hj_iinc hX (k1 := 5) (v := (v5 + (1 : Int32))) rfl rfl (Nat.le_of_ble_eq_true rfl) (lv2 := [(5, .int (v5 + (1 : Int32))), (0, .ref 0), (1, .int v1), (2, .int v2), (3, .int v3), (4, .int v4)]) rfl dX4_both_117 ?_
        refine hj_goto hX (tgt := 35) (by decide) dX4_both_120 ?_
        refine hj_lv hX [1, 2, 3, 4, 5, 0] (lv2 := [(0, .ref 0), (1, .int v1), (2, .int v2), (3, .int v3), (4, .int v4), (5, .int (v5 + (1 : Int32)))]) rfl ?_
        exact hk35 _ _ _ _ _ _ h
set_option maxHeartbeats 4000000 in
set_option maxRecDepth 100000 in
theorem X4_both_l35_ok {p : Program} {l : Launch} {e : Env} {s : State} {m : MethodId} {args : Array Value} {below : List Frame} {meth : Method} {c : Code} {D : va_G} {E : Nat → ClassId} {b z : Nat} {sh : List hS} {r : Int32} {I2 : hM} {k17 : Int32 → Int32 → Int32 → Int32 → hM → Option (Int32 × hM)} (hX : hp_X p s m args meth c yX4_both.cls cX4_both 7 wsX4_both D E (some .int) yX4_both.name) (hf0 : hq_X4 sh) (hk17 : ∀ (v1 : Int32) (v2 : Int32) (v3 : Int32) (v4 : Int32) (I : hM), k17 v1 v2 v3 v4 I = some (r, I2) → hp_J p l e ({ frames := 6, cells := 0, slots := 0, locals := 44 * 6 }) s m args below meth c (MQ below (hp_Q D E b z (some (.int r)) sh I2) args s 0 0 (fun q : Nat => b ≤ q)) D E b z 7 sh 0 0 I 17 [(0, .ref 0), (1, .int v1), (2, .int v2), (3, .int v3), (4, .int v4)] []) : ∀ (n : Nat) (v1 : Int32) (v2 : Int32) (v3 : Int32) (v4 : Int32) (v5 : Int32) (I : hM), X4_both_l35 k17 n v1 v2 v3 v4 v5 I = some (r, I2) → hp_J p l e ({ frames := 6, cells := 0, slots := 0, locals := 44 * 6 }) s m args below meth c (MQ below (hp_Q D E b z (some (.int r)) sh I2) args s 0 0 (fun q : Nat => b ≤ q)) D E b z 7 sh 0 0 I 35 [(0, .ref 0), (1, .int v1), (2, .int v2), (3, .int v3), (4, .int v4), (5, .int v5)] [] := by
  intro n
  induction n with
  | zero => exact fun _ _ _ _ _ _ h => nomatch h
  | succ n ih => exact fun _ _ _ _ _ _ h => X4_both_h35_ok hX hf0 hk17 ih h
set_option maxHeartbeats 4000000 in
set_option maxRecDepth 100000 in
theorem X4_both_h17_ok {p : Program} {l : Launch} {e : Env} {s : State} {m : MethodId} {args : Array Value} {below : List Frame} {meth : Method} {c : Code} {D : va_G} {E : Nat → ClassId} {b z : Nat} {sh : List hS} {r : Int32} {I2 : hM} {k17 : Int32 → Int32 → Int32 → Int32 → hM → Option (Int32 × hM)} {v1 : Int32} {v2 : Int32} {v3 : Int32} {v4 : Int32} {I : hM} (hX : hp_X p s m args meth c yX4_both.cls cX4_both 7 wsX4_both D E (some .int) yX4_both.name) (hf0 : hq_X4 sh) (hk17 : ∀ (v1 : Int32) (v2 : Int32) (v3 : Int32) (v4 : Int32) (I : hM), k17 v1 v2 v3 v4 I = some (r, I2) → hp_J p l e ({ frames := 6, cells := 0, slots := 0, locals := 44 * 6 }) s m args below meth c (MQ below (hp_Q D E b z (some (.int r)) sh I2) args s 0 0 (fun q : Nat => b ≤ q)) D E b z 7 sh 0 0 I 17 [(0, .ref 0), (1, .int v1), (2, .int v2), (3, .int v3), (4, .int v4)] []) (h : X4_both_h17 k17 v1 v2 v3 v4 I = some (r, I2)) : hp_J p l e ({ frames := 6, cells := 0, slots := 0, locals := 44 * 6 }) s m args below meth c (MQ below (hp_Q D E b z (some (.int r)) sh I2) args s 0 0 (fun q : Nat => b ≤ q)) D E b z 7 sh 0 0 I 17 [(0, .ref 0), (1, .int v1), (2, .int v2), (3, .int v3), (4, .int v4)] [] := by
  unfold X4_both_h17 at h
  refine hj_iload hX 4 rfl dX4_both_17 ?_
  refine hj_aload_n hX rfl 0 rfl dX4_both_19 ?_
  refine hj_getr hX (j := 1) hf0.1 rfl rfl X4_both_w4 (Nat.le_of_ble_eq_true rfl) rfl X4_both_k19 dX4_both_20 ?_
  refine hj_geti hX (j := 0) hf0.2.2.1.1 rfl rfl X4_both_w0 (Nat.le_of_ble_eq_true rfl) rfl X4_both_k82 dX4_both_23 ?_
  refine hj_icmp_ge hX (tgt := 129) (by decide) dX4_both_26 h (fun h => ?_) (fun h => ?_)
  · refine hj_iload_n hX rfl 2 rfl dX4_both_129 ?_
    refine hj_iload_n hX rfl 3 rfl dX4_both_130 ?_
    refine hj_iload_n hX rfl 1 rfl dX4_both_131 ?_
    obtain ⟨u4, Ia5, hc6, h⟩ := ob_e h
    refine hj_callS hX (sh2 := sh) (I2 := Ia5) (r := (some (.int u4))) (As := [.int v2, .int v3, .int v1]) (rest := []) (st2 := [.int u4]) (X4_whichOrHad_ok hc6) gX4_both_X4_whichOrHad rfl X4_whichOrHad_hy.2 ⟨(Nat.le_of_ble_eq_true rfl), (Nat.le_of_ble_eq_true rfl)⟩ rfl (Nat.le_of_ble_eq_true rfl) ⟨(Nat.le_of_ble_eq_true rfl), (Nat.le_of_ble_eq_true rfl)⟩ rfl rfl rfl dX4_both_132 ?_
    exact hj_iret hX dX4_both_135 h
  · refine hj_iload hX 4 rfl dX4_both_29 ?_
    refine hj_iconst hX (v := (1 : Int32)) (by decide) dX4_both_31 ?_
    refine hj_iadd hX dX4_both_32 ?_
    refine hj_istore hX (Nat.le_of_ble_eq_true rfl) (lv2 := [(5, .int (v4 + (1 : Int32))), (0, .ref 0), (1, .int v1), (2, .int v2), (3, .int v3), (4, .int v4)]) rfl dX4_both_33 ?_
    refine hj_lv hX [1, 2, 3, 4, 5, 0] (lv2 := [(0, .ref 0), (1, .int v1), (2, .int v2), (3, .int v3), (4, .int v4), (5, .int (v4 + (1 : Int32)))]) rfl ?_
    exact X4_both_l35_ok hX hf0 hk17 hF _ _ _ _ _ _ h
set_option maxHeartbeats 4000000 in
set_option maxRecDepth 100000 in
theorem X4_both_l17_ok {p : Program} {l : Launch} {e : Env} {s : State} {m : MethodId} {args : Array Value} {below : List Frame} {meth : Method} {c : Code} {D : va_G} {E : Nat → ClassId} {b z : Nat} {sh : List hS} {r : Int32} {I2 : hM} (hX : hp_X p s m args meth c yX4_both.cls cX4_both 7 wsX4_both D E (some .int) yX4_both.name) (hf0 : hq_X4 sh) : ∀ (n : Nat) (v1 : Int32) (v2 : Int32) (v3 : Int32) (v4 : Int32) (I : hM), X4_both_l17 n v1 v2 v3 v4 I = some (r, I2) → hp_J p l e ({ frames := 6, cells := 0, slots := 0, locals := 44 * 6 }) s m args below meth c (MQ below (hp_Q D E b z (some (.int r)) sh I2) args s 0 0 (fun q : Nat => b ≤ q)) D E b z 7 sh 0 0 I 17 [(0, .ref 0), (1, .int v1), (2, .int v2), (3, .int v3), (4, .int v4)] [] := by
  intro n
  induction n with
  | zero => exact fun _ _ _ _ _ h => nomatch h
  | succ n ih => exact fun _ _ _ _ _ h => X4_both_h17_ok hX hf0 ih h
set_option maxHeartbeats 4000000 in
set_option maxRecDepth 100000 in
theorem X4_both_ok {sh : List hS} {r : Int32} {I I2 : hM} {v1 : Int32} (hf0 : hq_X4 sh) (h : X4_both v1 I = some (r, I2)) : hp_C yX4_both wsX4_both 6 0 0 sh I [.ref 0, .int v1] (some (.int r)) sh I2 := hp_start (cc := cX4_both) (maxL := 7) (ret := (some .int)) [(0, .ref 0), (1, .int v1)] (by decide) rfl (fun _ _ => rfl) (fun _ _ => Nat.le_of_ble_eq_true rfl) (fun p l e s m below meth c D E b z hX _ => by
  unfold X4_both at h
  refine hj_iload_n hX rfl 1 rfl dX4_both_0 ?_
  obtain ⟨u1, Ia2, hc3, h⟩ := ob_e h
  refine hj_callS hX (sh2 := sh) (I2 := Ia2) (r := (some (.int u1))) (As := [.int v1]) (rest := []) (st2 := [.int u1]) (X4_isEither_ok hc3) gX4_both_X4_isEither rfl X4_isEither_hy.2 ⟨(Nat.le_of_ble_eq_true rfl), (Nat.le_of_ble_eq_true rfl)⟩ rfl (Nat.le_of_ble_eq_true rfl) ⟨(Nat.le_of_ble_eq_true rfl), (Nat.le_of_ble_eq_true rfl)⟩ rfl rfl rfl dX4_both_1 ?_
  refine hj_if_ne hX (tgt := 9) (by decide) dX4_both_4 h (fun h => ?_) (fun h => ?_)
  · refine hj_bipush hX (v := (-4 : Int32)) (by decide) dX4_both_9 ?_
    refine hj_istore_n hX rfl (Nat.le_of_ble_eq_true rfl) (lv2 := [(2, .int (-4 : Int32)), (0, .ref 0), (1, .int v1)]) rfl dX4_both_11 ?_
    refine hj_iconst hX (v := (0 : Int32)) (by decide) dX4_both_12 ?_
    refine hj_istore_n hX rfl (Nat.le_of_ble_eq_true rfl) (lv2 := [(3, .int (0 : Int32)), (2, .int (-4 : Int32)), (0, .ref 0), (1, .int v1)]) rfl dX4_both_13 ?_
    refine hj_iconst hX (v := (0 : Int32)) (by decide) dX4_both_14 ?_
    refine hj_istore hX (Nat.le_of_ble_eq_true rfl) (lv2 := [(4, .int (0 : Int32)), (3, .int (0 : Int32)), (2, .int (-4 : Int32)), (0, .ref 0), (1, .int v1)]) rfl dX4_both_15 ?_
    refine hj_lv hX [3, 4, 2, 1, 0] (lv2 := [(0, .ref 0), (1, .int v1), (2, .int (-4 : Int32)), (3, .int (0 : Int32)), (4, .int (0 : Int32))]) rfl ?_
    exact X4_both_l17_ok hX hf0 hF _ _ _ _ _ h
  · refine hj_iconst hX (v := (-1 : Int32)) (by decide) dX4_both_7 ?_
    exact hj_iret hX dX4_both_8 h)
