def X5_clears (I : hM) : Option (Int32 × hM) := some (0, (hu (hu (hu I 92 13 (0 : Int32)) 92 19 (0 : Int32)) 92 23 (0 : Int32)))
theorem X5_clears_hy : yX5_clears.cls = RX5 ∧ yX5_clears.cls ≠ "java/lang/invoke/MethodHandle" ∧ yX5_clears.cls ≠ "java/lang/invoke/VarHandle" ∧ (parseMethodDescriptor yX5_clears.desc).map (fun d => d.parameters.length) = some 0 := by decide +kernel
theorem X5_clears_k104 : Cond.fieldLink RX5 104 "HatPinsModel" "newMany" "I" ∈ wsX5_clears := by decide +kernel
theorem X5_clears_k107 : Cond.fieldLink RX5 107 "HatPinsModel" "newFollows" "I" ∈ wsX5_clears := by decide +kernel
theorem X5_clears_k98 : Cond.fieldLink RX5 98 "HatPinsModel" "newLadies" "I" ∈ wsX5_clears := by decide +kernel
theorem X5_clears_w5 : ∀ w ∈ wsX50, w ∈ wsX5_clears := by decide +kernel
set_option maxHeartbeats 4000000 in
set_option maxRecDepth 100000 in
theorem X5_clears_ok {sh : List hS} {r : Int32} {I I2 : hM} (hf0 : hq_X5 sh) (h : X5_clears I = some (r, I2)) : hp_C yX5_clears wsX5_clears 0 0 0 sh I [.ref 92] none sh I2 := hp_start (cc := cX5_clears) (maxL := 1) (ret := none) [(0, .ref 92)] (by decide) rfl (fun _ _ => rfl) (fun _ _ => Nat.le_of_ble_eq_true rfl) (fun p l e s m below meth c D E b z hX _ => by
  unfold X5_clears at h
  refine hj_aload_n hX rfl 0 rfl dX5_clears_0 ?_
  refine hj_iconst hX (v := (0 : Int32)) (by decide) dX5_clears_1 ?_
  refine hj_puti hX (j := 13) hf0.1 rfl rfl X5_clears_w5 (Nat.le_of_ble_eq_true rfl) rfl X5_clears_k104 tyX5_ok nmX5 rfl (by decide +kernel) dX5_clears_2 ?_
  refine hj_aload_n hX rfl 0 rfl dX5_clears_5 ?_
  refine hj_iconst hX (v := (0 : Int32)) (by decide) dX5_clears_6 ?_
  refine hj_puti hX (j := 19) hf0.1 rfl rfl X5_clears_w5 (Nat.le_of_ble_eq_true rfl) rfl X5_clears_k107 tyX5_ok nmX5 rfl (by decide +kernel) dX5_clears_7 ?_
  refine hj_aload_n hX rfl 0 rfl dX5_clears_10 ?_
  refine hj_iconst hX (v := (0 : Int32)) (by decide) dX5_clears_11 ?_
  refine hj_puti hX (j := 23) hf0.1 rfl rfl X5_clears_w5 (Nat.le_of_ble_eq_true rfl) rfl X5_clears_k98 tyX5_ok nmX5 rfl (by decide +kernel) dX5_clears_12 ?_
  exact hj_vret hX dX5_clears_15 h)
def X5_comes (v1 : Int32) (v2 : Int32) (v3 : Int32) (v4 : Int32) (v5 : Int32) (I : hM) : Option (Int32 × hM) := gd (hx (I 92 13) 7) (gd (hx ((hu I 103 ((I 92 13)).toNatClampNeg v1) 92 13) 7) (gd (hx ((hu (hu I 103 ((I 92 13)).toNatClampNeg v1) 104 (((hu I 103 ((I 92 13)).toNatClampNeg v1) 92 13)).toNatClampNeg v2) 92 13) 7) (gd (hx ((hu (hu (hu I 103 ((I 92 13)).toNatClampNeg v1) 104 (((hu I 103 ((I 92 13)).toNatClampNeg v1) 92 13)).toNatClampNeg v2) 105 (((hu (hu I 103 ((I 92 13)).toNatClampNeg v1) 104 (((hu I 103 ((I 92 13)).toNatClampNeg v1) 92 13)).toNatClampNeg v2) 92 13)).toNatClampNeg v3) 92 13) 7) (gd (hx ((hu (hu (hu (hu I 103 ((I 92 13)).toNatClampNeg v1) 104 (((hu I 103 ((I 92 13)).toNatClampNeg v1) 92 13)).toNatClampNeg v2) 105 (((hu (hu I 103 ((I 92 13)).toNatClampNeg v1) 104 (((hu I 103 ((I 92 13)).toNatClampNeg v1) 92 13)).toNatClampNeg v2) 92 13)).toNatClampNeg v3) 106 (((hu (hu (hu I 103 ((I 92 13)).toNatClampNeg v1) 104 (((hu I 103 ((I 92 13)).toNatClampNeg v1) 92 13)).toNatClampNeg v2) 105 (((hu (hu I 103 ((I 92 13)).toNatClampNeg v1) 104 (((hu I 103 ((I 92 13)).toNatClampNeg v1) 92 13)).toNatClampNeg v2) 92 13)).toNatClampNeg v3) 92 13)).toNatClampNeg v4) 92 13) 7) (some (0, (hu (hu (hu (hu (hu (hu I 103 ((I 92 13)).toNatClampNeg v1) 104 (((hu I 103 ((I 92 13)).toNatClampNeg v1) 92 13)).toNatClampNeg v2) 105 (((hu (hu I 103 ((I 92 13)).toNatClampNeg v1) 104 (((hu I 103 ((I 92 13)).toNatClampNeg v1) 92 13)).toNatClampNeg v2) 92 13)).toNatClampNeg v3) 106 (((hu (hu (hu I 103 ((I 92 13)).toNatClampNeg v1) 104 (((hu I 103 ((I 92 13)).toNatClampNeg v1) 92 13)).toNatClampNeg v2) 105 (((hu (hu I 103 ((I 92 13)).toNatClampNeg v1) 104 (((hu I 103 ((I 92 13)).toNatClampNeg v1) 92 13)).toNatClampNeg v2) 92 13)).toNatClampNeg v3) 92 13)).toNatClampNeg v4) 107 (((hu (hu (hu (hu I 103 ((I 92 13)).toNatClampNeg v1) 104 (((hu I 103 ((I 92 13)).toNatClampNeg v1) 92 13)).toNatClampNeg v2) 105 (((hu (hu I 103 ((I 92 13)).toNatClampNeg v1) 104 (((hu I 103 ((I 92 13)).toNatClampNeg v1) 92 13)).toNatClampNeg v2) 92 13)).toNatClampNeg v3) 106 (((hu (hu (hu I 103 ((I 92 13)).toNatClampNeg v1) 104 (((hu I 103 ((I 92 13)).toNatClampNeg v1) 92 13)).toNatClampNeg v2) 105 (((hu (hu I 103 ((I 92 13)).toNatClampNeg v1) 104 (((hu I 103 ((I 92 13)).toNatClampNeg v1) 92 13)).toNatClampNeg v2) 92 13)).toNatClampNeg v3) 92 13)).toNatClampNeg v4) 92 13)).toNatClampNeg v5) 92 13 (((hu (hu (hu (hu (hu I 103 ((I 92 13)).toNatClampNeg v1) 104 (((hu I 103 ((I 92 13)).toNatClampNeg v1) 92 13)).toNatClampNeg v2) 105 (((hu (hu I 103 ((I 92 13)).toNatClampNeg v1) 104 (((hu I 103 ((I 92 13)).toNatClampNeg v1) 92 13)).toNatClampNeg v2) 92 13)).toNatClampNeg v3) 106 (((hu (hu (hu I 103 ((I 92 13)).toNatClampNeg v1) 104 (((hu I 103 ((I 92 13)).toNatClampNeg v1) 92 13)).toNatClampNeg v2) 105 (((hu (hu I 103 ((I 92 13)).toNatClampNeg v1) 104 (((hu I 103 ((I 92 13)).toNatClampNeg v1) 92 13)).toNatClampNeg v2) 92 13)).toNatClampNeg v3) 92 13)).toNatClampNeg v4) 107 (((hu (hu (hu (hu I 103 ((I 92 13)).toNatClampNeg v1) 104 (((hu I 103 ((I 92 13)).toNatClampNeg v1) 92 13)).toNatClampNeg v2) 105 (((hu (hu I 103 ((I 92 13)).toNatClampNeg v1) 104 (((hu I 103 ((I 92 13)).toNatClampNeg v1) 92 13)).toNatClampNeg v2) 92 13)).toNatClampNeg v3) 106 (((hu (hu (hu I 103 ((I 92 13)).toNatClampNeg v1) 104 (((hu I 103 ((I 92 13)).toNatClampNeg v1) 92 13)).toNatClampNeg v2) 105 (((hu (hu I 103 ((I 92 13)).toNatClampNeg v1) 104 (((hu I 103 ((I 92 13)).toNatClampNeg v1) 92 13)).toNatClampNeg v2) 92 13)).toNatClampNeg v3) 92 13)).toNatClampNeg v4) 92 13)).toNatClampNeg v5) 92 13) + (1 : Int32)))))))))
theorem X5_comes_hy : yX5_comes.cls = RX5 ∧ yX5_comes.cls ≠ "java/lang/invoke/MethodHandle" ∧ yX5_comes.cls ≠ "java/lang/invoke/VarHandle" ∧ (parseMethodDescriptor yX5_comes.desc).map (fun d => d.parameters.length) = some 5 := by decide +kernel
theorem X5_comes_k40 : Cond.fieldLink RX5 40 "HatPinsModel" "newSort" "[I" ∈ wsX5_comes := by decide +kernel
theorem X5_comes_k104 : Cond.fieldLink RX5 104 "HatPinsModel" "newMany" "I" ∈ wsX5_comes := by decide +kernel
theorem X5_comes_k43 : Cond.fieldLink RX5 43 "HatPinsModel" "newBegins" "[I" ∈ wsX5_comes := by decide +kernel
theorem X5_comes_k46 : Cond.fieldLink RX5 46 "HatPinsModel" "newJoy" "[I" ∈ wsX5_comes := by decide +kernel
theorem X5_comes_k49 : Cond.fieldLink RX5 49 "HatPinsModel" "newWane" "[I" ∈ wsX5_comes := by decide +kernel
theorem X5_comes_k52 : Cond.fieldLink RX5 52 "HatPinsModel" "newGoes" "[I" ∈ wsX5_comes := by decide +kernel
theorem X5_comes_w5 : ∀ w ∈ wsX50, w ∈ wsX5_comes := by decide +kernel
set_option maxHeartbeats 4000000 in
set_option maxRecDepth 100000 in
theorem X5_comes_ok {sh : List hS} {r : Int32} {I I2 : hM} {v1 : Int32} {v2 : Int32} {v3 : Int32} {v4 : Int32} {v5 : Int32} (hf0 : hq_X5 sh) (h : X5_comes v1 v2 v3 v4 v5 I = some (r, I2)) : hp_C yX5_comes wsX5_comes 0 0 0 sh I [.ref 92, .int v1, .int v2, .int v3, .int v4, .int v5] none sh I2 := hp_start (cc := cX5_comes) (maxL := 6) (ret := none) [(0, .ref 92), (1, .int v1), (2, .int v2), (3, .int v3), (4, .int v4), (5, .int v5)] (by decide) rfl (fun _ _ => rfl) (fun _ _ => Nat.le_of_ble_eq_true rfl) (fun p l e s m below meth c D E b z hX _ => by
  unfold X5_comes at h
  refine hj_aload_n hX rfl 0 rfl dX5_comes_0 ?_
  refine hj_getr hX (j := 14) hf0.1 rfl rfl X5_comes_w5 (Nat.le_of_ble_eq_true rfl) rfl X5_comes_k40 dX5_comes_1 ?_
  refine hj_aload_n hX rfl 0 rfl dX5_comes_4 ?_
  refine hj_geti hX (j := 13) hf0.1 rfl rfl X5_comes_w5 (Nat.le_of_ble_eq_true rfl) rfl X5_comes_k104 dX5_comes_5 ?_
  refine hj_iload_n hX rfl 1 rfl dX5_comes_8 ?_
  refine hj_iast hX hf0.2.2.2.2.2.2.2.2.2.2.2.1 dX5_comes_9 h (fun h => ?_)
  refine hj_aload_n hX rfl 0 rfl dX5_comes_10 ?_
  refine hj_getr hX (j := 15) hf0.1 rfl rfl X5_comes_w5 (Nat.le_of_ble_eq_true rfl) rfl X5_comes_k43 dX5_comes_11 ?_
  refine hj_aload_n hX rfl 0 rfl dX5_comes_14 ?_
  refine hj_geti hX (j := 13) hf0.1 rfl rfl X5_comes_w5 (Nat.le_of_ble_eq_true rfl) rfl X5_comes_k104 dX5_comes_15 ?_
  refine hj_iload_n hX rfl 2 rfl dX5_comes_18 ?_
  refine hj_iast hX hf0.2.2.2.2.2.2.2.2.2.2.2.2.1 dX5_comes_19 h (fun h => ?_)
  refine hj_aload_n hX rfl 0 rfl dX5_comes_20 ?_
  refine hj_getr hX (j := 16) hf0.1 rfl rfl X5_comes_w5 (Nat.le_of_ble_eq_true rfl) rfl X5_comes_k46 dX5_comes_21 ?_
  refine hj_aload_n hX rfl 0 rfl dX5_comes_24 ?_
  refine hj_geti hX (j := 13) hf0.1 rfl rfl X5_comes_w5 (Nat.le_of_ble_eq_true rfl) rfl X5_comes_k104 dX5_comes_25 ?_
  refine hj_iload_n hX rfl 3 rfl dX5_comes_28 ?_
  refine hj_iast hX hf0.2.2.2.2.2.2.2.2.2.2.2.2.2.1 dX5_comes_29 h (fun h => ?_)
  refine hj_aload_n hX rfl 0 rfl dX5_comes_30 ?_
  refine hj_getr hX (j := 17) hf0.1 rfl rfl X5_comes_w5 (Nat.le_of_ble_eq_true rfl) rfl X5_comes_k49 dX5_comes_31 ?_
  refine hj_aload_n hX rfl 0 rfl dX5_comes_34 ?_
  refine hj_geti hX (j := 13) hf0.1 rfl rfl X5_comes_w5 (Nat.le_of_ble_eq_true rfl) rfl X5_comes_k104 dX5_comes_35 ?_
  refine hj_iload hX 4 rfl dX5_comes_38 ?_
  refine hj_iast hX hf0.2.2.2.2.2.2.2.2.2.2.2.2.2.2.1 dX5_comes_40 h (fun h => ?_)
  refine hj_aload_n hX rfl 0 rfl dX5_comes_41 ?_
  refine hj_getr hX (j := 18) hf0.1 rfl rfl X5_comes_w5 (Nat.le_of_ble_eq_true rfl) rfl X5_comes_k52 dX5_comes_42 ?_
  refine hj_aload_n hX rfl 0 rfl dX5_comes_45 ?_
  refine hj_geti hX (j := 13) hf0.1 rfl rfl X5_comes_w5 (Nat.le_of_ble_eq_true rfl) rfl X5_comes_k104 dX5_comes_46 ?_
  refine hj_iload hX 5 rfl dX5_comes_49 ?_
  refine hj_iast hX hf0.2.2.2.2.2.2.2.2.2.2.2.2.2.2.2.1 dX5_comes_51 h (fun h => ?_)
  refine hj_aload_n hX rfl 0 rfl dX5_comes_52 ?_
  refine hj_dup hX rfl dX5_comes_53 ?_
  refine hj_geti hX (j := 13) hf0.1 rfl rfl X5_comes_w5 (Nat.le_of_ble_eq_true rfl) rfl X5_comes_k104 dX5_comes_54 ?_
  refine hj_iconst hX (v := (1 : Int32)) (by decide) dX5_comes_57 ?_
  refine hj_iadd hX dX5_comes_58 ?_
  refine hj_puti hX (j := 13) hf0.1 rfl rfl X5_comes_w5 (Nat.le_of_ble_eq_true rfl) rfl X5_comes_k104 tyX5_ok nmX5 rfl (by decide +kernel) dX5_comes_59 ?_
  exact hj_vret hX dX5_comes_62 h)
def X5_follow (v1 : Int32) (v2 : Int32) (v3 : Int32) (I : hM) : Option (Int32 × hM) := gd (hx (I 92 19) 6) (gd (hx ((hu I 108 ((I 92 19)).toNatClampNeg v1) 92 19) 6) (gd (hx ((hu (hu I 108 ((I 92 19)).toNatClampNeg v1) 109 (((hu I 108 ((I 92 19)).toNatClampNeg v1) 92 19)).toNatClampNeg v2) 92 19) 6) (some (0, (hu (hu (hu (hu I 108 ((I 92 19)).toNatClampNeg v1) 109 (((hu I 108 ((I 92 19)).toNatClampNeg v1) 92 19)).toNatClampNeg v2) 110 (((hu (hu I 108 ((I 92 19)).toNatClampNeg v1) 109 (((hu I 108 ((I 92 19)).toNatClampNeg v1) 92 19)).toNatClampNeg v2) 92 19)).toNatClampNeg v3) 92 19 (((hu (hu (hu I 108 ((I 92 19)).toNatClampNeg v1) 109 (((hu I 108 ((I 92 19)).toNatClampNeg v1) 92 19)).toNatClampNeg v2) 110 (((hu (hu I 108 ((I 92 19)).toNatClampNeg v1) 109 (((hu I 108 ((I 92 19)).toNatClampNeg v1) 92 19)).toNatClampNeg v2) 92 19)).toNatClampNeg v3) 92 19) + (1 : Int32)))))))
theorem X5_follow_hy : yX5_follow.cls = RX5 ∧ yX5_follow.cls ≠ "java/lang/invoke/MethodHandle" ∧ yX5_follow.cls ≠ "java/lang/invoke/VarHandle" ∧ (parseMethodDescriptor yX5_follow.desc).map (fun d => d.parameters.length) = some 3 := by decide +kernel
theorem X5_follow_k55 : Cond.fieldLink RX5 55 "HatPinsModel" "newAhead" "[I" ∈ wsX5_follow := by decide +kernel
theorem X5_follow_k107 : Cond.fieldLink RX5 107 "HatPinsModel" "newFollows" "I" ∈ wsX5_follow := by decide +kernel
theorem X5_follow_k58 : Cond.fieldLink RX5 58 "HatPinsModel" "newAfter" "[I" ∈ wsX5_follow := by decide +kernel
theorem X5_follow_k61 : Cond.fieldLink RX5 61 "HatPinsModel" "newLater" "[I" ∈ wsX5_follow := by decide +kernel
theorem X5_follow_w5 : ∀ w ∈ wsX50, w ∈ wsX5_follow := by decide +kernel
set_option maxHeartbeats 4000000 in
set_option maxRecDepth 100000 in
theorem X5_follow_ok {sh : List hS} {r : Int32} {I I2 : hM} {v1 : Int32} {v2 : Int32} {v3 : Int32} (hf0 : hq_X5 sh) (h : X5_follow v1 v2 v3 I = some (r, I2)) : hp_C yX5_follow wsX5_follow 0 0 0 sh I [.ref 92, .int v1, .int v2, .int v3] none sh I2 := hp_start (cc := cX5_follow) (maxL := 4) (ret := none) [(0, .ref 92), (1, .int v1), (2, .int v2), (3, .int v3)] (by decide) rfl (fun _ _ => rfl) (fun _ _ => Nat.le_of_ble_eq_true rfl) (fun p l e s m below meth c D E b z hX _ => by
  unfold X5_follow at h
  refine hj_aload_n hX rfl 0 rfl dX5_follow_0 ?_
  refine hj_getr hX (j := 20) hf0.1 rfl rfl X5_follow_w5 (Nat.le_of_ble_eq_true rfl) rfl X5_follow_k55 dX5_follow_1 ?_
  refine hj_aload_n hX rfl 0 rfl dX5_follow_4 ?_
  refine hj_geti hX (j := 19) hf0.1 rfl rfl X5_follow_w5 (Nat.le_of_ble_eq_true rfl) rfl X5_follow_k107 dX5_follow_5 ?_
  refine hj_iload_n hX rfl 1 rfl dX5_follow_8 ?_
  refine hj_iast hX hf0.2.2.2.2.2.2.2.2.2.2.2.2.2.2.2.2.1 dX5_follow_9 h (fun h => ?_)
  refine hj_aload_n hX rfl 0 rfl dX5_follow_10 ?_
  refine hj_getr hX (j := 21) hf0.1 rfl rfl X5_follow_w5 (Nat.le_of_ble_eq_true rfl) rfl X5_follow_k58 dX5_follow_11 ?_
  refine hj_aload_n hX rfl 0 rfl dX5_follow_14 ?_
  refine hj_geti hX (j := 19) hf0.1 rfl rfl X5_follow_w5 (Nat.le_of_ble_eq_true rfl) rfl X5_follow_k107 dX5_follow_15 ?_
  refine hj_iload_n hX rfl 2 rfl dX5_follow_18 ?_
  refine hj_iast hX hf0.2.2.2.2.2.2.2.2.2.2.2.2.2.2.2.2.2.1 dX5_follow_19 h (fun h => ?_)
  refine hj_aload_n hX rfl 0 rfl dX5_follow_20 ?_
  refine hj_getr hX (j := 22) hf0.1 rfl rfl X5_follow_w5 (Nat.le_of_ble_eq_true rfl) rfl X5_follow_k61 dX5_follow_21 ?_
  refine hj_aload_n hX rfl 0 rfl dX5_follow_24 ?_
  refine hj_geti hX (j := 19) hf0.1 rfl rfl X5_follow_w5 (Nat.le_of_ble_eq_true rfl) rfl X5_follow_k107 dX5_follow_25 ?_
  refine hj_iload_n hX rfl 3 rfl dX5_follow_28 ?_
  refine hj_iast hX hf0.2.2.2.2.2.2.2.2.2.2.2.2.2.2.2.2.2.2.1 dX5_follow_29 h (fun h => ?_)
  refine hj_aload_n hX rfl 0 rfl dX5_follow_30 ?_
  refine hj_dup hX rfl dX5_follow_31 ?_
  refine hj_geti hX (j := 19) hf0.1 rfl rfl X5_follow_w5 (Nat.le_of_ble_eq_true rfl) rfl X5_follow_k107 dX5_follow_32 ?_
  refine hj_iconst hX (v := (1 : Int32)) (by decide) dX5_follow_35 ?_
  refine hj_iadd hX dX5_follow_36 ?_
  refine hj_puti hX (j := 19) hf0.1 rfl rfl X5_follow_w5 (Nat.le_of_ble_eq_true rfl) rfl X5_follow_k107 tyX5_ok nmX5 rfl (by decide +kernel) dX5_follow_37 ?_
  exact hj_vret hX dX5_follow_40 h)
def X5_settles_b126 (k26 : Int32 → hM → Option (Int32 × hM)) (v1 : Int32) (t1 : Int32) (I : hM) : Option (Int32 × hM) := gd (hx t1 240) ((k26 (v1 + (1 : Int32)) (hu I 113 (t1).toNatClampNeg (-1 : Int32))))
def X5_settles_b257 (I : hM) : Option (Int32 × hM) := gd (hx (18 : Int32) 240) (gd (hx (19 : Int32) 240) (some (0, (hu (hu I 113 ((18 : Int32)).toNatClampNeg (0 : Int32)) 113 ((19 : Int32)).toNatClampNeg (0 : Int32)))))
def X5_settles_h195 (k195 : Int32 → hM → Option (Int32 × hM)) (v1 : Int32) (I : hM) : Option (Int32 × hM) := if (4 : Int32) ≤ v1 then (X5_settles_b257 I) else (gd (hx v1 4) (gd (hx v1 4) (gd (hx v1 4) (gd (hx v1 4) (if ((hu (hu I 101 (v1).toNatClampNeg (I 111 (v1).toNatClampNeg)) 102 (v1).toNatClampNeg ((hu I 101 (v1).toNatClampNeg (I 111 (v1).toNatClampNeg)) 112 (v1).toNatClampNeg)) 92 10) ≤ v1 then (gd (hx ((14 : Int32) + v1) 240) ((k195 (v1 + (1 : Int32)) (hu (hu (hu I 101 (v1).toNatClampNeg (I 111 (v1).toNatClampNeg)) 102 (v1).toNatClampNeg ((hu I 101 (v1).toNatClampNeg (I 111 (v1).toNatClampNeg)) 112 (v1).toNatClampNeg)) 113 (((14 : Int32) + v1)).toNatClampNeg (0 : Int32))))) else (gd (hx v1 4) (gd (hx ((14 : Int32) + v1) 240) ((k195 (v1 + (1 : Int32)) (hu (hu (hu I 101 (v1).toNatClampNeg (I 111 (v1).toNatClampNeg)) 102 (v1).toNatClampNeg ((hu I 101 (v1).toNatClampNeg (I 111 (v1).toNatClampNeg)) 112 (v1).toNatClampNeg)) 113 (((14 : Int32) + v1)).toNatClampNeg ((hu (hu I 101 (v1).toNatClampNeg (I 111 (v1).toNatClampNeg)) 102 (v1).toNatClampNeg ((hu I 101 (v1).toNatClampNeg (I 111 (v1).toNatClampNeg)) 112 (v1).toNatClampNeg)) 101 (v1).toNatClampNeg)))))))))))
def X5_settles_l195 : Nat → Int32 → hM → Option (Int32 × hM)
  | 0 => fun _ _ => none
  | n + 1 => X5_settles_h195   (X5_settles_l195   n)
def X5_settles_h145 (k145 : Int32 → hM → Option (Int32 × hM)) (v1 : Int32) (I : hM) : Option (Int32 × hM) := if (6 : Int32) ≤ v1 then ((X5_settles_l195 hF (0 : Int32) I)) else (gd (hx v1 6) (gd (hx v1 6) (gd (hx v1 6) (gd (hx v1 6) (gd (hx v1 6) (gd (hx v1 6) ((k145 (v1 + (1 : Int32)) (hu (hu (hu I 98 (v1).toNatClampNeg (I 108 (v1).toNatClampNeg)) 99 (v1).toNatClampNeg ((hu I 98 (v1).toNatClampNeg (I 108 (v1).toNatClampNeg)) 109 (v1).toNatClampNeg)) 100 (v1).toNatClampNeg ((hu (hu I 98 (v1).toNatClampNeg (I 108 (v1).toNatClampNeg)) 99 (v1).toNatClampNeg ((hu I 98 (v1).toNatClampNeg (I 108 (v1).toNatClampNeg)) 109 (v1).toNatClampNeg)) 110 (v1).toNatClampNeg))))))))))
def X5_settles_l145 : Nat → Int32 → hM → Option (Int32 × hM)
  | 0 => fun _ _ => none
  | n + 1 => X5_settles_h145   (X5_settles_l145   n)
def X5_settles_h26 (k26 : Int32 → hM → Option (Int32 × hM)) (v1 : Int32) (I : hM) : Option (Int32 × hM) := if (7 : Int32) ≤ v1 then ((X5_settles_l145 hF (0 : Int32) I)) else (gd (hx v1 7) (gd (hx v1 7) (gd (hx v1 7) (gd (hx v1 7) (gd (hx v1 7) (gd (hx v1 7) (gd (hx v1 7) (gd (hx v1 7) (gd (hx v1 7) (gd (hx v1 7) (gd (hx v1 240) (if ((hu (hu (hu (hu (hu (hu I 93 (v1).toNatClampNeg (I 103 (v1).toNatClampNeg)) 94 (v1).toNatClampNeg ((hu I 93 (v1).toNatClampNeg (I 103 (v1).toNatClampNeg)) 104 (v1).toNatClampNeg)) 95 (v1).toNatClampNeg ((hu (hu I 93 (v1).toNatClampNeg (I 103 (v1).toNatClampNeg)) 94 (v1).toNatClampNeg ((hu I 93 (v1).toNatClampNeg (I 103 (v1).toNatClampNeg)) 104 (v1).toNatClampNeg)) 105 (v1).toNatClampNeg)) 96 (v1).toNatClampNeg ((hu (hu (hu I 93 (v1).toNatClampNeg (I 103 (v1).toNatClampNeg)) 94 (v1).toNatClampNeg ((hu I 93 (v1).toNatClampNeg (I 103 (v1).toNatClampNeg)) 104 (v1).toNatClampNeg)) 95 (v1).toNatClampNeg ((hu (hu I 93 (v1).toNatClampNeg (I 103 (v1).toNatClampNeg)) 94 (v1).toNatClampNeg ((hu I 93 (v1).toNatClampNeg (I 103 (v1).toNatClampNeg)) 104 (v1).toNatClampNeg)) 105 (v1).toNatClampNeg)) 106 (v1).toNatClampNeg)) 97 (v1).toNatClampNeg ((hu (hu (hu (hu I 93 (v1).toNatClampNeg (I 103 (v1).toNatClampNeg)) 94 (v1).toNatClampNeg ((hu I 93 (v1).toNatClampNeg (I 103 (v1).toNatClampNeg)) 104 (v1).toNatClampNeg)) 95 (v1).toNatClampNeg ((hu (hu I 93 (v1).toNatClampNeg (I 103 (v1).toNatClampNeg)) 94 (v1).toNatClampNeg ((hu I 93 (v1).toNatClampNeg (I 103 (v1).toNatClampNeg)) 104 (v1).toNatClampNeg)) 105 (v1).toNatClampNeg)) 96 (v1).toNatClampNeg ((hu (hu (hu I 93 (v1).toNatClampNeg (I 103 (v1).toNatClampNeg)) 94 (v1).toNatClampNeg ((hu I 93 (v1).toNatClampNeg (I 103 (v1).toNatClampNeg)) 104 (v1).toNatClampNeg)) 95 (v1).toNatClampNeg ((hu (hu I 93 (v1).toNatClampNeg (I 103 (v1).toNatClampNeg)) 94 (v1).toNatClampNeg ((hu I 93 (v1).toNatClampNeg (I 103 (v1).toNatClampNeg)) 104 (v1).toNatClampNeg)) 105 (v1).toNatClampNeg)) 106 (v1).toNatClampNeg)) 107 (v1).toNatClampNeg)) 113 (v1).toNatClampNeg (0 : Int32)) 92 0) ≤ v1 then ((X5_settles_b126 k26 v1 ((7 : Int32) + v1) (hu (hu (hu (hu (hu (hu I 93 (v1).toNatClampNeg (I 103 (v1).toNatClampNeg)) 94 (v1).toNatClampNeg ((hu I 93 (v1).toNatClampNeg (I 103 (v1).toNatClampNeg)) 104 (v1).toNatClampNeg)) 95 (v1).toNatClampNeg ((hu (hu I 93 (v1).toNatClampNeg (I 103 (v1).toNatClampNeg)) 94 (v1).toNatClampNeg ((hu I 93 (v1).toNatClampNeg (I 103 (v1).toNatClampNeg)) 104 (v1).toNatClampNeg)) 105 (v1).toNatClampNeg)) 96 (v1).toNatClampNeg ((hu (hu (hu I 93 (v1).toNatClampNeg (I 103 (v1).toNatClampNeg)) 94 (v1).toNatClampNeg ((hu I 93 (v1).toNatClampNeg (I 103 (v1).toNatClampNeg)) 104 (v1).toNatClampNeg)) 95 (v1).toNatClampNeg ((hu (hu I 93 (v1).toNatClampNeg (I 103 (v1).toNatClampNeg)) 94 (v1).toNatClampNeg ((hu I 93 (v1).toNatClampNeg (I 103 (v1).toNatClampNeg)) 104 (v1).toNatClampNeg)) 105 (v1).toNatClampNeg)) 106 (v1).toNatClampNeg)) 97 (v1).toNatClampNeg ((hu (hu (hu (hu I 93 (v1).toNatClampNeg (I 103 (v1).toNatClampNeg)) 94 (v1).toNatClampNeg ((hu I 93 (v1).toNatClampNeg (I 103 (v1).toNatClampNeg)) 104 (v1).toNatClampNeg)) 95 (v1).toNatClampNeg ((hu (hu I 93 (v1).toNatClampNeg (I 103 (v1).toNatClampNeg)) 94 (v1).toNatClampNeg ((hu I 93 (v1).toNatClampNeg (I 103 (v1).toNatClampNeg)) 104 (v1).toNatClampNeg)) 105 (v1).toNatClampNeg)) 96 (v1).toNatClampNeg ((hu (hu (hu I 93 (v1).toNatClampNeg (I 103 (v1).toNatClampNeg)) 94 (v1).toNatClampNeg ((hu I 93 (v1).toNatClampNeg (I 103 (v1).toNatClampNeg)) 104 (v1).toNatClampNeg)) 95 (v1).toNatClampNeg ((hu (hu I 93 (v1).toNatClampNeg (I 103 (v1).toNatClampNeg)) 94 (v1).toNatClampNeg ((hu I 93 (v1).toNatClampNeg (I 103 (v1).toNatClampNeg)) 104 (v1).toNatClampNeg)) 105 (v1).toNatClampNeg)) 106 (v1).toNatClampNeg)) 107 (v1).toNatClampNeg)) 113 (v1).toNatClampNeg (0 : Int32)))) else (gd (hx v1 7) (if ((hu (hu (hu (hu (hu (hu I 93 (v1).toNatClampNeg (I 103 (v1).toNatClampNeg)) 94 (v1).toNatClampNeg ((hu I 93 (v1).toNatClampNeg (I 103 (v1).toNatClampNeg)) 104 (v1).toNatClampNeg)) 95 (v1).toNatClampNeg ((hu (hu I 93 (v1).toNatClampNeg (I 103 (v1).toNatClampNeg)) 94 (v1).toNatClampNeg ((hu I 93 (v1).toNatClampNeg (I 103 (v1).toNatClampNeg)) 104 (v1).toNatClampNeg)) 105 (v1).toNatClampNeg)) 96 (v1).toNatClampNeg ((hu (hu (hu I 93 (v1).toNatClampNeg (I 103 (v1).toNatClampNeg)) 94 (v1).toNatClampNeg ((hu I 93 (v1).toNatClampNeg (I 103 (v1).toNatClampNeg)) 104 (v1).toNatClampNeg)) 95 (v1).toNatClampNeg ((hu (hu I 93 (v1).toNatClampNeg (I 103 (v1).toNatClampNeg)) 94 (v1).toNatClampNeg ((hu I 93 (v1).toNatClampNeg (I 103 (v1).toNatClampNeg)) 104 (v1).toNatClampNeg)) 105 (v1).toNatClampNeg)) 106 (v1).toNatClampNeg)) 97 (v1).toNatClampNeg ((hu (hu (hu (hu I 93 (v1).toNatClampNeg (I 103 (v1).toNatClampNeg)) 94 (v1).toNatClampNeg ((hu I 93 (v1).toNatClampNeg (I 103 (v1).toNatClampNeg)) 104 (v1).toNatClampNeg)) 95 (v1).toNatClampNeg ((hu (hu I 93 (v1).toNatClampNeg (I 103 (v1).toNatClampNeg)) 94 (v1).toNatClampNeg ((hu I 93 (v1).toNatClampNeg (I 103 (v1).toNatClampNeg)) 104 (v1).toNatClampNeg)) 105 (v1).toNatClampNeg)) 96 (v1).toNatClampNeg ((hu (hu (hu I 93 (v1).toNatClampNeg (I 103 (v1).toNatClampNeg)) 94 (v1).toNatClampNeg ((hu I 93 (v1).toNatClampNeg (I 103 (v1).toNatClampNeg)) 104 (v1).toNatClampNeg)) 95 (v1).toNatClampNeg ((hu (hu I 93 (v1).toNatClampNeg (I 103 (v1).toNatClampNeg)) 94 (v1).toNatClampNeg ((hu I 93 (v1).toNatClampNeg (I 103 (v1).toNatClampNeg)) 104 (v1).toNatClampNeg)) 105 (v1).toNatClampNeg)) 106 (v1).toNatClampNeg)) 107 (v1).toNatClampNeg)) 113 (v1).toNatClampNeg (0 : Int32)) 94 (v1).toNatClampNeg) = (99 : Int32) then ((X5_settles_b126 k26 v1 ((7 : Int32) + v1) (hu (hu (hu (hu (hu (hu I 93 (v1).toNatClampNeg (I 103 (v1).toNatClampNeg)) 94 (v1).toNatClampNeg ((hu I 93 (v1).toNatClampNeg (I 103 (v1).toNatClampNeg)) 104 (v1).toNatClampNeg)) 95 (v1).toNatClampNeg ((hu (hu I 93 (v1).toNatClampNeg (I 103 (v1).toNatClampNeg)) 94 (v1).toNatClampNeg ((hu I 93 (v1).toNatClampNeg (I 103 (v1).toNatClampNeg)) 104 (v1).toNatClampNeg)) 105 (v1).toNatClampNeg)) 96 (v1).toNatClampNeg ((hu (hu (hu I 93 (v1).toNatClampNeg (I 103 (v1).toNatClampNeg)) 94 (v1).toNatClampNeg ((hu I 93 (v1).toNatClampNeg (I 103 (v1).toNatClampNeg)) 104 (v1).toNatClampNeg)) 95 (v1).toNatClampNeg ((hu (hu I 93 (v1).toNatClampNeg (I 103 (v1).toNatClampNeg)) 94 (v1).toNatClampNeg ((hu I 93 (v1).toNatClampNeg (I 103 (v1).toNatClampNeg)) 104 (v1).toNatClampNeg)) 105 (v1).toNatClampNeg)) 106 (v1).toNatClampNeg)) 97 (v1).toNatClampNeg ((hu (hu (hu (hu I 93 (v1).toNatClampNeg (I 103 (v1).toNatClampNeg)) 94 (v1).toNatClampNeg ((hu I 93 (v1).toNatClampNeg (I 103 (v1).toNatClampNeg)) 104 (v1).toNatClampNeg)) 95 (v1).toNatClampNeg ((hu (hu I 93 (v1).toNatClampNeg (I 103 (v1).toNatClampNeg)) 94 (v1).toNatClampNeg ((hu I 93 (v1).toNatClampNeg (I 103 (v1).toNatClampNeg)) 104 (v1).toNatClampNeg)) 105 (v1).toNatClampNeg)) 96 (v1).toNatClampNeg ((hu (hu (hu I 93 (v1).toNatClampNeg (I 103 (v1).toNatClampNeg)) 94 (v1).toNatClampNeg ((hu I 93 (v1).toNatClampNeg (I 103 (v1).toNatClampNeg)) 104 (v1).toNatClampNeg)) 95 (v1).toNatClampNeg ((hu (hu I 93 (v1).toNatClampNeg (I 103 (v1).toNatClampNeg)) 94 (v1).toNatClampNeg ((hu I 93 (v1).toNatClampNeg (I 103 (v1).toNatClampNeg)) 104 (v1).toNatClampNeg)) 105 (v1).toNatClampNeg)) 106 (v1).toNatClampNeg)) 107 (v1).toNatClampNeg)) 113 (v1).toNatClampNeg (0 : Int32)))) else (gd (hx v1 7) (gd (hx ((7 : Int32) + v1) 240) ((k26 (v1 + (1 : Int32)) (hu (hu (hu (hu (hu (hu (hu I 93 (v1).toNatClampNeg (I 103 (v1).toNatClampNeg)) 94 (v1).toNatClampNeg ((hu I 93 (v1).toNatClampNeg (I 103 (v1).toNatClampNeg)) 104 (v1).toNatClampNeg)) 95 (v1).toNatClampNeg ((hu (hu I 93 (v1).toNatClampNeg (I 103 (v1).toNatClampNeg)) 94 (v1).toNatClampNeg ((hu I 93 (v1).toNatClampNeg (I 103 (v1).toNatClampNeg)) 104 (v1).toNatClampNeg)) 105 (v1).toNatClampNeg)) 96 (v1).toNatClampNeg ((hu (hu (hu I 93 (v1).toNatClampNeg (I 103 (v1).toNatClampNeg)) 94 (v1).toNatClampNeg ((hu I 93 (v1).toNatClampNeg (I 103 (v1).toNatClampNeg)) 104 (v1).toNatClampNeg)) 95 (v1).toNatClampNeg ((hu (hu I 93 (v1).toNatClampNeg (I 103 (v1).toNatClampNeg)) 94 (v1).toNatClampNeg ((hu I 93 (v1).toNatClampNeg (I 103 (v1).toNatClampNeg)) 104 (v1).toNatClampNeg)) 105 (v1).toNatClampNeg)) 106 (v1).toNatClampNeg)) 97 (v1).toNatClampNeg ((hu (hu (hu (hu I 93 (v1).toNatClampNeg (I 103 (v1).toNatClampNeg)) 94 (v1).toNatClampNeg ((hu I 93 (v1).toNatClampNeg (I 103 (v1).toNatClampNeg)) 104 (v1).toNatClampNeg)) 95 (v1).toNatClampNeg ((hu (hu I 93 (v1).toNatClampNeg (I 103 (v1).toNatClampNeg)) 94 (v1).toNatClampNeg ((hu I 93 (v1).toNatClampNeg (I 103 (v1).toNatClampNeg)) 104 (v1).toNatClampNeg)) 105 (v1).toNatClampNeg)) 96 (v1).toNatClampNeg ((hu (hu (hu I 93 (v1).toNatClampNeg (I 103 (v1).toNatClampNeg)) 94 (v1).toNatClampNeg ((hu I 93 (v1).toNatClampNeg (I 103 (v1).toNatClampNeg)) 104 (v1).toNatClampNeg)) 95 (v1).toNatClampNeg ((hu (hu I 93 (v1).toNatClampNeg (I 103 (v1).toNatClampNeg)) 94 (v1).toNatClampNeg ((hu I 93 (v1).toNatClampNeg (I 103 (v1).toNatClampNeg)) 104 (v1).toNatClampNeg)) 105 (v1).toNatClampNeg)) 106 (v1).toNatClampNeg)) 107 (v1).toNatClampNeg)) 113 (v1).toNatClampNeg (0 : Int32)) 113 (((7 : Int32) + v1)).toNatClampNeg ((hu (hu (hu (hu (hu (hu I 93 (v1).toNatClampNeg (I 103 (v1).toNatClampNeg)) 94 (v1).toNatClampNeg ((hu I 93 (v1).toNatClampNeg (I 103 (v1).toNatClampNeg)) 104 (v1).toNatClampNeg)) 95 (v1).toNatClampNeg ((hu (hu I 93 (v1).toNatClampNeg (I 103 (v1).toNatClampNeg)) 94 (v1).toNatClampNeg ((hu I 93 (v1).toNatClampNeg (I 103 (v1).toNatClampNeg)) 104 (v1).toNatClampNeg)) 105 (v1).toNatClampNeg)) 96 (v1).toNatClampNeg ((hu (hu (hu I 93 (v1).toNatClampNeg (I 103 (v1).toNatClampNeg)) 94 (v1).toNatClampNeg ((hu I 93 (v1).toNatClampNeg (I 103 (v1).toNatClampNeg)) 104 (v1).toNatClampNeg)) 95 (v1).toNatClampNeg ((hu (hu I 93 (v1).toNatClampNeg (I 103 (v1).toNatClampNeg)) 94 (v1).toNatClampNeg ((hu I 93 (v1).toNatClampNeg (I 103 (v1).toNatClampNeg)) 104 (v1).toNatClampNeg)) 105 (v1).toNatClampNeg)) 106 (v1).toNatClampNeg)) 97 (v1).toNatClampNeg ((hu (hu (hu (hu I 93 (v1).toNatClampNeg (I 103 (v1).toNatClampNeg)) 94 (v1).toNatClampNeg ((hu I 93 (v1).toNatClampNeg (I 103 (v1).toNatClampNeg)) 104 (v1).toNatClampNeg)) 95 (v1).toNatClampNeg ((hu (hu I 93 (v1).toNatClampNeg (I 103 (v1).toNatClampNeg)) 94 (v1).toNatClampNeg ((hu I 93 (v1).toNatClampNeg (I 103 (v1).toNatClampNeg)) 104 (v1).toNatClampNeg)) 105 (v1).toNatClampNeg)) 96 (v1).toNatClampNeg ((hu (hu (hu I 93 (v1).toNatClampNeg (I 103 (v1).toNatClampNeg)) 94 (v1).toNatClampNeg ((hu I 93 (v1).toNatClampNeg (I 103 (v1).toNatClampNeg)) 104 (v1).toNatClampNeg)) 95 (v1).toNatClampNeg ((hu (hu I 93 (v1).toNatClampNeg (I 103 (v1).toNatClampNeg)) 94 (v1).toNatClampNeg ((hu I 93 (v1).toNatClampNeg (I 103 (v1).toNatClampNeg)) 104 (v1).toNatClampNeg)) 105 (v1).toNatClampNeg)) 106 (v1).toNatClampNeg)) 107 (v1).toNatClampNeg)) 113 (v1).toNatClampNeg (0 : Int32)) 94 (v1).toNatClampNeg))))))))))))))))))))
def X5_settles_l26 : Nat → Int32 → hM → Option (Int32 × hM)
  | 0 => fun _ _ => none
  | n + 1 => X5_settles_h26   (X5_settles_l26   n)
def X5_settles (I : hM) : Option (Int32 × hM) := (X5_settles_l26 hF (0 : Int32) (hu (hu (hu I 92 0 (I 92 13)) 92 6 ((hu I 92 0 (I 92 13)) 92 19)) 92 10 ((hu (hu I 92 0 (I 92 13)) 92 6 ((hu I 92 0 (I 92 13)) 92 19)) 92 23)))
theorem X5_settles_hy : yX5_settles.cls = RX5 ∧ yX5_settles.cls ≠ "java/lang/invoke/MethodHandle" ∧ yX5_settles.cls ≠ "java/lang/invoke/VarHandle" ∧ (parseMethodDescriptor yX5_settles.desc).map (fun d => d.parameters.length) = some 0 := by decide +kernel
theorem X5_settles_k104 : Cond.fieldLink RX5 104 "HatPinsModel" "newMany" "I" ∈ wsX5_settles := by decide +kernel
theorem X5_settles_k110 : Cond.fieldLink RX5 110 "HatPinsModel" "many" "I" ∈ wsX5_settles := by decide +kernel
theorem X5_settles_k107 : Cond.fieldLink RX5 107 "HatPinsModel" "newFollows" "I" ∈ wsX5_settles := by decide +kernel
theorem X5_settles_k113 : Cond.fieldLink RX5 113 "HatPinsModel" "follows" "I" ∈ wsX5_settles := by decide +kernel
theorem X5_settles_k98 : Cond.fieldLink RX5 98 "HatPinsModel" "newLadies" "I" ∈ wsX5_settles := by decide +kernel
theorem X5_settles_k116 : Cond.fieldLink RX5 116 "HatPinsModel" "ladies" "I" ∈ wsX5_settles := by decide +kernel
theorem X5_settles_k7 : Cond.fieldLink RX5 7 "HatPinsModel" "sort" "[I" ∈ wsX5_settles := by decide +kernel
theorem X5_settles_k40 : Cond.fieldLink RX5 40 "HatPinsModel" "newSort" "[I" ∈ wsX5_settles := by decide +kernel
theorem X5_settles_k13 : Cond.fieldLink RX5 13 "HatPinsModel" "begins" "[I" ∈ wsX5_settles := by decide +kernel
theorem X5_settles_k43 : Cond.fieldLink RX5 43 "HatPinsModel" "newBegins" "[I" ∈ wsX5_settles := by decide +kernel
theorem X5_settles_k16 : Cond.fieldLink RX5 16 "HatPinsModel" "joy" "[I" ∈ wsX5_settles := by decide +kernel
theorem X5_settles_k46 : Cond.fieldLink RX5 46 "HatPinsModel" "newJoy" "[I" ∈ wsX5_settles := by decide +kernel
theorem X5_settles_k19 : Cond.fieldLink RX5 19 "HatPinsModel" "wane" "[I" ∈ wsX5_settles := by decide +kernel
theorem X5_settles_k49 : Cond.fieldLink RX5 49 "HatPinsModel" "newWane" "[I" ∈ wsX5_settles := by decide +kernel
theorem X5_settles_k22 : Cond.fieldLink RX5 22 "HatPinsModel" "goes" "[I" ∈ wsX5_settles := by decide +kernel
theorem X5_settles_k52 : Cond.fieldLink RX5 52 "HatPinsModel" "newGoes" "[I" ∈ wsX5_settles := by decide +kernel
theorem X5_settles_k70 : Cond.fieldLink RX5 70 "HatPinsModel" "slot" "[I" ∈ wsX5_settles := by decide +kernel
theorem X5_settles_k25 : Cond.fieldLink RX5 25 "HatPinsModel" "ahead" "[I" ∈ wsX5_settles := by decide +kernel
theorem X5_settles_k55 : Cond.fieldLink RX5 55 "HatPinsModel" "newAhead" "[I" ∈ wsX5_settles := by decide +kernel
theorem X5_settles_k28 : Cond.fieldLink RX5 28 "HatPinsModel" "after" "[I" ∈ wsX5_settles := by decide +kernel
theorem X5_settles_k58 : Cond.fieldLink RX5 58 "HatPinsModel" "newAfter" "[I" ∈ wsX5_settles := by decide +kernel
theorem X5_settles_k31 : Cond.fieldLink RX5 31 "HatPinsModel" "later" "[I" ∈ wsX5_settles := by decide +kernel
theorem X5_settles_k61 : Cond.fieldLink RX5 61 "HatPinsModel" "newLater" "[I" ∈ wsX5_settles := by decide +kernel
theorem X5_settles_k34 : Cond.fieldLink RX5 34 "HatPinsModel" "first" "[I" ∈ wsX5_settles := by decide +kernel
theorem X5_settles_k64 : Cond.fieldLink RX5 64 "HatPinsModel" "newFirst" "[I" ∈ wsX5_settles := by decide +kernel
theorem X5_settles_k37 : Cond.fieldLink RX5 37 "HatPinsModel" "reach" "[I" ∈ wsX5_settles := by decide +kernel
theorem X5_settles_k67 : Cond.fieldLink RX5 67 "HatPinsModel" "newReach" "[I" ∈ wsX5_settles := by decide +kernel
theorem X5_settles_w5 : ∀ w ∈ wsX50, w ∈ wsX5_settles := by decide +kernel
set_option maxHeartbeats 4000000 in
set_option maxRecDepth 100000 in
theorem X5_settles_b126_ok {p : Program} {l : Launch} {e : Env} {s : State} {m : MethodId} {args : Array Value} {below : List Frame} {meth : Method} {c : Code} {D : va_G} {E : Nat → ClassId} {b z : Nat} {sh : List hS} {r : Int32} {I2 : hM} {k26 : Int32 → hM → Option (Int32 × hM)} {v1 : Int32} {t1 : Int32} {I : hM} (hX : hp_X p s m args meth c yX5_settles.cls cX5_settles 2 wsX5_settles D E none yX5_settles.name) (hf0 : hq_X5 sh) (hk26 : ∀ (v1 : Int32) (I : hM), k26 v1 I = some (r, I2) → hp_J p l e ({ frames := 0, cells := 0, slots := 0, locals := 44 * 0 }) s m args below meth c (MQ below (hp_Q D E b z none sh I2) args s 0 0 (fun q : Nat => b ≤ q)) D E b z 2 sh 0 0 I 26 [(0, .ref 92), (1, .int v1)] []) (h : X5_settles_b126 k26 v1 t1 I = some (r, I2)) : hp_J p l e ({ frames := 0, cells := 0, slots := 0, locals := 44 * 0 }) s m args below meth c (MQ below (hp_Q D E b z none sh I2) args s 0 0 (fun q : Nat => b ≤ q)) D E b z 2 sh 0 0 I 126 [(0, .ref 92), (1, .int v1)] [.int t1, .ref 113] := by
  unfold X5_settles_b126 at h
  refine hj_iconst hX (v := (-1 : Int32)) (by decide) dX5_settles_126 ?_
  refine hj_goto hX (tgt := 136) (by decide) dX5_settles_127 ?_
  refine hj_iast hX hf0.2.2.2.2.2.2.2.2.2.2.2.2.2.2.2.2.2.2.2.2.2.1 dX5_settles_136 h (fun h => ?_)
  refine hj_iinc hX (k1 := 1) (v := (v1 + (1 : Int32))) rfl rfl (Nat.le_of_ble_eq_true rfl) (lv2 := [(1, .int (v1 + (1 : Int32))), (0, .ref 92)]) rfl dX5_settles_137 ?_
  refine hj_goto hX (tgt := 26) (by decide) dX5_settles_140 ?_
  refine hj_lv hX [1, 0] (lv2 := [(0, .ref 92), (1, .int (v1 + (1 : Int32)))]) rfl ?_
  exact hk26 _ _ h
set_option maxHeartbeats 4000000 in
set_option maxRecDepth 100000 in
theorem X5_settles_b257_ok {p : Program} {l : Launch} {e : Env} {s : State} {m : MethodId} {args : Array Value} {below : List Frame} {meth : Method} {c : Code} {D : va_G} {E : Nat → ClassId} {b z : Nat} {sh : List hS} {r : Int32} {I2 : hM} {I : hM} (hX : hp_X p s m args meth c yX5_settles.cls cX5_settles 2 wsX5_settles D E none yX5_settles.name) (hf0 : hq_X5 sh) (h : X5_settles_b257 I = some (r, I2)) : hp_J p l e ({ frames := 0, cells := 0, slots := 0, locals := 44 * 0 }) s m args below meth c (MQ below (hp_Q D E b z none sh I2) args s 0 0 (fun q : Nat => b ≤ q)) D E b z 2 sh 0 0 I 257 [(0, .ref 92)] [] := by
  unfold X5_settles_b257 at h
  refine hj_aload_n hX rfl 0 rfl dX5_settles_257 ?_
  refine hj_getr hX (j := 26) hf0.1 rfl rfl X5_settles_w5 (Nat.le_of_ble_eq_true rfl) rfl X5_settles_k70 dX5_settles_258 ?_
  refine hj_bipush hX (v := (18 : Int32)) (by decide) dX5_settles_261 ?_
  refine hj_iconst hX (v := (0 : Int32)) (by decide) dX5_settles_263 ?_
  refine hj_iast hX hf0.2.2.2.2.2.2.2.2.2.2.2.2.2.2.2.2.2.2.2.2.2.1 dX5_settles_264 h (fun h => ?_)
  refine hj_aload_n hX rfl 0 rfl dX5_settles_265 ?_
  refine hj_getr hX (j := 26) hf0.1 rfl rfl X5_settles_w5 (Nat.le_of_ble_eq_true rfl) rfl X5_settles_k70 dX5_settles_266 ?_
  refine hj_bipush hX (v := (19 : Int32)) (by decide) dX5_settles_269 ?_
  refine hj_iconst hX (v := (0 : Int32)) (by decide) dX5_settles_271 ?_
  refine hj_iast hX hf0.2.2.2.2.2.2.2.2.2.2.2.2.2.2.2.2.2.2.2.2.2.1 dX5_settles_272 h (fun h => ?_)
  exact hj_vret hX dX5_settles_273 h
set_option maxHeartbeats 4000000 in
set_option maxRecDepth 100000 in
theorem X5_settles_h195_ok {p : Program} {l : Launch} {e : Env} {s : State} {m : MethodId} {args : Array Value} {below : List Frame} {meth : Method} {c : Code} {D : va_G} {E : Nat → ClassId} {b z : Nat} {sh : List hS} {r : Int32} {I2 : hM} {k195 : Int32 → hM → Option (Int32 × hM)} {v1 : Int32} {I : hM} (hX : hp_X p s m args meth c yX5_settles.cls cX5_settles 2 wsX5_settles D E none yX5_settles.name) (hf0 : hq_X5 sh) (hk195 : ∀ (v1 : Int32) (I : hM), k195 v1 I = some (r, I2) → hp_J p l e ({ frames := 0, cells := 0, slots := 0, locals := 44 * 0 }) s m args below meth c (MQ below (hp_Q D E b z none sh I2) args s 0 0 (fun q : Nat => b ≤ q)) D E b z 2 sh 0 0 I 195 [(0, .ref 92), (1, .int v1)] []) (h : X5_settles_h195 k195 v1 I = some (r, I2)) : hp_J p l e ({ frames := 0, cells := 0, slots := 0, locals := 44 * 0 }) s m args below meth c (MQ below (hp_Q D E b z none sh I2) args s 0 0 (fun q : Nat => b ≤ q)) D E b z 2 sh 0 0 I 195 [(0, .ref 92), (1, .int v1)] [] := by
  unfold X5_settles_h195 at h
  refine hj_iload_n hX rfl 1 rfl dX5_settles_195 ?_
  refine hj_iconst hX (v := (4 : Int32)) (by decide) dX5_settles_196 ?_
  refine hj_icmp_ge hX (tgt := 257) (by decide) dX5_settles_197 h (fun h => ?_) (fun h => ?_)
  · refine hj_lv hX [0] (lv2 := [(0, .ref 92)]) rfl ?_
    exact X5_settles_b257_ok hX hf0 h
  · refine hj_aload_n hX rfl 0 rfl dX5_settles_200 ?_
    refine hj_getr hX (j := 11) hf0.1 rfl rfl X5_settles_w5 (Nat.le_of_ble_eq_true rfl) rfl X5_settles_k34 dX5_settles_201 ?_
    refine hj_iload_n hX rfl 1 rfl dX5_settles_204 ?_
    refine hj_aload_n hX rfl 0 rfl dX5_settles_205 ?_
    refine hj_getr hX (j := 24) hf0.1 rfl rfl X5_settles_w5 (Nat.le_of_ble_eq_true rfl) rfl X5_settles_k64 dX5_settles_206 ?_
    refine hj_iload_n hX rfl 1 rfl dX5_settles_209 ?_
    refine hj_iald hX hf0.2.2.2.2.2.2.2.2.2.2.2.2.2.2.2.2.2.2.2.1 dX5_settles_210 h (fun h => ?_)
    refine hj_iast hX hf0.2.2.2.2.2.2.2.2.2.1 dX5_settles_211 h (fun h => ?_)
    refine hj_aload_n hX rfl 0 rfl dX5_settles_212 ?_
    refine hj_getr hX (j := 12) hf0.1 rfl rfl X5_settles_w5 (Nat.le_of_ble_eq_true rfl) rfl X5_settles_k37 dX5_settles_213 ?_
    refine hj_iload_n hX rfl 1 rfl dX5_settles_216 ?_
    refine hj_aload_n hX rfl 0 rfl dX5_settles_217 ?_
    refine hj_getr hX (j := 25) hf0.1 rfl rfl X5_settles_w5 (Nat.le_of_ble_eq_true rfl) rfl X5_settles_k67 dX5_settles_218 ?_
    refine hj_iload_n hX rfl 1 rfl dX5_settles_221 ?_
    refine hj_iald hX hf0.2.2.2.2.2.2.2.2.2.2.2.2.2.2.2.2.2.2.2.2.1 dX5_settles_222 h (fun h => ?_)
    refine hj_iast hX hf0.2.2.2.2.2.2.2.2.2.2.1 dX5_settles_223 h (fun h => ?_)
    refine hj_aload_n hX rfl 0 rfl dX5_settles_224 ?_
    refine hj_getr hX (j := 26) hf0.1 rfl rfl X5_settles_w5 (Nat.le_of_ble_eq_true rfl) rfl X5_settles_k70 dX5_settles_225 ?_
    refine hj_bipush hX (v := (14 : Int32)) (by decide) dX5_settles_228 ?_
    refine hj_iload_n hX rfl 1 rfl dX5_settles_230 ?_
    refine hj_iadd hX dX5_settles_231 ?_
    refine hj_iload_n hX rfl 1 rfl dX5_settles_232 ?_
    refine hj_aload_n hX rfl 0 rfl dX5_settles_233 ?_
    refine hj_geti hX (j := 10) hf0.1 rfl rfl X5_settles_w5 (Nat.le_of_ble_eq_true rfl) rfl X5_settles_k116 dX5_settles_234 ?_
    refine hj_icmp_ge hX (tgt := 249) (by decide) dX5_settles_237 h (fun h => ?_) (fun h => ?_)
    · refine hj_iconst hX (v := (0 : Int32)) (by decide) dX5_settles_249 ?_
      refine hj_iast hX hf0.2.2.2.2.2.2.2.2.2.2.2.2.2.2.2.2.2.2.2.2.2.1 dX5_settles_250 h (fun h => ?_)
      refine hj_iinc hX (k1 := 1) (v := (v1 + (1 : Int32))) rfl rfl (Nat.le_of_ble_eq_true rfl) (lv2 := [(1, .int (v1 + (1 : Int32))), (0, .ref 92)]) rfl dX5_settles_251 ?_
      refine hj_goto hX (tgt := 195) (by decide) dX5_settles_254 ?_
      refine hj_lv hX [1, 0] (lv2 := [(0, .ref 92), (1, .int (v1 + (1 : Int32)))]) rfl ?_
      exact hk195 _ _ h
    · refine hj_aload_n hX rfl 0 rfl dX5_settles_240 ?_
      refine hj_getr hX (j := 11) hf0.1 rfl rfl X5_settles_w5 (Nat.le_of_ble_eq_true rfl) rfl X5_settles_k34 dX5_settles_241 ?_
      refine hj_iload_n hX rfl 1 rfl dX5_settles_244 ?_
      refine hj_iald hX hf0.2.2.2.2.2.2.2.2.2.1 dX5_settles_245 h (fun h => ?_)
      refine hj_goto hX (tgt := 250) (by decide) dX5_settles_246 ?_
      refine hj_iast hX hf0.2.2.2.2.2.2.2.2.2.2.2.2.2.2.2.2.2.2.2.2.2.1 dX5_settles_250 h (fun h => ?_)
      refine hj_iinc hX (k1 := 1) (v := (v1 + (1 : Int32))) rfl rfl (Nat.le_of_ble_eq_true rfl) (lv2 := [(1, .int (v1 + (1 : Int32))), (0, .ref 92)]) rfl dX5_settles_251 ?_
      refine hj_goto hX (tgt := 195) (by decide) dX5_settles_254 ?_
      refine hj_lv hX [1, 0] (lv2 := [(0, .ref 92), (1, .int (v1 + (1 : Int32)))]) rfl ?_
      exact hk195 _ _ h
set_option maxHeartbeats 4000000 in
set_option maxRecDepth 100000 in
theorem X5_settles_l195_ok {p : Program} {l : Launch} {e : Env} {s : State} {m : MethodId} {args : Array Value} {below : List Frame} {meth : Method} {c : Code} {D : va_G} {E : Nat → ClassId} {b z : Nat} {sh : List hS} {r : Int32} {I2 : hM} (hX : hp_X p s m args meth c yX5_settles.cls cX5_settles 2 wsX5_settles D E none yX5_settles.name) (hf0 : hq_X5 sh) : ∀ (n : Nat) (v1 : Int32) (I : hM), X5_settles_l195 n v1 I = some (r, I2) → hp_J p l e ({ frames := 0, cells := 0, slots := 0, locals := 44 * 0 }) s m args below meth c (MQ below (hp_Q D E b z none sh I2) args s 0 0 (fun q : Nat => b ≤ q)) D E b z 2 sh 0 0 I 195 [(0, .ref 92), (1, .int v1)] [] := by
  intro n
  induction n with
  | zero => exact fun _ _ h => nomatch h
  | succ n ih => exact fun _ _ h => X5_settles_h195_ok hX hf0 ih h
set_option maxHeartbeats 4000000 in
set_option maxRecDepth 100000 in
theorem X5_settles_h145_ok {p : Program} {l : Launch} {e : Env} {s : State} {m : MethodId} {args : Array Value} {below : List Frame} {meth : Method} {c : Code} {D : va_G} {E : Nat → ClassId} {b z : Nat} {sh : List hS} {r : Int32} {I2 : hM} {k145 : Int32 → hM → Option (Int32 × hM)} {v1 : Int32} {I : hM} (hX : hp_X p s m args meth c yX5_settles.cls cX5_settles 2 wsX5_settles D E none yX5_settles.name) (hf0 : hq_X5 sh) (hk145 : ∀ (v1 : Int32) (I : hM), k145 v1 I = some (r, I2) → hp_J p l e ({ frames := 0, cells := 0, slots := 0, locals := 44 * 0 }) s m args below meth c (MQ below (hp_Q D E b z none sh I2) args s 0 0 (fun q : Nat => b ≤ q)) D E b z 2 sh 0 0 I 145 [(0, .ref 92), (1, .int v1)] []) (h : X5_settles_h145 k145 v1 I = some (r, I2)) : hp_J p l e ({ frames := 0, cells := 0, slots := 0, locals := 44 * 0 }) s m args below meth c (MQ below (hp_Q D E b z none sh I2) args s 0 0 (fun q : Nat => b ≤ q)) D E b z 2 sh 0 0 I 145 [(0, .ref 92), (1, .int v1)] [] := by
  unfold X5_settles_h145 at h
  refine hj_iload_n hX rfl 1 rfl dX5_settles_145 ?_
  refine hj_bipush hX (v := (6 : Int32)) (by decide) dX5_settles_146 ?_
  refine hj_icmp_ge hX (tgt := 193) (by decide) dX5_settles_148 h (fun h => ?_) (fun h => ?_)
  · refine hj_iconst hX (v := (0 : Int32)) (by decide) dX5_settles_193 ?_
    refine hj_istore_n hX rfl (Nat.le_of_ble_eq_true rfl) (lv2 := [(1, .int (0 : Int32)), (0, .ref 92)]) rfl dX5_settles_194 ?_
    refine hj_lv hX [1, 0] (lv2 := [(0, .ref 92), (1, .int (0 : Int32))]) rfl ?_
    exact X5_settles_l195_ok hX hf0 hF _ _ h
  · refine hj_aload_n hX rfl 0 rfl dX5_settles_151 ?_
    refine hj_getr hX (j := 7) hf0.1 rfl rfl X5_settles_w5 (Nat.le_of_ble_eq_true rfl) rfl X5_settles_k25 dX5_settles_152 ?_
    refine hj_iload_n hX rfl 1 rfl dX5_settles_155 ?_
    refine hj_aload_n hX rfl 0 rfl dX5_settles_156 ?_
    refine hj_getr hX (j := 20) hf0.1 rfl rfl X5_settles_w5 (Nat.le_of_ble_eq_true rfl) rfl X5_settles_k55 dX5_settles_157 ?_
    refine hj_iload_n hX rfl 1 rfl dX5_settles_160 ?_
    refine hj_iald hX hf0.2.2.2.2.2.2.2.2.2.2.2.2.2.2.2.2.1 dX5_settles_161 h (fun h => ?_)
    refine hj_iast hX hf0.2.2.2.2.2.2.1 dX5_settles_162 h (fun h => ?_)
    refine hj_aload_n hX rfl 0 rfl dX5_settles_163 ?_
    refine hj_getr hX (j := 8) hf0.1 rfl rfl X5_settles_w5 (Nat.le_of_ble_eq_true rfl) rfl X5_settles_k28 dX5_settles_164 ?_
    refine hj_iload_n hX rfl 1 rfl dX5_settles_167 ?_
    refine hj_aload_n hX rfl 0 rfl dX5_settles_168 ?_
    refine hj_getr hX (j := 21) hf0.1 rfl rfl X5_settles_w5 (Nat.le_of_ble_eq_true rfl) rfl X5_settles_k58 dX5_settles_169 ?_
    refine hj_iload_n hX rfl 1 rfl dX5_settles_172 ?_
    refine hj_iald hX hf0.2.2.2.2.2.2.2.2.2.2.2.2.2.2.2.2.2.1 dX5_settles_173 h (fun h => ?_)
    refine hj_iast hX hf0.2.2.2.2.2.2.2.1 dX5_settles_174 h (fun h => ?_)
    refine hj_aload_n hX rfl 0 rfl dX5_settles_175 ?_
    refine hj_getr hX (j := 9) hf0.1 rfl rfl X5_settles_w5 (Nat.le_of_ble_eq_true rfl) rfl X5_settles_k31 dX5_settles_176 ?_
    refine hj_iload_n hX rfl 1 rfl dX5_settles_179 ?_
    refine hj_aload_n hX rfl 0 rfl dX5_settles_180 ?_
    refine hj_getr hX (j := 22) hf0.1 rfl rfl X5_settles_w5 (Nat.le_of_ble_eq_true rfl) rfl X5_settles_k61 dX5_settles_181 ?_
    refine hj_iload_n hX rfl 1 rfl dX5_settles_184 ?_
    refine hj_iald hX hf0.2.2.2.2.2.2.2.2.2.2.2.2.2.2.2.2.2.2.1 dX5_settles_185 h (fun h => ?_)
    refine hj_iast hX hf0.2.2.2.2.2.2.2.2.1 dX5_settles_186 h (fun h => ?_)
    refine hj_iinc hX (k1 := 1) (v := (v1 + (1 : Int32))) rfl rfl (Nat.le_of_ble_eq_true rfl) (lv2 := [(1, .int (v1 + (1 : Int32))), (0, .ref 92)]) rfl dX5_settles_187 ?_
    refine hj_goto hX (tgt := 145) (by decide) dX5_settles_190 ?_
    refine hj_lv hX [1, 0] (lv2 := [(0, .ref 92), (1, .int (v1 + (1 : Int32)))]) rfl ?_
    exact hk145 _ _ h
set_option maxHeartbeats 4000000 in
set_option maxRecDepth 100000 in
theorem X5_settles_l145_ok {p : Program} {l : Launch} {e : Env} {s : State} {m : MethodId} {args : Array Value} {below : List Frame} {meth : Method} {c : Code} {D : va_G} {E : Nat → ClassId} {b z : Nat} {sh : List hS} {r : Int32} {I2 : hM} (hX : hp_X p s m args meth c yX5_settles.cls cX5_settles 2 wsX5_settles D E none yX5_settles.name) (hf0 : hq_X5 sh) : ∀ (n : Nat) (v1 : Int32) (I : hM), X5_settles_l145 n v1 I = some (r, I2) → hp_J p l e ({ frames := 0, cells := 0, slots := 0, locals := 44 * 0 }) s m args below meth c (MQ below (hp_Q D E b z none sh I2) args s 0 0 (fun q : Nat => b ≤ q)) D E b z 2 sh 0 0 I 145 [(0, .ref 92), (1, .int v1)] [] := by
  intro n
  induction n with
  | zero => exact fun _ _ h => nomatch h
  | succ n ih => exact fun _ _ h => X5_settles_h145_ok hX hf0 ih h
set_option maxHeartbeats 4000000 in
set_option maxRecDepth 100000 in
theorem X5_settles_h26_ok {p : Program} {l : Launch} {e : Env} {s : State} {m : MethodId} {args : Array Value} {below : List Frame} {meth : Method} {c : Code} {D : va_G} {E : Nat → ClassId} {b z : Nat} {sh : List hS} {r : Int32} {I2 : hM} {k26 : Int32 → hM → Option (Int32 × hM)} {v1 : Int32} {I : hM} (hX : hp_X p s m args meth c yX5_settles.cls cX5_settles 2 wsX5_settles D E none yX5_settles.name) (hf0 : hq_X5 sh) (hk26 : ∀ (v1 : Int32) (I : hM), k26 v1 I = some (r, I2) → hp_J p l e ({ frames := 0, cells := 0, slots := 0, locals := 44 * 0 }) s m args below meth c (MQ below (hp_Q D E b z none sh I2) args s 0 0 (fun q : Nat => b ≤ q)) D E b z 2 sh 0 0 I 26 [(0, .ref 92), (1, .int v1)] []) (h : X5_settles_h26 k26 v1 I = some (r, I2)) : hp_J p l e ({ frames := 0, cells := 0, slots := 0, locals := 44 * 0 }) s m args below meth c (MQ below (hp_Q D E b z none sh I2) args s 0 0 (fun q : Nat => b ≤ q)) D E b z 2 sh 0 0 I 26 [(0, .ref 92), (1, .int v1)] [] := by
  unfold X5_settles_h26 at h
  refine hj_iload_n hX rfl 1 rfl dX5_settles_26 ?_
  refine hj_bipush hX (v := (7 : Int32)) (by decide) dX5_settles_27 ?_
  refine hj_icmp_ge hX (tgt := 143) (by decide) dX5_settles_29 h (fun h => ?_) (fun h => ?_)
  · refine hj_iconst hX (v := (0 : Int32)) (by decide) dX5_settles_143 ?_
    refine hj_istore_n hX rfl (Nat.le_of_ble_eq_true rfl) (lv2 := [(1, .int (0 : Int32)), (0, .ref 92)]) rfl dX5_settles_144 ?_
    refine hj_lv hX [1, 0] (lv2 := [(0, .ref 92), (1, .int (0 : Int32))]) rfl ?_
    exact X5_settles_l145_ok hX hf0 hF _ _ h
  · refine hj_aload_n hX rfl 0 rfl dX5_settles_32 ?_
    refine hj_getr hX (j := 1) hf0.1 rfl rfl X5_settles_w5 (Nat.le_of_ble_eq_true rfl) rfl X5_settles_k7 dX5_settles_33 ?_
    refine hj_iload_n hX rfl 1 rfl dX5_settles_36 ?_
    refine hj_aload_n hX rfl 0 rfl dX5_settles_37 ?_
    refine hj_getr hX (j := 14) hf0.1 rfl rfl X5_settles_w5 (Nat.le_of_ble_eq_true rfl) rfl X5_settles_k40 dX5_settles_38 ?_
    refine hj_iload_n hX rfl 1 rfl dX5_settles_41 ?_
    refine hj_iald hX hf0.2.2.2.2.2.2.2.2.2.2.2.1 dX5_settles_42 h (fun h => ?_)
    refine hj_iast hX hf0.2.1 dX5_settles_43 h (fun h => ?_)
    refine hj_aload_n hX rfl 0 rfl dX5_settles_44 ?_
    refine hj_getr hX (j := 2) hf0.1 rfl rfl X5_settles_w5 (Nat.le_of_ble_eq_true rfl) rfl X5_settles_k13 dX5_settles_45 ?_
    refine hj_iload_n hX rfl 1 rfl dX5_settles_48 ?_
    refine hj_aload_n hX rfl 0 rfl dX5_settles_49 ?_
    refine hj_getr hX (j := 15) hf0.1 rfl rfl X5_settles_w5 (Nat.le_of_ble_eq_true rfl) rfl X5_settles_k43 dX5_settles_50 ?_
    refine hj_iload_n hX rfl 1 rfl dX5_settles_53 ?_
    refine hj_iald hX hf0.2.2.2.2.2.2.2.2.2.2.2.2.1 dX5_settles_54 h (fun h => ?_)
    refine hj_iast hX hf0.2.2.1 dX5_settles_55 h (fun h => ?_)
    refine hj_aload_n hX rfl 0 rfl dX5_settles_56 ?_
    refine hj_getr hX (j := 3) hf0.1 rfl rfl X5_settles_w5 (Nat.le_of_ble_eq_true rfl) rfl X5_settles_k16 dX5_settles_57 ?_
    refine hj_iload_n hX rfl 1 rfl dX5_settles_60 ?_
    refine hj_aload_n hX rfl 0 rfl dX5_settles_61 ?_
    refine hj_getr hX (j := 16) hf0.1 rfl rfl X5_settles_w5 (Nat.le_of_ble_eq_true rfl) rfl X5_settles_k46 dX5_settles_62 ?_
    refine hj_iload_n hX rfl 1 rfl dX5_settles_65 ?_
    refine hj_iald hX hf0.2.2.2.2.2.2.2.2.2.2.2.2.2.1 dX5_settles_66 h (fun h => ?_)
    refine hj_iast hX hf0.2.2.2.1 dX5_settles_67 h (fun h => ?_)
    refine hj_aload_n hX rfl 0 rfl dX5_settles_68 ?_
    refine hj_getr hX (j := 4) hf0.1 rfl rfl X5_settles_w5 (Nat.le_of_ble_eq_true rfl) rfl X5_settles_k19 dX5_settles_69 ?_
    refine hj_iload_n hX rfl 1 rfl dX5_settles_72 ?_
    refine hj_aload_n hX rfl 0 rfl dX5_settles_73 ?_
    refine hj_getr hX (j := 17) hf0.1 rfl rfl X5_settles_w5 (Nat.le_of_ble_eq_true rfl) rfl X5_settles_k49 dX5_settles_74 ?_
    refine hj_iload_n hX rfl 1 rfl dX5_settles_77 ?_
    refine hj_iald hX hf0.2.2.2.2.2.2.2.2.2.2.2.2.2.2.1 dX5_settles_78 h (fun h => ?_)
    refine hj_iast hX hf0.2.2.2.2.1 dX5_settles_79 h (fun h => ?_)
    refine hj_aload_n hX rfl 0 rfl dX5_settles_80 ?_
    refine hj_getr hX (j := 5) hf0.1 rfl rfl X5_settles_w5 (Nat.le_of_ble_eq_true rfl) rfl X5_settles_k22 dX5_settles_81 ?_
    refine hj_iload_n hX rfl 1 rfl dX5_settles_84 ?_
    refine hj_aload_n hX rfl 0 rfl dX5_settles_85 ?_
    refine hj_getr hX (j := 18) hf0.1 rfl rfl X5_settles_w5 (Nat.le_of_ble_eq_true rfl) rfl X5_settles_k52 dX5_settles_86 ?_
    refine hj_iload_n hX rfl 1 rfl dX5_settles_89 ?_
    refine hj_iald hX hf0.2.2.2.2.2.2.2.2.2.2.2.2.2.2.2.1 dX5_settles_90 h (fun h => ?_)
    refine hj_iast hX hf0.2.2.2.2.2.1 dX5_settles_91 h (fun h => ?_)
    refine hj_aload_n hX rfl 0 rfl dX5_settles_92 ?_
    refine hj_getr hX (j := 26) hf0.1 rfl rfl X5_settles_w5 (Nat.le_of_ble_eq_true rfl) rfl X5_settles_k70 dX5_settles_93 ?_
    refine hj_iload_n hX rfl 1 rfl dX5_settles_96 ?_
    refine hj_iconst hX (v := (0 : Int32)) (by decide) dX5_settles_97 ?_
    refine hj_iast hX hf0.2.2.2.2.2.2.2.2.2.2.2.2.2.2.2.2.2.2.2.2.2.1 dX5_settles_98 h (fun h => ?_)
    refine hj_aload_n hX rfl 0 rfl dX5_settles_99 ?_
    refine hj_getr hX (j := 26) hf0.1 rfl rfl X5_settles_w5 (Nat.le_of_ble_eq_true rfl) rfl X5_settles_k70 dX5_settles_100 ?_
    refine hj_bipush hX (v := (7 : Int32)) (by decide) dX5_settles_103 ?_
    refine hj_iload_n hX rfl 1 rfl dX5_settles_105 ?_
    refine hj_iadd hX dX5_settles_106 ?_
    refine hj_iload_n hX rfl 1 rfl dX5_settles_107 ?_
    refine hj_aload_n hX rfl 0 rfl dX5_settles_108 ?_
    refine hj_geti hX (j := 0) hf0.1 rfl rfl X5_settles_w5 (Nat.le_of_ble_eq_true rfl) rfl X5_settles_k110 dX5_settles_109 ?_
    refine hj_icmp_ge hX (tgt := 126) (by decide) dX5_settles_112 h (fun h => ?_) (fun h => ?_)
    · exact X5_settles_b126_ok hX hf0 hk26 h
    · refine hj_aload_n hX rfl 0 rfl dX5_settles_115 ?_
      refine hj_getr hX (j := 2) hf0.1 rfl rfl X5_settles_w5 (Nat.le_of_ble_eq_true rfl) rfl X5_settles_k13 dX5_settles_116 ?_
      refine hj_iload_n hX rfl 1 rfl dX5_settles_119 ?_
      refine hj_iald hX hf0.2.2.1 dX5_settles_120 h (fun h => ?_)
      refine hj_bipush hX (v := (99 : Int32)) (by decide) dX5_settles_121 ?_
      refine hj_icmp_ne hX (tgt := 130) (by decide) dX5_settles_123 h (fun h => ?_) (fun h => ?_)
      · refine hj_aload_n hX rfl 0 rfl dX5_settles_130 ?_
        refine hj_getr hX (j := 2) hf0.1 rfl rfl X5_settles_w5 (Nat.le_of_ble_eq_true rfl) rfl X5_settles_k13 dX5_settles_131 ?_
        refine hj_iload_n hX rfl 1 rfl dX5_settles_134 ?_
        refine hj_iald hX hf0.2.2.1 dX5_settles_135 h (fun h => ?_)
        refine hj_iast hX hf0.2.2.2.2.2.2.2.2.2.2.2.2.2.2.2.2.2.2.2.2.2.1 dX5_settles_136 h (fun h => ?_)
        refine hj_iinc hX (k1 := 1) (v := (v1 + (1 : Int32))) rfl rfl (Nat.le_of_ble_eq_true rfl) (lv2 := [(1, .int (v1 + (1 : Int32))), (0, .ref 92)]) rfl dX5_settles_137 ?_
        refine hj_goto hX (tgt := 26) (by decide) dX5_settles_140 ?_
        refine hj_lv hX [1, 0] (lv2 := [(0, .ref 92), (1, .int (v1 + (1 : Int32)))]) rfl ?_
        exact hk26 _ _ h
      · exact X5_settles_b126_ok hX hf0 hk26 h
set_option maxHeartbeats 4000000 in
set_option maxRecDepth 100000 in
theorem X5_settles_l26_ok {p : Program} {l : Launch} {e : Env} {s : State} {m : MethodId} {args : Array Value} {below : List Frame} {meth : Method} {c : Code} {D : va_G} {E : Nat → ClassId} {b z : Nat} {sh : List hS} {r : Int32} {I2 : hM} (hX : hp_X p s m args meth c yX5_settles.cls cX5_settles 2 wsX5_settles D E none yX5_settles.name) (hf0 : hq_X5 sh) : ∀ (n : Nat) (v1 : Int32) (I : hM), X5_settles_l26 n v1 I = some (r, I2) → hp_J p l e ({ frames := 0, cells := 0, slots := 0, locals := 44 * 0 }) s m args below meth c (MQ below (hp_Q D E b z none sh I2) args s 0 0 (fun q : Nat => b ≤ q)) D E b z 2 sh 0 0 I 26 [(0, .ref 92), (1, .int v1)] [] := by
  intro n
  induction n with
  | zero => exact fun _ _ h => nomatch h
  | succ n ih => exact fun _ _ h => X5_settles_h26_ok hX hf0 ih h
set_option maxHeartbeats 4000000 in
set_option maxRecDepth 100000 in
theorem X5_settles_ok {sh : List hS} {r : Int32} {I I2 : hM} (hf0 : hq_X5 sh) (h : X5_settles I = some (r, I2)) : hp_C yX5_settles wsX5_settles 0 0 0 sh I [.ref 92] none sh I2 := hp_start (cc := cX5_settles) (maxL := 2) (ret := none) [(0, .ref 92)] (by decide) rfl (fun _ _ => rfl) (fun _ _ => Nat.le_of_ble_eq_true rfl) (fun p l e s m below meth c D E b z hX _ => by
  unfold X5_settles at h
  refine hj_aload_n hX rfl 0 rfl dX5_settles_0 ?_
  refine hj_aload_n hX rfl 0 rfl dX5_settles_1 ?_
  refine hj_geti hX (j := 13) hf0.1 rfl rfl X5_settles_w5 (Nat.le_of_ble_eq_true rfl) rfl X5_settles_k104 dX5_settles_2 ?_
  refine hj_puti hX (j := 0) hf0.1 rfl rfl X5_settles_w5 (Nat.le_of_ble_eq_true rfl) rfl X5_settles_k110 tyX5_ok nmX5 rfl (by decide +kernel) dX5_settles_5 ?_
  refine hj_aload_n hX rfl 0 rfl dX5_settles_8 ?_
  refine hj_aload_n hX rfl 0 rfl dX5_settles_9 ?_
  refine hj_geti hX (j := 19) hf0.1 rfl rfl X5_settles_w5 (Nat.le_of_ble_eq_true rfl) rfl X5_settles_k107 dX5_settles_10 ?_
  refine hj_puti hX (j := 6) hf0.1 rfl rfl X5_settles_w5 (Nat.le_of_ble_eq_true rfl) rfl X5_settles_k113 tyX5_ok nmX5 rfl (by decide +kernel) dX5_settles_13 ?_
  refine hj_aload_n hX rfl 0 rfl dX5_settles_16 ?_
  refine hj_aload_n hX rfl 0 rfl dX5_settles_17 ?_
  refine hj_geti hX (j := 23) hf0.1 rfl rfl X5_settles_w5 (Nat.le_of_ble_eq_true rfl) rfl X5_settles_k98 dX5_settles_18 ?_
  refine hj_puti hX (j := 10) hf0.1 rfl rfl X5_settles_w5 (Nat.le_of_ble_eq_true rfl) rfl X5_settles_k116 tyX5_ok nmX5 rfl (by decide +kernel) dX5_settles_21 ?_
  refine hj_iconst hX (v := (0 : Int32)) (by decide) dX5_settles_24 ?_
  refine hj_istore_n hX rfl (Nat.le_of_ble_eq_true rfl) (lv2 := [(1, .int (0 : Int32)), (0, .ref 92)]) rfl dX5_settles_25 ?_
  refine hj_lv hX [1, 0] (lv2 := [(0, .ref 92), (1, .int (0 : Int32))]) rfl ?_
  exact X5_settles_l26_ok hX hf0 hF _ _ h)
def X5_in (v0 : Int64) (v2 : Int64) (v4 : Int64) (I : hM) : Option (Int32 × hM) := if (lg_cmp v0 v2) < 0 then (gd (decide ((0 : Int32) = (0 : Int32)) || decide ((0 : Int32) = (1 : Int32))) (some ((0 : Int32), I))) else (if 0 < (lg_cmp v0 v4) then (gd (decide ((0 : Int32) = (0 : Int32)) || decide ((0 : Int32) = (1 : Int32))) (some ((0 : Int32), I))) else (gd (decide ((1 : Int32) = (0 : Int32)) || decide ((1 : Int32) = (1 : Int32))) (some ((1 : Int32), I))))
theorem X5_in_hy : yX5_in.cls = RX5 ∧ yX5_in.cls ≠ "java/lang/invoke/MethodHandle" ∧ yX5_in.cls ≠ "java/lang/invoke/VarHandle" ∧ (parseMethodDescriptor yX5_in.desc).map (fun d => d.parameters.length) = some 3 := by decide +kernel
set_option maxHeartbeats 4000000 in
set_option maxRecDepth 100000 in
theorem X5_in_ok {sh : List hS} {r : Int32} {I I2 : hM} {v0 : Int64} {v2 : Int64} {v4 : Int64} (h : X5_in v0 v2 v4 I = some (r, I2)) : hp_C yX5_in wsX5_in 0 0 0 sh I [.long v0, .long v2, .long v4] (some (.int r)) sh I2 := hp_start (cc := cX5_in) (maxL := 6) (ret := (some .boolean)) [(0, .long v0), (2, .long v2), (4, .long v4)] (by decide) rfl (fun _ _ => rfl) (fun _ _ => Nat.le_of_ble_eq_true rfl) (fun p l e s m below meth c D E b z hX _ => by
  unfold X5_in at h
  refine hj_lload_n hX rfl 0 rfl dX5_in_0 ?_
  refine hj_lload_n hX rfl 1 rfl dX5_in_1 ?_
  refine hj_lcmp hX dX5_in_2 ?_
  refine hj_if_lt hX (tgt := 17) (by decide) dX5_in_3 h (fun h => ?_) (fun h => ?_)
  · refine hj_iconst hX (v := (0 : Int32)) (by decide) dX5_in_17 ?_
    exact hj_zret hX dX5_in_18 h
  · refine hj_lload_n hX rfl 0 rfl dX5_in_6 ?_
    refine hj_lload hX 2 rfl dX5_in_7 ?_
    refine hj_lcmp hX dX5_in_9 ?_
    refine hj_if_gt hX (tgt := 17) (by decide) dX5_in_10 h (fun h => ?_) (fun h => ?_)
    · refine hj_iconst hX (v := (0 : Int32)) (by decide) dX5_in_17 ?_
      exact hj_zret hX dX5_in_18 h
    · refine hj_iconst hX (v := (1 : Int32)) (by decide) dX5_in_13 ?_
      refine hj_goto hX (tgt := 18) (by decide) dX5_in_14 ?_
      exact hj_zret hX dX5_in_18 h)
def X5_has (v0 : Int32) (v1 : Int32) (I : hM) : Option (Int32 × hM) := if ((v0 >>> (v1 &&& 31)) &&& (1 : Int32)) = (1 : Int32) then (gd (decide ((1 : Int32) = (0 : Int32)) || decide ((1 : Int32) = (1 : Int32))) (some ((1 : Int32), I))) else (gd (decide ((0 : Int32) = (0 : Int32)) || decide ((0 : Int32) = (1 : Int32))) (some ((0 : Int32), I)))
theorem X5_has_hy : yX5_has.cls = RX5 ∧ yX5_has.cls ≠ "java/lang/invoke/MethodHandle" ∧ yX5_has.cls ≠ "java/lang/invoke/VarHandle" ∧ (parseMethodDescriptor yX5_has.desc).map (fun d => d.parameters.length) = some 2 := by decide +kernel
set_option maxHeartbeats 4000000 in
set_option maxRecDepth 100000 in
theorem X5_has_ok {sh : List hS} {r : Int32} {I I2 : hM} {v0 : Int32} {v1 : Int32} (h : X5_has v0 v1 I = some (r, I2)) : hp_C yX5_has wsX5_has 0 0 0 sh I [.int v0, .int v1] (some (.int r)) sh I2 := hp_start (cc := cX5_has) (maxL := 2) (ret := (some .boolean)) [(0, .int v0), (1, .int v1)] (by decide) rfl (fun _ _ => rfl) (fun _ _ => Nat.le_of_ble_eq_true rfl) (fun p l e s m below meth c D E b z hX _ => by
  unfold X5_has at h
  refine hj_iload_n hX rfl 0 rfl dX5_has_0 ?_
  refine hj_iload_n hX rfl 1 rfl dX5_has_1 ?_
  refine hj_ishr hX dX5_has_2 ?_
  refine hj_iconst hX (v := (1 : Int32)) (by decide) dX5_has_3 ?_
  refine hj_iand hX dX5_has_4 ?_
  refine hj_iconst hX (v := (1 : Int32)) (by decide) dX5_has_5 ?_
  refine hj_icmp_ne hX (tgt := 13) (by decide) dX5_has_6 h (fun h => ?_) (fun h => ?_)
  · refine hj_iconst hX (v := (0 : Int32)) (by decide) dX5_has_13 ?_
    exact hj_zret hX dX5_has_14 h
  · refine hj_iconst hX (v := (1 : Int32)) (by decide) dX5_has_9 ?_
    refine hj_goto hX (tgt := 14) (by decide) dX5_has_10 ?_
    exact hj_zret hX dX5_has_14 h)
def X5_smaller (v0 : Int32) (v1 : Int32) (I : hM) : Option (Int32 × hM) := if v1 ≤ v0 then (some (v1, I)) else (some (v0, I))
theorem X5_smaller_hy : yX5_smaller.cls = RX5 ∧ yX5_smaller.cls ≠ "java/lang/invoke/MethodHandle" ∧ yX5_smaller.cls ≠ "java/lang/invoke/VarHandle" ∧ (parseMethodDescriptor yX5_smaller.desc).map (fun d => d.parameters.length) = some 2 := by decide +kernel
set_option maxHeartbeats 4000000 in
set_option maxRecDepth 100000 in
theorem X5_smaller_ok {sh : List hS} {r : Int32} {I I2 : hM} {v0 : Int32} {v1 : Int32} (h : X5_smaller v0 v1 I = some (r, I2)) : hp_C yX5_smaller wsX5_smaller 0 0 0 sh I [.int v0, .int v1] (some (.int r)) sh I2 := hp_start (cc := cX5_smaller) (maxL := 2) (ret := (some .int)) [(0, .int v0), (1, .int v1)] (by decide) rfl (fun _ _ => rfl) (fun _ _ => Nat.le_of_ble_eq_true rfl) (fun p l e s m below meth c D E b z hX _ => by
  unfold X5_smaller at h
  refine hj_iload_n hX rfl 0 rfl dX5_smaller_0 ?_
  refine hj_iload_n hX rfl 1 rfl dX5_smaller_1 ?_
  refine hj_icmp_ge hX (tgt := 9) (by decide) dX5_smaller_2 h (fun h => ?_) (fun h => ?_)
  · refine hj_iload_n hX rfl 1 rfl dX5_smaller_9 ?_
    exact hj_iret hX dX5_smaller_10 h
  · refine hj_iload_n hX rfl 0 rfl dX5_smaller_5 ?_
    refine hj_goto hX (tgt := 10) (by decide) dX5_smaller_6 ?_
    exact hj_iret hX dX5_smaller_10 h)
def X5_larger (v0 : Int32) (v1 : Int32) (I : hM) : Option (Int32 × hM) := if v1 ≤ v0 then (some (v0, I)) else (some (v1, I))
theorem X5_larger_hy : yX5_larger.cls = RX5 ∧ yX5_larger.cls ≠ "java/lang/invoke/MethodHandle" ∧ yX5_larger.cls ≠ "java/lang/invoke/VarHandle" ∧ (parseMethodDescriptor yX5_larger.desc).map (fun d => d.parameters.length) = some 2 := by decide +kernel
set_option maxHeartbeats 4000000 in
set_option maxRecDepth 100000 in
theorem X5_larger_ok {sh : List hS} {r : Int32} {I I2 : hM} {v0 : Int32} {v1 : Int32} (h : X5_larger v0 v1 I = some (r, I2)) : hp_C yX5_larger wsX5_larger 0 0 0 sh I [.int v0, .int v1] (some (.int r)) sh I2 := hp_start (cc := cX5_larger) (maxL := 2) (ret := (some .int)) [(0, .int v0), (1, .int v1)] (by decide) rfl (fun _ _ => rfl) (fun _ _ => Nat.le_of_ble_eq_true rfl) (fun p l e s m below meth c D E b z hX _ => by
  unfold X5_larger at h
  refine hj_iload_n hX rfl 0 rfl dX5_larger_0 ?_
  refine hj_iload_n hX rfl 1 rfl dX5_larger_1 ?_
  refine hj_icmp_ge hX (tgt := 9) (by decide) dX5_larger_2 h (fun h => ?_) (fun h => ?_)
  · refine hj_iload_n hX rfl 0 rfl dX5_larger_9 ?_
    exact hj_iret hX dX5_larger_10 h
  · refine hj_iload_n hX rfl 1 rfl dX5_larger_5 ?_
    refine hj_goto hX (tgt := 10) (by decide) dX5_larger_6 ?_
    exact hj_iret hX dX5_larger_10 h)
def X5_copies_h2 (k2 : Int32 → Int32 → Int32 → hM → Option (Int32 × hM)) (v1 : Int32) (v2 : Int32) (v3 : Int32) (I : hM) : Option (Int32 × hM) := if (20 : Int32) ≤ v3 then (some (0, I)) else (gd (hx (v1 + v3) 240) (gd (hx (v2 + v3) 240) ((k2 v1 v2 (v3 + (1 : Int32)) (hu I 113 ((v2 + v3)).toNatClampNeg (I 113 ((v1 + v3)).toNatClampNeg))))))
def X5_copies_l2 : Nat → Int32 → Int32 → Int32 → hM → Option (Int32 × hM)
  | 0 => fun _ _ _ _ => none
  | n + 1 => X5_copies_h2   (X5_copies_l2   n)
def X5_copies (v1 : Int32) (v2 : Int32) (I : hM) : Option (Int32 × hM) := (X5_copies_l2 hF v1 v2 (0 : Int32) I)
theorem X5_copies_hy : yX5_copies.cls = RX5 ∧ yX5_copies.cls ≠ "java/lang/invoke/MethodHandle" ∧ yX5_copies.cls ≠ "java/lang/invoke/VarHandle" ∧ (parseMethodDescriptor yX5_copies.desc).map (fun d => d.parameters.length) = some 2 := by decide +kernel
theorem X5_copies_k70 : Cond.fieldLink RX5 70 "HatPinsModel" "slot" "[I" ∈ wsX5_copies := by decide +kernel
theorem X5_copies_w5 : ∀ w ∈ wsX50, w ∈ wsX5_copies := by decide +kernel
set_option maxHeartbeats 4000000 in
set_option maxRecDepth 100000 in
theorem X5_copies_h2_ok {p : Program} {l : Launch} {e : Env} {s : State} {m : MethodId} {args : Array Value} {below : List Frame} {meth : Method} {c : Code} {D : va_G} {E : Nat → ClassId} {b z : Nat} {sh : List hS} {r : Int32} {I2 : hM} {k2 : Int32 → Int32 → Int32 → hM → Option (Int32 × hM)} {v1 : Int32} {v2 : Int32} {v3 : Int32} {I : hM} (hX : hp_X p s m args meth c yX5_copies.cls cX5_copies 4 wsX5_copies D E none yX5_copies.name) (hf0 : hq_X5 sh) (hk2 : ∀ (v1 : Int32) (v2 : Int32) (v3 : Int32) (I : hM), k2 v1 v2 v3 I = some (r, I2) → hp_J p l e ({ frames := 0, cells := 0, slots := 0, locals := 44 * 0 }) s m args below meth c (MQ below (hp_Q D E b z none sh I2) args s 0 0 (fun q : Nat => b ≤ q)) D E b z 4 sh 0 0 I 2 [(0, .ref 92), (1, .int v1), (2, .int v2), (3, .int v3)] []) (h : X5_copies_h2 k2 v1 v2 v3 I = some (r, I2)) : hp_J p l e ({ frames := 0, cells := 0, slots := 0, locals := 44 * 0 }) s m args below meth c (MQ below (hp_Q D E b z none sh I2) args s 0 0 (fun q : Nat => b ≤ q)) D E b z 4 sh 0 0 I 2 [(0, .ref 92), (1, .int v1), (2, .int v2), (3, .int v3)] [] := by
  unfold X5_copies_h2 at h
  refine hj_iload_n hX rfl 3 rfl dX5_copies_2 ?_
  refine hj_bipush hX (v := (20 : Int32)) (by decide) dX5_copies_3 ?_
  refine hj_icmp_ge hX (tgt := 30) (by decide) dX5_copies_5 h (fun h => ?_) (fun h => ?_)
  · exact hj_vret hX dX5_copies_30 h
  · refine hj_aload_n hX rfl 0 rfl dX5_copies_8 ?_
    refine hj_getr hX (j := 26) hf0.1 rfl rfl X5_copies_w5 (Nat.le_of_ble_eq_true rfl) rfl X5_copies_k70 dX5_copies_9 ?_
    refine hj_iload_n hX rfl 2 rfl dX5_copies_12 ?_
    refine hj_iload_n hX rfl 3 rfl dX5_copies_13 ?_
    refine hj_iadd hX dX5_copies_14 ?_
    refine hj_aload_n hX rfl 0 rfl dX5_copies_15 ?_
    refine hj_getr hX (j := 26) hf0.1 rfl rfl X5_copies_w5 (Nat.le_of_ble_eq_true rfl) rfl X5_copies_k70 dX5_copies_16 ?_
    refine hj_iload_n hX rfl 1 rfl dX5_copies_19 ?_
    refine hj_iload_n hX rfl 3 rfl dX5_copies_20 ?_
    refine hj_iadd hX dX5_copies_21 ?_
    refine hj_iald hX hf0.2.2.2.2.2.2.2.2.2.2.2.2.2.2.2.2.2.2.2.2.2.1 dX5_copies_22 h (fun h => ?_)
    refine hj_iast hX hf0.2.2.2.2.2.2.2.2.2.2.2.2.2.2.2.2.2.2.2.2.2.1 dX5_copies_23 h (fun h => ?_)
    refine hj_iinc hX (k1 := 3) (v := (v3 + (1 : Int32))) rfl rfl (Nat.le_of_ble_eq_true rfl) (lv2 := [(3, .int (v3 + (1 : Int32))), (0, .ref 92), (1, .int v1), (2, .int v2)]) rfl dX5_copies_24 ?_
    refine hj_goto hX (tgt := 2) (by decide) dX5_copies_27 ?_
    refine hj_lv hX [1, 2, 3, 0] (lv2 := [(0, .ref 92), (1, .int v1), (2, .int v2), (3, .int (v3 + (1 : Int32)))]) rfl ?_
    exact hk2 _ _ _ _ h
set_option maxHeartbeats 4000000 in
set_option maxRecDepth 100000 in
theorem X5_copies_l2_ok {p : Program} {l : Launch} {e : Env} {s : State} {m : MethodId} {args : Array Value} {below : List Frame} {meth : Method} {c : Code} {D : va_G} {E : Nat → ClassId} {b z : Nat} {sh : List hS} {r : Int32} {I2 : hM} (hX : hp_X p s m args meth c yX5_copies.cls cX5_copies 4 wsX5_copies D E none yX5_copies.name) (hf0 : hq_X5 sh) : ∀ (n : Nat) (v1 : Int32) (v2 : Int32) (v3 : Int32) (I : hM), X5_copies_l2 n v1 v2 v3 I = some (r, I2) → hp_J p l e ({ frames := 0, cells := 0, slots := 0, locals := 44 * 0 }) s m args below meth c (MQ below (hp_Q D E b z none sh I2) args s 0 0 (fun q : Nat => b ≤ q)) D E b z 4 sh 0 0 I 2 [(0, .ref 92), (1, .int v1), (2, .int v2), (3, .int v3)] [] := by
  intro n
  induction n with
  | zero => exact fun _ _ _ _ h => nomatch h
  | succ n ih => exact fun _ _ _ _ h => X5_copies_h2_ok hX hf0 ih h
set_option maxHeartbeats 4000000 in
set_option maxRecDepth 100000 in
theorem X5_copies_ok {sh : List hS} {r : Int32} {I I2 : hM} {v1 : Int32} {v2 : Int32} (hf0 : hq_X5 sh) (h : X5_copies v1 v2 I = some (r, I2)) : hp_C yX5_copies wsX5_copies 0 0 0 sh I [.ref 92, .int v1, .int v2] none sh I2 := hp_start (cc := cX5_copies) (maxL := 4) (ret := none) [(0, .ref 92), (1, .int v1), (2, .int v2)] (by decide) rfl (fun _ _ => rfl) (fun _ _ => Nat.le_of_ble_eq_true rfl) (fun p l e s m below meth c D E b z hX _ => by
  unfold X5_copies at h
  refine hj_iconst hX (v := (0 : Int32)) (by decide) dX5_copies_0 ?_
  refine hj_istore_n hX rfl (Nat.le_of_ble_eq_true rfl) (lv2 := [(3, .int (0 : Int32)), (0, .ref 92), (1, .int v1), (2, .int v2)]) rfl dX5_copies_1 ?_
  refine hj_lv hX [1, 2, 3, 0] (lv2 := [(0, .ref 92), (1, .int v1), (2, .int v2), (3, .int (0 : Int32))]) rfl ?_
  exact X5_copies_l2_ok hX hf0 hF _ _ _ _ h)
def X5_isGoing (v1 : Int32) (I : hM) : Option (Int32 × hM) := ob (X5_in (v1).toInt64 (0 : Int64) (((I 92 0) - (1 : Int32))).toInt64 I) (fun u1 Ia2 => gd (decide (u1 = (0 : Int32)) || decide (u1 = (1 : Int32))) (some (u1, Ia2)))
theorem X5_isGoing_hy : yX5_isGoing.cls = RX5 ∧ yX5_isGoing.cls ≠ "java/lang/invoke/MethodHandle" ∧ yX5_isGoing.cls ≠ "java/lang/invoke/VarHandle" ∧ (parseMethodDescriptor yX5_isGoing.desc).map (fun d => d.parameters.length) = some 1 := by decide +kernel
theorem X5_isGoing_k110 : Cond.fieldLink RX5 110 "HatPinsModel" "many" "I" ∈ wsX5_isGoing := by decide +kernel
theorem X5_isGoing_w5 : ∀ w ∈ wsX50, w ∈ wsX5_isGoing := by decide +kernel
set_option maxHeartbeats 4000000 in
set_option maxRecDepth 100000 in
theorem X5_isGoing_ok {sh : List hS} {r : Int32} {I I2 : hM} {v1 : Int32} (hf0 : hq_X5 sh) (h : X5_isGoing v1 I = some (r, I2)) : hp_C yX5_isGoing wsX5_isGoing 1 0 0 sh I [.ref 92, .int v1] (some (.int r)) sh I2 := hp_start (cc := cX5_isGoing) (maxL := 2) (ret := (some .boolean)) [(0, .ref 92), (1, .int v1)] (by decide) rfl (fun _ _ => rfl) (fun _ _ => Nat.le_of_ble_eq_true rfl) (fun p l e s m below meth c D E b z hX _ => by
  unfold X5_isGoing at h
  refine hj_iload_n hX rfl 1 rfl dX5_isGoing_0 ?_
  refine hj_i2l hX dX5_isGoing_1 ?_
  refine hj_lconst hX (v := (0 : Int64)) (by decide) dX5_isGoing_2 ?_
  refine hj_aload_n hX rfl 0 rfl dX5_isGoing_3 ?_
  refine hj_geti hX (j := 0) hf0.1 rfl rfl X5_isGoing_w5 (Nat.le_of_ble_eq_true rfl) rfl X5_isGoing_k110 dX5_isGoing_4 ?_
  refine hj_iconst hX (v := (1 : Int32)) (by decide) dX5_isGoing_7 ?_
  refine hj_isub hX dX5_isGoing_8 ?_
  refine hj_i2l hX dX5_isGoing_9 ?_
  obtain ⟨u1, Ia2, hc3, h⟩ := ob_e h
  refine hj_callS hX (sh2 := sh) (I2 := Ia2) (r := (some (.int u1))) (As := [.long (v1).toInt64, .long (0 : Int64), .long (((I 92 0) - (1 : Int32))).toInt64]) (rest := []) (st2 := [.int u1]) (X5_in_ok hc3) gX5_isGoing_X5_in rfl X5_in_hy.2 ⟨(Nat.le_of_ble_eq_true rfl), (Nat.le_of_ble_eq_true rfl)⟩ rfl (Nat.le_of_ble_eq_true rfl) ⟨(Nat.le_of_ble_eq_true rfl), (Nat.le_of_ble_eq_true rfl)⟩ rfl rfl rfl dX5_isGoing_10 ?_
  exact hj_zret hX dX5_isGoing_13 h)
def X5_isLady (v1 : Int32) (I : hM) : Option (Int32 × hM) := ob (X5_in (v1).toInt64 (0 : Int64) (((I 92 10) - (1 : Int32))).toInt64 I) (fun u1 Ia2 => gd (decide (u1 = (0 : Int32)) || decide (u1 = (1 : Int32))) (some (u1, Ia2)))
theorem X5_isLady_hy : yX5_isLady.cls = RX5 ∧ yX5_isLady.cls ≠ "java/lang/invoke/MethodHandle" ∧ yX5_isLady.cls ≠ "java/lang/invoke/VarHandle" ∧ (parseMethodDescriptor yX5_isLady.desc).map (fun d => d.parameters.length) = some 1 := by decide +kernel
theorem X5_isLady_k116 : Cond.fieldLink RX5 116 "HatPinsModel" "ladies" "I" ∈ wsX5_isLady := by decide +kernel
theorem X5_isLady_w5 : ∀ w ∈ wsX50, w ∈ wsX5_isLady := by decide +kernel
set_option maxHeartbeats 4000000 in
set_option maxRecDepth 100000 in
theorem X5_isLady_ok {sh : List hS} {r : Int32} {I I2 : hM} {v1 : Int32} (hf0 : hq_X5 sh) (h : X5_isLady v1 I = some (r, I2)) : hp_C yX5_isLady wsX5_isLady 1 0 0 sh I [.ref 92, .int v1] (some (.int r)) sh I2 := hp_start (cc := cX5_isLady) (maxL := 2) (ret := (some .boolean)) [(0, .ref 92), (1, .int v1)] (by decide) rfl (fun _ _ => rfl) (fun _ _ => Nat.le_of_ble_eq_true rfl) (fun p l e s m below meth c D E b z hX _ => by
  unfold X5_isLady at h
  refine hj_iload_n hX rfl 1 rfl dX5_isLady_0 ?_
  refine hj_i2l hX dX5_isLady_1 ?_
  refine hj_lconst hX (v := (0 : Int64)) (by decide) dX5_isLady_2 ?_
  refine hj_aload_n hX rfl 0 rfl dX5_isLady_3 ?_
  refine hj_geti hX (j := 10) hf0.1 rfl rfl X5_isLady_w5 (Nat.le_of_ble_eq_true rfl) rfl X5_isLady_k116 dX5_isLady_4 ?_
  refine hj_iconst hX (v := (1 : Int32)) (by decide) dX5_isLady_7 ?_
  refine hj_isub hX dX5_isLady_8 ?_
  refine hj_i2l hX dX5_isLady_9 ?_
  obtain ⟨u1, Ia2, hc3, h⟩ := ob_e h
  refine hj_callS hX (sh2 := sh) (I2 := Ia2) (r := (some (.int u1))) (As := [.long (v1).toInt64, .long (0 : Int64), .long (((I 92 10) - (1 : Int32))).toInt64]) (rest := []) (st2 := [.int u1]) (X5_in_ok hc3) gX5_isLady_X5_in rfl X5_in_hy.2 ⟨(Nat.le_of_ble_eq_true rfl), (Nat.le_of_ble_eq_true rfl)⟩ rfl (Nat.le_of_ble_eq_true rfl) ⟨(Nat.le_of_ble_eq_true rfl), (Nat.le_of_ble_eq_true rfl)⟩ rfl rfl rfl dX5_isLady_10 ?_
  exact hj_zret hX dX5_isLady_13 h)
def X5_write (v1 : Int32) (I : hM) : Option (Int32 × hM) := ob (X5_in (v1).toInt64 (32 : Int64) (126 : Int64) I) (fun u1 Ia2 => if u1 = 0 then (some ((-1 : Int32), Ia2)) else (if (Ia2 92 29) = (200 : Int32) then (some ((-3 : Int32), Ia2)) else (gd (hx (Ia2 92 29) 200) (some (((hu (hu Ia2 114 ((Ia2 92 29)).toNatClampNeg (vp_nar .byte (v1).toInt8.toInt32)) 92 29 (((hu Ia2 114 ((Ia2 92 29)).toNatClampNeg (vp_nar .byte (v1).toInt8.toInt32)) 92 29) + (1 : Int32))) 92 29), (hu (hu Ia2 114 ((Ia2 92 29)).toNatClampNeg (vp_nar .byte (v1).toInt8.toInt32)) 92 29 (((hu Ia2 114 ((Ia2 92 29)).toNatClampNeg (vp_nar .byte (v1).toInt8.toInt32)) 92 29) + (1 : Int32))))))))
theorem X5_write_hy : yX5_write.cls = RX5 ∧ yX5_write.cls ≠ "java/lang/invoke/MethodHandle" ∧ yX5_write.cls ≠ "java/lang/invoke/VarHandle" ∧ (parseMethodDescriptor yX5_write.desc).map (fun d => d.parameters.length) = some 1 := by decide +kernel
theorem X5_write_k127 : Cond.fieldLink RX5 127 "HatPinsModel" "length" "I" ∈ wsX5_write := by decide +kernel
theorem X5_write_k73 : Cond.fieldLink RX5 73 "HatPinsModel" "text" "[B" ∈ wsX5_write := by decide +kernel
theorem X5_write_mc123 : Cond.constantLong RX5 123 (32) ∈ wsX5_write := by decide +kernel
theorem X5_write_mc125 : Cond.constantLong RX5 125 (126) ∈ wsX5_write := by decide +kernel
theorem X5_write_w5 : ∀ w ∈ wsX50, w ∈ wsX5_write := by decide +kernel
set_option maxHeartbeats 4000000 in
set_option maxRecDepth 100000 in
theorem X5_write_ok {sh : List hS} {r : Int32} {I I2 : hM} {v1 : Int32} (hf0 : hq_X5 sh) (h : X5_write v1 I = some (r, I2)) : hp_C yX5_write wsX5_write 1 0 0 sh I [.ref 92, .int v1] (some (.int r)) sh I2 := hp_start (cc := cX5_write) (maxL := 2) (ret := (some .int)) [(0, .ref 92), (1, .int v1)] (by decide) rfl (fun _ _ => rfl) (fun _ _ => Nat.le_of_ble_eq_true rfl) (fun p l e s m below meth c D E b z hX _ => by
  unfold X5_write at h
  refine hj_iload_n hX rfl 1 rfl dX5_write_0 ?_
  refine hj_i2l hX dX5_write_1 ?_
  refine hj_ldc2 hX (v := (32 : Int64)) X5_write_mc123 dX5_write_2 ?_
  refine hj_ldc2 hX (v := (126 : Int64)) X5_write_mc125 dX5_write_5 ?_
  obtain ⟨u1, Ia2, hc3, h⟩ := ob_e h
  refine hj_callS hX (sh2 := sh) (I2 := Ia2) (r := (some (.int u1))) (As := [.long (v1).toInt64, .long (32 : Int64), .long (126 : Int64)]) (rest := []) (st2 := [.int u1]) (X5_in_ok hc3) gX5_write_X5_in rfl X5_in_hy.2 ⟨(Nat.le_of_ble_eq_true rfl), (Nat.le_of_ble_eq_true rfl)⟩ rfl (Nat.le_of_ble_eq_true rfl) ⟨(Nat.le_of_ble_eq_true rfl), (Nat.le_of_ble_eq_true rfl)⟩ rfl rfl rfl dX5_write_8 ?_
  refine hj_if_ne hX (tgt := 16) (by decide) dX5_write_11 h (fun h => ?_) (fun h => ?_)
  · refine hj_aload_n hX rfl 0 rfl dX5_write_16 ?_
    refine hj_geti hX (j := 29) hf0.1 rfl rfl X5_write_w5 (Nat.le_of_ble_eq_true rfl) rfl X5_write_k127 dX5_write_17 ?_
    refine hj_sipush hX (v := (200 : Int32)) (by decide) dX5_write_20 ?_
    refine hj_icmp_ne hX (tgt := 29) (by decide) dX5_write_23 h (fun h => ?_) (fun h => ?_)
    · refine hj_aload_n hX rfl 0 rfl dX5_write_29 ?_
      refine hj_getr hX (j := 30) hf0.1 rfl rfl X5_write_w5 (Nat.le_of_ble_eq_true rfl) rfl X5_write_k73 dX5_write_30 ?_
      refine hj_aload_n hX rfl 0 rfl dX5_write_33 ?_
      refine hj_geti hX (j := 29) hf0.1 rfl rfl X5_write_w5 (Nat.le_of_ble_eq_true rfl) rfl X5_write_k127 dX5_write_34 ?_
      refine hj_iload_n hX rfl 1 rfl dX5_write_37 ?_
      refine hj_i2b hX dX5_write_38 ?_
      refine hj_bast hX hf0.2.2.2.2.2.2.2.2.2.2.2.2.2.2.2.2.2.2.2.2.2.2.1 dX5_write_39 h (fun h => ?_)
      refine hj_aload_n hX rfl 0 rfl dX5_write_40 ?_
      refine hj_dup hX rfl dX5_write_41 ?_
      refine hj_geti hX (j := 29) hf0.1 rfl rfl X5_write_w5 (Nat.le_of_ble_eq_true rfl) rfl X5_write_k127 dX5_write_42 ?_
      refine hj_iconst hX (v := (1 : Int32)) (by decide) dX5_write_45 ?_
      refine hj_iadd hX dX5_write_46 ?_
      refine hj_puti hX (j := 29) hf0.1 rfl rfl X5_write_w5 (Nat.le_of_ble_eq_true rfl) rfl X5_write_k127 tyX5_ok nmX5 rfl (by decide +kernel) dX5_write_47 ?_
      refine hj_aload_n hX rfl 0 rfl dX5_write_50 ?_
      refine hj_geti hX (j := 29) hf0.1 rfl rfl X5_write_w5 (Nat.le_of_ble_eq_true rfl) rfl X5_write_k127 dX5_write_51 ?_
      exact hj_iret hX dX5_write_54 h
    · refine hj_bipush hX (v := (-3 : Int32)) (by decide) dX5_write_26 ?_
      exact hj_iret hX dX5_write_28 h
  · refine hj_iconst hX (v := (-1 : Int32)) (by decide) dX5_write_14 ?_
    exact hj_iret hX dX5_write_15 h)
def X5_wipe (I : hM) : Option (Int32 × hM) := some ((I 92 29), (hu I 92 29 (0 : Int32)))
theorem X5_wipe_hy : yX5_wipe.cls = RX5 ∧ yX5_wipe.cls ≠ "java/lang/invoke/MethodHandle" ∧ yX5_wipe.cls ≠ "java/lang/invoke/VarHandle" ∧ (parseMethodDescriptor yX5_wipe.desc).map (fun d => d.parameters.length) = some 0 := by decide +kernel
theorem X5_wipe_k127 : Cond.fieldLink RX5 127 "HatPinsModel" "length" "I" ∈ wsX5_wipe := by decide +kernel
theorem X5_wipe_w5 : ∀ w ∈ wsX50, w ∈ wsX5_wipe := by decide +kernel
set_option maxHeartbeats 4000000 in
set_option maxRecDepth 100000 in
theorem X5_wipe_ok {sh : List hS} {r : Int32} {I I2 : hM} (hf0 : hq_X5 sh) (h : X5_wipe I = some (r, I2)) : hp_C yX5_wipe wsX5_wipe 0 0 0 sh I [.ref 92] (some (.int r)) sh I2 := hp_start (cc := cX5_wipe) (maxL := 2) (ret := (some .int)) [(0, .ref 92)] (by decide) rfl (fun _ _ => rfl) (fun _ _ => Nat.le_of_ble_eq_true rfl) (fun p l e s m below meth c D E b z hX _ => by
  unfold X5_wipe at h
  refine hj_aload_n hX rfl 0 rfl dX5_wipe_0 ?_
  refine hj_geti hX (j := 29) hf0.1 rfl rfl X5_wipe_w5 (Nat.le_of_ble_eq_true rfl) rfl X5_wipe_k127 dX5_wipe_1 ?_
  refine hj_istore_n hX rfl (Nat.le_of_ble_eq_true rfl) (lv2 := [(1, .int (I 92 29)), (0, .ref 92)]) rfl dX5_wipe_4 ?_
  refine hj_aload_n hX rfl 1 rfl dX5_wipe_5 ?_
  refine hj_iconst hX (v := (0 : Int32)) (by decide) dX5_wipe_6 ?_
  refine hj_puti hX (j := 29) hf0.1 rfl rfl X5_wipe_w5 (Nat.le_of_ble_eq_true rfl) rfl X5_wipe_k127 tyX5_ok nmX5 rfl (by decide +kernel) dX5_wipe_7 ?_
  refine hj_iload_n hX rfl 0 rfl dX5_wipe_10 ?_
  exact hj_iret hX dX5_wipe_11 h)
def X5_next (I : hM) : Option (Int32 × hM) := if (I 92 29) ≤ (I 92 31) then (some ((-1 : Int32), I)) else (gd (hx (I 92 31) 200) (some ((I 114 ((I 92 31)).toNatClampNeg), I)))
theorem X5_next_hy : yX5_next.cls = RX5 ∧ yX5_next.cls ≠ "java/lang/invoke/MethodHandle" ∧ yX5_next.cls ≠ "java/lang/invoke/VarHandle" ∧ (parseMethodDescriptor yX5_next.desc).map (fun d => d.parameters.length) = some 0 := by decide +kernel
theorem X5_next_k130 : Cond.fieldLink RX5 130 "HatPinsModel" "at" "I" ∈ wsX5_next := by decide +kernel
theorem X5_next_k127 : Cond.fieldLink RX5 127 "HatPinsModel" "length" "I" ∈ wsX5_next := by decide +kernel
theorem X5_next_k73 : Cond.fieldLink RX5 73 "HatPinsModel" "text" "[B" ∈ wsX5_next := by decide +kernel
theorem X5_next_w5 : ∀ w ∈ wsX50, w ∈ wsX5_next := by decide +kernel
set_option maxHeartbeats 4000000 in
set_option maxRecDepth 100000 in
theorem X5_next_ok {sh : List hS} {r : Int32} {I I2 : hM} (hf0 : hq_X5 sh) (h : X5_next I = some (r, I2)) : hp_C yX5_next wsX5_next 0 0 0 sh I [.ref 92] (some (.int r)) sh I2 := hp_start (cc := cX5_next) (maxL := 1) (ret := (some .int)) [(0, .ref 92)] (by decide) rfl (fun _ _ => rfl) (fun _ _ => Nat.le_of_ble_eq_true rfl) (fun p l e s m below meth c D E b z hX _ => by
  unfold X5_next at h
  refine hj_aload_n hX rfl 0 rfl dX5_next_0 ?_
  refine hj_geti hX (j := 31) hf0.1 rfl rfl X5_next_w5 (Nat.le_of_ble_eq_true rfl) rfl X5_next_k130 dX5_next_1 ?_
  refine hj_aload_n hX rfl 0 rfl dX5_next_4 ?_
  refine hj_geti hX (j := 29) hf0.1 rfl rfl X5_next_w5 (Nat.le_of_ble_eq_true rfl) rfl X5_next_k127 dX5_next_5 ?_
  refine hj_icmp_ge hX (tgt := 23) (by decide) dX5_next_8 h (fun h => ?_) (fun h => ?_)
  · refine hj_iconst hX (v := (-1 : Int32)) (by decide) dX5_next_23 ?_
    exact hj_iret hX dX5_next_24 h
  · refine hj_aload_n hX rfl 0 rfl dX5_next_11 ?_
    refine hj_getr hX (j := 30) hf0.1 rfl rfl X5_next_w5 (Nat.le_of_ble_eq_true rfl) rfl X5_next_k73 dX5_next_12 ?_
    refine hj_aload_n hX rfl 0 rfl dX5_next_15 ?_
    refine hj_geti hX (j := 31) hf0.1 rfl rfl X5_next_w5 (Nat.le_of_ble_eq_true rfl) rfl X5_next_k130 dX5_next_16 ?_
    refine hj_bald hX hf0.2.2.2.2.2.2.2.2.2.2.2.2.2.2.2.2.2.2.2.2.2.2.1 dX5_next_19 h (fun h => ?_)
    refine hj_goto hX (tgt := 24) (by decide) dX5_next_20 ?_
    exact hj_iret hX dX5_next_24 h)
def X5_number_b93 (v3 : Int32) (t1 : Int32) (I : hM) : Option (Int32 × hM) := gd (decide (t1 = (0 : Int32)) || decide (t1 = (1 : Int32))) (if ((hu I 92 33 t1) 92 33) = 0 then (some (v3, (hu I 92 33 t1))) else (some ((0 : Int32), (hu I 92 33 t1))))
def X5_number_b57 (v1 : Int32) (v2 : Int32) (v3 : Int32) (v4 : Int32) (I : hM) : Option (Int32 × hM) := if (I 92 33) = 0 then (if v4 = 0 then ((X5_number_b93 v3 (1 : Int32) I)) else (if (2 : Int32) < v4 then ((X5_number_b93 v3 (1 : Int32) I)) else (ob (X5_in (v3).toInt64 (v1).toInt64 (v2).toInt64 I) (fun u10 Ia11 => if u10 = 0 then ((X5_number_b93 v3 (1 : Int32) Ia11)) else ((X5_number_b93 v3 (0 : Int32) Ia11)))))) else ((X5_number_b93 v3 (1 : Int32) I))
def X5_number_h5 (k5 : Int32 → Int32 → Int32 → Int32 → hM → Option (Int32 × hM)) (v1 : Int32) (v2 : Int32) (v3 : Int32) (v4 : Int32) (I : hM) : Option (Int32 × hM) := ob (X5_next I) (fun u1 Ia2 => ob (X5_in (u1).toInt64 (48 : Int64) (57 : Int64) Ia2) (fun u4 Ia5 => if u4 = 0 then (X5_number_b57 v1 v2 v3 v4 Ia5) else (if (3 : Int32) ≤ v4 then (X5_number_b57 v1 v2 v3 v4 Ia5) else (ob (X5_next Ia5) (fun u7 Ia8 => (k5 v1 v2 ((((10 : Int32) * v3) + u7) - (48 : Int32)) (v4 + (1 : Int32)) (hu Ia8 92 31 ((Ia8 92 31) + (1 : Int32)))))))))
def X5_number_l5 : Nat → Int32 → Int32 → Int32 → Int32 → hM → Option (Int32 × hM)
  | 0 => fun _ _ _ _ _ => none
  | n + 1 => X5_number_h5   (X5_number_l5   n)
def X5_number (v1 : Int32) (v2 : Int32) (I : hM) : Option (Int32 × hM) := (X5_number_l5 hF v1 v2 (0 : Int32) (0 : Int32) I)
theorem X5_number_hy : yX5_number.cls = RX5 ∧ yX5_number.cls ≠ "java/lang/invoke/MethodHandle" ∧ yX5_number.cls ≠ "java/lang/invoke/VarHandle" ∧ (parseMethodDescriptor yX5_number.desc).map (fun d => d.parameters.length) = some 2 := by decide +kernel
theorem X5_number_k130 : Cond.fieldLink RX5 130 "HatPinsModel" "at" "I" ∈ wsX5_number := by decide +kernel
theorem X5_number_k141 : Cond.fieldLink RX5 141 "HatPinsModel" "isWrong" "Z" ∈ wsX5_number := by decide +kernel
theorem X5_number_mc137 : Cond.constantLong RX5 137 (48) ∈ wsX5_number := by decide +kernel
theorem X5_number_mc139 : Cond.constantLong RX5 139 (57) ∈ wsX5_number := by decide +kernel
theorem X5_number_w5 : ∀ w ∈ wsX50, w ∈ wsX5_number := by decide +kernel
set_option maxHeartbeats 4000000 in
set_option maxRecDepth 100000 in
theorem X5_number_b93_ok {p : Program} {l : Launch} {e : Env} {s : State} {m : MethodId} {args : Array Value} {below : List Frame} {meth : Method} {c : Code} {D : va_G} {E : Nat → ClassId} {b z : Nat} {sh : List hS} {r : Int32} {I2 : hM} {v3 : Int32} {t1 : Int32} {I : hM} (hX : hp_X p s m args meth c yX5_number.cls cX5_number 5 wsX5_number D E (some .int) yX5_number.name) (hf0 : hq_X5 sh) (h : X5_number_b93 v3 t1 I = some (r, I2)) : hp_J p l e ({ frames := 1, cells := 0, slots := 0, locals := 44 * 1 }) s m args below meth c (MQ below (hp_Q D E b z (some (.int r)) sh I2) args s 0 0 (fun q : Nat => b ≤ q)) D E b z 5 sh 0 0 I 93 [(0, .ref 92), (3, .int v3)] [.int t1, .ref 92] := by
  unfold X5_number_b93 at h
  refine hj_putz hX (j := 33) hf0.1 rfl rfl X5_number_w5 (Nat.le_of_ble_eq_true rfl) rfl X5_number_k141 tyX5_ok nmX5 rfl (by decide +kernel) dX5_number_93 h (fun h => ?_)
  refine hj_aload_n hX rfl 0 rfl dX5_number_96 ?_
  refine hj_geti hX (j := 33) hf0.1 rfl rfl X5_number_w5 (Nat.le_of_ble_eq_true rfl) rfl X5_number_k141 dX5_number_97 ?_
  refine hj_if_eq hX (tgt := 107) (by decide) dX5_number_100 h (fun h => ?_) (fun h => ?_)
  · refine hj_iload_n hX rfl 1 rfl dX5_number_107 ?_
    exact hj_iret hX dX5_number_108 h
  · refine hj_iconst hX (v := (0 : Int32)) (by decide) dX5_number_103 ?_
    refine hj_goto hX (tgt := 108) (by decide) dX5_number_104 ?_
    exact hj_iret hX dX5_number_108 h
set_option maxHeartbeats 4000000 in
set_option maxRecDepth 100000 in
theorem X5_number_b57_ok {p : Program} {l : Launch} {e : Env} {s : State} {m : MethodId} {args : Array Value} {below : List Frame} {meth : Method} {c : Code} {D : va_G} {E : Nat → ClassId} {b z : Nat} {sh : List hS} {r : Int32} {I2 : hM} {v1 : Int32} {v2 : Int32} {v3 : Int32} {v4 : Int32} {I : hM} (hX : hp_X p s m args meth c yX5_number.cls cX5_number 5 wsX5_number D E (some .int) yX5_number.name) (hf0 : hq_X5 sh) (h : X5_number_b57 v1 v2 v3 v4 I = some (r, I2)) : hp_J p l e ({ frames := 1, cells := 0, slots := 0, locals := 44 * 1 }) s m args below meth c (MQ below (hp_Q D E b z (some (.int r)) sh I2) args s 0 0 (fun q : Nat => b ≤ q)) D E b z 5 sh 0 0 I 57 [(0, .ref 92), (1, .int v1), (2, .int v2), (3, .int v3), (4, .int v4)] [] := by
  unfold X5_number_b57 at h
  refine hj_aload_n hX rfl 0 rfl dX5_number_57 ?_
  refine hj_aload_n hX rfl 0 rfl dX5_number_58 ?_
  refine hj_geti hX (j := 33) hf0.1 rfl rfl X5_number_w5 (Nat.le_of_ble_eq_true rfl) rfl X5_number_k141 dX5_number_59 ?_
  refine hj_if_ne hX (tgt := 88) (by decide) dX5_number_62 h (fun h => ?_) (fun h => ?_)
  · refine hj_iconst hX (v := (1 : Int32)) (by decide) dX5_number_88 ?_
    refine hj_goto hX (tgt := 93) (by decide) dX5_number_89 ?_
    refine hj_lv hX [0, 3] (lv2 := [(0, .ref 92), (3, .int v3)]) rfl ?_
    exact X5_number_b93_ok hX hf0 h
  · refine hj_iload hX 4 rfl dX5_number_65 ?_
    refine hj_if_eq hX (tgt := 88) (by decide) dX5_number_67 h (fun h => ?_) (fun h => ?_)
    · refine hj_iconst hX (v := (1 : Int32)) (by decide) dX5_number_88 ?_
      refine hj_goto hX (tgt := 93) (by decide) dX5_number_89 ?_
      refine hj_lv hX [0, 3] (lv2 := [(0, .ref 92), (3, .int v3)]) rfl ?_
      exact X5_number_b93_ok hX hf0 h
    · refine hj_iload hX 4 rfl dX5_number_70 ?_
      refine hj_iconst hX (v := (2 : Int32)) (by decide) dX5_number_72 ?_
      refine hj_icmp_gt hX (tgt := 88) (by decide) dX5_number_73 h (fun h => ?_) (fun h => ?_)
      · refine hj_iconst hX (v := (1 : Int32)) (by decide) dX5_number_88 ?_
        refine hj_goto hX (tgt := 93) (by decide) dX5_number_89 ?_
        refine hj_lv hX [0, 3] (lv2 := [(0, .ref 92), (3, .int v3)]) rfl ?_
        exact X5_number_b93_ok hX hf0 h
      · refine hj_iload_n hX rfl 3 rfl dX5_number_76 ?_
        refine hj_i2l hX dX5_number_77 ?_
        refine hj_iload_n hX rfl 1 rfl dX5_number_78 ?_
        refine hj_i2l hX dX5_number_79 ?_
        refine hj_iload_n hX rfl 2 rfl dX5_number_80 ?_
        refine hj_i2l hX dX5_number_81 ?_
        obtain ⟨u10, Ia11, hc12, h⟩ := ob_e h
        refine hj_callS hX (sh2 := sh) (I2 := Ia11) (r := (some (.int u10))) (As := [.long (v3).toInt64, .long (v1).toInt64, .long (v2).toInt64]) (rest := [.ref 92]) (st2 := [.int u10, .ref 92]) (X5_in_ok hc12) gX5_number_X5_in rfl X5_in_hy.2 ⟨(Nat.le_of_ble_eq_true rfl), (Nat.le_of_ble_eq_true rfl)⟩ rfl (Nat.le_of_ble_eq_true rfl) ⟨(Nat.le_of_ble_eq_true rfl), (Nat.le_of_ble_eq_true rfl)⟩ rfl rfl rfl dX5_number_82 ?_
        refine hj_if_ne hX (tgt := 92) (by decide) dX5_number_85 h (fun h => ?_) (fun h => ?_)
        · refine hj_iconst hX (v := (0 : Int32)) (by decide) dX5_number_92 ?_
          refine hj_lv hX [0, 3] (lv2 := [(0, .ref 92), (3, .int v3)]) rfl ?_
          exact X5_number_b93_ok hX hf0 h
        · refine hj_iconst hX (v := (1 : Int32)) (by decide) dX5_number_88 ?_
          refine hj_goto hX (tgt := 93) (by decide) dX5_number_89 ?_
          refine hj_lv hX [0, 3] (lv2 := [(0, .ref 92), (3, .int v3)]) rfl ?_
          exact X5_number_b93_ok hX hf0 h
set_option maxHeartbeats 4000000 in
set_option maxRecDepth 100000 in
theorem X5_number_h5_ok {p : Program} {l : Launch} {e : Env} {s : State} {m : MethodId} {args : Array Value} {below : List Frame} {meth : Method} {c : Code} {D : va_G} {E : Nat → ClassId} {b z : Nat} {sh : List hS} {r : Int32} {I2 : hM} {k5 : Int32 → Int32 → Int32 → Int32 → hM → Option (Int32 × hM)} {v1 : Int32} {v2 : Int32} {v3 : Int32} {v4 : Int32} {I : hM} (hX : hp_X p s m args meth c yX5_number.cls cX5_number 5 wsX5_number D E (some .int) yX5_number.name) (hf0 : hq_X5 sh) (hk5 : ∀ (v1 : Int32) (v2 : Int32) (v3 : Int32) (v4 : Int32) (I : hM), k5 v1 v2 v3 v4 I = some (r, I2) → hp_J p l e ({ frames := 1, cells := 0, slots := 0, locals := 44 * 1 }) s m args below meth c (MQ below (hp_Q D E b z (some (.int r)) sh I2) args s 0 0 (fun q : Nat => b ≤ q)) D E b z 5 sh 0 0 I 5 [(0, .ref 92), (1, .int v1), (2, .int v2), (3, .int v3), (4, .int v4)] []) (h : X5_number_h5 k5 v1 v2 v3 v4 I = some (r, I2)) : hp_J p l e ({ frames := 1, cells := 0, slots := 0, locals := 44 * 1 }) s m args below meth c (MQ below (hp_Q D E b z (some (.int r)) sh I2) args s 0 0 (fun q : Nat => b ≤ q)) D E b z 5 sh 0 0 I 5 [(0, .ref 92), (1, .int v1), (2, .int v2), (3, .int v3), (4, .int v4)] [] := by
  unfold X5_number_h5 at h
  refine hj_aload_n hX rfl 0 rfl dX5_number_5 ?_
  obtain ⟨u1, Ia2, hc3, h⟩ := ob_e h
  refine hj_callV hX (sh2 := sh) (I2 := Ia2) (r := (some (.int u1))) (As := []) (rest := []) (st2 := [.int u1]) (X5_next_ok hf0 hc3) gX5_number_X5_next rfl X5_next_hy ⟨(Nat.le_of_ble_eq_true rfl), (Nat.le_of_ble_eq_true rfl)⟩ rfl hf0.1 rfl (Nat.le_of_ble_eq_true rfl) ⟨(Nat.le_of_ble_eq_true rfl), (Nat.le_of_ble_eq_true rfl)⟩ rfl rfl rfl dX5_number_6 ?_
  refine hj_i2l hX dX5_number_9 ?_
  refine hj_ldc2 hX (v := (48 : Int64)) X5_number_mc137 dX5_number_10 ?_
  refine hj_ldc2 hX (v := (57 : Int64)) X5_number_mc139 dX5_number_13 ?_
  obtain ⟨u4, Ia5, hc6, h⟩ := ob_e h
  refine hj_callS hX (sh2 := sh) (I2 := Ia5) (r := (some (.int u4))) (As := [.long (u1).toInt64, .long (48 : Int64), .long (57 : Int64)]) (rest := []) (st2 := [.int u4]) (X5_in_ok hc6) gX5_number_X5_in rfl X5_in_hy.2 ⟨(Nat.le_of_ble_eq_true rfl), (Nat.le_of_ble_eq_true rfl)⟩ rfl (Nat.le_of_ble_eq_true rfl) ⟨(Nat.le_of_ble_eq_true rfl), (Nat.le_of_ble_eq_true rfl)⟩ rfl rfl rfl dX5_number_16 ?_
  refine hj_if_eq hX (tgt := 57) (by decide) dX5_number_19 h (fun h => ?_) (fun h => ?_)
  · exact X5_number_b57_ok hX hf0 h
  · refine hj_iload hX 4 rfl dX5_number_22 ?_
    refine hj_iconst hX (v := (3 : Int32)) (by decide) dX5_number_24 ?_
    refine hj_icmp_ge hX (tgt := 57) (by decide) dX5_number_25 h (fun h => ?_) (fun h => ?_)
    · exact X5_number_b57_ok hX hf0 h
    · refine hj_bipush hX (v := (10 : Int32)) (by decide) dX5_number_28 ?_
      refine hj_iload_n hX rfl 3 rfl dX5_number_30 ?_
      refine hj_imul hX dX5_number_31 ?_
      refine hj_aload_n hX rfl 0 rfl dX5_number_32 ?_
      obtain ⟨u7, Ia8, hc9, h⟩ := ob_e h
      refine hj_callV hX (sh2 := sh) (I2 := Ia8) (r := (some (.int u7))) (As := []) (rest := [.int ((10 : Int32) * v3)]) (st2 := [.int u7, .int ((10 : Int32) * v3)]) (X5_next_ok hf0 hc9) gX5_number_X5_next rfl X5_next_hy ⟨(Nat.le_of_ble_eq_true rfl), (Nat.le_of_ble_eq_true rfl)⟩ rfl hf0.1 rfl (Nat.le_of_ble_eq_true rfl) ⟨(Nat.le_of_ble_eq_true rfl), (Nat.le_of_ble_eq_true rfl)⟩ rfl rfl rfl dX5_number_33 ?_
      refine hj_iadd hX dX5_number_36 ?_
      refine hj_bipush hX (v := (48 : Int32)) (by decide) dX5_number_37 ?_
      refine hj_isub hX dX5_number_39 ?_
      refine hj_istore_n hX rfl (Nat.le_of_ble_eq_true rfl) (lv2 := [(3, .int ((((10 : Int32) * v3) + u7) - (48 : Int32))), (0, .ref 92), (1, .int v1), (2, .int v2), (4, .int v4)]) rfl dX5_number_40 ?_
      refine hj_iinc hX (k1 := 4) (v := (v4 + (1 : Int32))) rfl rfl (Nat.le_of_ble_eq_true rfl) (lv2 := [(4, .int (v4 + (1 : Int32))), (3, .int ((((10 : Int32) * v3) + u7) - (48 : Int32))), (0, .ref 92), (1, .int v1), (2, .int v2)]) rfl dX5_number_41 ?_
      refine hj_aload_n hX rfl 2 rfl dX5_number_44 ?_
      refine hj_dup hX rfl dX5_number_45 ?_
      refine hj_geti hX (j := 31) hf0.1 rfl rfl X5_number_w5 (Nat.le_of_ble_eq_true rfl) rfl X5_number_k130 dX5_number_46 ?_
      refine hj_iconst hX (v := (1 : Int32)) (by decide) dX5_number_49 ?_
      refine hj_iadd hX dX5_number_50 ?_
      refine hj_puti hX (j := 31) hf0.1 rfl rfl X5_number_w5 (Nat.le_of_ble_eq_true rfl) rfl X5_number_k130 tyX5_ok nmX5 rfl (by decide +kernel) dX5_number_51 ?_
      refine hj_goto hX (tgt := 5) (by decide) dX5_number_54 ?_
      refine hj_lv hX [2, 3, 4, 1, 0] (lv2 := [(0, .ref 92), (1, .int v1), (2, .int v2), (3, .int ((((10 : Int32) * v3) + u7) - (48 : Int32))), (4, .int (v4 + (1 : Int32)))]) rfl ?_
      exact hk5 _ _ _ _ _ h
set_option maxHeartbeats 4000000 in
set_option maxRecDepth 100000 in
theorem X5_number_l5_ok {p : Program} {l : Launch} {e : Env} {s : State} {m : MethodId} {args : Array Value} {below : List Frame} {meth : Method} {c : Code} {D : va_G} {E : Nat → ClassId} {b z : Nat} {sh : List hS} {r : Int32} {I2 : hM} (hX : hp_X p s m args meth c yX5_number.cls cX5_number 5 wsX5_number D E (some .int) yX5_number.name) (hf0 : hq_X5 sh) : ∀ (n : Nat) (v1 : Int32) (v2 : Int32) (v3 : Int32) (v4 : Int32) (I : hM), X5_number_l5 n v1 v2 v3 v4 I = some (r, I2) → hp_J p l e ({ frames := 1, cells := 0, slots := 0, locals := 44 * 1 }) s m args below meth c (MQ below (hp_Q D E b z (some (.int r)) sh I2) args s 0 0 (fun q : Nat => b ≤ q)) D E b z 5 sh 0 0 I 5 [(0, .ref 92), (1, .int v1), (2, .int v2), (3, .int v3), (4, .int v4)] [] := by
  intro n
  induction n with
  | zero => exact fun _ _ _ _ _ h => nomatch h
  | succ n ih => exact fun _ _ _ _ _ h => X5_number_h5_ok hX hf0 ih h
set_option maxHeartbeats 4000000 in
set_option maxRecDepth 100000 in
theorem X5_number_ok {sh : List hS} {r : Int32} {I I2 : hM} {v1 : Int32} {v2 : Int32} (hf0 : hq_X5 sh) (h : X5_number v1 v2 I = some (r, I2)) : hp_C yX5_number wsX5_number 1 0 0 sh I [.ref 92, .int v1, .int v2] (some (.int r)) sh I2 := hp_start (cc := cX5_number) (maxL := 5) (ret := (some .int)) [(0, .ref 92), (1, .int v1), (2, .int v2)] (by decide) rfl (fun _ _ => rfl) (fun _ _ => Nat.le_of_ble_eq_true rfl) (fun p l e s m below meth c D E b z hX _ => by
  unfold X5_number at h
  refine hj_iconst hX (v := (0 : Int32)) (by decide) dX5_number_0 ?_
  refine hj_istore_n hX rfl (Nat.le_of_ble_eq_true rfl) (lv2 := [(3, .int (0 : Int32)), (0, .ref 92), (1, .int v1), (2, .int v2)]) rfl dX5_number_1 ?_
  refine hj_iconst hX (v := (0 : Int32)) (by decide) dX5_number_2 ?_
  refine hj_istore hX (Nat.le_of_ble_eq_true rfl) (lv2 := [(4, .int (0 : Int32)), (3, .int (0 : Int32)), (0, .ref 92), (1, .int v1), (2, .int v2)]) rfl dX5_number_3 ?_
  refine hj_lv hX [2, 3, 4, 1, 0] (lv2 := [(0, .ref 92), (1, .int v1), (2, .int v2), (3, .int (0 : Int32)), (4, .int (0 : Int32))]) rfl ?_
  exact X5_number_l5_ok hX hf0 hF _ _ _ _ _ h)
def X5_more_b22 (v1 : Int32) (v2 : Int32) (t1 : Int32) (I : hM) : Option (Int32 × hM) := gd (decide (t1 = (0 : Int32)) || decide (t1 = (1 : Int32))) (if ((hu (hu I 92 33 t1) 92 31 (((hu I 92 33 t1) 92 31) + (1 : Int32))) 92 33) = 0 then (ob (X5_number v1 v2 (hu (hu I 92 33 t1) 92 31 (((hu I 92 33 t1) 92 31) + (1 : Int32)))) (fun u4 Ia5 => some (u4, Ia5))) else (some ((0 : Int32), (hu (hu I 92 33 t1) 92 31 (((hu I 92 33 t1) 92 31) + (1 : Int32))))))
def X5_more (v1 : Int32) (v2 : Int32) (I : hM) : Option (Int32 × hM) := if (I 92 33) = 0 then (ob (X5_next I) (fun u1 Ia2 => if u1 = (44 : Int32) then ((X5_more_b22 v1 v2 (0 : Int32) Ia2)) else ((X5_more_b22 v1 v2 (1 : Int32) Ia2)))) else ((X5_more_b22 v1 v2 (1 : Int32) I))
theorem X5_more_hy : yX5_more.cls = RX5 ∧ yX5_more.cls ≠ "java/lang/invoke/MethodHandle" ∧ yX5_more.cls ≠ "java/lang/invoke/VarHandle" ∧ (parseMethodDescriptor yX5_more.desc).map (fun d => d.parameters.length) = some 2 := by decide +kernel
theorem X5_more_k141 : Cond.fieldLink RX5 141 "HatPinsModel" "isWrong" "Z" ∈ wsX5_more := by decide +kernel
theorem X5_more_k130 : Cond.fieldLink RX5 130 "HatPinsModel" "at" "I" ∈ wsX5_more := by decide +kernel
theorem X5_more_w5 : ∀ w ∈ wsX50, w ∈ wsX5_more := by decide +kernel
set_option maxHeartbeats 4000000 in
set_option maxRecDepth 100000 in
theorem X5_more_b22_ok {p : Program} {l : Launch} {e : Env} {s : State} {m : MethodId} {args : Array Value} {below : List Frame} {meth : Method} {c : Code} {D : va_G} {E : Nat → ClassId} {b z : Nat} {sh : List hS} {r : Int32} {I2 : hM} {v1 : Int32} {v2 : Int32} {t1 : Int32} {I : hM} (hX : hp_X p s m args meth c yX5_more.cls cX5_more 3 wsX5_more D E (some .int) yX5_more.name) (hf0 : hq_X5 sh) (h : X5_more_b22 v1 v2 t1 I = some (r, I2)) : hp_J p l e ({ frames := 2, cells := 0, slots := 0, locals := 44 * 2 }) s m args below meth c (MQ below (hp_Q D E b z (some (.int r)) sh I2) args s 0 0 (fun q : Nat => b ≤ q)) D E b z 3 sh 0 0 I 22 [(0, .ref 92), (1, .int v1), (2, .int v2)] [.int t1, .ref 92] := by
  unfold X5_more_b22 at h
  refine hj_putz hX (j := 33) hf0.1 rfl rfl X5_more_w5 (Nat.le_of_ble_eq_true rfl) rfl X5_more_k141 tyX5_ok nmX5 rfl (by decide +kernel) dX5_more_22 h (fun h => ?_)
  refine hj_aload_n hX rfl 0 rfl dX5_more_25 ?_
  refine hj_dup hX rfl dX5_more_26 ?_
  refine hj_geti hX (j := 31) hf0.1 rfl rfl X5_more_w5 (Nat.le_of_ble_eq_true rfl) rfl X5_more_k130 dX5_more_27 ?_
  refine hj_iconst hX (v := (1 : Int32)) (by decide) dX5_more_30 ?_
  refine hj_iadd hX dX5_more_31 ?_
  refine hj_puti hX (j := 31) hf0.1 rfl rfl X5_more_w5 (Nat.le_of_ble_eq_true rfl) rfl X5_more_k130 tyX5_ok nmX5 rfl (by decide +kernel) dX5_more_32 ?_
  refine hj_aload_n hX rfl 0 rfl dX5_more_35 ?_
  refine hj_geti hX (j := 33) hf0.1 rfl rfl X5_more_w5 (Nat.le_of_ble_eq_true rfl) rfl X5_more_k141 dX5_more_36 ?_
  refine hj_if_eq hX (tgt := 46) (by decide) dX5_more_39 h (fun h => ?_) (fun h => ?_)
  · refine hj_aload_n hX rfl 0 rfl dX5_more_46 ?_
    refine hj_iload_n hX rfl 1 rfl dX5_more_47 ?_
    refine hj_iload_n hX rfl 2 rfl dX5_more_48 ?_
    obtain ⟨u4, Ia5, hc6, h⟩ := ob_e h
    refine hj_callV hX (sh2 := sh) (I2 := Ia5) (r := (some (.int u4))) (As := [.int v1, .int v2]) (rest := []) (st2 := [.int u4]) (X5_number_ok hf0 hc6) gX5_more_X5_number rfl X5_number_hy ⟨(Nat.le_of_ble_eq_true rfl), (Nat.le_of_ble_eq_true rfl)⟩ rfl hf0.1 rfl (Nat.le_of_ble_eq_true rfl) ⟨(Nat.le_of_ble_eq_true rfl), (Nat.le_of_ble_eq_true rfl)⟩ rfl rfl rfl dX5_more_49 ?_
    exact hj_iret hX dX5_more_52 h
  · refine hj_iconst hX (v := (0 : Int32)) (by decide) dX5_more_42 ?_
    refine hj_goto hX (tgt := 52) (by decide) dX5_more_43 ?_
    exact hj_iret hX dX5_more_52 h
set_option maxHeartbeats 4000000 in
set_option maxRecDepth 100000 in
theorem X5_more_ok {sh : List hS} {r : Int32} {I I2 : hM} {v1 : Int32} {v2 : Int32} (hf0 : hq_X5 sh) (h : X5_more v1 v2 I = some (r, I2)) : hp_C yX5_more wsX5_more 2 0 0 sh I [.ref 92, .int v1, .int v2] (some (.int r)) sh I2 := hp_start (cc := cX5_more) (maxL := 3) (ret := (some .int)) [(0, .ref 92), (1, .int v1), (2, .int v2)] (by decide) rfl (fun _ _ => rfl) (fun _ _ => Nat.le_of_ble_eq_true rfl) (fun p l e s m below meth c D E b z hX _ => by
  unfold X5_more at h
  refine hj_aload_n hX rfl 0 rfl dX5_more_0 ?_
  refine hj_aload_n hX rfl 0 rfl dX5_more_1 ?_
  refine hj_geti hX (j := 33) hf0.1 rfl rfl X5_more_w5 (Nat.le_of_ble_eq_true rfl) rfl X5_more_k141 dX5_more_2 ?_
  refine hj_if_ne hX (tgt := 17) (by decide) dX5_more_5 h (fun h => ?_) (fun h => ?_)
  · refine hj_iconst hX (v := (1 : Int32)) (by decide) dX5_more_17 ?_
    refine hj_goto hX (tgt := 22) (by decide) dX5_more_18 ?_
    exact X5_more_b22_ok hX hf0 h
  · refine hj_aload_n hX rfl 0 rfl dX5_more_8 ?_
    obtain ⟨u1, Ia2, hc3, h⟩ := ob_e h
    refine hj_callV hX (sh2 := sh) (I2 := Ia2) (r := (some (.int u1))) (As := []) (rest := [.ref 92]) (st2 := [.int u1, .ref 92]) (X5_next_ok hf0 hc3) gX5_more_X5_next rfl X5_next_hy ⟨(Nat.le_of_ble_eq_true rfl), (Nat.le_of_ble_eq_true rfl)⟩ rfl hf0.1 rfl (Nat.le_of_ble_eq_true rfl) ⟨(Nat.le_of_ble_eq_true rfl), (Nat.le_of_ble_eq_true rfl)⟩ rfl rfl rfl dX5_more_9 ?_
    refine hj_bipush hX (v := (44 : Int32)) (by decide) dX5_more_12 ?_
    refine hj_icmp_eq hX (tgt := 21) (by decide) dX5_more_14 h (fun h => ?_) (fun h => ?_)
    · refine hj_iconst hX (v := (0 : Int32)) (by decide) dX5_more_21 ?_
      exact X5_more_b22_ok hX hf0 h
    · refine hj_iconst hX (v := (1 : Int32)) (by decide) dX5_more_17 ?_
      refine hj_goto hX (tgt := 22) (by decide) dX5_more_18 ?_
      exact X5_more_b22_ok hX hf0 h)
def X5_goingItem_b69 (v1 : Int32) (v2 : Int32) (t1 : Int32) (I : hM) : Option (Int32 × hM) := gd (decide (t1 = (0 : Int32)) || decide (t1 = (1 : Int32))) (ob (X5_more (0 : Int32) (20 : Int32) (hu I 92 33 t1)) (fun u7 Ia8 => ob (X5_more (0 : Int32) (5 : Int32) Ia8) (fun u10 Ia11 => ob (X5_more (1 : Int32) (40 : Int32) Ia11) (fun u13 Ia14 => if (Ia14 92 33) = 0 then (ob (X5_comes v1 v2 u7 u10 u13 Ia14) (fun u16 Ia17 => some (0, Ia17))) else (some (0, Ia14))))))
def X5_goingItem_b35 (t0 : Int32) (I : hM) : Option (Int32 × hM) := ob (X5_more (0 : Int32) (99 : Int32) I) (fun u4 Ia5 => if (Ia5 92 33) = 0 then (if u4 ≤ (60 : Int32) then ((X5_goingItem_b69 t0 u4 (0 : Int32) Ia5)) else (if (99 : Int32) ≤ u4 then ((X5_goingItem_b69 t0 u4 (0 : Int32) Ia5)) else ((X5_goingItem_b69 t0 u4 (1 : Int32) Ia5)))) else ((X5_goingItem_b69 t0 u4 (1 : Int32) Ia5)))
def X5_goingItem_b15 (t1 : Int32) (I : hM) : Option (Int32 × hM) := gd (decide (t1 = (0 : Int32)) || decide (t1 = (1 : Int32))) (if ((hu I 92 33 t1) 92 33) = 0 then (ob (X5_number (0 : Int32) (3 : Int32) (hu I 92 33 t1)) (fun u1 Ia2 => (X5_goingItem_b35 u1 Ia2))) else ((X5_goingItem_b35 (0 : Int32) (hu I 92 33 t1))))
def X5_goingItem (I : hM) : Option (Int32 × hM) := if (I 92 13) = (7 : Int32) then ((X5_goingItem_b15 (1 : Int32) I)) else ((X5_goingItem_b15 (0 : Int32) I))
theorem X5_goingItem_hy : yX5_goingItem.cls = RX5 ∧ yX5_goingItem.cls ≠ "java/lang/invoke/MethodHandle" ∧ yX5_goingItem.cls ≠ "java/lang/invoke/VarHandle" ∧ (parseMethodDescriptor yX5_goingItem.desc).map (fun d => d.parameters.length) = some 0 := by decide +kernel
theorem X5_goingItem_k104 : Cond.fieldLink RX5 104 "HatPinsModel" "newMany" "I" ∈ wsX5_goingItem := by decide +kernel
theorem X5_goingItem_k141 : Cond.fieldLink RX5 141 "HatPinsModel" "isWrong" "Z" ∈ wsX5_goingItem := by decide +kernel
theorem X5_goingItem_w5 : ∀ w ∈ wsX50, w ∈ wsX5_goingItem := by decide +kernel
set_option maxHeartbeats 4000000 in
set_option maxRecDepth 100000 in
theorem X5_goingItem_b69_ok {p : Program} {l : Launch} {e : Env} {s : State} {m : MethodId} {args : Array Value} {below : List Frame} {meth : Method} {c : Code} {D : va_G} {E : Nat → ClassId} {b z : Nat} {sh : List hS} {r : Int32} {I2 : hM} {v1 : Int32} {v2 : Int32} {t1 : Int32} {I : hM} (hX : hp_X p s m args meth c yX5_goingItem.cls cX5_goingItem 6 wsX5_goingItem D E none yX5_goingItem.name) (hf0 : hq_X5 sh) (h : X5_goingItem_b69 v1 v2 t1 I = some (r, I2)) : hp_J p l e ({ frames := 3, cells := 0, slots := 0, locals := 44 * 3 }) s m args below meth c (MQ below (hp_Q D E b z none sh I2) args s 0 0 (fun q : Nat => b ≤ q)) D E b z 6 sh 0 0 I 69 [(0, .ref 92), (1, .int v1), (2, .int v2)] [.int t1, .ref 92] := by
  unfold X5_goingItem_b69 at h
  refine hj_putz hX (j := 33) hf0.1 rfl rfl X5_goingItem_w5 (Nat.le_of_ble_eq_true rfl) rfl X5_goingItem_k141 tyX5_ok nmX5 rfl (by decide +kernel) dX5_goingItem_69 h (fun h => ?_)
  refine hj_aload_n hX rfl 0 rfl dX5_goingItem_72 ?_
  refine hj_iconst hX (v := (0 : Int32)) (by decide) dX5_goingItem_73 ?_
  refine hj_bipush hX (v := (20 : Int32)) (by decide) dX5_goingItem_74 ?_
  obtain ⟨u7, Ia8, hc9, h⟩ := ob_e h
  refine hj_callV hX (sh2 := sh) (I2 := Ia8) (r := (some (.int u7))) (As := [.int (0 : Int32), .int (20 : Int32)]) (rest := []) (st2 := [.int u7]) (X5_more_ok hf0 hc9) gX5_goingItem_X5_more rfl X5_more_hy ⟨(Nat.le_of_ble_eq_true rfl), (Nat.le_of_ble_eq_true rfl)⟩ rfl hf0.1 rfl (Nat.le_of_ble_eq_true rfl) ⟨(Nat.le_of_ble_eq_true rfl), (Nat.le_of_ble_eq_true rfl)⟩ rfl rfl rfl dX5_goingItem_76 ?_
  refine hj_istore_n hX rfl (Nat.le_of_ble_eq_true rfl) (lv2 := [(3, .int u7), (0, .ref 92), (1, .int v1), (2, .int v2)]) rfl dX5_goingItem_79 ?_
  refine hj_aload_n hX rfl 1 rfl dX5_goingItem_80 ?_
  refine hj_iconst hX (v := (0 : Int32)) (by decide) dX5_goingItem_81 ?_
  refine hj_iconst hX (v := (5 : Int32)) (by decide) dX5_goingItem_82 ?_
  obtain ⟨u10, Ia11, hc12, h⟩ := ob_e h
  refine hj_callV hX (sh2 := sh) (I2 := Ia11) (r := (some (.int u10))) (As := [.int (0 : Int32), .int (5 : Int32)]) (rest := []) (st2 := [.int u10]) (X5_more_ok hf0 hc12) gX5_goingItem_X5_more rfl X5_more_hy ⟨(Nat.le_of_ble_eq_true rfl), (Nat.le_of_ble_eq_true rfl)⟩ rfl hf0.1 rfl (Nat.le_of_ble_eq_true rfl) ⟨(Nat.le_of_ble_eq_true rfl), (Nat.le_of_ble_eq_true rfl)⟩ rfl rfl rfl dX5_goingItem_83 ?_
  refine hj_istore hX (Nat.le_of_ble_eq_true rfl) (lv2 := [(4, .int u10), (3, .int u7), (0, .ref 92), (1, .int v1), (2, .int v2)]) rfl dX5_goingItem_86 ?_
  refine hj_aload_n hX rfl 2 rfl dX5_goingItem_88 ?_
  refine hj_iconst hX (v := (1 : Int32)) (by decide) dX5_goingItem_89 ?_
  refine hj_bipush hX (v := (40 : Int32)) (by decide) dX5_goingItem_90 ?_
  obtain ⟨u13, Ia14, hc15, h⟩ := ob_e h
  refine hj_callV hX (sh2 := sh) (I2 := Ia14) (r := (some (.int u13))) (As := [.int (1 : Int32), .int (40 : Int32)]) (rest := []) (st2 := [.int u13]) (X5_more_ok hf0 hc15) gX5_goingItem_X5_more rfl X5_more_hy ⟨(Nat.le_of_ble_eq_true rfl), (Nat.le_of_ble_eq_true rfl)⟩ rfl hf0.1 rfl (Nat.le_of_ble_eq_true rfl) ⟨(Nat.le_of_ble_eq_true rfl), (Nat.le_of_ble_eq_true rfl)⟩ rfl rfl rfl dX5_goingItem_92 ?_
  refine hj_istore hX (Nat.le_of_ble_eq_true rfl) (lv2 := [(5, .int u13), (4, .int u10), (3, .int u7), (0, .ref 92), (1, .int v1), (2, .int v2)]) rfl dX5_goingItem_95 ?_
  refine hj_aload_n hX rfl 3 rfl dX5_goingItem_97 ?_
  refine hj_geti hX (j := 33) hf0.1 rfl rfl X5_goingItem_w5 (Nat.le_of_ble_eq_true rfl) rfl X5_goingItem_k141 dX5_goingItem_98 ?_
  refine hj_if_ne hX (tgt := 115) (by decide) dX5_goingItem_101 h (fun h => ?_) (fun h => ?_)
  · exact hj_vret hX dX5_goingItem_115 h
  · refine hj_aload_n hX rfl 3 rfl dX5_goingItem_104 ?_
    refine hj_iload_n hX rfl 4 rfl dX5_goingItem_105 ?_
    refine hj_iload_n hX rfl 5 rfl dX5_goingItem_106 ?_
    refine hj_iload_n hX rfl 2 rfl dX5_goingItem_107 ?_
    refine hj_iload hX 1 rfl dX5_goingItem_108 ?_
    refine hj_iload hX 0 rfl dX5_goingItem_110 ?_
    obtain ⟨u16, Ia17, hc18, h⟩ := ob_e h
    refine hj_callV hX (sh2 := sh) (I2 := Ia17) (r := none) (As := [.int v1, .int v2, .int u7, .int u10, .int u13]) (rest := []) (st2 := []) (X5_comes_ok hf0 hc18) gX5_goingItem_X5_comes rfl X5_comes_hy ⟨(Nat.le_of_ble_eq_true rfl), (Nat.le_of_ble_eq_true rfl)⟩ rfl hf0.1 rfl (Nat.le_of_ble_eq_true rfl) ⟨(Nat.le_of_ble_eq_true rfl), (Nat.le_of_ble_eq_true rfl)⟩ rfl rfl rfl dX5_goingItem_112 ?_
    exact hj_vret hX dX5_goingItem_115 h
set_option maxHeartbeats 4000000 in
set_option maxRecDepth 100000 in
theorem X5_goingItem_b35_ok {p : Program} {l : Launch} {e : Env} {s : State} {m : MethodId} {args : Array Value} {below : List Frame} {meth : Method} {c : Code} {D : va_G} {E : Nat → ClassId} {b z : Nat} {sh : List hS} {r : Int32} {I2 : hM} {t0 : Int32} {I : hM} (hX : hp_X p s m args meth c yX5_goingItem.cls cX5_goingItem 6 wsX5_goingItem D E none yX5_goingItem.name) (hf0 : hq_X5 sh) (h : X5_goingItem_b35 t0 I = some (r, I2)) : hp_J p l e ({ frames := 3, cells := 0, slots := 0, locals := 44 * 3 }) s m args below meth c (MQ below (hp_Q D E b z none sh I2) args s 0 0 (fun q : Nat => b ≤ q)) D E b z 6 sh 0 0 I 35 [(0, .ref 92)] [.int t0] := by
  unfold X5_goingItem_b35 at h
  refine hj_istore_n hX rfl (Nat.le_of_ble_eq_true rfl) (lv2 := [(1, .int t0), (0, .ref 92)]) rfl dX5_goingItem_35 ?_
  refine hj_aload_n hX rfl 1 rfl dX5_goingItem_36 ?_
  refine hj_iconst hX (v := (0 : Int32)) (by decide) dX5_goingItem_37 ?_
  refine hj_bipush hX (v := (99 : Int32)) (by decide) dX5_goingItem_38 ?_
  obtain ⟨u4, Ia5, hc6, h⟩ := ob_e h
  refine hj_callV hX (sh2 := sh) (I2 := Ia5) (r := (some (.int u4))) (As := [.int (0 : Int32), .int (99 : Int32)]) (rest := []) (st2 := [.int u4]) (X5_more_ok hf0 hc6) gX5_goingItem_X5_more rfl X5_more_hy ⟨(Nat.le_of_ble_eq_true rfl), (Nat.le_of_ble_eq_true rfl)⟩ rfl hf0.1 rfl (Nat.le_of_ble_eq_true rfl) ⟨(Nat.le_of_ble_eq_true rfl), (Nat.le_of_ble_eq_true rfl)⟩ rfl rfl rfl dX5_goingItem_40 ?_
  refine hj_istore_n hX rfl (Nat.le_of_ble_eq_true rfl) (lv2 := [(2, .int u4), (1, .int t0), (0, .ref 92)]) rfl dX5_goingItem_43 ?_
  refine hj_aload_n hX rfl 2 rfl dX5_goingItem_44 ?_
  refine hj_aload_n hX rfl 2 rfl dX5_goingItem_45 ?_
  refine hj_geti hX (j := 33) hf0.1 rfl rfl X5_goingItem_w5 (Nat.le_of_ble_eq_true rfl) rfl X5_goingItem_k141 dX5_goingItem_46 ?_
  refine hj_if_ne hX (tgt := 64) (by decide) dX5_goingItem_49 h (fun h => ?_) (fun h => ?_)
  · refine hj_iconst hX (v := (1 : Int32)) (by decide) dX5_goingItem_64 ?_
    refine hj_goto hX (tgt := 69) (by decide) dX5_goingItem_65 ?_
    refine hj_lv hX [2, 1, 0] (lv2 := [(0, .ref 92), (1, .int t0), (2, .int u4)]) rfl ?_
    exact X5_goingItem_b69_ok hX hf0 h
  · refine hj_iload_n hX rfl 0 rfl dX5_goingItem_52 ?_
    refine hj_bipush hX (v := (60 : Int32)) (by decide) dX5_goingItem_53 ?_
    refine hj_icmp_le hX (tgt := 68) (by decide) dX5_goingItem_55 h (fun h => ?_) (fun h => ?_)
    · refine hj_iconst hX (v := (0 : Int32)) (by decide) dX5_goingItem_68 ?_
      refine hj_lv hX [2, 1, 0] (lv2 := [(0, .ref 92), (1, .int t0), (2, .int u4)]) rfl ?_
      exact X5_goingItem_b69_ok hX hf0 h
    · refine hj_iload_n hX rfl 0 rfl dX5_goingItem_58 ?_
      refine hj_bipush hX (v := (99 : Int32)) (by decide) dX5_goingItem_59 ?_
      refine hj_icmp_ge hX (tgt := 68) (by decide) dX5_goingItem_61 h (fun h => ?_) (fun h => ?_)
      · refine hj_iconst hX (v := (0 : Int32)) (by decide) dX5_goingItem_68 ?_
        refine hj_lv hX [2, 1, 0] (lv2 := [(0, .ref 92), (1, .int t0), (2, .int u4)]) rfl ?_
        exact X5_goingItem_b69_ok hX hf0 h
      · refine hj_iconst hX (v := (1 : Int32)) (by decide) dX5_goingItem_64 ?_
        refine hj_goto hX (tgt := 69) (by decide) dX5_goingItem_65 ?_
        refine hj_lv hX [2, 1, 0] (lv2 := [(0, .ref 92), (1, .int t0), (2, .int u4)]) rfl ?_
        exact X5_goingItem_b69_ok hX hf0 h
set_option maxHeartbeats 4000000 in
set_option maxRecDepth 100000 in
theorem X5_goingItem_b15_ok {p : Program} {l : Launch} {e : Env} {s : State} {m : MethodId} {args : Array Value} {below : List Frame} {meth : Method} {c : Code} {D : va_G} {E : Nat → ClassId} {b z : Nat} {sh : List hS} {r : Int32} {I2 : hM} {t1 : Int32} {I : hM} (hX : hp_X p s m args meth c yX5_goingItem.cls cX5_goingItem 6 wsX5_goingItem D E none yX5_goingItem.name) (hf0 : hq_X5 sh) (h : X5_goingItem_b15 t1 I = some (r, I2)) : hp_J p l e ({ frames := 3, cells := 0, slots := 0, locals := 44 * 3 }) s m args below meth c (MQ below (hp_Q D E b z none sh I2) args s 0 0 (fun q : Nat => b ≤ q)) D E b z 6 sh 0 0 I 15 [(0, .ref 92)] [.int t1, .ref 92] := by
  unfold X5_goingItem_b15 at h
  refine hj_putz hX (j := 33) hf0.1 rfl rfl X5_goingItem_w5 (Nat.le_of_ble_eq_true rfl) rfl X5_goingItem_k141 tyX5_ok nmX5 rfl (by decide +kernel) dX5_goingItem_15 h (fun h => ?_)
  refine hj_aload_n hX rfl 0 rfl dX5_goingItem_18 ?_
  refine hj_geti hX (j := 33) hf0.1 rfl rfl X5_goingItem_w5 (Nat.le_of_ble_eq_true rfl) rfl X5_goingItem_k141 dX5_goingItem_19 ?_
  refine hj_if_eq hX (tgt := 29) (by decide) dX5_goingItem_22 h (fun h => ?_) (fun h => ?_)
  · refine hj_aload_n hX rfl 0 rfl dX5_goingItem_29 ?_
    refine hj_iconst hX (v := (0 : Int32)) (by decide) dX5_goingItem_30 ?_
    refine hj_iconst hX (v := (3 : Int32)) (by decide) dX5_goingItem_31 ?_
    obtain ⟨u1, Ia2, hc3, h⟩ := ob_e h
    refine hj_callV hX (sh2 := sh) (I2 := Ia2) (r := (some (.int u1))) (As := [.int (0 : Int32), .int (3 : Int32)]) (rest := []) (st2 := [.int u1]) (X5_number_ok hf0 hc3) gX5_goingItem_X5_number rfl X5_number_hy ⟨(Nat.le_of_ble_eq_true rfl), (Nat.le_of_ble_eq_true rfl)⟩ rfl hf0.1 rfl (Nat.le_of_ble_eq_true rfl) ⟨(Nat.le_of_ble_eq_true rfl), (Nat.le_of_ble_eq_true rfl)⟩ rfl rfl rfl dX5_goingItem_32 ?_
    exact X5_goingItem_b35_ok hX hf0 h
  · refine hj_iconst hX (v := (0 : Int32)) (by decide) dX5_goingItem_25 ?_
    refine hj_goto hX (tgt := 35) (by decide) dX5_goingItem_26 ?_
    exact X5_goingItem_b35_ok hX hf0 h
set_option maxHeartbeats 4000000 in
set_option maxRecDepth 100000 in
theorem X5_goingItem_ok {sh : List hS} {r : Int32} {I I2 : hM} (hf0 : hq_X5 sh) (h : X5_goingItem I = some (r, I2)) : hp_C yX5_goingItem wsX5_goingItem 3 0 0 sh I [.ref 92] none sh I2 := hp_start (cc := cX5_goingItem) (maxL := 6) (ret := none) [(0, .ref 92)] (by decide) rfl (fun _ _ => rfl) (fun _ _ => Nat.le_of_ble_eq_true rfl) (fun p l e s m below meth c D E b z hX _ => by
  unfold X5_goingItem at h
  refine hj_aload_n hX rfl 0 rfl dX5_goingItem_0 ?_
  refine hj_aload_n hX rfl 0 rfl dX5_goingItem_1 ?_
  refine hj_geti hX (j := 13) hf0.1 rfl rfl X5_goingItem_w5 (Nat.le_of_ble_eq_true rfl) rfl X5_goingItem_k104 dX5_goingItem_2 ?_
  refine hj_bipush hX (v := (7 : Int32)) (by decide) dX5_goingItem_5 ?_
  refine hj_icmp_ne hX (tgt := 14) (by decide) dX5_goingItem_7 h (fun h => ?_) (fun h => ?_)
  · refine hj_iconst hX (v := (0 : Int32)) (by decide) dX5_goingItem_14 ?_
    exact X5_goingItem_b15_ok hX hf0 h
  · refine hj_iconst hX (v := (1 : Int32)) (by decide) dX5_goingItem_10 ?_
    refine hj_goto hX (tgt := 15) (by decide) dX5_goingItem_11 ?_
    exact X5_goingItem_b15_ok hX hf0 h)
def X5_followItem_b71 (v1 : Int32) (v2 : Int32) (t1 : Int32) (I : hM) : Option (Int32 × hM) := gd (decide (t1 = (0 : Int32)) || decide (t1 = (1 : Int32))) (ob (X5_more (0 : Int32) (20 : Int32) (hu I 92 33 t1)) (fun u7 Ia8 => if (Ia8 92 33) = 0 then (ob (X5_follow v1 v2 u7 Ia8) (fun u10 Ia11 => some (0, Ia11))) else (some (0, Ia8))))
def X5_followItem_b40 (t0 : Int32) (I : hM) : Option (Int32 × hM) := ob (X5_more (0 : Int32) ((I 92 13) - (1 : Int32)) I) (fun u4 Ia5 => if (Ia5 92 33) = 0 then (if t0 = u4 then ((X5_followItem_b71 t0 u4 (1 : Int32) Ia5)) else ((X5_followItem_b71 t0 u4 (0 : Int32) Ia5))) else ((X5_followItem_b71 t0 u4 (1 : Int32) Ia5)))
def X5_followItem_b15 (t1 : Int32) (I : hM) : Option (Int32 × hM) := gd (decide (t1 = (0 : Int32)) || decide (t1 = (1 : Int32))) (if ((hu I 92 33 t1) 92 33) = 0 then (ob (X5_number (0 : Int32) (((hu I 92 33 t1) 92 13) - (1 : Int32)) (hu I 92 33 t1)) (fun u1 Ia2 => (X5_followItem_b40 u1 Ia2))) else ((X5_followItem_b40 (0 : Int32) (hu I 92 33 t1))))
def X5_followItem (I : hM) : Option (Int32 × hM) := if (I 92 19) = (6 : Int32) then ((X5_followItem_b15 (1 : Int32) I)) else ((X5_followItem_b15 (0 : Int32) I))
theorem X5_followItem_hy : yX5_followItem.cls = RX5 ∧ yX5_followItem.cls ≠ "java/lang/invoke/MethodHandle" ∧ yX5_followItem.cls ≠ "java/lang/invoke/VarHandle" ∧ (parseMethodDescriptor yX5_followItem.desc).map (fun d => d.parameters.length) = some 0 := by decide +kernel
theorem X5_followItem_k107 : Cond.fieldLink RX5 107 "HatPinsModel" "newFollows" "I" ∈ wsX5_followItem := by decide +kernel
theorem X5_followItem_k141 : Cond.fieldLink RX5 141 "HatPinsModel" "isWrong" "Z" ∈ wsX5_followItem := by decide +kernel
theorem X5_followItem_k104 : Cond.fieldLink RX5 104 "HatPinsModel" "newMany" "I" ∈ wsX5_followItem := by decide +kernel
theorem X5_followItem_w5 : ∀ w ∈ wsX50, w ∈ wsX5_followItem := by decide +kernel
set_option maxHeartbeats 4000000 in
set_option maxRecDepth 100000 in
theorem X5_followItem_b71_ok {p : Program} {l : Launch} {e : Env} {s : State} {m : MethodId} {args : Array Value} {below : List Frame} {meth : Method} {c : Code} {D : va_G} {E : Nat → ClassId} {b z : Nat} {sh : List hS} {r : Int32} {I2 : hM} {v1 : Int32} {v2 : Int32} {t1 : Int32} {I : hM} (hX : hp_X p s m args meth c yX5_followItem.cls cX5_followItem 4 wsX5_followItem D E none yX5_followItem.name) (hf0 : hq_X5 sh) (h : X5_followItem_b71 v1 v2 t1 I = some (r, I2)) : hp_J p l e ({ frames := 3, cells := 0, slots := 0, locals := 44 * 3 }) s m args below meth c (MQ below (hp_Q D E b z none sh I2) args s 0 0 (fun q : Nat => b ≤ q)) D E b z 4 sh 0 0 I 71 [(0, .ref 92), (1, .int v1), (2, .int v2)] [.int t1, .ref 92] := by
  unfold X5_followItem_b71 at h
  refine hj_putz hX (j := 33) hf0.1 rfl rfl X5_followItem_w5 (Nat.le_of_ble_eq_true rfl) rfl X5_followItem_k141 tyX5_ok nmX5 rfl (by decide +kernel) dX5_followItem_71 h (fun h => ?_)
  refine hj_aload_n hX rfl 0 rfl dX5_followItem_74 ?_
  refine hj_iconst hX (v := (0 : Int32)) (by decide) dX5_followItem_75 ?_
  refine hj_bipush hX (v := (20 : Int32)) (by decide) dX5_followItem_76 ?_
  obtain ⟨u7, Ia8, hc9, h⟩ := ob_e h
  refine hj_callV hX (sh2 := sh) (I2 := Ia8) (r := (some (.int u7))) (As := [.int (0 : Int32), .int (20 : Int32)]) (rest := []) (st2 := [.int u7]) (X5_more_ok hf0 hc9) gX5_followItem_X5_more rfl X5_more_hy ⟨(Nat.le_of_ble_eq_true rfl), (Nat.le_of_ble_eq_true rfl)⟩ rfl hf0.1 rfl (Nat.le_of_ble_eq_true rfl) ⟨(Nat.le_of_ble_eq_true rfl), (Nat.le_of_ble_eq_true rfl)⟩ rfl rfl rfl dX5_followItem_78 ?_
  refine hj_istore_n hX rfl (Nat.le_of_ble_eq_true rfl) (lv2 := [(3, .int u7), (0, .ref 92), (1, .int v1), (2, .int v2)]) rfl dX5_followItem_81 ?_
  refine hj_aload_n hX rfl 1 rfl dX5_followItem_82 ?_
  refine hj_geti hX (j := 33) hf0.1 rfl rfl X5_followItem_w5 (Nat.le_of_ble_eq_true rfl) rfl X5_followItem_k141 dX5_followItem_83 ?_
  refine hj_if_ne hX (tgt := 96) (by decide) dX5_followItem_86 h (fun h => ?_) (fun h => ?_)
  · exact hj_vret hX dX5_followItem_96 h
  · refine hj_aload_n hX rfl 1 rfl dX5_followItem_89 ?_
    refine hj_iload_n hX rfl 2 rfl dX5_followItem_90 ?_
    refine hj_iload_n hX rfl 3 rfl dX5_followItem_91 ?_
    refine hj_iload_n hX rfl 0 rfl dX5_followItem_92 ?_
    obtain ⟨u10, Ia11, hc12, h⟩ := ob_e h
    refine hj_callV hX (sh2 := sh) (I2 := Ia11) (r := none) (As := [.int v1, .int v2, .int u7]) (rest := []) (st2 := []) (X5_follow_ok hf0 hc12) gX5_followItem_X5_follow rfl X5_follow_hy ⟨(Nat.le_of_ble_eq_true rfl), (Nat.le_of_ble_eq_true rfl)⟩ rfl hf0.1 rfl (Nat.le_of_ble_eq_true rfl) ⟨(Nat.le_of_ble_eq_true rfl), (Nat.le_of_ble_eq_true rfl)⟩ rfl rfl rfl dX5_followItem_93 ?_
    exact hj_vret hX dX5_followItem_96 h
set_option maxHeartbeats 4000000 in
set_option maxRecDepth 100000 in
theorem X5_followItem_b40_ok {p : Program} {l : Launch} {e : Env} {s : State} {m : MethodId} {args : Array Value} {below : List Frame} {meth : Method} {c : Code} {D : va_G} {E : Nat → ClassId} {b z : Nat} {sh : List hS} {r : Int32} {I2 : hM} {t0 : Int32} {I : hM} (hX : hp_X p s m args meth c yX5_followItem.cls cX5_followItem 4 wsX5_followItem D E none yX5_followItem.name) (hf0 : hq_X5 sh) (h : X5_followItem_b40 t0 I = some (r, I2)) : hp_J p l e ({ frames := 3, cells := 0, slots := 0, locals := 44 * 3 }) s m args below meth c (MQ below (hp_Q D E b z none sh I2) args s 0 0 (fun q : Nat => b ≤ q)) D E b z 4 sh 0 0 I 40 [(0, .ref 92)] [.int t0] := by
  unfold X5_followItem_b40 at h
  refine hj_istore_n hX rfl (Nat.le_of_ble_eq_true rfl) (lv2 := [(1, .int t0), (0, .ref 92)]) rfl dX5_followItem_40 ?_
  refine hj_aload_n hX rfl 1 rfl dX5_followItem_41 ?_
  refine hj_iconst hX (v := (0 : Int32)) (by decide) dX5_followItem_42 ?_
  refine hj_aload_n hX rfl 1 rfl dX5_followItem_43 ?_
  refine hj_geti hX (j := 13) hf0.1 rfl rfl X5_followItem_w5 (Nat.le_of_ble_eq_true rfl) rfl X5_followItem_k104 dX5_followItem_44 ?_
  refine hj_iconst hX (v := (1 : Int32)) (by decide) dX5_followItem_47 ?_
  refine hj_isub hX dX5_followItem_48 ?_
  obtain ⟨u4, Ia5, hc6, h⟩ := ob_e h
  refine hj_callV hX (sh2 := sh) (I2 := Ia5) (r := (some (.int u4))) (As := [.int (0 : Int32), .int ((I 92 13) - (1 : Int32))]) (rest := []) (st2 := [.int u4]) (X5_more_ok hf0 hc6) gX5_followItem_X5_more rfl X5_more_hy ⟨(Nat.le_of_ble_eq_true rfl), (Nat.le_of_ble_eq_true rfl)⟩ rfl hf0.1 rfl (Nat.le_of_ble_eq_true rfl) ⟨(Nat.le_of_ble_eq_true rfl), (Nat.le_of_ble_eq_true rfl)⟩ rfl rfl rfl dX5_followItem_49 ?_
  refine hj_istore_n hX rfl (Nat.le_of_ble_eq_true rfl) (lv2 := [(2, .int u4), (1, .int t0), (0, .ref 92)]) rfl dX5_followItem_52 ?_
  refine hj_aload_n hX rfl 2 rfl dX5_followItem_53 ?_
  refine hj_aload_n hX rfl 2 rfl dX5_followItem_54 ?_
  refine hj_geti hX (j := 33) hf0.1 rfl rfl X5_followItem_w5 (Nat.le_of_ble_eq_true rfl) rfl X5_followItem_k141 dX5_followItem_55 ?_
  refine hj_if_ne hX (tgt := 66) (by decide) dX5_followItem_58 h (fun h => ?_) (fun h => ?_)
  · refine hj_iconst hX (v := (1 : Int32)) (by decide) dX5_followItem_66 ?_
    refine hj_goto hX (tgt := 71) (by decide) dX5_followItem_67 ?_
    refine hj_lv hX [2, 1, 0] (lv2 := [(0, .ref 92), (1, .int t0), (2, .int u4)]) rfl ?_
    exact X5_followItem_b71_ok hX hf0 h
  · refine hj_iload_n hX rfl 1 rfl dX5_followItem_61 ?_
    refine hj_iload_n hX rfl 0 rfl dX5_followItem_62 ?_
    refine hj_icmp_ne hX (tgt := 70) (by decide) dX5_followItem_63 h (fun h => ?_) (fun h => ?_)
    · refine hj_iconst hX (v := (0 : Int32)) (by decide) dX5_followItem_70 ?_
      refine hj_lv hX [2, 1, 0] (lv2 := [(0, .ref 92), (1, .int t0), (2, .int u4)]) rfl ?_
      exact X5_followItem_b71_ok hX hf0 h
    · refine hj_iconst hX (v := (1 : Int32)) (by decide) dX5_followItem_66 ?_
      refine hj_goto hX (tgt := 71) (by decide) dX5_followItem_67 ?_
      refine hj_lv hX [2, 1, 0] (lv2 := [(0, .ref 92), (1, .int t0), (2, .int u4)]) rfl ?_
      exact X5_followItem_b71_ok hX hf0 h
set_option maxHeartbeats 4000000 in
set_option maxRecDepth 100000 in
theorem X5_followItem_b15_ok {p : Program} {l : Launch} {e : Env} {s : State} {m : MethodId} {args : Array Value} {below : List Frame} {meth : Method} {c : Code} {D : va_G} {E : Nat → ClassId} {b z : Nat} {sh : List hS} {r : Int32} {I2 : hM} {t1 : Int32} {I : hM} (hX : hp_X p s m args meth c yX5_followItem.cls cX5_followItem 4 wsX5_followItem D E none yX5_followItem.name) (hf0 : hq_X5 sh) (h : X5_followItem_b15 t1 I = some (r, I2)) : hp_J p l e ({ frames := 3, cells := 0, slots := 0, locals := 44 * 3 }) s m args below meth c (MQ below (hp_Q D E b z none sh I2) args s 0 0 (fun q : Nat => b ≤ q)) D E b z 4 sh 0 0 I 15 [(0, .ref 92)] [.int t1, .ref 92] := by
  unfold X5_followItem_b15 at h
  refine hj_putz hX (j := 33) hf0.1 rfl rfl X5_followItem_w5 (Nat.le_of_ble_eq_true rfl) rfl X5_followItem_k141 tyX5_ok nmX5 rfl (by decide +kernel) dX5_followItem_15 h (fun h => ?_)
  refine hj_aload_n hX rfl 0 rfl dX5_followItem_18 ?_
  refine hj_geti hX (j := 33) hf0.1 rfl rfl X5_followItem_w5 (Nat.le_of_ble_eq_true rfl) rfl X5_followItem_k141 dX5_followItem_19 ?_
  refine hj_if_eq hX (tgt := 29) (by decide) dX5_followItem_22 h (fun h => ?_) (fun h => ?_)
  · refine hj_aload_n hX rfl 0 rfl dX5_followItem_29 ?_
    refine hj_iconst hX (v := (0 : Int32)) (by decide) dX5_followItem_30 ?_
    refine hj_aload_n hX rfl 0 rfl dX5_followItem_31 ?_
    refine hj_geti hX (j := 13) hf0.1 rfl rfl X5_followItem_w5 (Nat.le_of_ble_eq_true rfl) rfl X5_followItem_k104 dX5_followItem_32 ?_
    refine hj_iconst hX (v := (1 : Int32)) (by decide) dX5_followItem_35 ?_
    refine hj_isub hX dX5_followItem_36 ?_
    obtain ⟨u1, Ia2, hc3, h⟩ := ob_e h
    refine hj_callV hX (sh2 := sh) (I2 := Ia2) (r := (some (.int u1))) (As := [.int (0 : Int32), .int (((hu I 92 33 t1) 92 13) - (1 : Int32))]) (rest := []) (st2 := [.int u1]) (X5_number_ok hf0 hc3) gX5_followItem_X5_number rfl X5_number_hy ⟨(Nat.le_of_ble_eq_true rfl), (Nat.le_of_ble_eq_true rfl)⟩ rfl hf0.1 rfl (Nat.le_of_ble_eq_true rfl) ⟨(Nat.le_of_ble_eq_true rfl), (Nat.le_of_ble_eq_true rfl)⟩ rfl rfl rfl dX5_followItem_37 ?_
    exact X5_followItem_b40_ok hX hf0 h
  · refine hj_iconst hX (v := (0 : Int32)) (by decide) dX5_followItem_25 ?_
    refine hj_goto hX (tgt := 40) (by decide) dX5_followItem_26 ?_
    exact X5_followItem_b40_ok hX hf0 h
set_option maxHeartbeats 4000000 in
set_option maxRecDepth 100000 in
theorem X5_followItem_ok {sh : List hS} {r : Int32} {I I2 : hM} (hf0 : hq_X5 sh) (h : X5_followItem I = some (r, I2)) : hp_C yX5_followItem wsX5_followItem 3 0 0 sh I [.ref 92] none sh I2 := hp_start (cc := cX5_followItem) (maxL := 4) (ret := none) [(0, .ref 92)] (by decide) rfl (fun _ _ => rfl) (fun _ _ => Nat.le_of_ble_eq_true rfl) (fun p l e s m below meth c D E b z hX _ => by
  unfold X5_followItem at h
  refine hj_aload_n hX rfl 0 rfl dX5_followItem_0 ?_
  refine hj_aload_n hX rfl 0 rfl dX5_followItem_1 ?_
  refine hj_geti hX (j := 19) hf0.1 rfl rfl X5_followItem_w5 (Nat.le_of_ble_eq_true rfl) rfl X5_followItem_k107 dX5_followItem_2 ?_
  refine hj_bipush hX (v := (6 : Int32)) (by decide) dX5_followItem_5 ?_
  refine hj_icmp_ne hX (tgt := 14) (by decide) dX5_followItem_7 h (fun h => ?_) (fun h => ?_)
  · refine hj_iconst hX (v := (0 : Int32)) (by decide) dX5_followItem_14 ?_
    exact X5_followItem_b15_ok hX hf0 h
  · refine hj_iconst hX (v := (1 : Int32)) (by decide) dX5_followItem_10 ?_
    refine hj_goto hX (tgt := 15) (by decide) dX5_followItem_11 ?_
    exact X5_followItem_b15_ok hX hf0 h)
def X5_ladyItem_b89 (k45 : Int32 → Int32 → hM → Option (Int32 × hM)) (v1 : Int32) (v2 : Int32) (v3 : Int32) (t1 : Int32) (I : hM) : Option (Int32 × hM) := gd (decide (t1 = (0 : Int32)) || decide (t1 = (1 : Int32))) ((k45 v1 (v2 ||| ((1 : Int32) <<< (v3 &&& 31))) (hu I 92 33 t1)))
def X5_ladyItem_b101 (v1 : Int32) (v2 : Int32) (I : hM) : Option (Int32 × hM) := if (I 92 33) = 0 then (gd (hx (I 92 23) 4) (gd (hx ((hu I 111 ((I 92 23)).toNatClampNeg v1) 92 23) 4) (some (0, (hu (hu (hu I 111 ((I 92 23)).toNatClampNeg v1) 112 (((hu I 111 ((I 92 23)).toNatClampNeg v1) 92 23)).toNatClampNeg v2) 92 23 (((hu (hu I 111 ((I 92 23)).toNatClampNeg v1) 112 (((hu I 111 ((I 92 23)).toNatClampNeg v1) 92 23)).toNatClampNeg v2) 92 23) + (1 : Int32))))))) else (some (0, I))
def X5_ladyItem_h45 (k45 : Int32 → Int32 → hM → Option (Int32 × hM)) (v1 : Int32) (v2 : Int32) (I : hM) : Option (Int32 × hM) := if (I 92 33) = 0 then (ob (X5_next I) (fun u7 Ia8 => if u7 = (44 : Int32) then (ob (X5_more (0 : Int32) (3 : Int32) Ia8) (fun u10 Ia11 => if (Ia11 92 33) = 0 then (ob (X5_has v2 u10 Ia11) (fun u13 Ia14 => if u13 = 0 then ((X5_ladyItem_b89 k45 v1 v2 u10 (0 : Int32) Ia14)) else ((X5_ladyItem_b89 k45 v1 v2 u10 (1 : Int32) Ia14)))) else ((X5_ladyItem_b89 k45 v1 v2 u10 (1 : Int32) Ia11)))) else (X5_ladyItem_b101 v1 v2 Ia8))) else (X5_ladyItem_b101 v1 v2 I)
def X5_ladyItem_l45 : Nat → Int32 → Int32 → hM → Option (Int32 × hM)
  | 0 => fun _ _ _ => none
  | n + 1 => X5_ladyItem_h45   (X5_ladyItem_l45   n)
def X5_ladyItem_b35 (t0 : Int32) (I : hM) : Option (Int32 × hM) := ob (X5_more (0 : Int32) (3 : Int32) I) (fun u4 Ia5 => (X5_ladyItem_l45 hF t0 ((1 : Int32) <<< (u4 &&& 31)) Ia5))
def X5_ladyItem_b14 (t1 : Int32) (I : hM) : Option (Int32 × hM) := gd (decide (t1 = (0 : Int32)) || decide (t1 = (1 : Int32))) (if ((hu I 92 33 t1) 92 33) = 0 then (ob (X5_number (0 : Int32) (9 : Int32) (hu I 92 33 t1)) (fun u1 Ia2 => (X5_ladyItem_b35 u1 Ia2))) else ((X5_ladyItem_b35 (0 : Int32) (hu I 92 33 t1))))
def X5_ladyItem (I : hM) : Option (Int32 × hM) := if (I 92 23) = (4 : Int32) then ((X5_ladyItem_b14 (1 : Int32) I)) else ((X5_ladyItem_b14 (0 : Int32) I))
theorem X5_ladyItem_hy : yX5_ladyItem.cls = RX5 ∧ yX5_ladyItem.cls ≠ "java/lang/invoke/MethodHandle" ∧ yX5_ladyItem.cls ≠ "java/lang/invoke/VarHandle" ∧ (parseMethodDescriptor yX5_ladyItem.desc).map (fun d => d.parameters.length) = some 0 := by decide +kernel
theorem X5_ladyItem_k98 : Cond.fieldLink RX5 98 "HatPinsModel" "newLadies" "I" ∈ wsX5_ladyItem := by decide +kernel
theorem X5_ladyItem_k141 : Cond.fieldLink RX5 141 "HatPinsModel" "isWrong" "Z" ∈ wsX5_ladyItem := by decide +kernel
theorem X5_ladyItem_k64 : Cond.fieldLink RX5 64 "HatPinsModel" "newFirst" "[I" ∈ wsX5_ladyItem := by decide +kernel
theorem X5_ladyItem_k67 : Cond.fieldLink RX5 67 "HatPinsModel" "newReach" "[I" ∈ wsX5_ladyItem := by decide +kernel
theorem X5_ladyItem_w5 : ∀ w ∈ wsX50, w ∈ wsX5_ladyItem := by decide +kernel
set_option maxHeartbeats 4000000 in
set_option maxRecDepth 100000 in
theorem X5_ladyItem_b89_ok {p : Program} {l : Launch} {e : Env} {s : State} {m : MethodId} {args : Array Value} {below : List Frame} {meth : Method} {c : Code} {D : va_G} {E : Nat → ClassId} {b z : Nat} {sh : List hS} {r : Int32} {I2 : hM} {k45 : Int32 → Int32 → hM → Option (Int32 × hM)} {v1 : Int32} {v2 : Int32} {v3 : Int32} {t1 : Int32} {I : hM} (hX : hp_X p s m args meth c yX5_ladyItem.cls cX5_ladyItem 4 wsX5_ladyItem D E none yX5_ladyItem.name) (hf0 : hq_X5 sh) (hk45 : ∀ (v1 : Int32) (v2 : Int32) (I : hM), k45 v1 v2 I = some (r, I2) → hp_J p l e ({ frames := 3, cells := 0, slots := 0, locals := 44 * 3 }) s m args below meth c (MQ below (hp_Q D E b z none sh I2) args s 0 0 (fun q : Nat => b ≤ q)) D E b z 4 sh 0 0 I 45 [(0, .ref 92), (1, .int v1), (2, .int v2)] []) (h : X5_ladyItem_b89 k45 v1 v2 v3 t1 I = some (r, I2)) : hp_J p l e ({ frames := 3, cells := 0, slots := 0, locals := 44 * 3 }) s m args below meth c (MQ below (hp_Q D E b z none sh I2) args s 0 0 (fun q : Nat => b ≤ q)) D E b z 4 sh 0 0 I 89 [(0, .ref 92), (1, .int v1), (2, .int v2), (3, .int v3)] [.int t1, .ref 92] := by
  unfold X5_ladyItem_b89 at h
  refine hj_putz hX (j := 33) hf0.1 rfl rfl X5_ladyItem_w5 (Nat.le_of_ble_eq_true rfl) rfl X5_ladyItem_k141 tyX5_ok nmX5 rfl (by decide +kernel) dX5_ladyItem_89 h (fun h => ?_)
  refine hj_iload_n hX rfl 2 rfl dX5_ladyItem_92 ?_
  refine hj_iconst hX (v := (1 : Int32)) (by decide) dX5_ladyItem_93 ?_
  refine hj_iload_n hX rfl 3 rfl dX5_ladyItem_94 ?_
  refine hj_ishl hX dX5_ladyItem_95 ?_
  refine hj_ior hX dX5_ladyItem_96 ?_
  refine hj_istore_n hX rfl (Nat.le_of_ble_eq_true rfl) (lv2 := [(2, .int (v2 ||| ((1 : Int32) <<< (v3 &&& 31)))), (0, .ref 92), (1, .int v1), (3, .int v3)]) rfl dX5_ladyItem_97 ?_
  refine hj_goto hX (tgt := 45) (by decide) dX5_ladyItem_98 ?_
  refine hj_lv hX [1, 2, 0] (lv2 := [(0, .ref 92), (1, .int v1), (2, .int (v2 ||| ((1 : Int32) <<< (v3 &&& 31))))]) rfl ?_
  exact hk45 _ _ _ h
set_option maxHeartbeats 4000000 in
set_option maxRecDepth 100000 in
theorem X5_ladyItem_b101_ok {p : Program} {l : Launch} {e : Env} {s : State} {m : MethodId} {args : Array Value} {below : List Frame} {meth : Method} {c : Code} {D : va_G} {E : Nat → ClassId} {b z : Nat} {sh : List hS} {r : Int32} {I2 : hM} {v1 : Int32} {v2 : Int32} {I : hM} (hX : hp_X p s m args meth c yX5_ladyItem.cls cX5_ladyItem 4 wsX5_ladyItem D E none yX5_ladyItem.name) (hf0 : hq_X5 sh) (h : X5_ladyItem_b101 v1 v2 I = some (r, I2)) : hp_J p l e ({ frames := 3, cells := 0, slots := 0, locals := 44 * 3 }) s m args below meth c (MQ below (hp_Q D E b z none sh I2) args s 0 0 (fun q : Nat => b ≤ q)) D E b z 4 sh 0 0 I 101 [(0, .ref 92), (1, .int v1), (2, .int v2)] [] := by
  unfold X5_ladyItem_b101 at h
  refine hj_aload_n hX rfl 0 rfl dX5_ladyItem_101 ?_
  refine hj_geti hX (j := 33) hf0.1 rfl rfl X5_ladyItem_w5 (Nat.le_of_ble_eq_true rfl) rfl X5_ladyItem_k141 dX5_ladyItem_102 ?_
  refine hj_if_ne hX (tgt := 138) (by decide) dX5_ladyItem_105 h (fun h => ?_) (fun h => ?_)
  · exact hj_vret hX dX5_ladyItem_138 h
  · refine hj_aload_n hX rfl 0 rfl dX5_ladyItem_108 ?_
    refine hj_getr hX (j := 24) hf0.1 rfl rfl X5_ladyItem_w5 (Nat.le_of_ble_eq_true rfl) rfl X5_ladyItem_k64 dX5_ladyItem_109 ?_
    refine hj_aload_n hX rfl 0 rfl dX5_ladyItem_112 ?_
    refine hj_geti hX (j := 23) hf0.1 rfl rfl X5_ladyItem_w5 (Nat.le_of_ble_eq_true rfl) rfl X5_ladyItem_k98 dX5_ladyItem_113 ?_
    refine hj_iload_n hX rfl 1 rfl dX5_ladyItem_116 ?_
    refine hj_iast hX hf0.2.2.2.2.2.2.2.2.2.2.2.2.2.2.2.2.2.2.2.1 dX5_ladyItem_117 h (fun h => ?_)
    refine hj_aload_n hX rfl 0 rfl dX5_ladyItem_118 ?_
    refine hj_getr hX (j := 25) hf0.1 rfl rfl X5_ladyItem_w5 (Nat.le_of_ble_eq_true rfl) rfl X5_ladyItem_k67 dX5_ladyItem_119 ?_
    refine hj_aload_n hX rfl 0 rfl dX5_ladyItem_122 ?_
    refine hj_geti hX (j := 23) hf0.1 rfl rfl X5_ladyItem_w5 (Nat.le_of_ble_eq_true rfl) rfl X5_ladyItem_k98 dX5_ladyItem_123 ?_
    refine hj_iload_n hX rfl 2 rfl dX5_ladyItem_126 ?_
    refine hj_iast hX hf0.2.2.2.2.2.2.2.2.2.2.2.2.2.2.2.2.2.2.2.2.1 dX5_ladyItem_127 h (fun h => ?_)
    refine hj_aload_n hX rfl 0 rfl dX5_ladyItem_128 ?_
    refine hj_dup hX rfl dX5_ladyItem_129 ?_
    refine hj_geti hX (j := 23) hf0.1 rfl rfl X5_ladyItem_w5 (Nat.le_of_ble_eq_true rfl) rfl X5_ladyItem_k98 dX5_ladyItem_130 ?_
    refine hj_iconst hX (v := (1 : Int32)) (by decide) dX5_ladyItem_133 ?_
    refine hj_iadd hX dX5_ladyItem_134 ?_
    refine hj_puti hX (j := 23) hf0.1 rfl rfl X5_ladyItem_w5 (Nat.le_of_ble_eq_true rfl) rfl X5_ladyItem_k98 tyX5_ok nmX5 rfl (by decide +kernel) dX5_ladyItem_135 ?_
    exact hj_vret hX dX5_ladyItem_138 h
set_option maxHeartbeats 4000000 in
set_option maxRecDepth 100000 in
theorem X5_ladyItem_h45_ok {p : Program} {l : Launch} {e : Env} {s : State} {m : MethodId} {args : Array Value} {below : List Frame} {meth : Method} {c : Code} {D : va_G} {E : Nat → ClassId} {b z : Nat} {sh : List hS} {r : Int32} {I2 : hM} {k45 : Int32 → Int32 → hM → Option (Int32 × hM)} {v1 : Int32} {v2 : Int32} {I : hM} (hX : hp_X p s m args meth c yX5_ladyItem.cls cX5_ladyItem 4 wsX5_ladyItem D E none yX5_ladyItem.name) (hf0 : hq_X5 sh) (hk45 : ∀ (v1 : Int32) (v2 : Int32) (I : hM), k45 v1 v2 I = some (r, I2) → hp_J p l e ({ frames := 3, cells := 0, slots := 0, locals := 44 * 3 }) s m args below meth c (MQ below (hp_Q D E b z none sh I2) args s 0 0 (fun q : Nat => b ≤ q)) D E b z 4 sh 0 0 I 45 [(0, .ref 92), (1, .int v1), (2, .int v2)] []) (h : X5_ladyItem_h45 k45 v1 v2 I = some (r, I2)) : hp_J p l e ({ frames := 3, cells := 0, slots := 0, locals := 44 * 3 }) s m args below meth c (MQ below (hp_Q D E b z none sh I2) args s 0 0 (fun q : Nat => b ≤ q)) D E b z 4 sh 0 0 I 45 [(0, .ref 92), (1, .int v1), (2, .int v2)] [] := by
  unfold X5_ladyItem_h45 at h
  refine hj_aload_n hX rfl 0 rfl dX5_ladyItem_45 ?_
  refine hj_geti hX (j := 33) hf0.1 rfl rfl X5_ladyItem_w5 (Nat.le_of_ble_eq_true rfl) rfl X5_ladyItem_k141 dX5_ladyItem_46 ?_
  refine hj_if_ne hX (tgt := 101) (by decide) dX5_ladyItem_49 h (fun h => ?_) (fun h => ?_)
  · exact X5_ladyItem_b101_ok hX hf0 h
  · refine hj_aload_n hX rfl 0 rfl dX5_ladyItem_52 ?_
    obtain ⟨u7, Ia8, hc9, h⟩ := ob_e h
    refine hj_callV hX (sh2 := sh) (I2 := Ia8) (r := (some (.int u7))) (As := []) (rest := []) (st2 := [.int u7]) (X5_next_ok hf0 hc9) gX5_ladyItem_X5_next rfl X5_next_hy ⟨(Nat.le_of_ble_eq_true rfl), (Nat.le_of_ble_eq_true rfl)⟩ rfl hf0.1 rfl (Nat.le_of_ble_eq_true rfl) ⟨(Nat.le_of_ble_eq_true rfl), (Nat.le_of_ble_eq_true rfl)⟩ rfl rfl rfl dX5_ladyItem_53 ?_
    refine hj_bipush hX (v := (44 : Int32)) (by decide) dX5_ladyItem_56 ?_
    refine hj_icmp_ne hX (tgt := 101) (by decide) dX5_ladyItem_58 h (fun h => ?_) (fun h => ?_)
    · exact X5_ladyItem_b101_ok hX hf0 h
    · refine hj_aload_n hX rfl 0 rfl dX5_ladyItem_61 ?_
      refine hj_iconst hX (v := (0 : Int32)) (by decide) dX5_ladyItem_62 ?_
      refine hj_iconst hX (v := (3 : Int32)) (by decide) dX5_ladyItem_63 ?_
      obtain ⟨u10, Ia11, hc12, h⟩ := ob_e h
      refine hj_callV hX (sh2 := sh) (I2 := Ia11) (r := (some (.int u10))) (As := [.int (0 : Int32), .int (3 : Int32)]) (rest := []) (st2 := [.int u10]) (X5_more_ok hf0 hc12) gX5_ladyItem_X5_more rfl X5_more_hy ⟨(Nat.le_of_ble_eq_true rfl), (Nat.le_of_ble_eq_true rfl)⟩ rfl hf0.1 rfl (Nat.le_of_ble_eq_true rfl) ⟨(Nat.le_of_ble_eq_true rfl), (Nat.le_of_ble_eq_true rfl)⟩ rfl rfl rfl dX5_ladyItem_64 ?_
      refine hj_istore_n hX rfl (Nat.le_of_ble_eq_true rfl) (lv2 := [(3, .int u10), (0, .ref 92), (1, .int v1), (2, .int v2)]) rfl dX5_ladyItem_67 ?_
      refine hj_aload_n hX rfl 1 rfl dX5_ladyItem_68 ?_
      refine hj_aload_n hX rfl 1 rfl dX5_ladyItem_69 ?_
      refine hj_geti hX (j := 33) hf0.1 rfl rfl X5_ladyItem_w5 (Nat.le_of_ble_eq_true rfl) rfl X5_ladyItem_k141 dX5_ladyItem_70 ?_
      refine hj_if_ne hX (tgt := 84) (by decide) dX5_ladyItem_73 h (fun h => ?_) (fun h => ?_)
      · refine hj_iconst hX (v := (1 : Int32)) (by decide) dX5_ladyItem_84 ?_
        refine hj_goto hX (tgt := 89) (by decide) dX5_ladyItem_85 ?_
        refine hj_lv hX [1, 2, 3, 0] (lv2 := [(0, .ref 92), (1, .int v1), (2, .int v2), (3, .int u10)]) rfl ?_
        exact X5_ladyItem_b89_ok hX hf0 hk45 h
      · refine hj_iload_n hX rfl 3 rfl dX5_ladyItem_76 ?_
        refine hj_iload_n hX rfl 0 rfl dX5_ladyItem_77 ?_
        obtain ⟨u13, Ia14, hc15, h⟩ := ob_e h
        refine hj_callS hX (sh2 := sh) (I2 := Ia14) (r := (some (.int u13))) (As := [.int v2, .int u10]) (rest := [.ref 92]) (st2 := [.int u13, .ref 92]) (X5_has_ok hc15) gX5_ladyItem_X5_has rfl X5_has_hy.2 ⟨(Nat.le_of_ble_eq_true rfl), (Nat.le_of_ble_eq_true rfl)⟩ rfl (Nat.le_of_ble_eq_true rfl) ⟨(Nat.le_of_ble_eq_true rfl), (Nat.le_of_ble_eq_true rfl)⟩ rfl rfl rfl dX5_ladyItem_78 ?_
        refine hj_if_eq hX (tgt := 88) (by decide) dX5_ladyItem_81 h (fun h => ?_) (fun h => ?_)
        · refine hj_iconst hX (v := (0 : Int32)) (by decide) dX5_ladyItem_88 ?_
          refine hj_lv hX [1, 2, 3, 0] (lv2 := [(0, .ref 92), (1, .int v1), (2, .int v2), (3, .int u10)]) rfl ?_
          exact X5_ladyItem_b89_ok hX hf0 hk45 h
        · refine hj_iconst hX (v := (1 : Int32)) (by decide) dX5_ladyItem_84 ?_
          refine hj_goto hX (tgt := 89) (by decide) dX5_ladyItem_85 ?_
          refine hj_lv hX [1, 2, 3, 0] (lv2 := [(0, .ref 92), (1, .int v1), (2, .int v2), (3, .int u10)]) rfl ?_
          exact X5_ladyItem_b89_ok hX hf0 hk45 h
set_option maxHeartbeats 4000000 in
set_option maxRecDepth 100000 in
theorem X5_ladyItem_l45_ok {p : Program} {l : Launch} {e : Env} {s : State} {m : MethodId} {args : Array Value} {below : List Frame} {meth : Method} {c : Code} {D : va_G} {E : Nat → ClassId} {b z : Nat} {sh : List hS} {r : Int32} {I2 : hM} (hX : hp_X p s m args meth c yX5_ladyItem.cls cX5_ladyItem 4 wsX5_ladyItem D E none yX5_ladyItem.name) (hf0 : hq_X5 sh) : ∀ (n : Nat) (v1 : Int32) (v2 : Int32) (I : hM), X5_ladyItem_l45 n v1 v2 I = some (r, I2) → hp_J p l e ({ frames := 3, cells := 0, slots := 0, locals := 44 * 3 }) s m args below meth c (MQ below (hp_Q D E b z none sh I2) args s 0 0 (fun q : Nat => b ≤ q)) D E b z 4 sh 0 0 I 45 [(0, .ref 92), (1, .int v1), (2, .int v2)] [] := by
  intro n
  induction n with
  | zero => exact fun _ _ _ h => nomatch h
  | succ n ih => exact fun _ _ _ h => X5_ladyItem_h45_ok hX hf0 ih h
set_option maxHeartbeats 4000000 in
set_option maxRecDepth 100000 in
theorem X5_ladyItem_b35_ok {p : Program} {l : Launch} {e : Env} {s : State} {m : MethodId} {args : Array Value} {below : List Frame} {meth : Method} {c : Code} {D : va_G} {E : Nat → ClassId} {b z : Nat} {sh : List hS} {r : Int32} {I2 : hM} {t0 : Int32} {I : hM} (hX : hp_X p s m args meth c yX5_ladyItem.cls cX5_ladyItem 4 wsX5_ladyItem D E none yX5_ladyItem.name) (hf0 : hq_X5 sh) (h : X5_ladyItem_b35 t0 I = some (r, I2)) : hp_J p l e ({ frames := 3, cells := 0, slots := 0, locals := 44 * 3 }) s m args below meth c (MQ below (hp_Q D E b z none sh I2) args s 0 0 (fun q : Nat => b ≤ q)) D E b z 4 sh 0 0 I 35 [(0, .ref 92)] [.int t0] := by
  unfold X5_ladyItem_b35 at h
  refine hj_istore_n hX rfl (Nat.le_of_ble_eq_true rfl) (lv2 := [(1, .int t0), (0, .ref 92)]) rfl dX5_ladyItem_35 ?_
  refine hj_iconst hX (v := (1 : Int32)) (by decide) dX5_ladyItem_36 ?_
  refine hj_aload_n hX rfl 1 rfl dX5_ladyItem_37 ?_
  refine hj_iconst hX (v := (0 : Int32)) (by decide) dX5_ladyItem_38 ?_
  refine hj_iconst hX (v := (3 : Int32)) (by decide) dX5_ladyItem_39 ?_
  obtain ⟨u4, Ia5, hc6, h⟩ := ob_e h
  refine hj_callV hX (sh2 := sh) (I2 := Ia5) (r := (some (.int u4))) (As := [.int (0 : Int32), .int (3 : Int32)]) (rest := [.int (1 : Int32)]) (st2 := [.int u4, .int (1 : Int32)]) (X5_more_ok hf0 hc6) gX5_ladyItem_X5_more rfl X5_more_hy ⟨(Nat.le_of_ble_eq_true rfl), (Nat.le_of_ble_eq_true rfl)⟩ rfl hf0.1 rfl (Nat.le_of_ble_eq_true rfl) ⟨(Nat.le_of_ble_eq_true rfl), (Nat.le_of_ble_eq_true rfl)⟩ rfl rfl rfl dX5_ladyItem_40 ?_
  refine hj_ishl hX dX5_ladyItem_43 ?_
  refine hj_istore_n hX rfl (Nat.le_of_ble_eq_true rfl) (lv2 := [(2, .int ((1 : Int32) <<< (u4 &&& 31))), (1, .int t0), (0, .ref 92)]) rfl dX5_ladyItem_44 ?_
  refine hj_lv hX [2, 1, 0] (lv2 := [(0, .ref 92), (1, .int t0), (2, .int ((1 : Int32) <<< (u4 &&& 31)))]) rfl ?_
  exact X5_ladyItem_l45_ok hX hf0 hF _ _ _ h
set_option maxHeartbeats 4000000 in
set_option maxRecDepth 100000 in
theorem X5_ladyItem_b14_ok {p : Program} {l : Launch} {e : Env} {s : State} {m : MethodId} {args : Array Value} {below : List Frame} {meth : Method} {c : Code} {D : va_G} {E : Nat → ClassId} {b z : Nat} {sh : List hS} {r : Int32} {I2 : hM} {t1 : Int32} {I : hM} (hX : hp_X p s m args meth c yX5_ladyItem.cls cX5_ladyItem 4 wsX5_ladyItem D E none yX5_ladyItem.name) (hf0 : hq_X5 sh) (h : X5_ladyItem_b14 t1 I = some (r, I2)) : hp_J p l e ({ frames := 3, cells := 0, slots := 0, locals := 44 * 3 }) s m args below meth c (MQ below (hp_Q D E b z none sh I2) args s 0 0 (fun q : Nat => b ≤ q)) D E b z 4 sh 0 0 I 14 [(0, .ref 92)] [.int t1, .ref 92] := by
  unfold X5_ladyItem_b14 at h
  refine hj_putz hX (j := 33) hf0.1 rfl rfl X5_ladyItem_w5 (Nat.le_of_ble_eq_true rfl) rfl X5_ladyItem_k141 tyX5_ok nmX5 rfl (by decide +kernel) dX5_ladyItem_14 h (fun h => ?_)
  refine hj_aload_n hX rfl 0 rfl dX5_ladyItem_17 ?_
  refine hj_geti hX (j := 33) hf0.1 rfl rfl X5_ladyItem_w5 (Nat.le_of_ble_eq_true rfl) rfl X5_ladyItem_k141 dX5_ladyItem_18 ?_
  refine hj_if_eq hX (tgt := 28) (by decide) dX5_ladyItem_21 h (fun h => ?_) (fun h => ?_)
  · refine hj_aload_n hX rfl 0 rfl dX5_ladyItem_28 ?_
    refine hj_iconst hX (v := (0 : Int32)) (by decide) dX5_ladyItem_29 ?_
    refine hj_bipush hX (v := (9 : Int32)) (by decide) dX5_ladyItem_30 ?_
    obtain ⟨u1, Ia2, hc3, h⟩ := ob_e h
    refine hj_callV hX (sh2 := sh) (I2 := Ia2) (r := (some (.int u1))) (As := [.int (0 : Int32), .int (9 : Int32)]) (rest := []) (st2 := [.int u1]) (X5_number_ok hf0 hc3) gX5_ladyItem_X5_number rfl X5_number_hy ⟨(Nat.le_of_ble_eq_true rfl), (Nat.le_of_ble_eq_true rfl)⟩ rfl hf0.1 rfl (Nat.le_of_ble_eq_true rfl) ⟨(Nat.le_of_ble_eq_true rfl), (Nat.le_of_ble_eq_true rfl)⟩ rfl rfl rfl dX5_ladyItem_32 ?_
    exact X5_ladyItem_b35_ok hX hf0 h
  · refine hj_iconst hX (v := (0 : Int32)) (by decide) dX5_ladyItem_24 ?_
    refine hj_goto hX (tgt := 35) (by decide) dX5_ladyItem_25 ?_
    exact X5_ladyItem_b35_ok hX hf0 h
set_option maxHeartbeats 4000000 in
set_option maxRecDepth 100000 in
theorem X5_ladyItem_ok {sh : List hS} {r : Int32} {I I2 : hM} (hf0 : hq_X5 sh) (h : X5_ladyItem I = some (r, I2)) : hp_C yX5_ladyItem wsX5_ladyItem 3 0 0 sh I [.ref 92] none sh I2 := hp_start (cc := cX5_ladyItem) (maxL := 4) (ret := none) [(0, .ref 92)] (by decide) rfl (fun _ _ => rfl) (fun _ _ => Nat.le_of_ble_eq_true rfl) (fun p l e s m below meth c D E b z hX _ => by
  unfold X5_ladyItem at h
  refine hj_aload_n hX rfl 0 rfl dX5_ladyItem_0 ?_
  refine hj_aload_n hX rfl 0 rfl dX5_ladyItem_1 ?_
  refine hj_geti hX (j := 23) hf0.1 rfl rfl X5_ladyItem_w5 (Nat.le_of_ble_eq_true rfl) rfl X5_ladyItem_k98 dX5_ladyItem_2 ?_
  refine hj_iconst hX (v := (4 : Int32)) (by decide) dX5_ladyItem_5 ?_
  refine hj_icmp_ne hX (tgt := 13) (by decide) dX5_ladyItem_6 h (fun h => ?_) (fun h => ?_)
  · refine hj_iconst hX (v := (0 : Int32)) (by decide) dX5_ladyItem_13 ?_
    exact X5_ladyItem_b14_ok hX hf0 h
  · refine hj_iconst hX (v := (1 : Int32)) (by decide) dX5_ladyItem_9 ?_
    refine hj_goto hX (tgt := 14) (by decide) dX5_ladyItem_10 ?_
    exact X5_ladyItem_b14_ok hX hf0 h)
def X5_item (v1 : Int32) (I : hM) : Option (Int32 × hM) := if v1 = (103 : Int32) then (ob (X5_goingItem I) (fun u7 Ia8 => some (0, Ia8))) else (if v1 = (102 : Int32) then (ob (X5_followItem I) (fun u4 Ia5 => some (0, Ia5))) else (if v1 = (108 : Int32) then (ob (X5_ladyItem I) (fun u1 Ia2 => some (0, Ia2))) else (gd (decide ((1 : Int32) = (0 : Int32)) || decide ((1 : Int32) = (1 : Int32))) (some (0, (hu I 92 33 (1 : Int32)))))))
theorem X5_item_hy : yX5_item.cls = RX5 ∧ yX5_item.cls ≠ "java/lang/invoke/MethodHandle" ∧ yX5_item.cls ≠ "java/lang/invoke/VarHandle" ∧ (parseMethodDescriptor yX5_item.desc).map (fun d => d.parameters.length) = some 1 := by decide +kernel
theorem X5_item_k141 : Cond.fieldLink RX5 141 "HatPinsModel" "isWrong" "Z" ∈ wsX5_item := by decide +kernel
theorem X5_item_w5 : ∀ w ∈ wsX50, w ∈ wsX5_item := by decide +kernel
set_option maxHeartbeats 4000000 in
set_option maxRecDepth 100000 in
theorem X5_item_ok {sh : List hS} {r : Int32} {I I2 : hM} {v1 : Int32} (hf0 : hq_X5 sh) (h : X5_item v1 I = some (r, I2)) : hp_C yX5_item wsX5_item 4 0 0 sh I [.ref 92, .int v1] none sh I2 := hp_start (cc := cX5_item) (maxL := 2) (ret := none) [(0, .ref 92), (1, .int v1)] (by decide) rfl (fun _ _ => rfl) (fun _ _ => Nat.le_of_ble_eq_true rfl) (fun p l e s m below meth c D E b z hX _ => by
  unfold X5_item at h
  refine hj_iload_n hX rfl 1 rfl dX5_item_0 ?_
  refine hj_bipush hX (v := (103 : Int32)) (by decide) dX5_item_1 ?_
  refine hj_icmp_ne hX (tgt := 13) (by decide) dX5_item_3 h (fun h => ?_) (fun h => ?_)
  · refine hj_iload_n hX rfl 1 rfl dX5_item_13 ?_
    refine hj_bipush hX (v := (102 : Int32)) (by decide) dX5_item_14 ?_
    refine hj_icmp_ne hX (tgt := 26) (by decide) dX5_item_16 h (fun h => ?_) (fun h => ?_)
    · refine hj_iload_n hX rfl 1 rfl dX5_item_26 ?_
      refine hj_bipush hX (v := (108 : Int32)) (by decide) dX5_item_27 ?_
      refine hj_icmp_ne hX (tgt := 39) (by decide) dX5_item_29 h (fun h => ?_) (fun h => ?_)
      · refine hj_aload_n hX rfl 0 rfl dX5_item_39 ?_
        refine hj_iconst hX (v := (1 : Int32)) (by decide) dX5_item_40 ?_
        refine hj_putz hX (j := 33) hf0.1 rfl rfl X5_item_w5 (Nat.le_of_ble_eq_true rfl) rfl X5_item_k141 tyX5_ok nmX5 rfl (by decide +kernel) dX5_item_41 h (fun h => ?_)
        exact hj_vret hX dX5_item_44 h
      · refine hj_aload_n hX rfl 0 rfl dX5_item_32 ?_
        obtain ⟨u1, Ia2, hc3, h⟩ := ob_e h
        refine hj_callV hX (sh2 := sh) (I2 := Ia2) (r := none) (As := []) (rest := []) (st2 := []) (X5_ladyItem_ok hf0 hc3) gX5_item_X5_ladyItem rfl X5_ladyItem_hy ⟨(Nat.le_of_ble_eq_true rfl), (Nat.le_of_ble_eq_true rfl)⟩ rfl hf0.1 rfl (Nat.le_of_ble_eq_true rfl) ⟨(Nat.le_of_ble_eq_true rfl), (Nat.le_of_ble_eq_true rfl)⟩ rfl rfl rfl dX5_item_33 ?_
        refine hj_goto hX (tgt := 44) (by decide) dX5_item_36 ?_
        exact hj_vret hX dX5_item_44 h
    · refine hj_aload_n hX rfl 0 rfl dX5_item_19 ?_
      obtain ⟨u4, Ia5, hc6, h⟩ := ob_e h
      refine hj_callV hX (sh2 := sh) (I2 := Ia5) (r := none) (As := []) (rest := []) (st2 := []) (X5_followItem_ok hf0 hc6) gX5_item_X5_followItem rfl X5_followItem_hy ⟨(Nat.le_of_ble_eq_true rfl), (Nat.le_of_ble_eq_true rfl)⟩ rfl hf0.1 rfl (Nat.le_of_ble_eq_true rfl) ⟨(Nat.le_of_ble_eq_true rfl), (Nat.le_of_ble_eq_true rfl)⟩ rfl rfl rfl dX5_item_20 ?_
      refine hj_goto hX (tgt := 44) (by decide) dX5_item_23 ?_
      exact hj_vret hX dX5_item_44 h
  · refine hj_aload_n hX rfl 0 rfl dX5_item_6 ?_
    obtain ⟨u7, Ia8, hc9, h⟩ := ob_e h
    refine hj_callV hX (sh2 := sh) (I2 := Ia8) (r := none) (As := []) (rest := []) (st2 := []) (X5_goingItem_ok hf0 hc9) gX5_item_X5_goingItem rfl X5_goingItem_hy ⟨(Nat.le_of_ble_eq_true rfl), (Nat.le_of_ble_eq_true rfl)⟩ rfl hf0.1 rfl (Nat.le_of_ble_eq_true rfl) ⟨(Nat.le_of_ble_eq_true rfl), (Nat.le_of_ble_eq_true rfl)⟩ rfl rfl rfl dX5_item_7 ?_
    refine hj_goto hX (tgt := 44) (by decide) dX5_item_10 ?_
    exact hj_vret hX dX5_item_44 h)
def X5_reads_b82 (k14 : hM → Option (Int32 × hM)) (t1 : Int32) (I : hM) : Option (Int32 × hM) := gd (decide (t1 = (0 : Int32)) || decide (t1 = (1 : Int32))) ((k14 (hu (hu I 92 33 t1) 92 31 (((hu I 92 33 t1) 92 31) + (1 : Int32)))))
def X5_reads_b98 (I : hM) : Option (Int32 × hM) := if (I 92 33) = 0 then (gd (decide ((1 : Int32) = (0 : Int32)) || decide ((1 : Int32) = (1 : Int32))) (some ((1 : Int32), I))) else (gd (decide ((0 : Int32) = (0 : Int32)) || decide ((0 : Int32) = (1 : Int32))) (some ((0 : Int32), I)))
def X5_reads_h14 (k14 : hM → Option (Int32 × hM)) (I : hM) : Option (Int32 × hM) := if (I 92 29) ≤ (I 92 31) then (X5_reads_b98 I) else (if (I 92 33) = 0 then (ob (X5_next (hu I 92 32 (I 92 31))) (fun u4 Ia5 => ob (X5_item u4 (hu Ia5 92 31 ((Ia5 92 31) + (1 : Int32)))) (fun u7 Ia8 => if (Ia8 92 33) = 0 then (ob (X5_next Ia8) (fun u10 Ia11 => if u10 = (59 : Int32) then ((X5_reads_b82 k14 (0 : Int32) Ia11)) else ((X5_reads_b82 k14 (1 : Int32) Ia11)))) else ((X5_reads_b82 k14 (1 : Int32) Ia8))))) else (X5_reads_b98 I))
def X5_reads_l14 : Nat → hM → Option (Int32 × hM)
  | 0 => fun  _ => none
  | n + 1 => X5_reads_h14   (X5_reads_l14   n)
def X5_reads (I : hM) : Option (Int32 × hM) := ob (X5_clears I) (fun u1 Ia2 => gd (decide ((0 : Int32) = (0 : Int32)) || decide ((0 : Int32) = (1 : Int32))) ((X5_reads_l14 hF (hu (hu Ia2 92 31 (0 : Int32)) 92 33 (0 : Int32)))))
theorem X5_reads_hy : yX5_reads.cls = RX5 ∧ yX5_reads.cls ≠ "java/lang/invoke/MethodHandle" ∧ yX5_reads.cls ≠ "java/lang/invoke/VarHandle" ∧ (parseMethodDescriptor yX5_reads.desc).map (fun d => d.parameters.length) = some 0 := by decide +kernel
theorem X5_reads_k130 : Cond.fieldLink RX5 130 "HatPinsModel" "at" "I" ∈ wsX5_reads := by decide +kernel
theorem X5_reads_k141 : Cond.fieldLink RX5 141 "HatPinsModel" "isWrong" "Z" ∈ wsX5_reads := by decide +kernel
theorem X5_reads_k127 : Cond.fieldLink RX5 127 "HatPinsModel" "length" "I" ∈ wsX5_reads := by decide +kernel
theorem X5_reads_k165 : Cond.fieldLink RX5 165 "HatPinsModel" "begin" "I" ∈ wsX5_reads := by decide +kernel
theorem X5_reads_w5 : ∀ w ∈ wsX50, w ∈ wsX5_reads := by decide +kernel
set_option maxHeartbeats 4000000 in
set_option maxRecDepth 100000 in
theorem X5_reads_b82_ok {p : Program} {l : Launch} {e : Env} {s : State} {m : MethodId} {args : Array Value} {below : List Frame} {meth : Method} {c : Code} {D : va_G} {E : Nat → ClassId} {b z : Nat} {sh : List hS} {r : Int32} {I2 : hM} {k14 : hM → Option (Int32 × hM)} {t1 : Int32} {I : hM} (hX : hp_X p s m args meth c yX5_reads.cls cX5_reads 2 wsX5_reads D E (some .boolean) yX5_reads.name) (hf0 : hq_X5 sh) (hk14 : ∀ (I : hM), k14 I = some (r, I2) → hp_J p l e ({ frames := 5, cells := 0, slots := 0, locals := 44 * 5 }) s m args below meth c (MQ below (hp_Q D E b z (some (.int r)) sh I2) args s 0 0 (fun q : Nat => b ≤ q)) D E b z 2 sh 0 0 I 14 [(0, .ref 92)] []) (h : X5_reads_b82 k14 t1 I = some (r, I2)) : hp_J p l e ({ frames := 5, cells := 0, slots := 0, locals := 44 * 5 }) s m args below meth c (MQ below (hp_Q D E b z (some (.int r)) sh I2) args s 0 0 (fun q : Nat => b ≤ q)) D E b z 2 sh 0 0 I 82 [(0, .ref 92)] [.int t1, .ref 92] := by
  unfold X5_reads_b82 at h
  refine hj_putz hX (j := 33) hf0.1 rfl rfl X5_reads_w5 (Nat.le_of_ble_eq_true rfl) rfl X5_reads_k141 tyX5_ok nmX5 rfl (by decide +kernel) dX5_reads_82 h (fun h => ?_)
  refine hj_aload_n hX rfl 0 rfl dX5_reads_85 ?_
  refine hj_dup hX rfl dX5_reads_86 ?_
  refine hj_geti hX (j := 31) hf0.1 rfl rfl X5_reads_w5 (Nat.le_of_ble_eq_true rfl) rfl X5_reads_k130 dX5_reads_87 ?_
  refine hj_iconst hX (v := (1 : Int32)) (by decide) dX5_reads_90 ?_
  refine hj_iadd hX dX5_reads_91 ?_
  refine hj_puti hX (j := 31) hf0.1 rfl rfl X5_reads_w5 (Nat.le_of_ble_eq_true rfl) rfl X5_reads_k130 tyX5_ok nmX5 rfl (by decide +kernel) dX5_reads_92 ?_
  refine hj_goto hX (tgt := 14) (by decide) dX5_reads_95 ?_
  exact hk14  _ h
set_option maxHeartbeats 4000000 in
set_option maxRecDepth 100000 in
theorem X5_reads_b98_ok {p : Program} {l : Launch} {e : Env} {s : State} {m : MethodId} {args : Array Value} {below : List Frame} {meth : Method} {c : Code} {D : va_G} {E : Nat → ClassId} {b z : Nat} {sh : List hS} {r : Int32} {I2 : hM} {I : hM} (hX : hp_X p s m args meth c yX5_reads.cls cX5_reads 2 wsX5_reads D E (some .boolean) yX5_reads.name) (hf0 : hq_X5 sh) (h : X5_reads_b98 I = some (r, I2)) : hp_J p l e ({ frames := 5, cells := 0, slots := 0, locals := 44 * 5 }) s m args below meth c (MQ below (hp_Q D E b z (some (.int r)) sh I2) args s 0 0 (fun q : Nat => b ≤ q)) D E b z 2 sh 0 0 I 98 [(0, .ref 92)] [] := by
  unfold X5_reads_b98 at h
  refine hj_aload_n hX rfl 0 rfl dX5_reads_98 ?_
  refine hj_geti hX (j := 33) hf0.1 rfl rfl X5_reads_w5 (Nat.le_of_ble_eq_true rfl) rfl X5_reads_k141 dX5_reads_99 ?_
  refine hj_if_ne hX (tgt := 109) (by decide) dX5_reads_102 h (fun h => ?_) (fun h => ?_)
  · refine hj_iconst hX (v := (0 : Int32)) (by decide) dX5_reads_109 ?_
    exact hj_zret hX dX5_reads_110 h
  · refine hj_iconst hX (v := (1 : Int32)) (by decide) dX5_reads_105 ?_
    refine hj_goto hX (tgt := 110) (by decide) dX5_reads_106 ?_
    exact hj_zret hX dX5_reads_110 h
set_option maxHeartbeats 4000000 in
set_option maxRecDepth 100000 in
theorem X5_reads_h14_ok {p : Program} {l : Launch} {e : Env} {s : State} {m : MethodId} {args : Array Value} {below : List Frame} {meth : Method} {c : Code} {D : va_G} {E : Nat → ClassId} {b z : Nat} {sh : List hS} {r : Int32} {I2 : hM} {k14 : hM → Option (Int32 × hM)} {I : hM} (hX : hp_X p s m args meth c yX5_reads.cls cX5_reads 2 wsX5_reads D E (some .boolean) yX5_reads.name) (hf0 : hq_X5 sh) (hk14 : ∀ (I : hM), k14 I = some (r, I2) → hp_J p l e ({ frames := 5, cells := 0, slots := 0, locals := 44 * 5 }) s m args below meth c (MQ below (hp_Q D E b z (some (.int r)) sh I2) args s 0 0 (fun q : Nat => b ≤ q)) D E b z 2 sh 0 0 I 14 [(0, .ref 92)] []) (h : X5_reads_h14 k14 I = some (r, I2)) : hp_J p l e ({ frames := 5, cells := 0, slots := 0, locals := 44 * 5 }) s m args below meth c (MQ below (hp_Q D E b z (some (.int r)) sh I2) args s 0 0 (fun q : Nat => b ≤ q)) D E b z 2 sh 0 0 I 14 [(0, .ref 92)] [] := by
  unfold X5_reads_h14 at h
  refine hj_aload_n hX rfl 0 rfl dX5_reads_14 ?_
  refine hj_geti hX (j := 31) hf0.1 rfl rfl X5_reads_w5 (Nat.le_of_ble_eq_true rfl) rfl X5_reads_k130 dX5_reads_15 ?_
  refine hj_aload_n hX rfl 0 rfl dX5_reads_18 ?_
  refine hj_geti hX (j := 29) hf0.1 rfl rfl X5_reads_w5 (Nat.le_of_ble_eq_true rfl) rfl X5_reads_k127 dX5_reads_19 ?_
  refine hj_icmp_ge hX (tgt := 98) (by decide) dX5_reads_22 h (fun h => ?_) (fun h => ?_)
  · exact X5_reads_b98_ok hX hf0 h
  · refine hj_aload_n hX rfl 0 rfl dX5_reads_25 ?_
    refine hj_geti hX (j := 33) hf0.1 rfl rfl X5_reads_w5 (Nat.le_of_ble_eq_true rfl) rfl X5_reads_k141 dX5_reads_26 ?_
    refine hj_if_ne hX (tgt := 98) (by decide) dX5_reads_29 h (fun h => ?_) (fun h => ?_)
    · exact X5_reads_b98_ok hX hf0 h
    · refine hj_aload_n hX rfl 0 rfl dX5_reads_32 ?_
      refine hj_aload_n hX rfl 0 rfl dX5_reads_33 ?_
      refine hj_geti hX (j := 31) hf0.1 rfl rfl X5_reads_w5 (Nat.le_of_ble_eq_true rfl) rfl X5_reads_k130 dX5_reads_34 ?_
      refine hj_puti hX (j := 32) hf0.1 rfl rfl X5_reads_w5 (Nat.le_of_ble_eq_true rfl) rfl X5_reads_k165 tyX5_ok nmX5 rfl (by decide +kernel) dX5_reads_37 ?_
      refine hj_aload_n hX rfl 0 rfl dX5_reads_40 ?_
      obtain ⟨u4, Ia5, hc6, h⟩ := ob_e h
      refine hj_callV hX (sh2 := sh) (I2 := Ia5) (r := (some (.int u4))) (As := []) (rest := []) (st2 := [.int u4]) (X5_next_ok hf0 hc6) gX5_reads_X5_next rfl X5_next_hy ⟨(Nat.le_of_ble_eq_true rfl), (Nat.le_of_ble_eq_true rfl)⟩ rfl hf0.1 rfl (Nat.le_of_ble_eq_true rfl) ⟨(Nat.le_of_ble_eq_true rfl), (Nat.le_of_ble_eq_true rfl)⟩ rfl rfl rfl dX5_reads_41 ?_
      refine hj_istore_n hX rfl (Nat.le_of_ble_eq_true rfl) (lv2 := [(1, .int u4), (0, .ref 92)]) rfl dX5_reads_44 ?_
      refine hj_aload_n hX rfl 1 rfl dX5_reads_45 ?_
      refine hj_dup hX rfl dX5_reads_46 ?_
      refine hj_geti hX (j := 31) hf0.1 rfl rfl X5_reads_w5 (Nat.le_of_ble_eq_true rfl) rfl X5_reads_k130 dX5_reads_47 ?_
      refine hj_iconst hX (v := (1 : Int32)) (by decide) dX5_reads_50 ?_
      refine hj_iadd hX dX5_reads_51 ?_
      refine hj_puti hX (j := 31) hf0.1 rfl rfl X5_reads_w5 (Nat.le_of_ble_eq_true rfl) rfl X5_reads_k130 tyX5_ok nmX5 rfl (by decide +kernel) dX5_reads_52 ?_
      refine hj_aload_n hX rfl 1 rfl dX5_reads_55 ?_
      refine hj_iload_n hX rfl 0 rfl dX5_reads_56 ?_
      obtain ⟨u7, Ia8, hc9, h⟩ := ob_e h
      refine hj_callV hX (sh2 := sh) (I2 := Ia8) (r := none) (As := [.int u4]) (rest := []) (st2 := []) (X5_item_ok hf0 hc9) gX5_reads_X5_item rfl X5_item_hy ⟨(Nat.le_of_ble_eq_true rfl), (Nat.le_of_ble_eq_true rfl)⟩ rfl hf0.1 rfl (Nat.le_of_ble_eq_true rfl) ⟨(Nat.le_of_ble_eq_true rfl), (Nat.le_of_ble_eq_true rfl)⟩ rfl rfl rfl dX5_reads_57 ?_
      refine hj_aload_n hX rfl 1 rfl dX5_reads_60 ?_
      refine hj_aload_n hX rfl 1 rfl dX5_reads_61 ?_
      refine hj_geti hX (j := 33) hf0.1 rfl rfl X5_reads_w5 (Nat.le_of_ble_eq_true rfl) rfl X5_reads_k141 dX5_reads_62 ?_
      refine hj_if_ne hX (tgt := 77) (by decide) dX5_reads_65 h (fun h => ?_) (fun h => ?_)
      · refine hj_iconst hX (v := (1 : Int32)) (by decide) dX5_reads_77 ?_
        refine hj_goto hX (tgt := 82) (by decide) dX5_reads_78 ?_
        refine hj_lv hX [1] (lv2 := [(0, .ref 92)]) rfl ?_
        exact X5_reads_b82_ok hX hf0 hk14 h
      · refine hj_aload_n hX rfl 1 rfl dX5_reads_68 ?_
        obtain ⟨u10, Ia11, hc12, h⟩ := ob_e h
        refine hj_callV hX (sh2 := sh) (I2 := Ia11) (r := (some (.int u10))) (As := []) (rest := [.ref 92]) (st2 := [.int u10, .ref 92]) (X5_next_ok hf0 hc12) gX5_reads_X5_next rfl X5_next_hy ⟨(Nat.le_of_ble_eq_true rfl), (Nat.le_of_ble_eq_true rfl)⟩ rfl hf0.1 rfl (Nat.le_of_ble_eq_true rfl) ⟨(Nat.le_of_ble_eq_true rfl), (Nat.le_of_ble_eq_true rfl)⟩ rfl rfl rfl dX5_reads_69 ?_
        refine hj_bipush hX (v := (59 : Int32)) (by decide) dX5_reads_72 ?_
        refine hj_icmp_eq hX (tgt := 81) (by decide) dX5_reads_74 h (fun h => ?_) (fun h => ?_)
        · refine hj_iconst hX (v := (0 : Int32)) (by decide) dX5_reads_81 ?_
          refine hj_lv hX [1] (lv2 := [(0, .ref 92)]) rfl ?_
          exact X5_reads_b82_ok hX hf0 hk14 h
        · refine hj_iconst hX (v := (1 : Int32)) (by decide) dX5_reads_77 ?_
          refine hj_goto hX (tgt := 82) (by decide) dX5_reads_78 ?_
          refine hj_lv hX [1] (lv2 := [(0, .ref 92)]) rfl ?_
          exact X5_reads_b82_ok hX hf0 hk14 h
set_option maxHeartbeats 4000000 in
set_option maxRecDepth 100000 in
theorem X5_reads_l14_ok {p : Program} {l : Launch} {e : Env} {s : State} {m : MethodId} {args : Array Value} {below : List Frame} {meth : Method} {c : Code} {D : va_G} {E : Nat → ClassId} {b z : Nat} {sh : List hS} {r : Int32} {I2 : hM} (hX : hp_X p s m args meth c yX5_reads.cls cX5_reads 2 wsX5_reads D E (some .boolean) yX5_reads.name) (hf0 : hq_X5 sh) : ∀ (n : Nat) (I : hM), X5_reads_l14 n I = some (r, I2) → hp_J p l e ({ frames := 5, cells := 0, slots := 0, locals := 44 * 5 }) s m args below meth c (MQ below (hp_Q D E b z (some (.int r)) sh I2) args s 0 0 (fun q : Nat => b ≤ q)) D E b z 2 sh 0 0 I 14 [(0, .ref 92)] [] := by
  intro n
  induction n with
  | zero => exact fun  _ h => nomatch h
  | succ n ih => exact fun  _ h => X5_reads_h14_ok hX hf0 ih h
set_option maxHeartbeats 4000000 in
set_option maxRecDepth 100000 in
theorem X5_reads_ok {sh : List hS} {r : Int32} {I I2 : hM} (hf0 : hq_X5 sh) (h : X5_reads I = some (r, I2)) : hp_C yX5_reads wsX5_reads 5 0 0 sh I [.ref 92] (some (.int r)) sh I2 := hp_start (cc := cX5_reads) (maxL := 2) (ret := (some .boolean)) [(0, .ref 92)] (by decide) rfl (fun _ _ => rfl) (fun _ _ => Nat.le_of_ble_eq_true rfl) (fun p l e s m below meth c D E b z hX _ => by
  unfold X5_reads at h
  refine hj_aload_n hX rfl 0 rfl dX5_reads_0 ?_
  obtain ⟨u1, Ia2, hc3, h⟩ := ob_e h
  refine hj_callV hX (sh2 := sh) (I2 := Ia2) (r := none) (As := []) (rest := []) (st2 := []) (X5_clears_ok hf0 hc3) gX5_reads_X5_clears rfl X5_clears_hy ⟨(Nat.le_of_ble_eq_true rfl), (Nat.le_of_ble_eq_true rfl)⟩ rfl hf0.1 rfl (Nat.le_of_ble_eq_true rfl) ⟨(Nat.le_of_ble_eq_true rfl), (Nat.le_of_ble_eq_true rfl)⟩ rfl rfl rfl dX5_reads_1 ?_
  refine hj_aload_n hX rfl 0 rfl dX5_reads_4 ?_
  refine hj_iconst hX (v := (0 : Int32)) (by decide) dX5_reads_5 ?_
  refine hj_puti hX (j := 31) hf0.1 rfl rfl X5_reads_w5 (Nat.le_of_ble_eq_true rfl) rfl X5_reads_k130 tyX5_ok nmX5 rfl (by decide +kernel) dX5_reads_6 ?_
  refine hj_aload_n hX rfl 0 rfl dX5_reads_9 ?_
  refine hj_iconst hX (v := (0 : Int32)) (by decide) dX5_reads_10 ?_
  refine hj_putz hX (j := 33) hf0.1 rfl rfl X5_reads_w5 (Nat.le_of_ble_eq_true rfl) rfl X5_reads_k141 tyX5_ok nmX5 rfl (by decide +kernel) dX5_reads_11 h (fun h => ?_)
  exact X5_reads_l14_ok hX hf0 hF _ h)
def X5_fault (I : hM) : Option (Int32 × hM) := ob (X5_reads I) (fun u1 Ia2 => if u1 = 0 then (some ((Ia2 92 32), Ia2)) else (some ((-4 : Int32), Ia2)))
theorem X5_fault_hy : yX5_fault.cls = RX5 ∧ yX5_fault.cls ≠ "java/lang/invoke/MethodHandle" ∧ yX5_fault.cls ≠ "java/lang/invoke/VarHandle" ∧ (parseMethodDescriptor yX5_fault.desc).map (fun d => d.parameters.length) = some 0 := by decide +kernel
theorem X5_fault_k165 : Cond.fieldLink RX5 165 "HatPinsModel" "begin" "I" ∈ wsX5_fault := by decide +kernel
theorem X5_fault_w5 : ∀ w ∈ wsX50, w ∈ wsX5_fault := by decide +kernel
set_option maxHeartbeats 4000000 in
set_option maxRecDepth 100000 in
theorem X5_fault_ok {sh : List hS} {r : Int32} {I I2 : hM} (hf0 : hq_X5 sh) (h : X5_fault I = some (r, I2)) : hp_C yX5_fault wsX5_fault 6 0 0 sh I [.ref 92] (some (.int r)) sh I2 := hp_start (cc := cX5_fault) (maxL := 1) (ret := (some .int)) [(0, .ref 92)] (by decide) rfl (fun _ _ => rfl) (fun _ _ => Nat.le_of_ble_eq_true rfl) (fun p l e s m below meth c D E b z hX _ => by
  unfold X5_fault at h
  refine hj_aload_n hX rfl 0 rfl dX5_fault_0 ?_
  obtain ⟨u1, Ia2, hc3, h⟩ := ob_e h
  refine hj_callV hX (sh2 := sh) (I2 := Ia2) (r := (some (.int u1))) (As := []) (rest := []) (st2 := [.int u1]) (X5_reads_ok hf0 hc3) gX5_fault_X5_reads rfl X5_reads_hy ⟨(Nat.le_of_ble_eq_true rfl), (Nat.le_of_ble_eq_true rfl)⟩ rfl hf0.1 rfl (Nat.le_of_ble_eq_true rfl) ⟨(Nat.le_of_ble_eq_true rfl), (Nat.le_of_ble_eq_true rfl)⟩ rfl rfl rfl dX5_fault_1 ?_
  refine hj_if_eq hX (tgt := 12) (by decide) dX5_fault_4 h (fun h => ?_) (fun h => ?_)
  · refine hj_aload_n hX rfl 0 rfl dX5_fault_12 ?_
    refine hj_geti hX (j := 32) hf0.1 rfl rfl X5_fault_w5 (Nat.le_of_ble_eq_true rfl) rfl X5_fault_k165 dX5_fault_13 ?_
    exact hj_iret hX dX5_fault_16 h
  · refine hj_bipush hX (v := (-4 : Int32)) (by decide) dX5_fault_7 ?_
    refine hj_goto hX (tgt := 16) (by decide) dX5_fault_9 ?_
    exact hj_iret hX dX5_fault_16 h)
def X5_lay (I : hM) : Option (Int32 × hM) := ob (X5_reads I) (fun u1 Ia2 => if u1 = 0 then (some ((-2 : Int32), Ia2)) else (if (Ia2 92 13) = 0 then (some ((-2 : Int32), Ia2)) else (ob (X5_settles Ia2) (fun u4 Ia5 => some (((hu (hu (hu Ia5 92 27 (0 : Int32)) 92 28 (0 : Int32)) 92 34 (0 : Int32)) 92 0), (hu (hu (hu Ia5 92 27 (0 : Int32)) 92 28 (0 : Int32)) 92 34 (0 : Int32)))))))
theorem X5_lay_hy : yX5_lay.cls = RX5 ∧ yX5_lay.cls ≠ "java/lang/invoke/MethodHandle" ∧ yX5_lay.cls ≠ "java/lang/invoke/VarHandle" ∧ (parseMethodDescriptor yX5_lay.desc).map (fun d => d.parameters.length) = some 0 := by decide +kernel
theorem X5_lay_k104 : Cond.fieldLink RX5 104 "HatPinsModel" "newMany" "I" ∈ wsX5_lay := by decide +kernel
theorem X5_lay_k176 : Cond.fieldLink RX5 176 "HatPinsModel" "acts" "I" ∈ wsX5_lay := by decide +kernel
theorem X5_lay_k179 : Cond.fieldLink RX5 179 "HatPinsModel" "keeps" "I" ∈ wsX5_lay := by decide +kernel
theorem X5_lay_k182 : Cond.fieldLink RX5 182 "HatPinsModel" "notes" "I" ∈ wsX5_lay := by decide +kernel
theorem X5_lay_k110 : Cond.fieldLink RX5 110 "HatPinsModel" "many" "I" ∈ wsX5_lay := by decide +kernel
theorem X5_lay_w5 : ∀ w ∈ wsX50, w ∈ wsX5_lay := by decide +kernel
set_option maxHeartbeats 4000000 in
set_option maxRecDepth 100000 in
theorem X5_lay_ok {sh : List hS} {r : Int32} {I I2 : hM} (hf0 : hq_X5 sh) (h : X5_lay I = some (r, I2)) : hp_C yX5_lay wsX5_lay 6 0 0 sh I [.ref 92] (some (.int r)) sh I2 := hp_start (cc := cX5_lay) (maxL := 1) (ret := (some .int)) [(0, .ref 92)] (by decide) rfl (fun _ _ => rfl) (fun _ _ => Nat.le_of_ble_eq_true rfl) (fun p l e s m below meth c D E b z hX _ => by
  unfold X5_lay at h
  refine hj_aload_n hX rfl 0 rfl dX5_lay_0 ?_
  obtain ⟨u1, Ia2, hc3, h⟩ := ob_e h
  refine hj_callV hX (sh2 := sh) (I2 := Ia2) (r := (some (.int u1))) (As := []) (rest := []) (st2 := [.int u1]) (X5_reads_ok hf0 hc3) gX5_lay_X5_reads rfl X5_reads_hy ⟨(Nat.le_of_ble_eq_true rfl), (Nat.le_of_ble_eq_true rfl)⟩ rfl hf0.1 rfl (Nat.le_of_ble_eq_true rfl) ⟨(Nat.le_of_ble_eq_true rfl), (Nat.le_of_ble_eq_true rfl)⟩ rfl rfl rfl dX5_lay_1 ?_
  refine hj_if_eq hX (tgt := 14) (by decide) dX5_lay_4 h (fun h => ?_) (fun h => ?_)
  · refine hj_bipush hX (v := (-2 : Int32)) (by decide) dX5_lay_14 ?_
    exact hj_iret hX dX5_lay_16 h
  · refine hj_aload_n hX rfl 0 rfl dX5_lay_7 ?_
    refine hj_geti hX (j := 13) hf0.1 rfl rfl X5_lay_w5 (Nat.le_of_ble_eq_true rfl) rfl X5_lay_k104 dX5_lay_8 ?_
    refine hj_if_ne hX (tgt := 17) (by decide) dX5_lay_11 h (fun h => ?_) (fun h => ?_)
    · refine hj_aload_n hX rfl 0 rfl dX5_lay_17 ?_
      obtain ⟨u4, Ia5, hc6, h⟩ := ob_e h
      refine hj_callV hX (sh2 := sh) (I2 := Ia5) (r := none) (As := []) (rest := []) (st2 := []) (X5_settles_ok hf0 hc6) gX5_lay_X5_settles rfl X5_settles_hy ⟨(Nat.le_of_ble_eq_true rfl), (Nat.le_of_ble_eq_true rfl)⟩ rfl hf0.1 rfl (Nat.le_of_ble_eq_true rfl) ⟨(Nat.le_of_ble_eq_true rfl), (Nat.le_of_ble_eq_true rfl)⟩ rfl rfl rfl dX5_lay_18 ?_
      refine hj_aload_n hX rfl 0 rfl dX5_lay_21 ?_
      refine hj_iconst hX (v := (0 : Int32)) (by decide) dX5_lay_22 ?_
      refine hj_puti hX (j := 27) hf0.1 rfl rfl X5_lay_w5 (Nat.le_of_ble_eq_true rfl) rfl X5_lay_k176 tyX5_ok nmX5 rfl (by decide +kernel) dX5_lay_23 ?_
      refine hj_aload_n hX rfl 0 rfl dX5_lay_26 ?_
      refine hj_iconst hX (v := (0 : Int32)) (by decide) dX5_lay_27 ?_
      refine hj_puti hX (j := 28) hf0.1 rfl rfl X5_lay_w5 (Nat.le_of_ble_eq_true rfl) rfl X5_lay_k179 tyX5_ok nmX5 rfl (by decide +kernel) dX5_lay_28 ?_
      refine hj_aload_n hX rfl 0 rfl dX5_lay_31 ?_
      refine hj_iconst hX (v := (0 : Int32)) (by decide) dX5_lay_32 ?_
      refine hj_puti hX (j := 34) hf0.1 rfl rfl X5_lay_w5 (Nat.le_of_ble_eq_true rfl) rfl X5_lay_k182 tyX5_ok nmX5 rfl (by decide +kernel) dX5_lay_33 ?_
      refine hj_aload_n hX rfl 0 rfl dX5_lay_36 ?_
      refine hj_geti hX (j := 0) hf0.1 rfl rfl X5_lay_w5 (Nat.le_of_ble_eq_true rfl) rfl X5_lay_k110 dX5_lay_37 ?_
      exact hj_iret hX dX5_lay_40 h
    · refine hj_bipush hX (v := (-2 : Int32)) (by decide) dX5_lay_14 ?_
      exact hj_iret hX dX5_lay_16 h)
def X5_worthOf_b38 (v0 : Int32) (t0 : Int32) (I : hM) : Option (Int32 × hM) := if v0 = (3 : Int32) then (ob (X5_larger (0 : Int32) t0 I) (fun u7 Ia8 => ob (X5_larger (-20 : Int32) u7 Ia8) (fun u10 Ia11 => some (u10, Ia11)))) else (ob (X5_larger (-20 : Int32) t0 I) (fun u4 Ia5 => some (u4, Ia5)))
def X5_worthOf (v0 : Int32) (v1 : Int32) (v2 : Int32) (v3 : Int32) (I : hM) : Option (Int32 × hM) := if v0 = (1 : Int32) then (gd (decide (¬ (2 : Int32) = 0)) ((X5_worthOf_b38 v0 (v1 - (v2 * (v3 / (2 : Int32)))) I))) else (if v0 = (2 : Int32) then (ob (X5_smaller (40 : Int32) (v1 + (v2 * v3)) I) (fun u1 Ia2 => (X5_worthOf_b38 v0 u1 Ia2))) else ((X5_worthOf_b38 v0 (v1 - (v2 * v3)) I)))
theorem X5_worthOf_hy : yX5_worthOf.cls = RX5 ∧ yX5_worthOf.cls ≠ "java/lang/invoke/MethodHandle" ∧ yX5_worthOf.cls ≠ "java/lang/invoke/VarHandle" ∧ (parseMethodDescriptor yX5_worthOf.desc).map (fun d => d.parameters.length) = some 4 := by decide +kernel
set_option maxHeartbeats 4000000 in
set_option maxRecDepth 100000 in
theorem X5_worthOf_b38_ok {p : Program} {l : Launch} {e : Env} {s : State} {m : MethodId} {args : Array Value} {below : List Frame} {meth : Method} {c : Code} {D : va_G} {E : Nat → ClassId} {b z : Nat} {sh : List hS} {r : Int32} {I2 : hM} {v0 : Int32} {t0 : Int32} {I : hM} (hX : hp_X p s m args meth c yX5_worthOf.cls cX5_worthOf 5 wsX5_worthOf D E (some .int) yX5_worthOf.name) (h : X5_worthOf_b38 v0 t0 I = some (r, I2)) : hp_J p l e ({ frames := 1, cells := 0, slots := 0, locals := 44 * 1 }) s m args below meth c (MQ below (hp_Q D E b z (some (.int r)) sh I2) args s 0 0 (fun q : Nat => b ≤ q)) D E b z 5 sh 0 0 I 38 [(0, .int v0)] [.int t0] := by
  unfold X5_worthOf_b38 at h
  refine hj_istore hX (Nat.le_of_ble_eq_true rfl) (lv2 := [(4, .int t0), (0, .int v0)]) rfl dX5_worthOf_38 ?_
  refine hj_bipush hX (v := (-20 : Int32)) (by decide) dX5_worthOf_40 ?_
  refine hj_iload_n hX rfl 1 rfl dX5_worthOf_42 ?_
  refine hj_iconst hX (v := (3 : Int32)) (by decide) dX5_worthOf_43 ?_
  refine hj_icmp_ne hX (tgt := 56) (by decide) dX5_worthOf_44 h (fun h => ?_) (fun h => ?_)
  · refine hj_iload hX 0 rfl dX5_worthOf_56 ?_
    obtain ⟨u4, Ia5, hc6, h⟩ := ob_e h
    refine hj_callS hX (sh2 := sh) (I2 := Ia5) (r := (some (.int u4))) (As := [.int (-20 : Int32), .int t0]) (rest := []) (st2 := [.int u4]) (X5_larger_ok hc6) gX5_worthOf_X5_larger rfl X5_larger_hy.2 ⟨(Nat.le_of_ble_eq_true rfl), (Nat.le_of_ble_eq_true rfl)⟩ rfl (Nat.le_of_ble_eq_true rfl) ⟨(Nat.le_of_ble_eq_true rfl), (Nat.le_of_ble_eq_true rfl)⟩ rfl rfl rfl dX5_worthOf_58 ?_
    exact hj_iret hX dX5_worthOf_61 h
  · refine hj_iconst hX (v := (0 : Int32)) (by decide) dX5_worthOf_47 ?_
    refine hj_iload hX 0 rfl dX5_worthOf_48 ?_
    obtain ⟨u7, Ia8, hc9, h⟩ := ob_e h
    refine hj_callS hX (sh2 := sh) (I2 := Ia8) (r := (some (.int u7))) (As := [.int (0 : Int32), .int t0]) (rest := [.int (-20 : Int32)]) (st2 := [.int u7, .int (-20 : Int32)]) (X5_larger_ok hc9) gX5_worthOf_X5_larger rfl X5_larger_hy.2 ⟨(Nat.le_of_ble_eq_true rfl), (Nat.le_of_ble_eq_true rfl)⟩ rfl (Nat.le_of_ble_eq_true rfl) ⟨(Nat.le_of_ble_eq_true rfl), (Nat.le_of_ble_eq_true rfl)⟩ rfl rfl rfl dX5_worthOf_50 ?_
    refine hj_goto hX (tgt := 58) (by decide) dX5_worthOf_53 ?_
    obtain ⟨u10, Ia11, hc12, h⟩ := ob_e h
    refine hj_callS hX (sh2 := sh) (I2 := Ia11) (r := (some (.int u10))) (As := [.int (-20 : Int32), .int u7]) (rest := []) (st2 := [.int u10]) (X5_larger_ok hc12) gX5_worthOf_X5_larger rfl X5_larger_hy.2 ⟨(Nat.le_of_ble_eq_true rfl), (Nat.le_of_ble_eq_true rfl)⟩ rfl (Nat.le_of_ble_eq_true rfl) ⟨(Nat.le_of_ble_eq_true rfl), (Nat.le_of_ble_eq_true rfl)⟩ rfl rfl rfl dX5_worthOf_58 ?_
    exact hj_iret hX dX5_worthOf_61 h
set_option maxHeartbeats 4000000 in
set_option maxRecDepth 100000 in
theorem X5_worthOf_ok {sh : List hS} {r : Int32} {I I2 : hM} {v0 : Int32} {v1 : Int32} {v2 : Int32} {v3 : Int32} (h : X5_worthOf v0 v1 v2 v3 I = some (r, I2)) : hp_C yX5_worthOf wsX5_worthOf 1 0 0 sh I [.int v0, .int v1, .int v2, .int v3] (some (.int r)) sh I2 := hp_start (cc := cX5_worthOf) (maxL := 5) (ret := (some .int)) [(0, .int v0), (1, .int v1), (2, .int v2), (3, .int v3)] (by decide) rfl (fun _ _ => rfl) (fun _ _ => Nat.le_of_ble_eq_true rfl) (fun p l e s m below meth c D E b z hX _ => by
  unfold X5_worthOf at h
  refine hj_iload_n hX rfl 0 rfl dX5_worthOf_0 ?_
  refine hj_iconst hX (v := (1 : Int32)) (by decide) dX5_worthOf_1 ?_
  refine hj_icmp_ne hX (tgt := 15) (by decide) dX5_worthOf_2 h (fun h => ?_) (fun h => ?_)
  · refine hj_iload_n hX rfl 0 rfl dX5_worthOf_15 ?_
    refine hj_iconst hX (v := (2 : Int32)) (by decide) dX5_worthOf_16 ?_
    refine hj_icmp_ne hX (tgt := 33) (by decide) dX5_worthOf_17 h (fun h => ?_) (fun h => ?_)
    · refine hj_iload_n hX rfl 1 rfl dX5_worthOf_33 ?_
      refine hj_iload_n hX rfl 2 rfl dX5_worthOf_34 ?_
      refine hj_iload_n hX rfl 3 rfl dX5_worthOf_35 ?_
      refine hj_imul hX dX5_worthOf_36 ?_
      refine hj_isub hX dX5_worthOf_37 ?_
      refine hj_lv hX [0] (lv2 := [(0, .int v0)]) rfl ?_
      exact X5_worthOf_b38_ok hX h
    · refine hj_bipush hX (v := (40 : Int32)) (by decide) dX5_worthOf_20 ?_
      refine hj_iload_n hX rfl 1 rfl dX5_worthOf_22 ?_
      refine hj_iload_n hX rfl 2 rfl dX5_worthOf_23 ?_
      refine hj_iload_n hX rfl 3 rfl dX5_worthOf_24 ?_
      refine hj_imul hX dX5_worthOf_25 ?_
      refine hj_iadd hX dX5_worthOf_26 ?_
      obtain ⟨u1, Ia2, hc3, h⟩ := ob_e h
      refine hj_callS hX (sh2 := sh) (I2 := Ia2) (r := (some (.int u1))) (As := [.int (40 : Int32), .int (v1 + (v2 * v3))]) (rest := []) (st2 := [.int u1]) (X5_smaller_ok hc3) gX5_worthOf_X5_smaller rfl X5_smaller_hy.2 ⟨(Nat.le_of_ble_eq_true rfl), (Nat.le_of_ble_eq_true rfl)⟩ rfl (Nat.le_of_ble_eq_true rfl) ⟨(Nat.le_of_ble_eq_true rfl), (Nat.le_of_ble_eq_true rfl)⟩ rfl rfl rfl dX5_worthOf_27 ?_
      refine hj_goto hX (tgt := 38) (by decide) dX5_worthOf_30 ?_
      refine hj_lv hX [0] (lv2 := [(0, .int v0)]) rfl ?_
      exact X5_worthOf_b38_ok hX h
  · refine hj_iload_n hX rfl 1 rfl dX5_worthOf_5 ?_
    refine hj_iload_n hX rfl 2 rfl dX5_worthOf_6 ?_
    refine hj_iload_n hX rfl 3 rfl dX5_worthOf_7 ?_
    refine hj_iconst hX (v := (2 : Int32)) (by decide) dX5_worthOf_8 ?_
    refine hj_idiv hX dX5_worthOf_9 h (fun h => ?_)
    refine hj_imul hX dX5_worthOf_10 ?_
    refine hj_isub hX dX5_worthOf_11 ?_
    refine hj_goto hX (tgt := 38) (by decide) dX5_worthOf_12 ?_
    refine hj_lv hX [0] (lv2 := [(0, .int v0)]) rfl ?_
    exact X5_worthOf_b38_ok hX h)
def X5_worth (v1 : Int32) (v2 : Int32) (I : hM) : Option (Int32 × hM) := gd (hx (v1 + v2) 240) (if (I 113 ((v1 + v2)).toNatClampNeg) = (1 : Int32) then (gd (hx v2 7) (gd (hx v2 7) (gd (hx v2 7) (gd (hx (v1 + (18 : Int32)) 240) (gd (hx ((v1 + (7 : Int32)) + v2) 240) (ob (X5_worthOf (I 93 (v2).toNatClampNeg) (I 95 (v2).toNatClampNeg) (I 96 (v2).toNatClampNeg) ((I 113 ((v1 + (18 : Int32))).toNatClampNeg) - (I 113 (((v1 + (7 : Int32)) + v2)).toNatClampNeg)) I) (fun u1 Ia2 => some (u1, Ia2)))))))) else (some ((0 : Int32), I)))
theorem X5_worth_hy : yX5_worth.cls = RX5 ∧ yX5_worth.cls ≠ "java/lang/invoke/MethodHandle" ∧ yX5_worth.cls ≠ "java/lang/invoke/VarHandle" ∧ (parseMethodDescriptor yX5_worth.desc).map (fun d => d.parameters.length) = some 2 := by decide +kernel
theorem X5_worth_k70 : Cond.fieldLink RX5 70 "HatPinsModel" "slot" "[I" ∈ wsX5_worth := by decide +kernel
theorem X5_worth_k7 : Cond.fieldLink RX5 7 "HatPinsModel" "sort" "[I" ∈ wsX5_worth := by decide +kernel
theorem X5_worth_k16 : Cond.fieldLink RX5 16 "HatPinsModel" "joy" "[I" ∈ wsX5_worth := by decide +kernel
theorem X5_worth_k19 : Cond.fieldLink RX5 19 "HatPinsModel" "wane" "[I" ∈ wsX5_worth := by decide +kernel
theorem X5_worth_w5 : ∀ w ∈ wsX50, w ∈ wsX5_worth := by decide +kernel
set_option maxHeartbeats 4000000 in
set_option maxRecDepth 100000 in
theorem X5_worth_ok {sh : List hS} {r : Int32} {I I2 : hM} {v1 : Int32} {v2 : Int32} (hf0 : hq_X5 sh) (h : X5_worth v1 v2 I = some (r, I2)) : hp_C yX5_worth wsX5_worth 2 0 0 sh I [.ref 92, .int v1, .int v2] (some (.int r)) sh I2 := hp_start (cc := cX5_worth) (maxL := 3) (ret := (some .int)) [(0, .ref 92), (1, .int v1), (2, .int v2)] (by decide) rfl (fun _ _ => rfl) (fun _ _ => Nat.le_of_ble_eq_true rfl) (fun p l e s m below meth c D E b z hX _ => by
  unfold X5_worth at h
  refine hj_aload_n hX rfl 0 rfl dX5_worth_0 ?_
  refine hj_getr hX (j := 26) hf0.1 rfl rfl X5_worth_w5 (Nat.le_of_ble_eq_true rfl) rfl X5_worth_k70 dX5_worth_1 ?_
  refine hj_iload_n hX rfl 1 rfl dX5_worth_4 ?_
  refine hj_iload_n hX rfl 2 rfl dX5_worth_5 ?_
  refine hj_iadd hX dX5_worth_6 ?_
  refine hj_iald hX hf0.2.2.2.2.2.2.2.2.2.2.2.2.2.2.2.2.2.2.2.2.2.1 dX5_worth_7 h (fun h => ?_)
  refine hj_iconst hX (v := (1 : Int32)) (by decide) dX5_worth_8 ?_
  refine hj_icmp_ne hX (tgt := 57) (by decide) dX5_worth_9 h (fun h => ?_) (fun h => ?_)
  · refine hj_iconst hX (v := (0 : Int32)) (by decide) dX5_worth_57 ?_
    exact hj_iret hX dX5_worth_58 h
  · refine hj_aload_n hX rfl 0 rfl dX5_worth_12 ?_
    refine hj_getr hX (j := 1) hf0.1 rfl rfl X5_worth_w5 (Nat.le_of_ble_eq_true rfl) rfl X5_worth_k7 dX5_worth_13 ?_
    refine hj_iload_n hX rfl 2 rfl dX5_worth_16 ?_
    refine hj_iald hX hf0.2.1 dX5_worth_17 h (fun h => ?_)
    refine hj_aload_n hX rfl 0 rfl dX5_worth_18 ?_
    refine hj_getr hX (j := 3) hf0.1 rfl rfl X5_worth_w5 (Nat.le_of_ble_eq_true rfl) rfl X5_worth_k16 dX5_worth_19 ?_
    refine hj_iload_n hX rfl 2 rfl dX5_worth_22 ?_
    refine hj_iald hX hf0.2.2.2.1 dX5_worth_23 h (fun h => ?_)
    refine hj_aload_n hX rfl 0 rfl dX5_worth_24 ?_
    refine hj_getr hX (j := 4) hf0.1 rfl rfl X5_worth_w5 (Nat.le_of_ble_eq_true rfl) rfl X5_worth_k19 dX5_worth_25 ?_
    refine hj_iload_n hX rfl 2 rfl dX5_worth_28 ?_
    refine hj_iald hX hf0.2.2.2.2.1 dX5_worth_29 h (fun h => ?_)
    refine hj_aload_n hX rfl 0 rfl dX5_worth_30 ?_
    refine hj_getr hX (j := 26) hf0.1 rfl rfl X5_worth_w5 (Nat.le_of_ble_eq_true rfl) rfl X5_worth_k70 dX5_worth_31 ?_
    refine hj_iload_n hX rfl 1 rfl dX5_worth_34 ?_
    refine hj_bipush hX (v := (18 : Int32)) (by decide) dX5_worth_35 ?_
    refine hj_iadd hX dX5_worth_37 ?_
    refine hj_iald hX hf0.2.2.2.2.2.2.2.2.2.2.2.2.2.2.2.2.2.2.2.2.2.1 dX5_worth_38 h (fun h => ?_)
    refine hj_aload_n hX rfl 0 rfl dX5_worth_39 ?_
    refine hj_getr hX (j := 26) hf0.1 rfl rfl X5_worth_w5 (Nat.le_of_ble_eq_true rfl) rfl X5_worth_k70 dX5_worth_40 ?_
    refine hj_iload_n hX rfl 1 rfl dX5_worth_43 ?_
    refine hj_bipush hX (v := (7 : Int32)) (by decide) dX5_worth_44 ?_
    refine hj_iadd hX dX5_worth_46 ?_
    refine hj_iload_n hX rfl 2 rfl dX5_worth_47 ?_
    refine hj_iadd hX dX5_worth_48 ?_
    refine hj_iald hX hf0.2.2.2.2.2.2.2.2.2.2.2.2.2.2.2.2.2.2.2.2.2.1 dX5_worth_49 h (fun h => ?_)
    refine hj_isub hX dX5_worth_50 ?_
    obtain ⟨u1, Ia2, hc3, h⟩ := ob_e h
    refine hj_callS hX (sh2 := sh) (I2 := Ia2) (r := (some (.int u1))) (As := [.int (I 93 (v2).toNatClampNeg), .int (I 95 (v2).toNatClampNeg), .int (I 96 (v2).toNatClampNeg), .int ((I 113 ((v1 + (18 : Int32))).toNatClampNeg) - (I 113 (((v1 + (7 : Int32)) + v2)).toNatClampNeg))]) (rest := []) (st2 := [.int u1]) (X5_worthOf_ok hc3) gX5_worth_X5_worthOf rfl X5_worthOf_hy.2 ⟨(Nat.le_of_ble_eq_true rfl), (Nat.le_of_ble_eq_true rfl)⟩ rfl (Nat.le_of_ble_eq_true rfl) ⟨(Nat.le_of_ble_eq_true rfl), (Nat.le_of_ble_eq_true rfl)⟩ rfl rfl rfl dX5_worth_51 ?_
    refine hj_goto hX (tgt := 58) (by decide) dX5_worth_54 ?_
    exact hj_iret hX dX5_worth_58 h)
def X5_ends_h12 (k12 : Int32 → Int32 → Int32 → Int32 → hM → Option (Int32 × hM)) (v1 : Int32) (v2 : Int32) (v4 : Int32) (v5 : Int32) (I : hM) : Option (Int32 × hM) := if (I 92 6) ≤ v5 then (some (0, I)) else (gd (hx v5 6) (gd (hx v5 6) (if (I 98 (v5).toNatClampNeg) = v2 then (gd (hx (v1 + (I 99 (v5).toNatClampNeg)) 240) (if (I 113 ((v1 + (I 99 (v5).toNatClampNeg))).toNatClampNeg) = 0 then (if (I 99 (v5).toNatClampNeg) = (I 92 37) then ((k12 v1 v2 v4 (v5 + (1 : Int32)) I)) else (gd (hx v5 6) (gd (hx ((v1 + (7 : Int32)) + (I 99 (v5).toNatClampNeg)) 240) (if 0 ≤ (I 113 (((v1 + (7 : Int32)) + (I 99 (v5).toNatClampNeg))).toNatClampNeg) then (gd (hx ((v1 + (7 : Int32)) + (I 99 (v5).toNatClampNeg)) 240) (ob (X5_smaller (v4 + (I 100 (v5).toNatClampNeg)) (I 113 (((v1 + (7 : Int32)) + (I 99 (v5).toNatClampNeg))).toNatClampNeg) I) (fun u1 Ia2 => gd (hx ((v1 + (7 : Int32)) + (I 99 (v5).toNatClampNeg)) 240) ((k12 v1 v2 v4 (v5 + (1 : Int32)) (hu Ia2 113 (((v1 + (7 : Int32)) + (I 99 (v5).toNatClampNeg))).toNatClampNeg u1)))))) else (gd (hx ((v1 + (7 : Int32)) + (I 99 (v5).toNatClampNeg)) 240) ((k12 v1 v2 v4 (v5 + (1 : Int32)) (hu I 113 (((v1 + (7 : Int32)) + (I 99 (v5).toNatClampNeg))).toNatClampNeg (v4 + (I 100 (v5).toNatClampNeg)))))))))) else ((k12 v1 v2 v4 (v5 + (1 : Int32)) I)))) else ((k12 v1 v2 v4 (v5 + (1 : Int32)) I)))))
def X5_ends_l12 : Nat → Int32 → Int32 → Int32 → Int32 → hM → Option (Int32 × hM)
  | 0 => fun _ _ _ _ _ => none
  | n + 1 => X5_ends_h12   (X5_ends_l12   n)
def X5_ends (v1 : Int32) (v2 : Int32) (v3 : Int32) (v4 : Int32) (I : hM) : Option (Int32 × hM) := gd (hx (v1 + v2) 240) ((X5_ends_l12 hF v1 v2 v4 (0 : Int32) (hu I 113 ((v1 + v2)).toNatClampNeg v3)))
theorem X5_ends_hy : yX5_ends.cls = RX5 ∧ yX5_ends.cls ≠ "java/lang/invoke/MethodHandle" ∧ yX5_ends.cls ≠ "java/lang/invoke/VarHandle" ∧ (parseMethodDescriptor yX5_ends.desc).map (fun d => d.parameters.length) = some 4 := by decide +kernel
theorem X5_ends_k70 : Cond.fieldLink RX5 70 "HatPinsModel" "slot" "[I" ∈ wsX5_ends := by decide +kernel
theorem X5_ends_k113 : Cond.fieldLink RX5 113 "HatPinsModel" "follows" "I" ∈ wsX5_ends := by decide +kernel
theorem X5_ends_k28 : Cond.fieldLink RX5 28 "HatPinsModel" "after" "[I" ∈ wsX5_ends := by decide +kernel
theorem X5_ends_k25 : Cond.fieldLink RX5 25 "HatPinsModel" "ahead" "[I" ∈ wsX5_ends := by decide +kernel
theorem X5_ends_k83 : Cond.fieldLink RX5 83 "HatPinsModel" "absent" "I" ∈ wsX5_ends := by decide +kernel
theorem X5_ends_k31 : Cond.fieldLink RX5 31 "HatPinsModel" "later" "[I" ∈ wsX5_ends := by decide +kernel
theorem X5_ends_w5 : ∀ w ∈ wsX50, w ∈ wsX5_ends := by decide +kernel
set_option maxHeartbeats 4000000 in
set_option maxRecDepth 100000 in
theorem X5_ends_h12_ok {p : Program} {l : Launch} {e : Env} {s : State} {m : MethodId} {args : Array Value} {below : List Frame} {meth : Method} {c : Code} {D : va_G} {E : Nat → ClassId} {b z : Nat} {sh : List hS} {r : Int32} {I2 : hM} {k12 : Int32 → Int32 → Int32 → Int32 → hM → Option (Int32 × hM)} {v1 : Int32} {v2 : Int32} {v4 : Int32} {v5 : Int32} {I : hM} (hX : hp_X p s m args meth c yX5_ends.cls cX5_ends 8 wsX5_ends D E none yX5_ends.name) (hf0 : hq_X5 sh) (hk12 : ∀ (v1 : Int32) (v2 : Int32) (v4 : Int32) (v5 : Int32) (I : hM), k12 v1 v2 v4 v5 I = some (r, I2) → hp_J p l e ({ frames := 1, cells := 0, slots := 0, locals := 44 * 1 }) s m args below meth c (MQ below (hp_Q D E b z none sh I2) args s 0 0 (fun q : Nat => b ≤ q)) D E b z 8 sh 0 0 I 12 [(0, .ref 92), (1, .int v1), (2, .int v2), (4, .int v4), (5, .int v5)] []) (h : X5_ends_h12 k12 v1 v2 v4 v5 I = some (r, I2)) : hp_J p l e ({ frames := 1, cells := 0, slots := 0, locals := 44 * 1 }) s m args below meth c (MQ below (hp_Q D E b z none sh I2) args s 0 0 (fun q : Nat => b ≤ q)) D E b z 8 sh 0 0 I 12 [(0, .ref 92), (1, .int v1), (2, .int v2), (4, .int v4), (5, .int v5)] [] := by
  unfold X5_ends_h12 at h
  refine hj_iload hX 4 rfl dX5_ends_12 ?_
  refine hj_aload_n hX rfl 0 rfl dX5_ends_14 ?_
  refine hj_geti hX (j := 6) hf0.1 rfl rfl X5_ends_w5 (Nat.le_of_ble_eq_true rfl) rfl X5_ends_k113 dX5_ends_15 ?_
  refine hj_icmp_ge hX (tgt := 129) (by decide) dX5_ends_18 h (fun h => ?_) (fun h => ?_)
  · exact hj_vret hX dX5_ends_129 h
  · refine hj_aload_n hX rfl 0 rfl dX5_ends_21 ?_
    refine hj_getr hX (j := 8) hf0.1 rfl rfl X5_ends_w5 (Nat.le_of_ble_eq_true rfl) rfl X5_ends_k28 dX5_ends_22 ?_
    refine hj_iload hX 4 rfl dX5_ends_25 ?_
    refine hj_iald hX hf0.2.2.2.2.2.2.2.1 dX5_ends_27 h (fun h => ?_)
    refine hj_istore hX (Nat.le_of_ble_eq_true rfl) (lv2 := [(6, .int (I 99 (v5).toNatClampNeg)), (0, .ref 92), (1, .int v1), (2, .int v2), (4, .int v4), (5, .int v5)]) rfl dX5_ends_28 ?_
    refine hj_aload_n hX rfl 1 rfl dX5_ends_30 ?_
    refine hj_getr hX (j := 7) hf0.1 rfl rfl X5_ends_w5 (Nat.le_of_ble_eq_true rfl) rfl X5_ends_k25 dX5_ends_31 ?_
    refine hj_iload hX 5 rfl dX5_ends_34 ?_
    refine hj_iald hX hf0.2.2.2.2.2.2.1 dX5_ends_36 h (fun h => ?_)
    refine hj_iload_n hX rfl 3 rfl dX5_ends_37 ?_
    refine hj_icmp_ne hX (tgt := 123) (by decide) dX5_ends_38 h (fun h => ?_) (fun h => ?_)
    · refine hj_iinc hX (k1 := 5) (v := (v5 + (1 : Int32))) rfl rfl (Nat.le_of_ble_eq_true rfl) (lv2 := [(5, .int (v5 + (1 : Int32))), (6, .int (I 99 (v5).toNatClampNeg)), (0, .ref 92), (1, .int v1), (2, .int v2), (4, .int v4)]) rfl dX5_ends_123 ?_
      refine hj_goto hX (tgt := 12) (by decide) dX5_ends_126 ?_
      refine hj_lv hX [2, 3, 4, 5, 0] (lv2 := [(0, .ref 92), (1, .int v1), (2, .int v2), (4, .int v4), (5, .int (v5 + (1 : Int32)))]) rfl ?_
      exact hk12 _ _ _ _ _ h
    · refine hj_aload_n hX rfl 1 rfl dX5_ends_41 ?_
      refine hj_getr hX (j := 26) hf0.1 rfl rfl X5_ends_w5 (Nat.le_of_ble_eq_true rfl) rfl X5_ends_k70 dX5_ends_42 ?_
      refine hj_iload_n hX rfl 2 rfl dX5_ends_45 ?_
      refine hj_iload hX 0 rfl dX5_ends_46 ?_
      refine hj_iadd hX dX5_ends_48 ?_
      refine hj_iald hX hf0.2.2.2.2.2.2.2.2.2.2.2.2.2.2.2.2.2.2.2.2.2.1 dX5_ends_49 h (fun h => ?_)
      refine hj_if_ne hX (tgt := 123) (by decide) dX5_ends_50 h (fun h => ?_) (fun h => ?_)
      · refine hj_iinc hX (k1 := 5) (v := (v5 + (1 : Int32))) rfl rfl (Nat.le_of_ble_eq_true rfl) (lv2 := [(5, .int (v5 + (1 : Int32))), (6, .int (I 99 (v5).toNatClampNeg)), (0, .ref 92), (1, .int v1), (2, .int v2), (4, .int v4)]) rfl dX5_ends_123 ?_
        refine hj_goto hX (tgt := 12) (by decide) dX5_ends_126 ?_
        refine hj_lv hX [2, 3, 4, 5, 0] (lv2 := [(0, .ref 92), (1, .int v1), (2, .int v2), (4, .int v4), (5, .int (v5 + (1 : Int32)))]) rfl ?_
        exact hk12 _ _ _ _ _ h
      · refine hj_iload hX 0 rfl dX5_ends_53 ?_
        refine hj_aload_n hX rfl 1 rfl dX5_ends_55 ?_
        refine hj_geti hX (j := 37) hf0.1 rfl rfl X5_ends_w5 (Nat.le_of_ble_eq_true rfl) rfl X5_ends_k83 dX5_ends_56 ?_
        refine hj_icmp_eq hX (tgt := 123) (by decide) dX5_ends_59 h (fun h => ?_) (fun h => ?_)
        · refine hj_iinc hX (k1 := 5) (v := (v5 + (1 : Int32))) rfl rfl (Nat.le_of_ble_eq_true rfl) (lv2 := [(5, .int (v5 + (1 : Int32))), (6, .int (I 99 (v5).toNatClampNeg)), (0, .ref 92), (1, .int v1), (2, .int v2), (4, .int v4)]) rfl dX5_ends_123 ?_
          refine hj_goto hX (tgt := 12) (by decide) dX5_ends_126 ?_
          refine hj_lv hX [2, 3, 4, 5, 0] (lv2 := [(0, .ref 92), (1, .int v1), (2, .int v2), (4, .int v4), (5, .int (v5 + (1 : Int32)))]) rfl ?_
          exact hk12 _ _ _ _ _ h
        · refine hj_iload hX 4 rfl dX5_ends_62 ?_
          refine hj_aload_n hX rfl 1 rfl dX5_ends_64 ?_
          refine hj_getr hX (j := 9) hf0.1 rfl rfl X5_ends_w5 (Nat.le_of_ble_eq_true rfl) rfl X5_ends_k31 dX5_ends_65 ?_
          refine hj_iload hX 5 rfl dX5_ends_68 ?_
          refine hj_iald hX hf0.2.2.2.2.2.2.2.2.1 dX5_ends_70 h (fun h => ?_)
          refine hj_iadd hX dX5_ends_71 ?_
          refine hj_istore hX (Nat.le_of_ble_eq_true rfl) (lv2 := [(7, .int (v4 + (I 100 (v5).toNatClampNeg))), (6, .int (I 99 (v5).toNatClampNeg)), (0, .ref 92), (1, .int v1), (2, .int v2), (4, .int v4), (5, .int v5)]) rfl dX5_ends_72 ?_
          refine hj_aload_n hX rfl 2 rfl dX5_ends_74 ?_
          refine hj_getr hX (j := 26) hf0.1 rfl rfl X5_ends_w5 (Nat.le_of_ble_eq_true rfl) rfl X5_ends_k70 dX5_ends_75 ?_
          refine hj_iload_n hX rfl 3 rfl dX5_ends_78 ?_
          refine hj_bipush hX (v := (7 : Int32)) (by decide) dX5_ends_79 ?_
          refine hj_iadd hX dX5_ends_81 ?_
          refine hj_iload hX 1 rfl dX5_ends_82 ?_
          refine hj_iadd hX dX5_ends_84 ?_
          refine hj_aload_n hX rfl 2 rfl dX5_ends_85 ?_
          refine hj_getr hX (j := 26) hf0.1 rfl rfl X5_ends_w5 (Nat.le_of_ble_eq_true rfl) rfl X5_ends_k70 dX5_ends_86 ?_
          refine hj_iload_n hX rfl 3 rfl dX5_ends_89 ?_
          refine hj_bipush hX (v := (7 : Int32)) (by decide) dX5_ends_90 ?_
          refine hj_iadd hX dX5_ends_92 ?_
          refine hj_iload hX 1 rfl dX5_ends_93 ?_
          refine hj_iadd hX dX5_ends_95 ?_
          refine hj_iald hX hf0.2.2.2.2.2.2.2.2.2.2.2.2.2.2.2.2.2.2.2.2.2.1 dX5_ends_96 h (fun h => ?_)
          refine hj_if_ge hX (tgt := 105) (by decide) dX5_ends_97 h (fun h => ?_) (fun h => ?_)
          · refine hj_iload hX 0 rfl dX5_ends_105 ?_
            refine hj_aload_n hX rfl 2 rfl dX5_ends_107 ?_
            refine hj_getr hX (j := 26) hf0.1 rfl rfl X5_ends_w5 (Nat.le_of_ble_eq_true rfl) rfl X5_ends_k70 dX5_ends_108 ?_
            refine hj_iload_n hX rfl 3 rfl dX5_ends_111 ?_
            refine hj_bipush hX (v := (7 : Int32)) (by decide) dX5_ends_112 ?_
            refine hj_iadd hX dX5_ends_114 ?_
            refine hj_iload hX 1 rfl dX5_ends_115 ?_
            refine hj_iadd hX dX5_ends_117 ?_
            refine hj_iald hX hf0.2.2.2.2.2.2.2.2.2.2.2.2.2.2.2.2.2.2.2.2.2.1 dX5_ends_118 h (fun h => ?_)
            obtain ⟨u1, Ia2, hc3, h⟩ := ob_e h
            refine hj_callS hX (sh2 := sh) (I2 := Ia2) (r := (some (.int u1))) (As := [.int (v4 + (I 100 (v5).toNatClampNeg)), .int (I 113 (((v1 + (7 : Int32)) + (I 99 (v5).toNatClampNeg))).toNatClampNeg)]) (rest := [.int ((v1 + (7 : Int32)) + (I 99 (v5).toNatClampNeg)), .ref 113]) (st2 := [.int u1, .int ((v1 + (7 : Int32)) + (I 99 (v5).toNatClampNeg)), .ref 113]) (X5_smaller_ok hc3) gX5_ends_X5_smaller rfl X5_smaller_hy.2 ⟨(Nat.le_of_ble_eq_true rfl), (Nat.le_of_ble_eq_true rfl)⟩ rfl (Nat.le_of_ble_eq_true rfl) ⟨(Nat.le_of_ble_eq_true rfl), (Nat.le_of_ble_eq_true rfl)⟩ rfl rfl rfl dX5_ends_119 ?_
            refine hj_iast hX hf0.2.2.2.2.2.2.2.2.2.2.2.2.2.2.2.2.2.2.2.2.2.1 dX5_ends_122 h (fun h => ?_)
            refine hj_iinc hX (k1 := 6) (v := (v5 + (1 : Int32))) rfl rfl (Nat.le_of_ble_eq_true rfl) (lv2 := [(5, .int (v5 + (1 : Int32))), (7, .int (v4 + (I 100 (v5).toNatClampNeg))), (6, .int (I 99 (v5).toNatClampNeg)), (0, .ref 92), (1, .int v1), (2, .int v2), (4, .int v4)]) rfl dX5_ends_123 ?_
            refine hj_goto hX (tgt := 12) (by decide) dX5_ends_126 ?_
            refine hj_lv hX [3, 4, 5, 6, 0] (lv2 := [(0, .ref 92), (1, .int v1), (2, .int v2), (4, .int v4), (5, .int (v5 + (1 : Int32)))]) rfl ?_
            exact hk12 _ _ _ _ _ h
          · refine hj_iload hX 0 rfl dX5_ends_100 ?_
            refine hj_goto hX (tgt := 122) (by decide) dX5_ends_102 ?_
            refine hj_iast hX hf0.2.2.2.2.2.2.2.2.2.2.2.2.2.2.2.2.2.2.2.2.2.1 dX5_ends_122 h (fun h => ?_)
            refine hj_iinc hX (k1 := 6) (v := (v5 + (1 : Int32))) rfl rfl (Nat.le_of_ble_eq_true rfl) (lv2 := [(5, .int (v5 + (1 : Int32))), (7, .int (v4 + (I 100 (v5).toNatClampNeg))), (6, .int (I 99 (v5).toNatClampNeg)), (0, .ref 92), (1, .int v1), (2, .int v2), (4, .int v4)]) rfl dX5_ends_123 ?_
            refine hj_goto hX (tgt := 12) (by decide) dX5_ends_126 ?_
            refine hj_lv hX [3, 4, 5, 6, 0] (lv2 := [(0, .ref 92), (1, .int v1), (2, .int v2), (4, .int v4), (5, .int (v5 + (1 : Int32)))]) rfl ?_
            exact hk12 _ _ _ _ _ h
set_option maxHeartbeats 4000000 in
set_option maxRecDepth 100000 in
theorem X5_ends_l12_ok {p : Program} {l : Launch} {e : Env} {s : State} {m : MethodId} {args : Array Value} {below : List Frame} {meth : Method} {c : Code} {D : va_G} {E : Nat → ClassId} {b z : Nat} {sh : List hS} {r : Int32} {I2 : hM} (hX : hp_X p s m args meth c yX5_ends.cls cX5_ends 8 wsX5_ends D E none yX5_ends.name) (hf0 : hq_X5 sh) : ∀ (n : Nat) (v1 : Int32) (v2 : Int32) (v4 : Int32) (v5 : Int32) (I : hM), X5_ends_l12 n v1 v2 v4 v5 I = some (r, I2) → hp_J p l e ({ frames := 1, cells := 0, slots := 0, locals := 44 * 1 }) s m args below meth c (MQ below (hp_Q D E b z none sh I2) args s 0 0 (fun q : Nat => b ≤ q)) D E b z 8 sh 0 0 I 12 [(0, .ref 92), (1, .int v1), (2, .int v2), (4, .int v4), (5, .int v5)] [] := by
  intro n
  induction n with
  | zero => exact fun _ _ _ _ _ h => nomatch h
  | succ n ih => exact fun _ _ _ _ _ h => X5_ends_h12_ok hX hf0 ih h
set_option maxHeartbeats 4000000 in
set_option maxRecDepth 100000 in
theorem X5_ends_ok {sh : List hS} {r : Int32} {I I2 : hM} {v1 : Int32} {v2 : Int32} {v3 : Int32} {v4 : Int32} (hf0 : hq_X5 sh) (h : X5_ends v1 v2 v3 v4 I = some (r, I2)) : hp_C yX5_ends wsX5_ends 1 0 0 sh I [.ref 92, .int v1, .int v2, .int v3, .int v4] none sh I2 := hp_start (cc := cX5_ends) (maxL := 8) (ret := none) [(0, .ref 92), (1, .int v1), (2, .int v2), (3, .int v3), (4, .int v4)] (by decide) rfl (fun _ _ => rfl) (fun _ _ => Nat.le_of_ble_eq_true rfl) (fun p l e s m below meth c D E b z hX _ => by
  unfold X5_ends at h
  refine hj_aload_n hX rfl 0 rfl dX5_ends_0 ?_
  refine hj_getr hX (j := 26) hf0.1 rfl rfl X5_ends_w5 (Nat.le_of_ble_eq_true rfl) rfl X5_ends_k70 dX5_ends_1 ?_
  refine hj_iload_n hX rfl 1 rfl dX5_ends_4 ?_
  refine hj_iload_n hX rfl 2 rfl dX5_ends_5 ?_
  refine hj_iadd hX dX5_ends_6 ?_
  refine hj_iload_n hX rfl 3 rfl dX5_ends_7 ?_
  refine hj_iast hX hf0.2.2.2.2.2.2.2.2.2.2.2.2.2.2.2.2.2.2.2.2.2.1 dX5_ends_8 h (fun h => ?_)
  refine hj_iconst hX (v := (0 : Int32)) (by decide) dX5_ends_9 ?_
  refine hj_istore hX (Nat.le_of_ble_eq_true rfl) (lv2 := [(5, .int (0 : Int32)), (0, .ref 92), (1, .int v1), (2, .int v2), (3, .int v3), (4, .int v4)]) rfl dX5_ends_10 ?_
  refine hj_lv hX [1, 2, 3, 5, 0] (lv2 := [(0, .ref 92), (1, .int v1), (2, .int v2), (4, .int v4), (5, .int (0 : Int32))]) rfl ?_
  exact X5_ends_l12_ok hX hf0 hF _ _ _ _ _ h)
def X5_starts_b84 (k4 : Int32 → Int32 → Int32 → hM → Option (Int32 × hM)) (v1 : Int32) (v2 : Int32) (v3 : Int32) (I : hM) : Option (Int32 × hM) := gd (hx (v1 + v3) 240) (if (I 113 ((v1 + v3)).toNatClampNeg) = (1 : Int32) then ((k4 v1 (v2 ||| ((1 : Int32) <<< (v3 &&& 31))) (v3 + (1 : Int32)) I)) else ((k4 v1 (v2 ||| (0 : Int32)) (v3 + (1 : Int32)) I)))
def X5_starts_h4 (k4 : Int32 → Int32 → Int32 → hM → Option (Int32 × hM)) (v1 : Int32) (v2 : Int32) (v3 : Int32) (I : hM) : Option (Int32 × hM) := if (I 92 0) ≤ v3 then (some (v2, I)) else (gd (hx ((v1 + (7 : Int32)) + v3) 240) (gd (hx (v1 + v3) 240) (if (I 113 ((v1 + v3)).toNatClampNeg) = 0 then (if (I 113 (((v1 + (7 : Int32)) + v3)).toNatClampNeg) < 0 then (X5_starts_b84 k4 v1 v2 v3 I) else (gd (hx (v1 + (18 : Int32)) 240) (if (I 113 ((v1 + (18 : Int32))).toNatClampNeg) < (I 113 (((v1 + (7 : Int32)) + v3)).toNatClampNeg) then (X5_starts_b84 k4 v1 v2 v3 I) else (gd (hx (v1 + v3) 240) (gd (hx (v1 + (18 : Int32)) 240) (gd (hx ((v1 + (7 : Int32)) + v3) 240) ((X5_starts_b84 k4 v1 v2 v3 (hu (hu I 113 ((v1 + v3)).toNatClampNeg (1 : Int32)) 113 (((v1 + (7 : Int32)) + v3)).toNatClampNeg ((hu I 113 ((v1 + v3)).toNatClampNeg (1 : Int32)) 113 ((v1 + (18 : Int32))).toNatClampNeg)))))))))) else (X5_starts_b84 k4 v1 v2 v3 I))))
def X5_starts_l4 : Nat → Int32 → Int32 → Int32 → hM → Option (Int32 × hM)
  | 0 => fun _ _ _ _ => none
  | n + 1 => X5_starts_h4   (X5_starts_l4   n)
def X5_starts (v1 : Int32) (I : hM) : Option (Int32 × hM) := (X5_starts_l4 hF v1 (0 : Int32) (0 : Int32) I)
theorem X5_starts_hy : yX5_starts.cls = RX5 ∧ yX5_starts.cls ≠ "java/lang/invoke/MethodHandle" ∧ yX5_starts.cls ≠ "java/lang/invoke/VarHandle" ∧ (parseMethodDescriptor yX5_starts.desc).map (fun d => d.parameters.length) = some 1 := by decide +kernel
theorem X5_starts_k110 : Cond.fieldLink RX5 110 "HatPinsModel" "many" "I" ∈ wsX5_starts := by decide +kernel
theorem X5_starts_k70 : Cond.fieldLink RX5 70 "HatPinsModel" "slot" "[I" ∈ wsX5_starts := by decide +kernel
theorem X5_starts_w5 : ∀ w ∈ wsX50, w ∈ wsX5_starts := by decide +kernel
set_option maxHeartbeats 4000000 in
set_option maxRecDepth 100000 in
theorem X5_starts_b84_ok {p : Program} {l : Launch} {e : Env} {s : State} {m : MethodId} {args : Array Value} {below : List Frame} {meth : Method} {c : Code} {D : va_G} {E : Nat → ClassId} {b z : Nat} {sh : List hS} {r : Int32} {I2 : hM} {k4 : Int32 → Int32 → Int32 → hM → Option (Int32 × hM)} {v1 : Int32} {v2 : Int32} {v3 : Int32} {I : hM} (hX : hp_X p s m args meth c yX5_starts.cls cX5_starts 5 wsX5_starts D E (some .int) yX5_starts.name) (hf0 : hq_X5 sh) (hk4 : ∀ (v1 : Int32) (v2 : Int32) (v3 : Int32) (I : hM), k4 v1 v2 v3 I = some (r, I2) → hp_J p l e ({ frames := 0, cells := 0, slots := 0, locals := 44 * 0 }) s m args below meth c (MQ below (hp_Q D E b z (some (.int r)) sh I2) args s 0 0 (fun q : Nat => b ≤ q)) D E b z 5 sh 0 0 I 4 [(0, .ref 92), (1, .int v1), (2, .int v2), (3, .int v3)] []) (h : X5_starts_b84 k4 v1 v2 v3 I = some (r, I2)) : hp_J p l e ({ frames := 0, cells := 0, slots := 0, locals := 44 * 0 }) s m args below meth c (MQ below (hp_Q D E b z (some (.int r)) sh I2) args s 0 0 (fun q : Nat => b ≤ q)) D E b z 5 sh 0 0 I 84 [(0, .ref 92), (1, .int v1), (2, .int v2), (3, .int v3)] [] := by
  unfold X5_starts_b84 at h
  refine hj_iload_n hX rfl 2 rfl dX5_starts_84 ?_
  refine hj_aload_n hX rfl 0 rfl dX5_starts_85 ?_
  refine hj_getr hX (j := 26) hf0.1 rfl rfl X5_starts_w5 (Nat.le_of_ble_eq_true rfl) rfl X5_starts_k70 dX5_starts_86 ?_
  refine hj_iload_n hX rfl 1 rfl dX5_starts_89 ?_
  refine hj_iload_n hX rfl 3 rfl dX5_starts_90 ?_
  refine hj_iadd hX dX5_starts_91 ?_
  refine hj_iald hX hf0.2.2.2.2.2.2.2.2.2.2.2.2.2.2.2.2.2.2.2.2.2.1 dX5_starts_92 h (fun h => ?_)
  refine hj_iconst hX (v := (1 : Int32)) (by decide) dX5_starts_93 ?_
  refine hj_icmp_ne hX (tgt := 103) (by decide) dX5_starts_94 h (fun h => ?_) (fun h => ?_)
  · refine hj_iconst hX (v := (0 : Int32)) (by decide) dX5_starts_103 ?_
    refine hj_ior hX dX5_starts_104 ?_
    refine hj_istore_n hX rfl (Nat.le_of_ble_eq_true rfl) (lv2 := [(2, .int (v2 ||| (0 : Int32))), (0, .ref 92), (1, .int v1), (3, .int v3)]) rfl dX5_starts_105 ?_
    refine hj_iinc hX (k1 := 3) (v := (v3 + (1 : Int32))) rfl rfl (Nat.le_of_ble_eq_true rfl) (lv2 := [(3, .int (v3 + (1 : Int32))), (2, .int (v2 ||| (0 : Int32))), (0, .ref 92), (1, .int v1)]) rfl dX5_starts_106 ?_
    refine hj_goto hX (tgt := 4) (by decide) dX5_starts_109 ?_
    refine hj_lv hX [2, 3, 1, 0] (lv2 := [(0, .ref 92), (1, .int v1), (2, .int (v2 ||| (0 : Int32))), (3, .int (v3 + (1 : Int32)))]) rfl ?_
    exact hk4 _ _ _ _ h
  · refine hj_iconst hX (v := (1 : Int32)) (by decide) dX5_starts_97 ?_
    refine hj_iload_n hX rfl 3 rfl dX5_starts_98 ?_
    refine hj_ishl hX dX5_starts_99 ?_
    refine hj_goto hX (tgt := 104) (by decide) dX5_starts_100 ?_
    refine hj_ior hX dX5_starts_104 ?_
    refine hj_istore_n hX rfl (Nat.le_of_ble_eq_true rfl) (lv2 := [(2, .int (v2 ||| ((1 : Int32) <<< (v3 &&& 31)))), (0, .ref 92), (1, .int v1), (3, .int v3)]) rfl dX5_starts_105 ?_
    refine hj_iinc hX (k1 := 3) (v := (v3 + (1 : Int32))) rfl rfl (Nat.le_of_ble_eq_true rfl) (lv2 := [(3, .int (v3 + (1 : Int32))), (2, .int (v2 ||| ((1 : Int32) <<< (v3 &&& 31)))), (0, .ref 92), (1, .int v1)]) rfl dX5_starts_106 ?_
    refine hj_goto hX (tgt := 4) (by decide) dX5_starts_109 ?_
    refine hj_lv hX [2, 3, 1, 0] (lv2 := [(0, .ref 92), (1, .int v1), (2, .int (v2 ||| ((1 : Int32) <<< (v3 &&& 31)))), (3, .int (v3 + (1 : Int32)))]) rfl ?_
    exact hk4 _ _ _ _ h
set_option maxHeartbeats 4000000 in
set_option maxRecDepth 100000 in
theorem X5_starts_h4_ok {p : Program} {l : Launch} {e : Env} {s : State} {m : MethodId} {args : Array Value} {below : List Frame} {meth : Method} {c : Code} {D : va_G} {E : Nat → ClassId} {b z : Nat} {sh : List hS} {r : Int32} {I2 : hM} {k4 : Int32 → Int32 → Int32 → hM → Option (Int32 × hM)} {v1 : Int32} {v2 : Int32} {v3 : Int32} {I : hM} (hX : hp_X p s m args meth c yX5_starts.cls cX5_starts 5 wsX5_starts D E (some .int) yX5_starts.name) (hf0 : hq_X5 sh) (hk4 : ∀ (v1 : Int32) (v2 : Int32) (v3 : Int32) (I : hM), k4 v1 v2 v3 I = some (r, I2) → hp_J p l e ({ frames := 0, cells := 0, slots := 0, locals := 44 * 0 }) s m args below meth c (MQ below (hp_Q D E b z (some (.int r)) sh I2) args s 0 0 (fun q : Nat => b ≤ q)) D E b z 5 sh 0 0 I 4 [(0, .ref 92), (1, .int v1), (2, .int v2), (3, .int v3)] []) (h : X5_starts_h4 k4 v1 v2 v3 I = some (r, I2)) : hp_J p l e ({ frames := 0, cells := 0, slots := 0, locals := 44 * 0 }) s m args below meth c (MQ below (hp_Q D E b z (some (.int r)) sh I2) args s 0 0 (fun q : Nat => b ≤ q)) D E b z 5 sh 0 0 I 4 [(0, .ref 92), (1, .int v1), (2, .int v2), (3, .int v3)] [] := by
  unfold X5_starts_h4 at h
  refine hj_iload_n hX rfl 3 rfl dX5_starts_4 ?_
  refine hj_aload_n hX rfl 0 rfl dX5_starts_5 ?_
  refine hj_geti hX (j := 0) hf0.1 rfl rfl X5_starts_w5 (Nat.le_of_ble_eq_true rfl) rfl X5_starts_k110 dX5_starts_6 ?_
  refine hj_icmp_ge hX (tgt := 112) (by decide) dX5_starts_9 h (fun h => ?_) (fun h => ?_)
  · refine hj_iload_n hX rfl 2 rfl dX5_starts_112 ?_
    exact hj_iret hX dX5_starts_113 h
  · refine hj_aload_n hX rfl 0 rfl dX5_starts_12 ?_
    refine hj_getr hX (j := 26) hf0.1 rfl rfl X5_starts_w5 (Nat.le_of_ble_eq_true rfl) rfl X5_starts_k70 dX5_starts_13 ?_
    refine hj_iload_n hX rfl 1 rfl dX5_starts_16 ?_
    refine hj_bipush hX (v := (7 : Int32)) (by decide) dX5_starts_17 ?_
    refine hj_iadd hX dX5_starts_19 ?_
    refine hj_iload_n hX rfl 3 rfl dX5_starts_20 ?_
    refine hj_iadd hX dX5_starts_21 ?_
    refine hj_iald hX hf0.2.2.2.2.2.2.2.2.2.2.2.2.2.2.2.2.2.2.2.2.2.1 dX5_starts_22 h (fun h => ?_)
    refine hj_istore hX (Nat.le_of_ble_eq_true rfl) (lv2 := [(4, .int (I 113 (((v1 + (7 : Int32)) + v3)).toNatClampNeg)), (0, .ref 92), (1, .int v1), (2, .int v2), (3, .int v3)]) rfl dX5_starts_23 ?_
    refine hj_aload_n hX rfl 1 rfl dX5_starts_25 ?_
    refine hj_getr hX (j := 26) hf0.1 rfl rfl X5_starts_w5 (Nat.le_of_ble_eq_true rfl) rfl X5_starts_k70 dX5_starts_26 ?_
    refine hj_iload_n hX rfl 2 rfl dX5_starts_29 ?_
    refine hj_iload_n hX rfl 4 rfl dX5_starts_30 ?_
    refine hj_iadd hX dX5_starts_31 ?_
    refine hj_iald hX hf0.2.2.2.2.2.2.2.2.2.2.2.2.2.2.2.2.2.2.2.2.2.1 dX5_starts_32 h (fun h => ?_)
    refine hj_if_ne hX (tgt := 84) (by decide) dX5_starts_33 h (fun h => ?_) (fun h => ?_)
    · refine hj_lv hX [1, 2, 3, 4] (lv2 := [(0, .ref 92), (1, .int v1), (2, .int v2), (3, .int v3)]) rfl ?_
      exact X5_starts_b84_ok hX hf0 hk4 h
    · refine hj_iload hX 0 rfl dX5_starts_36 ?_
      refine hj_if_lt hX (tgt := 84) (by decide) dX5_starts_38 h (fun h => ?_) (fun h => ?_)
      · refine hj_lv hX [1, 2, 3, 4] (lv2 := [(0, .ref 92), (1, .int v1), (2, .int v2), (3, .int v3)]) rfl ?_
        exact X5_starts_b84_ok hX hf0 hk4 h
      · refine hj_iload hX 0 rfl dX5_starts_41 ?_
        refine hj_aload_n hX rfl 1 rfl dX5_starts_43 ?_
        refine hj_getr hX (j := 26) hf0.1 rfl rfl X5_starts_w5 (Nat.le_of_ble_eq_true rfl) rfl X5_starts_k70 dX5_starts_44 ?_
        refine hj_iload_n hX rfl 2 rfl dX5_starts_47 ?_
        refine hj_bipush hX (v := (18 : Int32)) (by decide) dX5_starts_48 ?_
        refine hj_iadd hX dX5_starts_50 ?_
        refine hj_iald hX hf0.2.2.2.2.2.2.2.2.2.2.2.2.2.2.2.2.2.2.2.2.2.1 dX5_starts_51 h (fun h => ?_)
        refine hj_icmp_gt hX (tgt := 84) (by decide) dX5_starts_52 h (fun h => ?_) (fun h => ?_)
        · refine hj_lv hX [1, 2, 3, 4] (lv2 := [(0, .ref 92), (1, .int v1), (2, .int v2), (3, .int v3)]) rfl ?_
          exact X5_starts_b84_ok hX hf0 hk4 h
        · refine hj_aload_n hX rfl 1 rfl dX5_starts_55 ?_
          refine hj_getr hX (j := 26) hf0.1 rfl rfl X5_starts_w5 (Nat.le_of_ble_eq_true rfl) rfl X5_starts_k70 dX5_starts_56 ?_
          refine hj_iload_n hX rfl 2 rfl dX5_starts_59 ?_
          refine hj_iload_n hX rfl 4 rfl dX5_starts_60 ?_
          refine hj_iadd hX dX5_starts_61 ?_
          refine hj_iconst hX (v := (1 : Int32)) (by decide) dX5_starts_62 ?_
          refine hj_iast hX hf0.2.2.2.2.2.2.2.2.2.2.2.2.2.2.2.2.2.2.2.2.2.1 dX5_starts_63 h (fun h => ?_)
          refine hj_aload_n hX rfl 1 rfl dX5_starts_64 ?_
          refine hj_getr hX (j := 26) hf0.1 rfl rfl X5_starts_w5 (Nat.le_of_ble_eq_true rfl) rfl X5_starts_k70 dX5_starts_65 ?_
          refine hj_iload_n hX rfl 2 rfl dX5_starts_68 ?_
          refine hj_bipush hX (v := (7 : Int32)) (by decide) dX5_starts_69 ?_
          refine hj_iadd hX dX5_starts_71 ?_
          refine hj_iload_n hX rfl 4 rfl dX5_starts_72 ?_
          refine hj_iadd hX dX5_starts_73 ?_
          refine hj_aload_n hX rfl 1 rfl dX5_starts_74 ?_
          refine hj_getr hX (j := 26) hf0.1 rfl rfl X5_starts_w5 (Nat.le_of_ble_eq_true rfl) rfl X5_starts_k70 dX5_starts_75 ?_
          refine hj_iload_n hX rfl 2 rfl dX5_starts_78 ?_
          refine hj_bipush hX (v := (18 : Int32)) (by decide) dX5_starts_79 ?_
          refine hj_iadd hX dX5_starts_81 ?_
          refine hj_iald hX hf0.2.2.2.2.2.2.2.2.2.2.2.2.2.2.2.2.2.2.2.2.2.1 dX5_starts_82 h (fun h => ?_)
          refine hj_iast hX hf0.2.2.2.2.2.2.2.2.2.2.2.2.2.2.2.2.2.2.2.2.2.1 dX5_starts_83 h (fun h => ?_)
          refine hj_lv hX [1, 2, 3, 4] (lv2 := [(0, .ref 92), (1, .int v1), (2, .int v2), (3, .int v3)]) rfl ?_
          exact X5_starts_b84_ok hX hf0 hk4 h
set_option maxHeartbeats 4000000 in
set_option maxRecDepth 100000 in
theorem X5_starts_l4_ok {p : Program} {l : Launch} {e : Env} {s : State} {m : MethodId} {args : Array Value} {below : List Frame} {meth : Method} {c : Code} {D : va_G} {E : Nat → ClassId} {b z : Nat} {sh : List hS} {r : Int32} {I2 : hM} (hX : hp_X p s m args meth c yX5_starts.cls cX5_starts 5 wsX5_starts D E (some .int) yX5_starts.name) (hf0 : hq_X5 sh) : ∀ (n : Nat) (v1 : Int32) (v2 : Int32) (v3 : Int32) (I : hM), X5_starts_l4 n v1 v2 v3 I = some (r, I2) → hp_J p l e ({ frames := 0, cells := 0, slots := 0, locals := 44 * 0 }) s m args below meth c (MQ below (hp_Q D E b z (some (.int r)) sh I2) args s 0 0 (fun q : Nat => b ≤ q)) D E b z 5 sh 0 0 I 4 [(0, .ref 92), (1, .int v1), (2, .int v2), (3, .int v3)] [] := by
  intro n
  induction n with
  | zero => exact fun _ _ _ _ h => nomatch h
  | succ n ih => exact fun _ _ _ _ h => X5_starts_h4_ok hX hf0 ih h
set_option maxHeartbeats 4000000 in
set_option maxRecDepth 100000 in
theorem X5_starts_ok {sh : List hS} {r : Int32} {I I2 : hM} {v1 : Int32} (hf0 : hq_X5 sh) (h : X5_starts v1 I = some (r, I2)) : hp_C yX5_starts wsX5_starts 0 0 0 sh I [.ref 92, .int v1] (some (.int r)) sh I2 := hp_start (cc := cX5_starts) (maxL := 5) (ret := (some .int)) [(0, .ref 92), (1, .int v1)] (by decide) rfl (fun _ _ => rfl) (fun _ _ => Nat.le_of_ble_eq_true rfl) (fun p l e s m below meth c D E b z hX _ => by
  unfold X5_starts at h
  refine hj_iconst hX (v := (0 : Int32)) (by decide) dX5_starts_0 ?_
  refine hj_istore_n hX rfl (Nat.le_of_ble_eq_true rfl) (lv2 := [(2, .int (0 : Int32)), (0, .ref 92), (1, .int v1)]) rfl dX5_starts_1 ?_
  refine hj_iconst hX (v := (0 : Int32)) (by decide) dX5_starts_2 ?_
  refine hj_istore_n hX rfl (Nat.le_of_ble_eq_true rfl) (lv2 := [(3, .int (0 : Int32)), (2, .int (0 : Int32)), (0, .ref 92), (1, .int v1)]) rfl dX5_starts_3 ?_
  refine hj_lv hX [2, 3, 1, 0] (lv2 := [(0, .ref 92), (1, .int v1), (2, .int (0 : Int32)), (3, .int (0 : Int32))]) rfl ?_
  exact X5_starts_l4_ok hX hf0 hF _ _ _ _ h)
def X5_all_h4 (k4 : Int32 → Int32 → Int32 → hM → Option (Int32 × hM)) (v1 : Int32) (v2 : Int32) (v3 : Int32) (I : hM) : Option (Int32 × hM) := if (I 92 0) ≤ v3 then (some (v2, I)) else (ob (X5_worth v1 v3 I) (fun u1 Ia2 => (k4 v1 (v2 + u1) (v3 + (1 : Int32)) Ia2)))
def X5_all_l4 : Nat → Int32 → Int32 → Int32 → hM → Option (Int32 × hM)
  | 0 => fun _ _ _ _ => none
  | n + 1 => X5_all_h4   (X5_all_l4   n)
def X5_all (v1 : Int32) (I : hM) : Option (Int32 × hM) := (X5_all_l4 hF v1 (0 : Int32) (0 : Int32) I)
theorem X5_all_hy : yX5_all.cls = RX5 ∧ yX5_all.cls ≠ "java/lang/invoke/MethodHandle" ∧ yX5_all.cls ≠ "java/lang/invoke/VarHandle" ∧ (parseMethodDescriptor yX5_all.desc).map (fun d => d.parameters.length) = some 1 := by decide +kernel
theorem X5_all_k110 : Cond.fieldLink RX5 110 "HatPinsModel" "many" "I" ∈ wsX5_all := by decide +kernel
theorem X5_all_w5 : ∀ w ∈ wsX50, w ∈ wsX5_all := by decide +kernel
set_option maxHeartbeats 4000000 in
set_option maxRecDepth 100000 in
theorem X5_all_h4_ok {p : Program} {l : Launch} {e : Env} {s : State} {m : MethodId} {args : Array Value} {below : List Frame} {meth : Method} {c : Code} {D : va_G} {E : Nat → ClassId} {b z : Nat} {sh : List hS} {r : Int32} {I2 : hM} {k4 : Int32 → Int32 → Int32 → hM → Option (Int32 × hM)} {v1 : Int32} {v2 : Int32} {v3 : Int32} {I : hM} (hX : hp_X p s m args meth c yX5_all.cls cX5_all 4 wsX5_all D E (some .int) yX5_all.name) (hf0 : hq_X5 sh) (hk4 : ∀ (v1 : Int32) (v2 : Int32) (v3 : Int32) (I : hM), k4 v1 v2 v3 I = some (r, I2) → hp_J p l e ({ frames := 3, cells := 0, slots := 0, locals := 44 * 3 }) s m args below meth c (MQ below (hp_Q D E b z (some (.int r)) sh I2) args s 0 0 (fun q : Nat => b ≤ q)) D E b z 4 sh 0 0 I 4 [(0, .ref 92), (1, .int v1), (2, .int v2), (3, .int v3)] []) (h : X5_all_h4 k4 v1 v2 v3 I = some (r, I2)) : hp_J p l e ({ frames := 3, cells := 0, slots := 0, locals := 44 * 3 }) s m args below meth c (MQ below (hp_Q D E b z (some (.int r)) sh I2) args s 0 0 (fun q : Nat => b ≤ q)) D E b z 4 sh 0 0 I 4 [(0, .ref 92), (1, .int v1), (2, .int v2), (3, .int v3)] [] := by
  unfold X5_all_h4 at h
  refine hj_iload_n hX rfl 3 rfl dX5_all_4 ?_
  refine hj_aload_n hX rfl 0 rfl dX5_all_5 ?_
  refine hj_geti hX (j := 0) hf0.1 rfl rfl X5_all_w5 (Nat.le_of_ble_eq_true rfl) rfl X5_all_k110 dX5_all_6 ?_
  refine hj_icmp_ge hX (tgt := 27) (by decide) dX5_all_9 h (fun h => ?_) (fun h => ?_)
  · refine hj_iload_n hX rfl 2 rfl dX5_all_27 ?_
    exact hj_iret hX dX5_all_28 h
  · refine hj_iload_n hX rfl 2 rfl dX5_all_12 ?_
    refine hj_aload_n hX rfl 0 rfl dX5_all_13 ?_
    refine hj_iload_n hX rfl 1 rfl dX5_all_14 ?_
    refine hj_iload_n hX rfl 3 rfl dX5_all_15 ?_
    obtain ⟨u1, Ia2, hc3, h⟩ := ob_e h
    refine hj_callV hX (sh2 := sh) (I2 := Ia2) (r := (some (.int u1))) (As := [.int v1, .int v3]) (rest := [.int v2]) (st2 := [.int u1, .int v2]) (X5_worth_ok hf0 hc3) gX5_all_X5_worth rfl X5_worth_hy ⟨(Nat.le_of_ble_eq_true rfl), (Nat.le_of_ble_eq_true rfl)⟩ rfl hf0.1 rfl (Nat.le_of_ble_eq_true rfl) ⟨(Nat.le_of_ble_eq_true rfl), (Nat.le_of_ble_eq_true rfl)⟩ rfl rfl rfl dX5_all_16 ?_
    refine hj_iadd hX dX5_all_19 ?_
    refine hj_istore_n hX rfl (Nat.le_of_ble_eq_true rfl) (lv2 := [(2, .int (v2 + u1)), (0, .ref 92), (1, .int v1), (3, .int v3)]) rfl dX5_all_20 ?_
    refine hj_iinc hX (k1 := 3) (v := (v3 + (1 : Int32))) rfl rfl (Nat.le_of_ble_eq_true rfl) (lv2 := [(3, .int (v3 + (1 : Int32))), (2, .int (v2 + u1)), (0, .ref 92), (1, .int v1)]) rfl dX5_all_21 ?_
    refine hj_goto hX (tgt := 4) (by decide) dX5_all_24 ?_
    refine hj_lv hX [2, 3, 1, 0] (lv2 := [(0, .ref 92), (1, .int v1), (2, .int (v2 + u1)), (3, .int (v3 + (1 : Int32)))]) rfl ?_
    exact hk4 _ _ _ _ h
set_option maxHeartbeats 4000000 in
set_option maxRecDepth 100000 in
theorem X5_all_l4_ok {p : Program} {l : Launch} {e : Env} {s : State} {m : MethodId} {args : Array Value} {below : List Frame} {meth : Method} {c : Code} {D : va_G} {E : Nat → ClassId} {b z : Nat} {sh : List hS} {r : Int32} {I2 : hM} (hX : hp_X p s m args meth c yX5_all.cls cX5_all 4 wsX5_all D E (some .int) yX5_all.name) (hf0 : hq_X5 sh) : ∀ (n : Nat) (v1 : Int32) (v2 : Int32) (v3 : Int32) (I : hM), X5_all_l4 n v1 v2 v3 I = some (r, I2) → hp_J p l e ({ frames := 3, cells := 0, slots := 0, locals := 44 * 3 }) s m args below meth c (MQ below (hp_Q D E b z (some (.int r)) sh I2) args s 0 0 (fun q : Nat => b ≤ q)) D E b z 4 sh 0 0 I 4 [(0, .ref 92), (1, .int v1), (2, .int v2), (3, .int v3)] [] := by
  intro n
  induction n with
  | zero => exact fun _ _ _ _ h => nomatch h
  | succ n ih => exact fun _ _ _ _ h => X5_all_h4_ok hX hf0 ih h
set_option maxHeartbeats 4000000 in
set_option maxRecDepth 100000 in
theorem X5_all_ok {sh : List hS} {r : Int32} {I I2 : hM} {v1 : Int32} (hf0 : hq_X5 sh) (h : X5_all v1 I = some (r, I2)) : hp_C yX5_all wsX5_all 3 0 0 sh I [.ref 92, .int v1] (some (.int r)) sh I2 := hp_start (cc := cX5_all) (maxL := 4) (ret := (some .int)) [(0, .ref 92), (1, .int v1)] (by decide) rfl (fun _ _ => rfl) (fun _ _ => Nat.le_of_ble_eq_true rfl) (fun p l e s m below meth c D E b z hX _ => by
  unfold X5_all at h
  refine hj_iconst hX (v := (0 : Int32)) (by decide) dX5_all_0 ?_
  refine hj_istore_n hX rfl (Nat.le_of_ble_eq_true rfl) (lv2 := [(2, .int (0 : Int32)), (0, .ref 92), (1, .int v1)]) rfl dX5_all_1 ?_
  refine hj_iconst hX (v := (0 : Int32)) (by decide) dX5_all_2 ?_
  refine hj_istore_n hX rfl (Nat.le_of_ble_eq_true rfl) (lv2 := [(3, .int (0 : Int32)), (2, .int (0 : Int32)), (0, .ref 92), (1, .int v1)]) rfl dX5_all_3 ?_
  refine hj_lv hX [2, 3, 1, 0] (lv2 := [(0, .ref 92), (1, .int v1), (2, .int (0 : Int32)), (3, .int (0 : Int32))]) rfl ?_
  exact X5_all_l4_ok hX hf0 hF _ _ _ _ h)
def X5_goesOn_b101 (v1 : Int32) (v2 : Int32) (I : hM) : Option (Int32 × hM) := gd (hx (v1 + (18 : Int32)) 240) (gd (hx (v1 + (18 : Int32)) 240) (some (v2, (hu I 113 ((v1 + (18 : Int32))).toNatClampNeg ((I 113 ((v1 + (18 : Int32))).toNatClampNeg) + (1 : Int32))))))
def X5_goesOn_h36 (k36 : Int32 → Int32 → Int32 → Int32 → hM → Option (Int32 × hM)) (v1 : Int32) (v2 : Int32) (v3 : Int32) (v4 : Int32) (I : hM) : Option (Int32 × hM) := if (I 92 0) ≤ v4 then (X5_goesOn_b101 v1 v2 I) else (gd (hx (v1 + v4) 240) (if (I 113 ((v1 + v4)).toNatClampNeg) = (1 : Int32) then (gd (hx ((v1 + (7 : Int32)) + v4) 240) (gd (hx v4 7) (if ((v3 - (I 113 (((v1 + (7 : Int32)) + v4)).toNatClampNeg)) + (1 : Int32)) < (I 97 (v4).toNatClampNeg) then ((k36 v1 v2 v3 (v4 + (1 : Int32)) I)) else (ob (X5_ends v1 v4 (2 : Int32) (v3 + (1 : Int32)) I) (fun u7 Ia8 => (k36 v1 v2 v3 (v4 + (1 : Int32)) Ia8)))))) else ((k36 v1 v2 v3 (v4 + (1 : Int32)) I))))
def X5_goesOn_l36 : Nat → Int32 → Int32 → Int32 → Int32 → hM → Option (Int32 × hM)
  | 0 => fun _ _ _ _ _ => none
  | n + 1 => X5_goesOn_h36   (X5_goesOn_l36   n)
def X5_goesOn (v1 : Int32) (I : hM) : Option (Int32 × hM) := ob (X5_starts v1 I) (fun u1 Ia2 => gd (hx (v1 + (19 : Int32)) 240) (ob (X5_all v1 Ia2) (fun u4 Ia5 => gd (hx (v1 + (19 : Int32)) 240) (gd (hx (v1 + (18 : Int32)) 240) ((X5_goesOn_l36 hF v1 u1 ((hu Ia5 113 ((v1 + (19 : Int32))).toNatClampNeg ((Ia2 113 ((v1 + (19 : Int32))).toNatClampNeg) + u4)) 113 ((v1 + (18 : Int32))).toNatClampNeg) (0 : Int32) (hu Ia5 113 ((v1 + (19 : Int32))).toNatClampNeg ((Ia2 113 ((v1 + (19 : Int32))).toNatClampNeg) + u4))))))))
theorem X5_goesOn_hy : yX5_goesOn.cls = RX5 ∧ yX5_goesOn.cls ≠ "java/lang/invoke/MethodHandle" ∧ yX5_goesOn.cls ≠ "java/lang/invoke/VarHandle" ∧ (parseMethodDescriptor yX5_goesOn.desc).map (fun d => d.parameters.length) = some 1 := by decide +kernel
theorem X5_goesOn_k70 : Cond.fieldLink RX5 70 "HatPinsModel" "slot" "[I" ∈ wsX5_goesOn := by decide +kernel
theorem X5_goesOn_k110 : Cond.fieldLink RX5 110 "HatPinsModel" "many" "I" ∈ wsX5_goesOn := by decide +kernel
theorem X5_goesOn_k22 : Cond.fieldLink RX5 22 "HatPinsModel" "goes" "[I" ∈ wsX5_goesOn := by decide +kernel
theorem X5_goesOn_w5 : ∀ w ∈ wsX50, w ∈ wsX5_goesOn := by decide +kernel
set_option maxHeartbeats 4000000 in
set_option maxRecDepth 100000 in
theorem X5_goesOn_b101_ok {p : Program} {l : Launch} {e : Env} {s : State} {m : MethodId} {args : Array Value} {below : List Frame} {meth : Method} {c : Code} {D : va_G} {E : Nat → ClassId} {b z : Nat} {sh : List hS} {r : Int32} {I2 : hM} {v1 : Int32} {v2 : Int32} {I : hM} (hX : hp_X p s m args meth c yX5_goesOn.cls cX5_goesOn 5 wsX5_goesOn D E (some .int) yX5_goesOn.name) (hf0 : hq_X5 sh) (h : X5_goesOn_b101 v1 v2 I = some (r, I2)) : hp_J p l e ({ frames := 4, cells := 0, slots := 0, locals := 44 * 4 }) s m args below meth c (MQ below (hp_Q D E b z (some (.int r)) sh I2) args s 0 0 (fun q : Nat => b ≤ q)) D E b z 5 sh 0 0 I 101 [(0, .ref 92), (1, .int v1), (2, .int v2)] [] := by
  unfold X5_goesOn_b101 at h
  refine hj_aload_n hX rfl 0 rfl dX5_goesOn_101 ?_
  refine hj_getr hX (j := 26) hf0.1 rfl rfl X5_goesOn_w5 (Nat.le_of_ble_eq_true rfl) rfl X5_goesOn_k70 dX5_goesOn_102 ?_
  refine hj_iload_n hX rfl 1 rfl dX5_goesOn_105 ?_
  refine hj_bipush hX (v := (18 : Int32)) (by decide) dX5_goesOn_106 ?_
  refine hj_iadd hX dX5_goesOn_108 ?_
  refine hj_dup2 hX rfl rfl dX5_goesOn_109 ?_
  refine hj_iald hX hf0.2.2.2.2.2.2.2.2.2.2.2.2.2.2.2.2.2.2.2.2.2.1 dX5_goesOn_110 h (fun h => ?_)
  refine hj_iconst hX (v := (1 : Int32)) (by decide) dX5_goesOn_111 ?_
  refine hj_iadd hX dX5_goesOn_112 ?_
  refine hj_iast hX hf0.2.2.2.2.2.2.2.2.2.2.2.2.2.2.2.2.2.2.2.2.2.1 dX5_goesOn_113 h (fun h => ?_)
  refine hj_iload_n hX rfl 2 rfl dX5_goesOn_114 ?_
  exact hj_iret hX dX5_goesOn_115 h
set_option maxHeartbeats 4000000 in
set_option maxRecDepth 100000 in
theorem X5_goesOn_h36_ok {p : Program} {l : Launch} {e : Env} {s : State} {m : MethodId} {args : Array Value} {below : List Frame} {meth : Method} {c : Code} {D : va_G} {E : Nat → ClassId} {b z : Nat} {sh : List hS} {r : Int32} {I2 : hM} {k36 : Int32 → Int32 → Int32 → Int32 → hM → Option (Int32 × hM)} {v1 : Int32} {v2 : Int32} {v3 : Int32} {v4 : Int32} {I : hM} (hX : hp_X p s m args meth c yX5_goesOn.cls cX5_goesOn 5 wsX5_goesOn D E (some .int) yX5_goesOn.name) (hf0 : hq_X5 sh) (hk36 : ∀ (v1 : Int32) (v2 : Int32) (v3 : Int32) (v4 : Int32) (I : hM), k36 v1 v2 v3 v4 I = some (r, I2) → hp_J p l e ({ frames := 4, cells := 0, slots := 0, locals := 44 * 4 }) s m args below meth c (MQ below (hp_Q D E b z (some (.int r)) sh I2) args s 0 0 (fun q : Nat => b ≤ q)) D E b z 5 sh 0 0 I 36 [(0, .ref 92), (1, .int v1), (2, .int v2), (3, .int v3), (4, .int v4)] []) (h : X5_goesOn_h36 k36 v1 v2 v3 v4 I = some (r, I2)) : hp_J p l e ({ frames := 4, cells := 0, slots := 0, locals := 44 * 4 }) s m args below meth c (MQ below (hp_Q D E b z (some (.int r)) sh I2) args s 0 0 (fun q : Nat => b ≤ q)) D E b z 5 sh 0 0 I 36 [(0, .ref 92), (1, .int v1), (2, .int v2), (3, .int v3), (4, .int v4)] [] := by
  unfold X5_goesOn_h36 at h
  refine hj_iload hX 4 rfl dX5_goesOn_36 ?_
  refine hj_aload_n hX rfl 0 rfl dX5_goesOn_38 ?_
  refine hj_geti hX (j := 0) hf0.1 rfl rfl X5_goesOn_w5 (Nat.le_of_ble_eq_true rfl) rfl X5_goesOn_k110 dX5_goesOn_39 ?_
  refine hj_icmp_ge hX (tgt := 101) (by decide) dX5_goesOn_42 h (fun h => ?_) (fun h => ?_)
  · refine hj_lv hX [0, 1, 2] (lv2 := [(0, .ref 92), (1, .int v1), (2, .int v2)]) rfl ?_
    exact X5_goesOn_b101_ok hX hf0 h
  · refine hj_aload_n hX rfl 0 rfl dX5_goesOn_45 ?_
    refine hj_getr hX (j := 26) hf0.1 rfl rfl X5_goesOn_w5 (Nat.le_of_ble_eq_true rfl) rfl X5_goesOn_k70 dX5_goesOn_46 ?_
    refine hj_iload_n hX rfl 1 rfl dX5_goesOn_49 ?_
    refine hj_iload hX 4 rfl dX5_goesOn_50 ?_
    refine hj_iadd hX dX5_goesOn_52 ?_
    refine hj_iald hX hf0.2.2.2.2.2.2.2.2.2.2.2.2.2.2.2.2.2.2.2.2.2.1 dX5_goesOn_53 h (fun h => ?_)
    refine hj_iconst hX (v := (1 : Int32)) (by decide) dX5_goesOn_54 ?_
    refine hj_icmp_ne hX (tgt := 95) (by decide) dX5_goesOn_55 h (fun h => ?_) (fun h => ?_)
    · refine hj_iinc hX (k1 := 4) (v := (v4 + (1 : Int32))) rfl rfl (Nat.le_of_ble_eq_true rfl) (lv2 := [(4, .int (v4 + (1 : Int32))), (0, .ref 92), (1, .int v1), (2, .int v2), (3, .int v3)]) rfl dX5_goesOn_95 ?_
      refine hj_goto hX (tgt := 36) (by decide) dX5_goesOn_98 ?_
      refine hj_lv hX [1, 2, 3, 4, 0] (lv2 := [(0, .ref 92), (1, .int v1), (2, .int v2), (3, .int v3), (4, .int (v4 + (1 : Int32)))]) rfl ?_
      exact hk36 _ _ _ _ _ h
    · refine hj_iload_n hX rfl 3 rfl dX5_goesOn_58 ?_
      refine hj_aload_n hX rfl 0 rfl dX5_goesOn_59 ?_
      refine hj_getr hX (j := 26) hf0.1 rfl rfl X5_goesOn_w5 (Nat.le_of_ble_eq_true rfl) rfl X5_goesOn_k70 dX5_goesOn_60 ?_
      refine hj_iload_n hX rfl 1 rfl dX5_goesOn_63 ?_
      refine hj_bipush hX (v := (7 : Int32)) (by decide) dX5_goesOn_64 ?_
      refine hj_iadd hX dX5_goesOn_66 ?_
      refine hj_iload hX 4 rfl dX5_goesOn_67 ?_
      refine hj_iadd hX dX5_goesOn_69 ?_
      refine hj_iald hX hf0.2.2.2.2.2.2.2.2.2.2.2.2.2.2.2.2.2.2.2.2.2.1 dX5_goesOn_70 h (fun h => ?_)
      refine hj_isub hX dX5_goesOn_71 ?_
      refine hj_iconst hX (v := (1 : Int32)) (by decide) dX5_goesOn_72 ?_
      refine hj_iadd hX dX5_goesOn_73 ?_
      refine hj_aload_n hX rfl 0 rfl dX5_goesOn_74 ?_
      refine hj_getr hX (j := 5) hf0.1 rfl rfl X5_goesOn_w5 (Nat.le_of_ble_eq_true rfl) rfl X5_goesOn_k22 dX5_goesOn_75 ?_
      refine hj_iload hX 4 rfl dX5_goesOn_78 ?_
      refine hj_iald hX hf0.2.2.2.2.2.1 dX5_goesOn_80 h (fun h => ?_)
      refine hj_icmp_lt hX (tgt := 95) (by decide) dX5_goesOn_81 h (fun h => ?_) (fun h => ?_)
      · refine hj_iinc hX (k1 := 4) (v := (v4 + (1 : Int32))) rfl rfl (Nat.le_of_ble_eq_true rfl) (lv2 := [(4, .int (v4 + (1 : Int32))), (0, .ref 92), (1, .int v1), (2, .int v2), (3, .int v3)]) rfl dX5_goesOn_95 ?_
        refine hj_goto hX (tgt := 36) (by decide) dX5_goesOn_98 ?_
        refine hj_lv hX [1, 2, 3, 4, 0] (lv2 := [(0, .ref 92), (1, .int v1), (2, .int v2), (3, .int v3), (4, .int (v4 + (1 : Int32)))]) rfl ?_
        exact hk36 _ _ _ _ _ h
      · refine hj_aload_n hX rfl 0 rfl dX5_goesOn_84 ?_
        refine hj_iload_n hX rfl 1 rfl dX5_goesOn_85 ?_
        refine hj_iload hX 4 rfl dX5_goesOn_86 ?_
        refine hj_iconst hX (v := (2 : Int32)) (by decide) dX5_goesOn_88 ?_
        refine hj_iload_n hX rfl 3 rfl dX5_goesOn_89 ?_
        refine hj_iconst hX (v := (1 : Int32)) (by decide) dX5_goesOn_90 ?_
        refine hj_iadd hX dX5_goesOn_91 ?_
        obtain ⟨u7, Ia8, hc9, h⟩ := ob_e h
        refine hj_callV hX (sh2 := sh) (I2 := Ia8) (r := none) (As := [.int v1, .int v4, .int (2 : Int32), .int (v3 + (1 : Int32))]) (rest := []) (st2 := []) (X5_ends_ok hf0 hc9) gX5_goesOn_X5_ends rfl X5_ends_hy ⟨(Nat.le_of_ble_eq_true rfl), (Nat.le_of_ble_eq_true rfl)⟩ rfl hf0.1 rfl (Nat.le_of_ble_eq_true rfl) ⟨(Nat.le_of_ble_eq_true rfl), (Nat.le_of_ble_eq_true rfl)⟩ rfl rfl rfl dX5_goesOn_92 ?_
        refine hj_iinc hX (k1 := 4) (v := (v4 + (1 : Int32))) rfl rfl (Nat.le_of_ble_eq_true rfl) (lv2 := [(4, .int (v4 + (1 : Int32))), (0, .ref 92), (1, .int v1), (2, .int v2), (3, .int v3)]) rfl dX5_goesOn_95 ?_
        refine hj_goto hX (tgt := 36) (by decide) dX5_goesOn_98 ?_
        refine hj_lv hX [1, 2, 3, 4, 0] (lv2 := [(0, .ref 92), (1, .int v1), (2, .int v2), (3, .int v3), (4, .int (v4 + (1 : Int32)))]) rfl ?_
        exact hk36 _ _ _ _ _ h
set_option maxHeartbeats 4000000 in
set_option maxRecDepth 100000 in
theorem X5_goesOn_l36_ok {p : Program} {l : Launch} {e : Env} {s : State} {m : MethodId} {args : Array Value} {below : List Frame} {meth : Method} {c : Code} {D : va_G} {E : Nat → ClassId} {b z : Nat} {sh : List hS} {r : Int32} {I2 : hM} (hX : hp_X p s m args meth c yX5_goesOn.cls cX5_goesOn 5 wsX5_goesOn D E (some .int) yX5_goesOn.name) (hf0 : hq_X5 sh) : ∀ (n : Nat) (v1 : Int32) (v2 : Int32) (v3 : Int32) (v4 : Int32) (I : hM), X5_goesOn_l36 n v1 v2 v3 v4 I = some (r, I2) → hp_J p l e ({ frames := 4, cells := 0, slots := 0, locals := 44 * 4 }) s m args below meth c (MQ below (hp_Q D E b z (some (.int r)) sh I2) args s 0 0 (fun q : Nat => b ≤ q)) D E b z 5 sh 0 0 I 36 [(0, .ref 92), (1, .int v1), (2, .int v2), (3, .int v3), (4, .int v4)] [] := by
  intro n
  induction n with
  | zero => exact fun _ _ _ _ _ h => nomatch h
  | succ n ih => exact fun _ _ _ _ _ h => X5_goesOn_h36_ok hX hf0 ih h
set_option maxHeartbeats 4000000 in
set_option maxRecDepth 100000 in
theorem X5_goesOn_ok {sh : List hS} {r : Int32} {I I2 : hM} {v1 : Int32} (hf0 : hq_X5 sh) (h : X5_goesOn v1 I = some (r, I2)) : hp_C yX5_goesOn wsX5_goesOn 4 0 0 sh I [.ref 92, .int v1] (some (.int r)) sh I2 := hp_start (cc := cX5_goesOn) (maxL := 5) (ret := (some .int)) [(0, .ref 92), (1, .int v1)] (by decide) rfl (fun _ _ => rfl) (fun _ _ => Nat.le_of_ble_eq_true rfl) (fun p l e s m below meth c D E b z hX _ => by
  unfold X5_goesOn at h
  refine hj_aload_n hX rfl 0 rfl dX5_goesOn_0 ?_
  refine hj_iload_n hX rfl 1 rfl dX5_goesOn_1 ?_
  obtain ⟨u1, Ia2, hc3, h⟩ := ob_e h
  refine hj_callV hX (sh2 := sh) (I2 := Ia2) (r := (some (.int u1))) (As := [.int v1]) (rest := []) (st2 := [.int u1]) (X5_starts_ok hf0 hc3) gX5_goesOn_X5_starts rfl X5_starts_hy ⟨(Nat.le_of_ble_eq_true rfl), (Nat.le_of_ble_eq_true rfl)⟩ rfl hf0.1 rfl (Nat.le_of_ble_eq_true rfl) ⟨(Nat.le_of_ble_eq_true rfl), (Nat.le_of_ble_eq_true rfl)⟩ rfl rfl rfl dX5_goesOn_2 ?_
  refine hj_istore_n hX rfl (Nat.le_of_ble_eq_true rfl) (lv2 := [(2, .int u1), (0, .ref 92), (1, .int v1)]) rfl dX5_goesOn_5 ?_
  refine hj_aload_n hX rfl 1 rfl dX5_goesOn_6 ?_
  refine hj_getr hX (j := 26) hf0.1 rfl rfl X5_goesOn_w5 (Nat.le_of_ble_eq_true rfl) rfl X5_goesOn_k70 dX5_goesOn_7 ?_
  refine hj_iload_n hX rfl 2 rfl dX5_goesOn_10 ?_
  refine hj_bipush hX (v := (19 : Int32)) (by decide) dX5_goesOn_11 ?_
  refine hj_iadd hX dX5_goesOn_13 ?_
  refine hj_dup2 hX rfl rfl dX5_goesOn_14 ?_
  refine hj_iald hX hf0.2.2.2.2.2.2.2.2.2.2.2.2.2.2.2.2.2.2.2.2.2.1 dX5_goesOn_15 h (fun h => ?_)
  refine hj_aload_n hX rfl 1 rfl dX5_goesOn_16 ?_
  refine hj_iload_n hX rfl 2 rfl dX5_goesOn_17 ?_
  obtain ⟨u4, Ia5, hc6, h⟩ := ob_e h
  refine hj_callV hX (sh2 := sh) (I2 := Ia5) (r := (some (.int u4))) (As := [.int v1]) (rest := [.int (Ia2 113 ((v1 + (19 : Int32))).toNatClampNeg), .int (v1 + (19 : Int32)), .ref 113]) (st2 := [.int u4, .int (Ia2 113 ((v1 + (19 : Int32))).toNatClampNeg), .int (v1 + (19 : Int32)), .ref 113]) (X5_all_ok hf0 hc6) gX5_goesOn_X5_all rfl X5_all_hy ⟨(Nat.le_of_ble_eq_true rfl), (Nat.le_of_ble_eq_true rfl)⟩ rfl hf0.1 rfl (Nat.le_of_ble_eq_true rfl) ⟨(Nat.le_of_ble_eq_true rfl), (Nat.le_of_ble_eq_true rfl)⟩ rfl rfl rfl dX5_goesOn_18 ?_
  refine hj_iadd hX dX5_goesOn_21 ?_
  refine hj_iast hX hf0.2.2.2.2.2.2.2.2.2.2.2.2.2.2.2.2.2.2.2.2.2.1 dX5_goesOn_22 h (fun h => ?_)
  refine hj_aload_n hX rfl 1 rfl dX5_goesOn_23 ?_
  refine hj_getr hX (j := 26) hf0.1 rfl rfl X5_goesOn_w5 (Nat.le_of_ble_eq_true rfl) rfl X5_goesOn_k70 dX5_goesOn_24 ?_
  refine hj_iload_n hX rfl 2 rfl dX5_goesOn_27 ?_
  refine hj_bipush hX (v := (18 : Int32)) (by decide) dX5_goesOn_28 ?_
  refine hj_iadd hX dX5_goesOn_30 ?_
  refine hj_iald hX hf0.2.2.2.2.2.2.2.2.2.2.2.2.2.2.2.2.2.2.2.2.2.1 dX5_goesOn_31 h (fun h => ?_)
  refine hj_istore_n hX rfl (Nat.le_of_ble_eq_true rfl) (lv2 := [(3, .int ((hu Ia5 113 ((v1 + (19 : Int32))).toNatClampNeg ((Ia2 113 ((v1 + (19 : Int32))).toNatClampNeg) + u4)) 113 ((v1 + (18 : Int32))).toNatClampNeg)), (2, .int u1), (0, .ref 92), (1, .int v1)]) rfl dX5_goesOn_32 ?_
  refine hj_iconst hX (v := (0 : Int32)) (by decide) dX5_goesOn_33 ?_
  refine hj_istore hX (Nat.le_of_ble_eq_true rfl) (lv2 := [(4, .int (0 : Int32)), (3, .int ((hu Ia5 113 ((v1 + (19 : Int32))).toNatClampNeg ((Ia2 113 ((v1 + (19 : Int32))).toNatClampNeg) + u4)) 113 ((v1 + (18 : Int32))).toNatClampNeg)), (2, .int u1), (0, .ref 92), (1, .int v1)]) rfl dX5_goesOn_34 ?_
  refine hj_lv hX [3, 4, 2, 1, 0] (lv2 := [(0, .ref 92), (1, .int v1), (2, .int u1), (3, .int ((hu Ia5 113 ((v1 + (19 : Int32))).toNatClampNeg ((Ia2 113 ((v1 + (19 : Int32))).toNatClampNeg) + u4)) 113 ((v1 + (18 : Int32))).toNatClampNeg)), (4, .int (0 : Int32))]) rfl ?_
  exact X5_goesOn_l36_ok hX hf0 hF _ _ _ _ _ h)
def X5_onNow_h4 (k4 : Int32 → Int32 → Int32 → hM → Option (Int32 × hM)) (v1 : Int32) (v2 : Int32) (v3 : Int32) (I : hM) : Option (Int32 × hM) := if (I 92 0) ≤ v3 then (some (v2, I)) else (gd (hx (v1 + v3) 240) (if (I 113 ((v1 + v3)).toNatClampNeg) = (1 : Int32) then ((k4 v1 (v2 ||| ((1 : Int32) <<< (v3 &&& 31))) (v3 + (1 : Int32)) I)) else ((k4 v1 (v2 ||| (0 : Int32)) (v3 + (1 : Int32)) I))))
def X5_onNow_l4 : Nat → Int32 → Int32 → Int32 → hM → Option (Int32 × hM)
  | 0 => fun _ _ _ _ => none
  | n + 1 => X5_onNow_h4   (X5_onNow_l4   n)
def X5_onNow (v1 : Int32) (I : hM) : Option (Int32 × hM) := (X5_onNow_l4 hF v1 (0 : Int32) (0 : Int32) I)
theorem X5_onNow_hy : yX5_onNow.cls = RX5 ∧ yX5_onNow.cls ≠ "java/lang/invoke/MethodHandle" ∧ yX5_onNow.cls ≠ "java/lang/invoke/VarHandle" ∧ (parseMethodDescriptor yX5_onNow.desc).map (fun d => d.parameters.length) = some 1 := by decide +kernel
theorem X5_onNow_k110 : Cond.fieldLink RX5 110 "HatPinsModel" "many" "I" ∈ wsX5_onNow := by decide +kernel
theorem X5_onNow_k70 : Cond.fieldLink RX5 70 "HatPinsModel" "slot" "[I" ∈ wsX5_onNow := by decide +kernel
theorem X5_onNow_w5 : ∀ w ∈ wsX50, w ∈ wsX5_onNow := by decide +kernel
set_option maxHeartbeats 4000000 in
set_option maxRecDepth 100000 in
theorem X5_onNow_h4_ok {p : Program} {l : Launch} {e : Env} {s : State} {m : MethodId} {args : Array Value} {below : List Frame} {meth : Method} {c : Code} {D : va_G} {E : Nat → ClassId} {b z : Nat} {sh : List hS} {r : Int32} {I2 : hM} {k4 : Int32 → Int32 → Int32 → hM → Option (Int32 × hM)} {v1 : Int32} {v2 : Int32} {v3 : Int32} {I : hM} (hX : hp_X p s m args meth c yX5_onNow.cls cX5_onNow 4 wsX5_onNow D E (some .int) yX5_onNow.name) (hf0 : hq_X5 sh) (hk4 : ∀ (v1 : Int32) (v2 : Int32) (v3 : Int32) (I : hM), k4 v1 v2 v3 I = some (r, I2) → hp_J p l e ({ frames := 0, cells := 0, slots := 0, locals := 44 * 0 }) s m args below meth c (MQ below (hp_Q D E b z (some (.int r)) sh I2) args s 0 0 (fun q : Nat => b ≤ q)) D E b z 4 sh 0 0 I 4 [(0, .ref 92), (1, .int v1), (2, .int v2), (3, .int v3)] []) (h : X5_onNow_h4 k4 v1 v2 v3 I = some (r, I2)) : hp_J p l e ({ frames := 0, cells := 0, slots := 0, locals := 44 * 0 }) s m args below meth c (MQ below (hp_Q D E b z (some (.int r)) sh I2) args s 0 0 (fun q : Nat => b ≤ q)) D E b z 4 sh 0 0 I 4 [(0, .ref 92), (1, .int v1), (2, .int v2), (3, .int v3)] [] := by
  unfold X5_onNow_h4 at h
  refine hj_iload_n hX rfl 3 rfl dX5_onNow_4 ?_
  refine hj_aload_n hX rfl 0 rfl dX5_onNow_5 ?_
  refine hj_geti hX (j := 0) hf0.1 rfl rfl X5_onNow_w5 (Nat.le_of_ble_eq_true rfl) rfl X5_onNow_k110 dX5_onNow_6 ?_
  refine hj_icmp_ge hX (tgt := 40) (by decide) dX5_onNow_9 h (fun h => ?_) (fun h => ?_)
  · refine hj_iload_n hX rfl 2 rfl dX5_onNow_40 ?_
    exact hj_iret hX dX5_onNow_41 h
  · refine hj_iload_n hX rfl 2 rfl dX5_onNow_12 ?_
    refine hj_aload_n hX rfl 0 rfl dX5_onNow_13 ?_
    refine hj_getr hX (j := 26) hf0.1 rfl rfl X5_onNow_w5 (Nat.le_of_ble_eq_true rfl) rfl X5_onNow_k70 dX5_onNow_14 ?_
    refine hj_iload_n hX rfl 1 rfl dX5_onNow_17 ?_
    refine hj_iload_n hX rfl 3 rfl dX5_onNow_18 ?_
    refine hj_iadd hX dX5_onNow_19 ?_
    refine hj_iald hX hf0.2.2.2.2.2.2.2.2.2.2.2.2.2.2.2.2.2.2.2.2.2.1 dX5_onNow_20 h (fun h => ?_)
    refine hj_iconst hX (v := (1 : Int32)) (by decide) dX5_onNow_21 ?_
    refine hj_icmp_ne hX (tgt := 31) (by decide) dX5_onNow_22 h (fun h => ?_) (fun h => ?_)
    · refine hj_iconst hX (v := (0 : Int32)) (by decide) dX5_onNow_31 ?_
      refine hj_ior hX dX5_onNow_32 ?_
      refine hj_istore_n hX rfl (Nat.le_of_ble_eq_true rfl) (lv2 := [(2, .int (v2 ||| (0 : Int32))), (0, .ref 92), (1, .int v1), (3, .int v3)]) rfl dX5_onNow_33 ?_
      refine hj_iinc hX (k1 := 3) (v := (v3 + (1 : Int32))) rfl rfl (Nat.le_of_ble_eq_true rfl) (lv2 := [(3, .int (v3 + (1 : Int32))), (2, .int (v2 ||| (0 : Int32))), (0, .ref 92), (1, .int v1)]) rfl dX5_onNow_34 ?_
      refine hj_goto hX (tgt := 4) (by decide) dX5_onNow_37 ?_
      refine hj_lv hX [2, 3, 1, 0] (lv2 := [(0, .ref 92), (1, .int v1), (2, .int (v2 ||| (0 : Int32))), (3, .int (v3 + (1 : Int32)))]) rfl ?_
      exact hk4 _ _ _ _ h
    · refine hj_iconst hX (v := (1 : Int32)) (by decide) dX5_onNow_25 ?_
      refine hj_iload_n hX rfl 3 rfl dX5_onNow_26 ?_
      refine hj_ishl hX dX5_onNow_27 ?_
      refine hj_goto hX (tgt := 32) (by decide) dX5_onNow_28 ?_
      refine hj_ior hX dX5_onNow_32 ?_
      refine hj_istore_n hX rfl (Nat.le_of_ble_eq_true rfl) (lv2 := [(2, .int (v2 ||| ((1 : Int32) <<< (v3 &&& 31)))), (0, .ref 92), (1, .int v1), (3, .int v3)]) rfl dX5_onNow_33 ?_
      refine hj_iinc hX (k1 := 3) (v := (v3 + (1 : Int32))) rfl rfl (Nat.le_of_ble_eq_true rfl) (lv2 := [(3, .int (v3 + (1 : Int32))), (2, .int (v2 ||| ((1 : Int32) <<< (v3 &&& 31)))), (0, .ref 92), (1, .int v1)]) rfl dX5_onNow_34 ?_
      refine hj_goto hX (tgt := 4) (by decide) dX5_onNow_37 ?_
      refine hj_lv hX [2, 3, 1, 0] (lv2 := [(0, .ref 92), (1, .int v1), (2, .int (v2 ||| ((1 : Int32) <<< (v3 &&& 31)))), (3, .int (v3 + (1 : Int32)))]) rfl ?_
      exact hk4 _ _ _ _ h
set_option maxHeartbeats 4000000 in
set_option maxRecDepth 100000 in
theorem X5_onNow_l4_ok {p : Program} {l : Launch} {e : Env} {s : State} {m : MethodId} {args : Array Value} {below : List Frame} {meth : Method} {c : Code} {D : va_G} {E : Nat → ClassId} {b z : Nat} {sh : List hS} {r : Int32} {I2 : hM} (hX : hp_X p s m args meth c yX5_onNow.cls cX5_onNow 4 wsX5_onNow D E (some .int) yX5_onNow.name) (hf0 : hq_X5 sh) : ∀ (n : Nat) (v1 : Int32) (v2 : Int32) (v3 : Int32) (I : hM), X5_onNow_l4 n v1 v2 v3 I = some (r, I2) → hp_J p l e ({ frames := 0, cells := 0, slots := 0, locals := 44 * 0 }) s m args below meth c (MQ below (hp_Q D E b z (some (.int r)) sh I2) args s 0 0 (fun q : Nat => b ≤ q)) D E b z 4 sh 0 0 I 4 [(0, .ref 92), (1, .int v1), (2, .int v2), (3, .int v3)] [] := by
  intro n
  induction n with
  | zero => exact fun _ _ _ _ h => nomatch h
  | succ n ih => exact fun _ _ _ _ h => X5_onNow_h4_ok hX hf0 ih h
set_option maxHeartbeats 4000000 in
set_option maxRecDepth 100000 in
theorem X5_onNow_ok {sh : List hS} {r : Int32} {I I2 : hM} {v1 : Int32} (hf0 : hq_X5 sh) (h : X5_onNow v1 I = some (r, I2)) : hp_C yX5_onNow wsX5_onNow 0 0 0 sh I [.ref 92, .int v1] (some (.int r)) sh I2 := hp_start (cc := cX5_onNow) (maxL := 4) (ret := (some .int)) [(0, .ref 92), (1, .int v1)] (by decide) rfl (fun _ _ => rfl) (fun _ _ => Nat.le_of_ble_eq_true rfl) (fun p l e s m below meth c D E b z hX _ => by
  unfold X5_onNow at h
  refine hj_iconst hX (v := (0 : Int32)) (by decide) dX5_onNow_0 ?_
  refine hj_istore_n hX rfl (Nat.le_of_ble_eq_true rfl) (lv2 := [(2, .int (0 : Int32)), (0, .ref 92), (1, .int v1)]) rfl dX5_onNow_1 ?_
  refine hj_iconst hX (v := (0 : Int32)) (by decide) dX5_onNow_2 ?_
  refine hj_istore_n hX rfl (Nat.le_of_ble_eq_true rfl) (lv2 := [(3, .int (0 : Int32)), (2, .int (0 : Int32)), (0, .ref 92), (1, .int v1)]) rfl dX5_onNow_3 ?_
  refine hj_lv hX [2, 3, 1, 0] (lv2 := [(0, .ref 92), (1, .int v1), (2, .int (0 : Int32)), (3, .int (0 : Int32))]) rfl ?_
  exact X5_onNow_l4_ok hX hf0 hF _ _ _ _ h)
def X5_going_b48 (v1 : Int32) (v2 : Int32) (t0 : Int32) (I : hM) : Option (Int32 × hM) := if v2 = 0 then (gd (hx v1 7) (some ((I 93 (v1).toNatClampNeg), I))) else (if v2 = (1 : Int32) then (gd (hx v1 7) (some ((I 95 (v1).toNatClampNeg), I))) else (if v2 = (2 : Int32) then (gd (hx v1 7) (some ((I 96 (v1).toNatClampNeg), I))) else (if v2 = (3 : Int32) then (gd (hx v1 7) (some ((I 97 (v1).toNatClampNeg), I))) else (if v2 = (4 : Int32) then (gd (hx v1 240) (some ((I 113 (v1).toNatClampNeg), I))) else (if v2 = (5 : Int32) then (some (t0, I)) else (ob (X5_worth (0 : Int32) v1 I) (fun u7 Ia8 => some ((u7 + (20 : Int32)), Ia8))))))))
def X5_going (v1 : Int32) (v2 : Int32) (I : hM) : Option (Int32 × hM) := ob (X5_isGoing v1 I) (fun u1 Ia2 => if u1 = 0 then (some ((-1 : Int32), Ia2)) else (ob (X5_in (v2).toInt64 (0 : Int64) (6 : Int64) Ia2) (fun u4 Ia5 => if u4 = 0 then (some ((-1 : Int32), Ia5)) else (gd (hx ((7 : Int32) + v1) 240) (if 0 ≤ (Ia5 113 (((7 : Int32) + v1)).toNatClampNeg) then (gd (hx ((7 : Int32) + v1) 240) ((X5_going_b48 v1 v2 (Ia5 113 (((7 : Int32) + v1)).toNatClampNeg) Ia5))) else ((X5_going_b48 v1 v2 (-4 : Int32) Ia5)))))))
theorem X5_going_hy : yX5_going.cls = RX5 ∧ yX5_going.cls ≠ "java/lang/invoke/MethodHandle" ∧ yX5_going.cls ≠ "java/lang/invoke/VarHandle" ∧ (parseMethodDescriptor yX5_going.desc).map (fun d => d.parameters.length) = some 2 := by decide +kernel
theorem X5_going_k70 : Cond.fieldLink RX5 70 "HatPinsModel" "slot" "[I" ∈ wsX5_going := by decide +kernel
theorem X5_going_k22 : Cond.fieldLink RX5 22 "HatPinsModel" "goes" "[I" ∈ wsX5_going := by decide +kernel
theorem X5_going_k19 : Cond.fieldLink RX5 19 "HatPinsModel" "wane" "[I" ∈ wsX5_going := by decide +kernel
theorem X5_going_k16 : Cond.fieldLink RX5 16 "HatPinsModel" "joy" "[I" ∈ wsX5_going := by decide +kernel
theorem X5_going_k7 : Cond.fieldLink RX5 7 "HatPinsModel" "sort" "[I" ∈ wsX5_going := by decide +kernel
theorem X5_going_mc213 : Cond.constantLong RX5 213 (6) ∈ wsX5_going := by decide +kernel
theorem X5_going_w5 : ∀ w ∈ wsX50, w ∈ wsX5_going := by decide +kernel
set_option maxHeartbeats 4000000 in
set_option maxRecDepth 100000 in
theorem X5_going_b48_ok {p : Program} {l : Launch} {e : Env} {s : State} {m : MethodId} {args : Array Value} {below : List Frame} {meth : Method} {c : Code} {D : va_G} {E : Nat → ClassId} {b z : Nat} {sh : List hS} {r : Int32} {I2 : hM} {v1 : Int32} {v2 : Int32} {t0 : Int32} {I : hM} (hX : hp_X p s m args meth c yX5_going.cls cX5_going 4 wsX5_going D E (some .int) yX5_going.name) (hf0 : hq_X5 sh) (h : X5_going_b48 v1 v2 t0 I = some (r, I2)) : hp_J p l e ({ frames := 3, cells := 0, slots := 0, locals := 44 * 3 }) s m args below meth c (MQ below (hp_Q D E b z (some (.int r)) sh I2) args s 0 0 (fun q : Nat => b ≤ q)) D E b z 4 sh 0 0 I 48 [(0, .ref 92), (1, .int v1), (2, .int v2)] [.int t0] := by
  unfold X5_going_b48 at h
  refine hj_istore_n hX rfl (Nat.le_of_ble_eq_true rfl) (lv2 := [(3, .int t0), (0, .ref 92), (1, .int v1), (2, .int v2)]) rfl dX5_going_48 ?_
  refine hj_iload_n hX rfl 3 rfl dX5_going_49 ?_
  refine hj_if_ne hX (tgt := 62) (by decide) dX5_going_50 h (fun h => ?_) (fun h => ?_)
  · refine hj_iload_n hX rfl 3 rfl dX5_going_62 ?_
    refine hj_iconst hX (v := (1 : Int32)) (by decide) dX5_going_63 ?_
    refine hj_icmp_ne hX (tgt := 76) (by decide) dX5_going_64 h (fun h => ?_) (fun h => ?_)
    · refine hj_iload_n hX rfl 3 rfl dX5_going_76 ?_
      refine hj_iconst hX (v := (2 : Int32)) (by decide) dX5_going_77 ?_
      refine hj_icmp_ne hX (tgt := 90) (by decide) dX5_going_78 h (fun h => ?_) (fun h => ?_)
      · refine hj_iload_n hX rfl 3 rfl dX5_going_90 ?_
        refine hj_iconst hX (v := (3 : Int32)) (by decide) dX5_going_91 ?_
        refine hj_icmp_ne hX (tgt := 104) (by decide) dX5_going_92 h (fun h => ?_) (fun h => ?_)
        · refine hj_iload_n hX rfl 3 rfl dX5_going_104 ?_
          refine hj_iconst hX (v := (4 : Int32)) (by decide) dX5_going_105 ?_
          refine hj_icmp_ne hX (tgt := 118) (by decide) dX5_going_106 h (fun h => ?_) (fun h => ?_)
          · refine hj_iload_n hX rfl 3 rfl dX5_going_118 ?_
            refine hj_iconst hX (v := (5 : Int32)) (by decide) dX5_going_119 ?_
            refine hj_icmp_ne hX (tgt := 127) (by decide) dX5_going_120 h (fun h => ?_) (fun h => ?_)
            · refine hj_aload_n hX rfl 1 rfl dX5_going_127 ?_
              refine hj_iconst hX (v := (0 : Int32)) (by decide) dX5_going_128 ?_
              refine hj_iload_n hX rfl 2 rfl dX5_going_129 ?_
              obtain ⟨u7, Ia8, hc9, h⟩ := ob_e h
              refine hj_callV hX (sh2 := sh) (I2 := Ia8) (r := (some (.int u7))) (As := [.int (0 : Int32), .int v1]) (rest := []) (st2 := [.int u7]) (X5_worth_ok hf0 hc9) gX5_going_X5_worth rfl X5_worth_hy ⟨(Nat.le_of_ble_eq_true rfl), (Nat.le_of_ble_eq_true rfl)⟩ rfl hf0.1 rfl (Nat.le_of_ble_eq_true rfl) ⟨(Nat.le_of_ble_eq_true rfl), (Nat.le_of_ble_eq_true rfl)⟩ rfl rfl rfl dX5_going_130 ?_
              refine hj_bipush hX (v := (20 : Int32)) (by decide) dX5_going_133 ?_
              refine hj_iadd hX dX5_going_135 ?_
              exact hj_iret hX dX5_going_136 h
            · refine hj_iload_n hX rfl 0 rfl dX5_going_123 ?_
              refine hj_goto hX (tgt := 136) (by decide) dX5_going_124 ?_
              exact hj_iret hX dX5_going_136 h
          · refine hj_aload_n hX rfl 1 rfl dX5_going_109 ?_
            refine hj_getr hX (j := 26) hf0.1 rfl rfl X5_going_w5 (Nat.le_of_ble_eq_true rfl) rfl X5_going_k70 dX5_going_110 ?_
            refine hj_iload_n hX rfl 2 rfl dX5_going_113 ?_
            refine hj_iald hX hf0.2.2.2.2.2.2.2.2.2.2.2.2.2.2.2.2.2.2.2.2.2.1 dX5_going_114 h (fun h => ?_)
            refine hj_goto hX (tgt := 136) (by decide) dX5_going_115 ?_
            exact hj_iret hX dX5_going_136 h
        · refine hj_aload_n hX rfl 1 rfl dX5_going_95 ?_
          refine hj_getr hX (j := 5) hf0.1 rfl rfl X5_going_w5 (Nat.le_of_ble_eq_true rfl) rfl X5_going_k22 dX5_going_96 ?_
          refine hj_iload_n hX rfl 2 rfl dX5_going_99 ?_
          refine hj_iald hX hf0.2.2.2.2.2.1 dX5_going_100 h (fun h => ?_)
          refine hj_goto hX (tgt := 136) (by decide) dX5_going_101 ?_
          exact hj_iret hX dX5_going_136 h
      · refine hj_aload_n hX rfl 1 rfl dX5_going_81 ?_
        refine hj_getr hX (j := 4) hf0.1 rfl rfl X5_going_w5 (Nat.le_of_ble_eq_true rfl) rfl X5_going_k19 dX5_going_82 ?_
        refine hj_iload_n hX rfl 2 rfl dX5_going_85 ?_
        refine hj_iald hX hf0.2.2.2.2.1 dX5_going_86 h (fun h => ?_)
        refine hj_goto hX (tgt := 136) (by decide) dX5_going_87 ?_
        exact hj_iret hX dX5_going_136 h
    · refine hj_aload_n hX rfl 1 rfl dX5_going_67 ?_
      refine hj_getr hX (j := 3) hf0.1 rfl rfl X5_going_w5 (Nat.le_of_ble_eq_true rfl) rfl X5_going_k16 dX5_going_68 ?_
      refine hj_iload_n hX rfl 2 rfl dX5_going_71 ?_
      refine hj_iald hX hf0.2.2.2.1 dX5_going_72 h (fun h => ?_)
      refine hj_goto hX (tgt := 136) (by decide) dX5_going_73 ?_
      exact hj_iret hX dX5_going_136 h
  · refine hj_aload_n hX rfl 1 rfl dX5_going_53 ?_
    refine hj_getr hX (j := 1) hf0.1 rfl rfl X5_going_w5 (Nat.le_of_ble_eq_true rfl) rfl X5_going_k7 dX5_going_54 ?_
    refine hj_iload_n hX rfl 2 rfl dX5_going_57 ?_
    refine hj_iald hX hf0.2.1 dX5_going_58 h (fun h => ?_)
    refine hj_goto hX (tgt := 136) (by decide) dX5_going_59 ?_
    exact hj_iret hX dX5_going_136 h
set_option maxHeartbeats 4000000 in
set_option maxRecDepth 100000 in
theorem X5_going_ok {sh : List hS} {r : Int32} {I I2 : hM} {v1 : Int32} {v2 : Int32} (hf0 : hq_X5 sh) (h : X5_going v1 v2 I = some (r, I2)) : hp_C yX5_going wsX5_going 3 0 0 sh I [.ref 92, .int v1, .int v2] (some (.int r)) sh I2 := hp_start (cc := cX5_going) (maxL := 4) (ret := (some .int)) [(0, .ref 92), (1, .int v1), (2, .int v2)] (by decide) rfl (fun _ _ => rfl) (fun _ _ => Nat.le_of_ble_eq_true rfl) (fun p l e s m below meth c D E b z hX _ => by
  unfold X5_going at h
  refine hj_aload_n hX rfl 0 rfl dX5_going_0 ?_
  refine hj_iload_n hX rfl 1 rfl dX5_going_1 ?_
  obtain ⟨u1, Ia2, hc3, h⟩ := ob_e h
  refine hj_callV hX (sh2 := sh) (I2 := Ia2) (r := (some (.int u1))) (As := [.int v1]) (rest := []) (st2 := [.int u1]) (X5_isGoing_ok hf0 hc3) gX5_going_X5_isGoing rfl X5_isGoing_hy ⟨(Nat.le_of_ble_eq_true rfl), (Nat.le_of_ble_eq_true rfl)⟩ rfl hf0.1 rfl (Nat.le_of_ble_eq_true rfl) ⟨(Nat.le_of_ble_eq_true rfl), (Nat.le_of_ble_eq_true rfl)⟩ rfl rfl rfl dX5_going_2 ?_
  refine hj_if_eq hX (tgt := 20) (by decide) dX5_going_5 h (fun h => ?_) (fun h => ?_)
  · refine hj_iconst hX (v := (-1 : Int32)) (by decide) dX5_going_20 ?_
    exact hj_iret hX dX5_going_21 h
  · refine hj_iload_n hX rfl 2 rfl dX5_going_8 ?_
    refine hj_i2l hX dX5_going_9 ?_
    refine hj_lconst hX (v := (0 : Int64)) (by decide) dX5_going_10 ?_
    refine hj_ldc2 hX (v := (6 : Int64)) X5_going_mc213 dX5_going_11 ?_
    obtain ⟨u4, Ia5, hc6, h⟩ := ob_e h
    refine hj_callS hX (sh2 := sh) (I2 := Ia5) (r := (some (.int u4))) (As := [.long (v2).toInt64, .long (0 : Int64), .long (6 : Int64)]) (rest := []) (st2 := [.int u4]) (X5_in_ok hc6) gX5_going_X5_in rfl X5_in_hy.2 ⟨(Nat.le_of_ble_eq_true rfl), (Nat.le_of_ble_eq_true rfl)⟩ rfl (Nat.le_of_ble_eq_true rfl) ⟨(Nat.le_of_ble_eq_true rfl), (Nat.le_of_ble_eq_true rfl)⟩ rfl rfl rfl dX5_going_14 ?_
    refine hj_if_ne hX (tgt := 22) (by decide) dX5_going_17 h (fun h => ?_) (fun h => ?_)
    · refine hj_aload_n hX rfl 0 rfl dX5_going_22 ?_
      refine hj_getr hX (j := 26) hf0.1 rfl rfl X5_going_w5 (Nat.le_of_ble_eq_true rfl) rfl X5_going_k70 dX5_going_23 ?_
      refine hj_bipush hX (v := (7 : Int32)) (by decide) dX5_going_26 ?_
      refine hj_iload_n hX rfl 1 rfl dX5_going_28 ?_
      refine hj_iadd hX dX5_going_29 ?_
      refine hj_iald hX hf0.2.2.2.2.2.2.2.2.2.2.2.2.2.2.2.2.2.2.2.2.2.1 dX5_going_30 h (fun h => ?_)
      refine hj_if_ge hX (tgt := 39) (by decide) dX5_going_31 h (fun h => ?_) (fun h => ?_)
      · refine hj_aload_n hX rfl 0 rfl dX5_going_39 ?_
        refine hj_getr hX (j := 26) hf0.1 rfl rfl X5_going_w5 (Nat.le_of_ble_eq_true rfl) rfl X5_going_k70 dX5_going_40 ?_
        refine hj_bipush hX (v := (7 : Int32)) (by decide) dX5_going_43 ?_
        refine hj_iload_n hX rfl 1 rfl dX5_going_45 ?_
        refine hj_iadd hX dX5_going_46 ?_
        refine hj_iald hX hf0.2.2.2.2.2.2.2.2.2.2.2.2.2.2.2.2.2.2.2.2.2.1 dX5_going_47 h (fun h => ?_)
        exact X5_going_b48_ok hX hf0 h
      · refine hj_bipush hX (v := (-4 : Int32)) (by decide) dX5_going_34 ?_
        refine hj_goto hX (tgt := 48) (by decide) dX5_going_36 ?_
        exact X5_going_b48_ok hX hf0 h
    · refine hj_iconst hX (v := (-1 : Int32)) (by decide) dX5_going_20 ?_
      exact hj_iret hX dX5_going_21 h)
def X5_canPin (v1 : Int32) (v2 : Int32) (v3 : Int32) (I : hM) : Option (Int32 × hM) := gd (hx ((v1 + (14 : Int32)) + v2) 240) (if (I 113 (((v1 + (14 : Int32)) + v2)).toNatClampNeg) ≤ 0 then (gd (decide ((0 : Int32) = (0 : Int32)) || decide ((0 : Int32) = (1 : Int32))) (some ((0 : Int32), I))) else (gd (hx (v1 + v3) 240) (if (I 113 ((v1 + v3)).toNatClampNeg) = (1 : Int32) then (gd (hx v2 4) (gd (hx v3 7) (ob (X5_has (I 102 (v2).toNatClampNeg) (I 93 (v3).toNatClampNeg) I) (fun u1 Ia2 => if u1 = 0 then (gd (decide ((0 : Int32) = (0 : Int32)) || decide ((0 : Int32) = (1 : Int32))) (some ((0 : Int32), Ia2))) else (gd (decide ((1 : Int32) = (0 : Int32)) || decide ((1 : Int32) = (1 : Int32))) (some ((1 : Int32), Ia2))))))) else (gd (decide ((0 : Int32) = (0 : Int32)) || decide ((0 : Int32) = (1 : Int32))) (some ((0 : Int32), I))))))
theorem X5_canPin_hy : yX5_canPin.cls = RX5 ∧ yX5_canPin.cls ≠ "java/lang/invoke/MethodHandle" ∧ yX5_canPin.cls ≠ "java/lang/invoke/VarHandle" ∧ (parseMethodDescriptor yX5_canPin.desc).map (fun d => d.parameters.length) = some 3 := by decide +kernel
theorem X5_canPin_k70 : Cond.fieldLink RX5 70 "HatPinsModel" "slot" "[I" ∈ wsX5_canPin := by decide +kernel
theorem X5_canPin_k37 : Cond.fieldLink RX5 37 "HatPinsModel" "reach" "[I" ∈ wsX5_canPin := by decide +kernel
theorem X5_canPin_k7 : Cond.fieldLink RX5 7 "HatPinsModel" "sort" "[I" ∈ wsX5_canPin := by decide +kernel
theorem X5_canPin_w5 : ∀ w ∈ wsX50, w ∈ wsX5_canPin := by decide +kernel
set_option maxHeartbeats 4000000 in
set_option maxRecDepth 100000 in
theorem X5_canPin_ok {sh : List hS} {r : Int32} {I I2 : hM} {v1 : Int32} {v2 : Int32} {v3 : Int32} (hf0 : hq_X5 sh) (h : X5_canPin v1 v2 v3 I = some (r, I2)) : hp_C yX5_canPin wsX5_canPin 1 0 0 sh I [.ref 92, .int v1, .int v2, .int v3] (some (.int r)) sh I2 := hp_start (cc := cX5_canPin) (maxL := 4) (ret := (some .boolean)) [(0, .ref 92), (1, .int v1), (2, .int v2), (3, .int v3)] (by decide) rfl (fun _ _ => rfl) (fun _ _ => Nat.le_of_ble_eq_true rfl) (fun p l e s m below meth c D E b z hX _ => by
  unfold X5_canPin at h
  refine hj_aload_n hX rfl 0 rfl dX5_canPin_0 ?_
  refine hj_getr hX (j := 26) hf0.1 rfl rfl X5_canPin_w5 (Nat.le_of_ble_eq_true rfl) rfl X5_canPin_k70 dX5_canPin_1 ?_
  refine hj_iload_n hX rfl 1 rfl dX5_canPin_4 ?_
  refine hj_bipush hX (v := (14 : Int32)) (by decide) dX5_canPin_5 ?_
  refine hj_iadd hX dX5_canPin_7 ?_
  refine hj_iload_n hX rfl 2 rfl dX5_canPin_8 ?_
  refine hj_iadd hX dX5_canPin_9 ?_
  refine hj_iald hX hf0.2.2.2.2.2.2.2.2.2.2.2.2.2.2.2.2.2.2.2.2.2.1 dX5_canPin_10 h (fun h => ?_)
  refine hj_if_le hX (tgt := 48) (by decide) dX5_canPin_11 h (fun h => ?_) (fun h => ?_)
  · refine hj_iconst hX (v := (0 : Int32)) (by decide) dX5_canPin_48 ?_
    exact hj_zret hX dX5_canPin_49 h
  · refine hj_aload_n hX rfl 0 rfl dX5_canPin_14 ?_
    refine hj_getr hX (j := 26) hf0.1 rfl rfl X5_canPin_w5 (Nat.le_of_ble_eq_true rfl) rfl X5_canPin_k70 dX5_canPin_15 ?_
    refine hj_iload_n hX rfl 1 rfl dX5_canPin_18 ?_
    refine hj_iload_n hX rfl 3 rfl dX5_canPin_19 ?_
    refine hj_iadd hX dX5_canPin_20 ?_
    refine hj_iald hX hf0.2.2.2.2.2.2.2.2.2.2.2.2.2.2.2.2.2.2.2.2.2.1 dX5_canPin_21 h (fun h => ?_)
    refine hj_iconst hX (v := (1 : Int32)) (by decide) dX5_canPin_22 ?_
    refine hj_icmp_ne hX (tgt := 48) (by decide) dX5_canPin_23 h (fun h => ?_) (fun h => ?_)
    · refine hj_iconst hX (v := (0 : Int32)) (by decide) dX5_canPin_48 ?_
      exact hj_zret hX dX5_canPin_49 h
    · refine hj_aload_n hX rfl 0 rfl dX5_canPin_26 ?_
      refine hj_getr hX (j := 12) hf0.1 rfl rfl X5_canPin_w5 (Nat.le_of_ble_eq_true rfl) rfl X5_canPin_k37 dX5_canPin_27 ?_
      refine hj_iload_n hX rfl 2 rfl dX5_canPin_30 ?_
      refine hj_iald hX hf0.2.2.2.2.2.2.2.2.2.2.1 dX5_canPin_31 h (fun h => ?_)
      refine hj_aload_n hX rfl 0 rfl dX5_canPin_32 ?_
      refine hj_getr hX (j := 1) hf0.1 rfl rfl X5_canPin_w5 (Nat.le_of_ble_eq_true rfl) rfl X5_canPin_k7 dX5_canPin_33 ?_
      refine hj_iload_n hX rfl 3 rfl dX5_canPin_36 ?_
      refine hj_iald hX hf0.2.1 dX5_canPin_37 h (fun h => ?_)
      obtain ⟨u1, Ia2, hc3, h⟩ := ob_e h
      refine hj_callS hX (sh2 := sh) (I2 := Ia2) (r := (some (.int u1))) (As := [.int (I 102 (v2).toNatClampNeg), .int (I 93 (v3).toNatClampNeg)]) (rest := []) (st2 := [.int u1]) (X5_has_ok hc3) gX5_canPin_X5_has rfl X5_has_hy.2 ⟨(Nat.le_of_ble_eq_true rfl), (Nat.le_of_ble_eq_true rfl)⟩ rfl (Nat.le_of_ble_eq_true rfl) ⟨(Nat.le_of_ble_eq_true rfl), (Nat.le_of_ble_eq_true rfl)⟩ rfl rfl rfl dX5_canPin_38 ?_
      refine hj_if_eq hX (tgt := 48) (by decide) dX5_canPin_41 h (fun h => ?_) (fun h => ?_)
      · refine hj_iconst hX (v := (0 : Int32)) (by decide) dX5_canPin_48 ?_
        exact hj_zret hX dX5_canPin_49 h
      · refine hj_iconst hX (v := (1 : Int32)) (by decide) dX5_canPin_44 ?_
        refine hj_goto hX (tgt := 49) (by decide) dX5_canPin_45 ?_
        exact hj_zret hX dX5_canPin_49 h)
def X5_lady_b64 (v1 : Int32) (v2 : Int32) (v3 : Int32) (I : hM) : Option (Int32 × hM) := if v2 = 0 then (gd (hx ((14 : Int32) + v1) 240) (some ((I 113 (((14 : Int32) + v1)).toNatClampNeg), I))) else (if v2 = (1 : Int32) then (gd (hx v1 4) (some ((I 102 (v1).toNatClampNeg), I))) else (some (v3, I)))
def X5_lady_h27 (k27 : Int32 → Int32 → Int32 → Int32 → hM → Option (Int32 × hM)) (v1 : Int32) (v2 : Int32) (v3 : Int32) (v4 : Int32) (I : hM) : Option (Int32 × hM) := if (I 92 0) ≤ v4 then (X5_lady_b64 v1 v2 v3 I) else (ob (X5_canPin (0 : Int32) v1 v4 I) (fun u7 Ia8 => if u7 = 0 then ((k27 v1 v2 (v3 ||| (0 : Int32)) (v4 + (1 : Int32)) Ia8)) else ((k27 v1 v2 (v3 ||| ((1 : Int32) <<< (v4 &&& 31))) (v4 + (1 : Int32)) Ia8))))
def X5_lady_l27 : Nat → Int32 → Int32 → Int32 → Int32 → hM → Option (Int32 × hM)
  | 0 => fun _ _ _ _ _ => none
  | n + 1 => X5_lady_h27   (X5_lady_l27   n)
def X5_lady (v1 : Int32) (v2 : Int32) (I : hM) : Option (Int32 × hM) := ob (X5_isLady v1 I) (fun u1 Ia2 => if u1 = 0 then (some ((-1 : Int32), Ia2)) else (ob (X5_in (v2).toInt64 (0 : Int64) (2 : Int64) Ia2) (fun u4 Ia5 => if u4 = 0 then (some ((-1 : Int32), Ia5)) else ((X5_lady_l27 hF v1 v2 (0 : Int32) (0 : Int32) Ia5)))))
theorem X5_lady_hy : yX5_lady.cls = RX5 ∧ yX5_lady.cls ≠ "java/lang/invoke/MethodHandle" ∧ yX5_lady.cls ≠ "java/lang/invoke/VarHandle" ∧ (parseMethodDescriptor yX5_lady.desc).map (fun d => d.parameters.length) = some 2 := by decide +kernel
theorem X5_lady_k110 : Cond.fieldLink RX5 110 "HatPinsModel" "many" "I" ∈ wsX5_lady := by decide +kernel
theorem X5_lady_k37 : Cond.fieldLink RX5 37 "HatPinsModel" "reach" "[I" ∈ wsX5_lady := by decide +kernel
theorem X5_lady_k70 : Cond.fieldLink RX5 70 "HatPinsModel" "slot" "[I" ∈ wsX5_lady := by decide +kernel
theorem X5_lady_mc218 : Cond.constantLong RX5 218 (2) ∈ wsX5_lady := by decide +kernel
theorem X5_lady_w5 : ∀ w ∈ wsX50, w ∈ wsX5_lady := by decide +kernel
set_option maxHeartbeats 4000000 in
set_option maxRecDepth 100000 in
theorem X5_lady_b64_ok {p : Program} {l : Launch} {e : Env} {s : State} {m : MethodId} {args : Array Value} {below : List Frame} {meth : Method} {c : Code} {D : va_G} {E : Nat → ClassId} {b z : Nat} {sh : List hS} {r : Int32} {I2 : hM} {v1 : Int32} {v2 : Int32} {v3 : Int32} {I : hM} (hX : hp_X p s m args meth c yX5_lady.cls cX5_lady 5 wsX5_lady D E (some .int) yX5_lady.name) (hf0 : hq_X5 sh) (h : X5_lady_b64 v1 v2 v3 I = some (r, I2)) : hp_J p l e ({ frames := 2, cells := 0, slots := 0, locals := 44 * 2 }) s m args below meth c (MQ below (hp_Q D E b z (some (.int r)) sh I2) args s 0 0 (fun q : Nat => b ≤ q)) D E b z 5 sh 0 0 I 64 [(0, .ref 92), (1, .int v1), (2, .int v2), (3, .int v3)] [] := by
  unfold X5_lady_b64 at h
  refine hj_iload_n hX rfl 2 rfl dX5_lady_64 ?_
  refine hj_if_ne hX (tgt := 80) (by decide) dX5_lady_65 h (fun h => ?_) (fun h => ?_)
  · refine hj_iload_n hX rfl 2 rfl dX5_lady_80 ?_
    refine hj_iconst hX (v := (1 : Int32)) (by decide) dX5_lady_81 ?_
    refine hj_icmp_ne hX (tgt := 94) (by decide) dX5_lady_82 h (fun h => ?_) (fun h => ?_)
    · refine hj_iload_n hX rfl 3 rfl dX5_lady_94 ?_
      exact hj_iret hX dX5_lady_95 h
    · refine hj_aload_n hX rfl 0 rfl dX5_lady_85 ?_
      refine hj_getr hX (j := 12) hf0.1 rfl rfl X5_lady_w5 (Nat.le_of_ble_eq_true rfl) rfl X5_lady_k37 dX5_lady_86 ?_
      refine hj_iload_n hX rfl 1 rfl dX5_lady_89 ?_
      refine hj_iald hX hf0.2.2.2.2.2.2.2.2.2.2.1 dX5_lady_90 h (fun h => ?_)
      refine hj_goto hX (tgt := 95) (by decide) dX5_lady_91 ?_
      exact hj_iret hX dX5_lady_95 h
  · refine hj_aload_n hX rfl 0 rfl dX5_lady_68 ?_
    refine hj_getr hX (j := 26) hf0.1 rfl rfl X5_lady_w5 (Nat.le_of_ble_eq_true rfl) rfl X5_lady_k70 dX5_lady_69 ?_
    refine hj_bipush hX (v := (14 : Int32)) (by decide) dX5_lady_72 ?_
    refine hj_iload_n hX rfl 1 rfl dX5_lady_74 ?_
    refine hj_iadd hX dX5_lady_75 ?_
    refine hj_iald hX hf0.2.2.2.2.2.2.2.2.2.2.2.2.2.2.2.2.2.2.2.2.2.1 dX5_lady_76 h (fun h => ?_)
    refine hj_goto hX (tgt := 95) (by decide) dX5_lady_77 ?_
    exact hj_iret hX dX5_lady_95 h
set_option maxHeartbeats 4000000 in
set_option maxRecDepth 100000 in
theorem X5_lady_h27_ok {p : Program} {l : Launch} {e : Env} {s : State} {m : MethodId} {args : Array Value} {below : List Frame} {meth : Method} {c : Code} {D : va_G} {E : Nat → ClassId} {b z : Nat} {sh : List hS} {r : Int32} {I2 : hM} {k27 : Int32 → Int32 → Int32 → Int32 → hM → Option (Int32 × hM)} {v1 : Int32} {v2 : Int32} {v3 : Int32} {v4 : Int32} {I : hM} (hX : hp_X p s m args meth c yX5_lady.cls cX5_lady 5 wsX5_lady D E (some .int) yX5_lady.name) (hf0 : hq_X5 sh) (hk27 : ∀ (v1 : Int32) (v2 : Int32) (v3 : Int32) (v4 : Int32) (I : hM), k27 v1 v2 v3 v4 I = some (r, I2) → hp_J p l e ({ frames := 2, cells := 0, slots := 0, locals := 44 * 2 }) s m args below meth c (MQ below (hp_Q D E b z (some (.int r)) sh I2) args s 0 0 (fun q : Nat => b ≤ q)) D E b z 5 sh 0 0 I 27 [(0, .ref 92), (1, .int v1), (2, .int v2), (3, .int v3), (4, .int v4)] []) (h : X5_lady_h27 k27 v1 v2 v3 v4 I = some (r, I2)) : hp_J p l e ({ frames := 2, cells := 0, slots := 0, locals := 44 * 2 }) s m args below meth c (MQ below (hp_Q D E b z (some (.int r)) sh I2) args s 0 0 (fun q : Nat => b ≤ q)) D E b z 5 sh 0 0 I 27 [(0, .ref 92), (1, .int v1), (2, .int v2), (3, .int v3), (4, .int v4)] [] := by
  unfold X5_lady_h27 at h
  refine hj_iload hX 4 rfl dX5_lady_27 ?_
  refine hj_aload_n hX rfl 0 rfl dX5_lady_29 ?_
  refine hj_geti hX (j := 0) hf0.1 rfl rfl X5_lady_w5 (Nat.le_of_ble_eq_true rfl) rfl X5_lady_k110 dX5_lady_30 ?_
  refine hj_icmp_ge hX (tgt := 64) (by decide) dX5_lady_33 h (fun h => ?_) (fun h => ?_)
  · refine hj_lv hX [0, 1, 2, 3] (lv2 := [(0, .ref 92), (1, .int v1), (2, .int v2), (3, .int v3)]) rfl ?_
    exact X5_lady_b64_ok hX hf0 h
  · refine hj_iload_n hX rfl 3 rfl dX5_lady_36 ?_
    refine hj_aload_n hX rfl 0 rfl dX5_lady_37 ?_
    refine hj_iconst hX (v := (0 : Int32)) (by decide) dX5_lady_38 ?_
    refine hj_iload_n hX rfl 1 rfl dX5_lady_39 ?_
    refine hj_iload hX 4 rfl dX5_lady_40 ?_
    obtain ⟨u7, Ia8, hc9, h⟩ := ob_e h
    refine hj_callV hX (sh2 := sh) (I2 := Ia8) (r := (some (.int u7))) (As := [.int (0 : Int32), .int v1, .int v4]) (rest := [.int v3]) (st2 := [.int u7, .int v3]) (X5_canPin_ok hf0 hc9) gX5_lady_X5_canPin rfl X5_canPin_hy ⟨(Nat.le_of_ble_eq_true rfl), (Nat.le_of_ble_eq_true rfl)⟩ rfl hf0.1 rfl (Nat.le_of_ble_eq_true rfl) ⟨(Nat.le_of_ble_eq_true rfl), (Nat.le_of_ble_eq_true rfl)⟩ rfl rfl rfl dX5_lady_42 ?_
    refine hj_if_eq hX (tgt := 55) (by decide) dX5_lady_45 h (fun h => ?_) (fun h => ?_)
    · refine hj_iconst hX (v := (0 : Int32)) (by decide) dX5_lady_55 ?_
      refine hj_ior hX dX5_lady_56 ?_
      refine hj_istore_n hX rfl (Nat.le_of_ble_eq_true rfl) (lv2 := [(3, .int (v3 ||| (0 : Int32))), (0, .ref 92), (1, .int v1), (2, .int v2), (4, .int v4)]) rfl dX5_lady_57 ?_
      refine hj_iinc hX (k1 := 4) (v := (v4 + (1 : Int32))) rfl rfl (Nat.le_of_ble_eq_true rfl) (lv2 := [(4, .int (v4 + (1 : Int32))), (3, .int (v3 ||| (0 : Int32))), (0, .ref 92), (1, .int v1), (2, .int v2)]) rfl dX5_lady_58 ?_
      refine hj_goto hX (tgt := 27) (by decide) dX5_lady_61 ?_
      refine hj_lv hX [2, 3, 4, 1, 0] (lv2 := [(0, .ref 92), (1, .int v1), (2, .int v2), (3, .int (v3 ||| (0 : Int32))), (4, .int (v4 + (1 : Int32)))]) rfl ?_
      exact hk27 _ _ _ _ _ h
    · refine hj_iconst hX (v := (1 : Int32)) (by decide) dX5_lady_48 ?_
      refine hj_iload hX 4 rfl dX5_lady_49 ?_
      refine hj_ishl hX dX5_lady_51 ?_
      refine hj_goto hX (tgt := 56) (by decide) dX5_lady_52 ?_
      refine hj_ior hX dX5_lady_56 ?_
      refine hj_istore_n hX rfl (Nat.le_of_ble_eq_true rfl) (lv2 := [(3, .int (v3 ||| ((1 : Int32) <<< (v4 &&& 31)))), (0, .ref 92), (1, .int v1), (2, .int v2), (4, .int v4)]) rfl dX5_lady_57 ?_
      refine hj_iinc hX (k1 := 4) (v := (v4 + (1 : Int32))) rfl rfl (Nat.le_of_ble_eq_true rfl) (lv2 := [(4, .int (v4 + (1 : Int32))), (3, .int (v3 ||| ((1 : Int32) <<< (v4 &&& 31)))), (0, .ref 92), (1, .int v1), (2, .int v2)]) rfl dX5_lady_58 ?_
      refine hj_goto hX (tgt := 27) (by decide) dX5_lady_61 ?_
      refine hj_lv hX [2, 3, 4, 1, 0] (lv2 := [(0, .ref 92), (1, .int v1), (2, .int v2), (3, .int (v3 ||| ((1 : Int32) <<< (v4 &&& 31)))), (4, .int (v4 + (1 : Int32)))]) rfl ?_
      exact hk27 _ _ _ _ _ h
set_option maxHeartbeats 4000000 in
set_option maxRecDepth 100000 in
theorem X5_lady_l27_ok {p : Program} {l : Launch} {e : Env} {s : State} {m : MethodId} {args : Array Value} {below : List Frame} {meth : Method} {c : Code} {D : va_G} {E : Nat → ClassId} {b z : Nat} {sh : List hS} {r : Int32} {I2 : hM} (hX : hp_X p s m args meth c yX5_lady.cls cX5_lady 5 wsX5_lady D E (some .int) yX5_lady.name) (hf0 : hq_X5 sh) : ∀ (n : Nat) (v1 : Int32) (v2 : Int32) (v3 : Int32) (v4 : Int32) (I : hM), X5_lady_l27 n v1 v2 v3 v4 I = some (r, I2) → hp_J p l e ({ frames := 2, cells := 0, slots := 0, locals := 44 * 2 }) s m args below meth c (MQ below (hp_Q D E b z (some (.int r)) sh I2) args s 0 0 (fun q : Nat => b ≤ q)) D E b z 5 sh 0 0 I 27 [(0, .ref 92), (1, .int v1), (2, .int v2), (3, .int v3), (4, .int v4)] [] := by
  intro n
  induction n with
  | zero => exact fun _ _ _ _ _ h => nomatch h
  | succ n ih => exact fun _ _ _ _ _ h => X5_lady_h27_ok hX hf0 ih h
set_option maxHeartbeats 4000000 in
set_option maxRecDepth 100000 in
theorem X5_lady_ok {sh : List hS} {r : Int32} {I I2 : hM} {v1 : Int32} {v2 : Int32} (hf0 : hq_X5 sh) (h : X5_lady v1 v2 I = some (r, I2)) : hp_C yX5_lady wsX5_lady 2 0 0 sh I [.ref 92, .int v1, .int v2] (some (.int r)) sh I2 := hp_start (cc := cX5_lady) (maxL := 5) (ret := (some .int)) [(0, .ref 92), (1, .int v1), (2, .int v2)] (by decide) rfl (fun _ _ => rfl) (fun _ _ => Nat.le_of_ble_eq_true rfl) (fun p l e s m below meth c D E b z hX _ => by
  unfold X5_lady at h
  refine hj_aload_n hX rfl 0 rfl dX5_lady_0 ?_
  refine hj_iload_n hX rfl 1 rfl dX5_lady_1 ?_
  obtain ⟨u1, Ia2, hc3, h⟩ := ob_e h
  refine hj_callV hX (sh2 := sh) (I2 := Ia2) (r := (some (.int u1))) (As := [.int v1]) (rest := []) (st2 := [.int u1]) (X5_isLady_ok hf0 hc3) gX5_lady_X5_isLady rfl X5_isLady_hy ⟨(Nat.le_of_ble_eq_true rfl), (Nat.le_of_ble_eq_true rfl)⟩ rfl hf0.1 rfl (Nat.le_of_ble_eq_true rfl) ⟨(Nat.le_of_ble_eq_true rfl), (Nat.le_of_ble_eq_true rfl)⟩ rfl rfl rfl dX5_lady_2 ?_
  refine hj_if_eq hX (tgt := 20) (by decide) dX5_lady_5 h (fun h => ?_) (fun h => ?_)
  · refine hj_iconst hX (v := (-1 : Int32)) (by decide) dX5_lady_20 ?_
    exact hj_iret hX dX5_lady_21 h
  · refine hj_iload_n hX rfl 2 rfl dX5_lady_8 ?_
    refine hj_i2l hX dX5_lady_9 ?_
    refine hj_lconst hX (v := (0 : Int64)) (by decide) dX5_lady_10 ?_
    refine hj_ldc2 hX (v := (2 : Int64)) X5_lady_mc218 dX5_lady_11 ?_
    obtain ⟨u4, Ia5, hc6, h⟩ := ob_e h
    refine hj_callS hX (sh2 := sh) (I2 := Ia5) (r := (some (.int u4))) (As := [.long (v2).toInt64, .long (0 : Int64), .long (2 : Int64)]) (rest := []) (st2 := [.int u4]) (X5_in_ok hc6) gX5_lady_X5_in rfl X5_in_hy.2 ⟨(Nat.le_of_ble_eq_true rfl), (Nat.le_of_ble_eq_true rfl)⟩ rfl (Nat.le_of_ble_eq_true rfl) ⟨(Nat.le_of_ble_eq_true rfl), (Nat.le_of_ble_eq_true rfl)⟩ rfl rfl rfl dX5_lady_14 ?_
    refine hj_if_ne hX (tgt := 22) (by decide) dX5_lady_17 h (fun h => ?_) (fun h => ?_)
    · refine hj_iconst hX (v := (0 : Int32)) (by decide) dX5_lady_22 ?_
      refine hj_istore_n hX rfl (Nat.le_of_ble_eq_true rfl) (lv2 := [(3, .int (0 : Int32)), (0, .ref 92), (1, .int v1), (2, .int v2)]) rfl dX5_lady_23 ?_
      refine hj_iconst hX (v := (0 : Int32)) (by decide) dX5_lady_24 ?_
      refine hj_istore hX (Nat.le_of_ble_eq_true rfl) (lv2 := [(4, .int (0 : Int32)), (3, .int (0 : Int32)), (0, .ref 92), (1, .int v1), (2, .int v2)]) rfl dX5_lady_25 ?_
      refine hj_lv hX [2, 3, 4, 1, 0] (lv2 := [(0, .ref 92), (1, .int v1), (2, .int v2), (3, .int (0 : Int32)), (4, .int (0 : Int32))]) rfl ?_
      exact X5_lady_l27_ok hX hf0 hF _ _ _ _ _ h
    · refine hj_iconst hX (v := (-1 : Int32)) (by decide) dX5_lady_20 ?_
      exact hj_iret hX dX5_lady_21 h)
def X5_known_b46 (I : hM) : Option (Int32 × hM) := ob (X5_copies (0 : Int32) (((hu I 92 27 ((I 92 27) + (1 : Int32))) 92 27) * (20 : Int32)) (hu I 92 27 ((I 92 27) + (1 : Int32)))) (fun u1 Ia2 => some (0, Ia2))
def X5_known_h12 (k12 : Int32 → hM → Option (Int32 × hM)) (v1 : Int32) (I : hM) : Option (Int32 × hM) := if (160 : Int32) ≤ v1 then ((X5_known_b46 (hu I 92 27 (7 : Int32)))) else (gd (hx (v1 + (20 : Int32)) 240) (gd (hx v1 240) ((k12 (v1 + (1 : Int32)) (hu I 113 (v1).toNatClampNeg (I 113 ((v1 + (20 : Int32))).toNatClampNeg))))))
def X5_known_l12 : Nat → Int32 → hM → Option (Int32 × hM)
  | 0 => fun _ _ => none
  | n + 1 => X5_known_h12   (X5_known_l12   n)
def X5_known (I : hM) : Option (Int32 × hM) := if (I 92 27) = (8 : Int32) then ((X5_known_l12 hF (20 : Int32) I)) else (X5_known_b46 I)
theorem X5_known_hy : yX5_known.cls = RX5 ∧ yX5_known.cls ≠ "java/lang/invoke/MethodHandle" ∧ yX5_known.cls ≠ "java/lang/invoke/VarHandle" ∧ (parseMethodDescriptor yX5_known.desc).map (fun d => d.parameters.length) = some 0 := by decide +kernel
theorem X5_known_k176 : Cond.fieldLink RX5 176 "HatPinsModel" "acts" "I" ∈ wsX5_known := by decide +kernel
theorem X5_known_k70 : Cond.fieldLink RX5 70 "HatPinsModel" "slot" "[I" ∈ wsX5_known := by decide +kernel
theorem X5_known_w5 : ∀ w ∈ wsX50, w ∈ wsX5_known := by decide +kernel
set_option maxHeartbeats 4000000 in
set_option maxRecDepth 100000 in
theorem X5_known_b46_ok {p : Program} {l : Launch} {e : Env} {s : State} {m : MethodId} {args : Array Value} {below : List Frame} {meth : Method} {c : Code} {D : va_G} {E : Nat → ClassId} {b z : Nat} {sh : List hS} {r : Int32} {I2 : hM} {I : hM} (hX : hp_X p s m args meth c yX5_known.cls cX5_known 2 wsX5_known D E none yX5_known.name) (hf0 : hq_X5 sh) (h : X5_known_b46 I = some (r, I2)) : hp_J p l e ({ frames := 1, cells := 0, slots := 0, locals := 44 * 1 }) s m args below meth c (MQ below (hp_Q D E b z none sh I2) args s 0 0 (fun q : Nat => b ≤ q)) D E b z 2 sh 0 0 I 46 [(0, .ref 92)] [] := by
  unfold X5_known_b46 at h
  refine hj_aload_n hX rfl 0 rfl dX5_known_46 ?_
  refine hj_dup hX rfl dX5_known_47 ?_
  refine hj_geti hX (j := 27) hf0.1 rfl rfl X5_known_w5 (Nat.le_of_ble_eq_true rfl) rfl X5_known_k176 dX5_known_48 ?_
  refine hj_iconst hX (v := (1 : Int32)) (by decide) dX5_known_51 ?_
  refine hj_iadd hX dX5_known_52 ?_
  refine hj_puti hX (j := 27) hf0.1 rfl rfl X5_known_w5 (Nat.le_of_ble_eq_true rfl) rfl X5_known_k176 tyX5_ok nmX5 rfl (by decide +kernel) dX5_known_53 ?_
  refine hj_aload_n hX rfl 0 rfl dX5_known_56 ?_
  refine hj_iconst hX (v := (0 : Int32)) (by decide) dX5_known_57 ?_
  refine hj_aload_n hX rfl 0 rfl dX5_known_58 ?_
  refine hj_geti hX (j := 27) hf0.1 rfl rfl X5_known_w5 (Nat.le_of_ble_eq_true rfl) rfl X5_known_k176 dX5_known_59 ?_
  refine hj_bipush hX (v := (20 : Int32)) (by decide) dX5_known_62 ?_
  refine hj_imul hX dX5_known_64 ?_
  obtain ⟨u1, Ia2, hc3, h⟩ := ob_e h
  refine hj_callV hX (sh2 := sh) (I2 := Ia2) (r := none) (As := [.int (0 : Int32), .int (((hu I 92 27 ((I 92 27) + (1 : Int32))) 92 27) * (20 : Int32))]) (rest := []) (st2 := []) (X5_copies_ok hf0 hc3) gX5_known_X5_copies rfl X5_copies_hy ⟨(Nat.le_of_ble_eq_true rfl), (Nat.le_of_ble_eq_true rfl)⟩ rfl hf0.1 rfl (Nat.le_of_ble_eq_true rfl) ⟨(Nat.le_of_ble_eq_true rfl), (Nat.le_of_ble_eq_true rfl)⟩ rfl rfl rfl dX5_known_65 ?_
  exact hj_vret hX dX5_known_68 h
set_option maxHeartbeats 4000000 in
set_option maxRecDepth 100000 in
theorem X5_known_h12_ok {p : Program} {l : Launch} {e : Env} {s : State} {m : MethodId} {args : Array Value} {below : List Frame} {meth : Method} {c : Code} {D : va_G} {E : Nat → ClassId} {b z : Nat} {sh : List hS} {r : Int32} {I2 : hM} {k12 : Int32 → hM → Option (Int32 × hM)} {v1 : Int32} {I : hM} (hX : hp_X p s m args meth c yX5_known.cls cX5_known 2 wsX5_known D E none yX5_known.name) (hf0 : hq_X5 sh) (hk12 : ∀ (v1 : Int32) (I : hM), k12 v1 I = some (r, I2) → hp_J p l e ({ frames := 1, cells := 0, slots := 0, locals := 44 * 1 }) s m args below meth c (MQ below (hp_Q D E b z none sh I2) args s 0 0 (fun q : Nat => b ≤ q)) D E b z 2 sh 0 0 I 12 [(0, .ref 92), (1, .int v1)] []) (h : X5_known_h12 k12 v1 I = some (r, I2)) : hp_J p l e ({ frames := 1, cells := 0, slots := 0, locals := 44 * 1 }) s m args below meth c (MQ below (hp_Q D E b z none sh I2) args s 0 0 (fun q : Nat => b ≤ q)) D E b z 2 sh 0 0 I 12 [(0, .ref 92), (1, .int v1)] [] := by
  unfold X5_known_h12 at h
  refine hj_iload_n hX rfl 1 rfl dX5_known_12 ?_
  refine hj_sipush hX (v := (160 : Int32)) (by decide) dX5_known_13 ?_
  refine hj_icmp_ge hX (tgt := 40) (by decide) dX5_known_16 h (fun h => ?_) (fun h => ?_)
  · refine hj_aload_n hX rfl 0 rfl dX5_known_40 ?_
    refine hj_bipush hX (v := (7 : Int32)) (by decide) dX5_known_41 ?_
    refine hj_puti hX (j := 27) hf0.1 rfl rfl X5_known_w5 (Nat.le_of_ble_eq_true rfl) rfl X5_known_k176 tyX5_ok nmX5 rfl (by decide +kernel) dX5_known_43 ?_
    refine hj_lv hX [0] (lv2 := [(0, .ref 92)]) rfl ?_
    exact X5_known_b46_ok hX hf0 h
  · refine hj_aload_n hX rfl 0 rfl dX5_known_19 ?_
    refine hj_getr hX (j := 26) hf0.1 rfl rfl X5_known_w5 (Nat.le_of_ble_eq_true rfl) rfl X5_known_k70 dX5_known_20 ?_
    refine hj_iload_n hX rfl 1 rfl dX5_known_23 ?_
    refine hj_aload_n hX rfl 0 rfl dX5_known_24 ?_
    refine hj_getr hX (j := 26) hf0.1 rfl rfl X5_known_w5 (Nat.le_of_ble_eq_true rfl) rfl X5_known_k70 dX5_known_25 ?_
    refine hj_iload_n hX rfl 1 rfl dX5_known_28 ?_
    refine hj_bipush hX (v := (20 : Int32)) (by decide) dX5_known_29 ?_
    refine hj_iadd hX dX5_known_31 ?_
    refine hj_iald hX hf0.2.2.2.2.2.2.2.2.2.2.2.2.2.2.2.2.2.2.2.2.2.1 dX5_known_32 h (fun h => ?_)
    refine hj_iast hX hf0.2.2.2.2.2.2.2.2.2.2.2.2.2.2.2.2.2.2.2.2.2.1 dX5_known_33 h (fun h => ?_)
    refine hj_iinc hX (k1 := 1) (v := (v1 + (1 : Int32))) rfl rfl (Nat.le_of_ble_eq_true rfl) (lv2 := [(1, .int (v1 + (1 : Int32))), (0, .ref 92)]) rfl dX5_known_34 ?_
    refine hj_goto hX (tgt := 12) (by decide) dX5_known_37 ?_
    refine hj_lv hX [1, 0] (lv2 := [(0, .ref 92), (1, .int (v1 + (1 : Int32)))]) rfl ?_
    exact hk12 _ _ h
set_option maxHeartbeats 4000000 in
set_option maxRecDepth 100000 in
theorem X5_known_l12_ok {p : Program} {l : Launch} {e : Env} {s : State} {m : MethodId} {args : Array Value} {below : List Frame} {meth : Method} {c : Code} {D : va_G} {E : Nat → ClassId} {b z : Nat} {sh : List hS} {r : Int32} {I2 : hM} (hX : hp_X p s m args meth c yX5_known.cls cX5_known 2 wsX5_known D E none yX5_known.name) (hf0 : hq_X5 sh) : ∀ (n : Nat) (v1 : Int32) (I : hM), X5_known_l12 n v1 I = some (r, I2) → hp_J p l e ({ frames := 1, cells := 0, slots := 0, locals := 44 * 1 }) s m args below meth c (MQ below (hp_Q D E b z none sh I2) args s 0 0 (fun q : Nat => b ≤ q)) D E b z 2 sh 0 0 I 12 [(0, .ref 92), (1, .int v1)] [] := by
  intro n
  induction n with
  | zero => exact fun _ _ h => nomatch h
  | succ n ih => exact fun _ _ h => X5_known_h12_ok hX hf0 ih h
set_option maxHeartbeats 4000000 in
set_option maxRecDepth 100000 in
theorem X5_known_ok {sh : List hS} {r : Int32} {I I2 : hM} (hf0 : hq_X5 sh) (h : X5_known I = some (r, I2)) : hp_C yX5_known wsX5_known 1 0 0 sh I [.ref 92] none sh I2 := hp_start (cc := cX5_known) (maxL := 2) (ret := none) [(0, .ref 92)] (by decide) rfl (fun _ _ => rfl) (fun _ _ => Nat.le_of_ble_eq_true rfl) (fun p l e s m below meth c D E b z hX _ => by
  unfold X5_known at h
  refine hj_aload_n hX rfl 0 rfl dX5_known_0 ?_
  refine hj_geti hX (j := 27) hf0.1 rfl rfl X5_known_w5 (Nat.le_of_ble_eq_true rfl) rfl X5_known_k176 dX5_known_1 ?_
  refine hj_bipush hX (v := (8 : Int32)) (by decide) dX5_known_4 ?_
  refine hj_icmp_ne hX (tgt := 46) (by decide) dX5_known_6 h (fun h => ?_) (fun h => ?_)
  · exact X5_known_b46_ok hX hf0 h
  · refine hj_bipush hX (v := (20 : Int32)) (by decide) dX5_known_9 ?_
    refine hj_istore_n hX rfl (Nat.le_of_ble_eq_true rfl) (lv2 := [(1, .int (20 : Int32)), (0, .ref 92)]) rfl dX5_known_11 ?_
    refine hj_lv hX [1, 0] (lv2 := [(0, .ref 92), (1, .int (20 : Int32))]) rfl ?_
    exact X5_known_l12_ok hX hf0 hF _ _ h)
def X5_minutes_h7 (k7 : Int32 → Int32 → Int32 → hM → Option (Int32 × hM)) (v1 : Int32) (v2 : Int32) (v3 : Int32) (I : hM) : Option (Int32 × hM) := if v2 ≤ v3 then (some (0, I)) else (ob (X5_goesOn v1 I) (fun u1 Ia2 => (k7 v1 v2 (v3 + (1 : Int32)) (hu Ia2 92 38 ((I 92 38) ||| u1)))))
def X5_minutes_l7 : Nat → Int32 → Int32 → Int32 → hM → Option (Int32 × hM)
  | 0 => fun _ _ _ _ => none
  | n + 1 => X5_minutes_h7   (X5_minutes_l7   n)
def X5_minutes (v1 : Int32) (v2 : Int32) (I : hM) : Option (Int32 × hM) := (X5_minutes_l7 hF v1 v2 (0 : Int32) (hu I 92 38 (0 : Int32)))
theorem X5_minutes_hy : yX5_minutes.cls = RX5 ∧ yX5_minutes.cls ≠ "java/lang/invoke/MethodHandle" ∧ yX5_minutes.cls ≠ "java/lang/invoke/VarHandle" ∧ (parseMethodDescriptor yX5_minutes.desc).map (fun d => d.parameters.length) = some 2 := by decide +kernel
theorem X5_minutes_k236 : Cond.fieldLink RX5 236 "HatPinsModel" "wereOn" "I" ∈ wsX5_minutes := by decide +kernel
theorem X5_minutes_w5 : ∀ w ∈ wsX50, w ∈ wsX5_minutes := by decide +kernel
set_option maxHeartbeats 4000000 in
set_option maxRecDepth 100000 in
theorem X5_minutes_h7_ok {p : Program} {l : Launch} {e : Env} {s : State} {m : MethodId} {args : Array Value} {below : List Frame} {meth : Method} {c : Code} {D : va_G} {E : Nat → ClassId} {b z : Nat} {sh : List hS} {r : Int32} {I2 : hM} {k7 : Int32 → Int32 → Int32 → hM → Option (Int32 × hM)} {v1 : Int32} {v2 : Int32} {v3 : Int32} {I : hM} (hX : hp_X p s m args meth c yX5_minutes.cls cX5_minutes 4 wsX5_minutes D E none yX5_minutes.name) (hf0 : hq_X5 sh) (hk7 : ∀ (v1 : Int32) (v2 : Int32) (v3 : Int32) (I : hM), k7 v1 v2 v3 I = some (r, I2) → hp_J p l e ({ frames := 5, cells := 0, slots := 0, locals := 44 * 5 }) s m args below meth c (MQ below (hp_Q D E b z none sh I2) args s 0 0 (fun q : Nat => b ≤ q)) D E b z 4 sh 0 0 I 7 [(0, .ref 92), (1, .int v1), (2, .int v2), (3, .int v3)] []) (h : X5_minutes_h7 k7 v1 v2 v3 I = some (r, I2)) : hp_J p l e ({ frames := 5, cells := 0, slots := 0, locals := 44 * 5 }) s m args below meth c (MQ below (hp_Q D E b z none sh I2) args s 0 0 (fun q : Nat => b ≤ q)) D E b z 4 sh 0 0 I 7 [(0, .ref 92), (1, .int v1), (2, .int v2), (3, .int v3)] [] := by
  unfold X5_minutes_h7 at h
  refine hj_iload_n hX rfl 3 rfl dX5_minutes_7 ?_
  refine hj_iload_n hX rfl 2 rfl dX5_minutes_8 ?_
  refine hj_icmp_ge hX (tgt := 32) (by decide) dX5_minutes_9 h (fun h => ?_) (fun h => ?_)
  · exact hj_vret hX dX5_minutes_32 h
  · refine hj_aload_n hX rfl 0 rfl dX5_minutes_12 ?_
    refine hj_dup hX rfl dX5_minutes_13 ?_
    refine hj_geti hX (j := 38) hf0.1 rfl rfl X5_minutes_w5 (Nat.le_of_ble_eq_true rfl) rfl X5_minutes_k236 dX5_minutes_14 ?_
    refine hj_aload_n hX rfl 0 rfl dX5_minutes_17 ?_
    refine hj_iload_n hX rfl 1 rfl dX5_minutes_18 ?_
    obtain ⟨u1, Ia2, hc3, h⟩ := ob_e h
    refine hj_callV hX (sh2 := sh) (I2 := Ia2) (r := (some (.int u1))) (As := [.int v1]) (rest := [.int (I 92 38), .ref 92]) (st2 := [.int u1, .int (I 92 38), .ref 92]) (X5_goesOn_ok hf0 hc3) gX5_minutes_X5_goesOn rfl X5_goesOn_hy ⟨(Nat.le_of_ble_eq_true rfl), (Nat.le_of_ble_eq_true rfl)⟩ rfl hf0.1 rfl (Nat.le_of_ble_eq_true rfl) ⟨(Nat.le_of_ble_eq_true rfl), (Nat.le_of_ble_eq_true rfl)⟩ rfl rfl rfl dX5_minutes_19 ?_
    refine hj_ior hX dX5_minutes_22 ?_
    refine hj_puti hX (j := 38) hf0.1 rfl rfl X5_minutes_w5 (Nat.le_of_ble_eq_true rfl) rfl X5_minutes_k236 tyX5_ok nmX5 rfl (by decide +kernel) dX5_minutes_23 ?_
    refine hj_iinc hX (k1 := 3) (v := (v3 + (1 : Int32))) rfl rfl (Nat.le_of_ble_eq_true rfl) (lv2 := [(3, .int (v3 + (1 : Int32))), (0, .ref 92), (1, .int v1), (2, .int v2)]) rfl dX5_minutes_26 ?_
    refine hj_goto hX (tgt := 7) (by decide) dX5_minutes_29 ?_
    refine hj_lv hX [1, 2, 3, 0] (lv2 := [(0, .ref 92), (1, .int v1), (2, .int v2), (3, .int (v3 + (1 : Int32)))]) rfl ?_
    exact hk7 _ _ _ _ h
set_option maxHeartbeats 4000000 in
set_option maxRecDepth 100000 in
theorem X5_minutes_l7_ok {p : Program} {l : Launch} {e : Env} {s : State} {m : MethodId} {args : Array Value} {below : List Frame} {meth : Method} {c : Code} {D : va_G} {E : Nat → ClassId} {b z : Nat} {sh : List hS} {r : Int32} {I2 : hM} (hX : hp_X p s m args meth c yX5_minutes.cls cX5_minutes 4 wsX5_minutes D E none yX5_minutes.name) (hf0 : hq_X5 sh) : ∀ (n : Nat) (v1 : Int32) (v2 : Int32) (v3 : Int32) (I : hM), X5_minutes_l7 n v1 v2 v3 I = some (r, I2) → hp_J p l e ({ frames := 5, cells := 0, slots := 0, locals := 44 * 5 }) s m args below meth c (MQ below (hp_Q D E b z none sh I2) args s 0 0 (fun q : Nat => b ≤ q)) D E b z 4 sh 0 0 I 7 [(0, .ref 92), (1, .int v1), (2, .int v2), (3, .int v3)] [] := by
  intro n
  induction n with
  | zero => exact fun _ _ _ _ h => nomatch h
  | succ n ih => exact fun _ _ _ _ h => X5_minutes_h7_ok hX hf0 ih h
set_option maxHeartbeats 4000000 in
set_option maxRecDepth 100000 in
theorem X5_minutes_ok {sh : List hS} {r : Int32} {I I2 : hM} {v1 : Int32} {v2 : Int32} (hf0 : hq_X5 sh) (h : X5_minutes v1 v2 I = some (r, I2)) : hp_C yX5_minutes wsX5_minutes 5 0 0 sh I [.ref 92, .int v1, .int v2] none sh I2 := hp_start (cc := cX5_minutes) (maxL := 4) (ret := none) [(0, .ref 92), (1, .int v1), (2, .int v2)] (by decide) rfl (fun _ _ => rfl) (fun _ _ => Nat.le_of_ble_eq_true rfl) (fun p l e s m below meth c D E b z hX _ => by
  unfold X5_minutes at h
  refine hj_aload_n hX rfl 0 rfl dX5_minutes_0 ?_
  refine hj_iconst hX (v := (0 : Int32)) (by decide) dX5_minutes_1 ?_
  refine hj_puti hX (j := 38) hf0.1 rfl rfl X5_minutes_w5 (Nat.le_of_ble_eq_true rfl) rfl X5_minutes_k236 tyX5_ok nmX5 rfl (by decide +kernel) dX5_minutes_2 ?_
  refine hj_iconst hX (v := (0 : Int32)) (by decide) dX5_minutes_5 ?_
  refine hj_istore_n hX rfl (Nat.le_of_ble_eq_true rfl) (lv2 := [(3, .int (0 : Int32)), (0, .ref 92), (1, .int v1), (2, .int v2)]) rfl dX5_minutes_6 ?_
  refine hj_lv hX [1, 2, 3, 0] (lv2 := [(0, .ref 92), (1, .int v1), (2, .int v2), (3, .int (0 : Int32))]) rfl ?_
  exact X5_minutes_l7_ok hX hf0 hF _ _ _ _ h)
def X5_pass (v1 : Int32) (I : hM) : Option (Int32 × hM) := ob (X5_in (v1).toInt64 (1 : Int64) (24 : Int64) I) (fun u1 Ia2 => if u1 = 0 then (some ((-1 : Int32), Ia2)) else (gd (hx (18 : Int32) 240) (if ((Ia2 113 ((18 : Int32)).toNatClampNeg) + v1) ≤ (999 : Int32) then (ob (X5_known Ia2) (fun u4 Ia5 => ob (X5_minutes (0 : Int32) v1 Ia5) (fun u7 Ia8 => gd (hx (19 : Int32) 240) (some (((Ia8 113 ((19 : Int32)).toNatClampNeg) + (10000 : Int32)), Ia8))))) else (some ((-2 : Int32), Ia2)))))
theorem X5_pass_hy : yX5_pass.cls = RX5 ∧ yX5_pass.cls ≠ "java/lang/invoke/MethodHandle" ∧ yX5_pass.cls ≠ "java/lang/invoke/VarHandle" ∧ (parseMethodDescriptor yX5_pass.desc).map (fun d => d.parameters.length) = some 1 := by decide +kernel
theorem X5_pass_k70 : Cond.fieldLink RX5 70 "HatPinsModel" "slot" "[I" ∈ wsX5_pass := by decide +kernel
theorem X5_pass_mc228 : Cond.constantLong RX5 228 (24) ∈ wsX5_pass := by decide +kernel
theorem X5_pass_w5 : ∀ w ∈ wsX50, w ∈ wsX5_pass := by decide +kernel
set_option maxHeartbeats 4000000 in
set_option maxRecDepth 100000 in
theorem X5_pass_ok {sh : List hS} {r : Int32} {I I2 : hM} {v1 : Int32} (hf0 : hq_X5 sh) (h : X5_pass v1 I = some (r, I2)) : hp_C yX5_pass wsX5_pass 6 0 0 sh I [.ref 92, .int v1] (some (.int r)) sh I2 := hp_start (cc := cX5_pass) (maxL := 2) (ret := (some .int)) [(0, .ref 92), (1, .int v1)] (by decide) rfl (fun _ _ => rfl) (fun _ _ => Nat.le_of_ble_eq_true rfl) (fun p l e s m below meth c D E b z hX _ => by
  unfold X5_pass at h
  refine hj_iload_n hX rfl 1 rfl dX5_pass_0 ?_
  refine hj_i2l hX dX5_pass_1 ?_
  refine hj_lconst hX (v := (1 : Int64)) (by decide) dX5_pass_2 ?_
  refine hj_ldc2 hX (v := (24 : Int64)) X5_pass_mc228 dX5_pass_3 ?_
  obtain ⟨u1, Ia2, hc3, h⟩ := ob_e h
  refine hj_callS hX (sh2 := sh) (I2 := Ia2) (r := (some (.int u1))) (As := [.long (v1).toInt64, .long (1 : Int64), .long (24 : Int64)]) (rest := []) (st2 := [.int u1]) (X5_in_ok hc3) gX5_pass_X5_in rfl X5_in_hy.2 ⟨(Nat.le_of_ble_eq_true rfl), (Nat.le_of_ble_eq_true rfl)⟩ rfl (Nat.le_of_ble_eq_true rfl) ⟨(Nat.le_of_ble_eq_true rfl), (Nat.le_of_ble_eq_true rfl)⟩ rfl rfl rfl dX5_pass_6 ?_
  refine hj_if_ne hX (tgt := 14) (by decide) dX5_pass_9 h (fun h => ?_) (fun h => ?_)
  · refine hj_aload_n hX rfl 0 rfl dX5_pass_14 ?_
    refine hj_getr hX (j := 26) hf0.1 rfl rfl X5_pass_w5 (Nat.le_of_ble_eq_true rfl) rfl X5_pass_k70 dX5_pass_15 ?_
    refine hj_bipush hX (v := (18 : Int32)) (by decide) dX5_pass_18 ?_
    refine hj_iald hX hf0.2.2.2.2.2.2.2.2.2.2.2.2.2.2.2.2.2.2.2.2.2.1 dX5_pass_20 h (fun h => ?_)
    refine hj_iload_n hX rfl 1 rfl dX5_pass_21 ?_
    refine hj_iadd hX dX5_pass_22 ?_
    refine hj_sipush hX (v := (999 : Int32)) (by decide) dX5_pass_23 ?_
    refine hj_icmp_le hX (tgt := 32) (by decide) dX5_pass_26 h (fun h => ?_) (fun h => ?_)
    · refine hj_aload_n hX rfl 0 rfl dX5_pass_32 ?_
      obtain ⟨u4, Ia5, hc6, h⟩ := ob_e h
      refine hj_callV hX (sh2 := sh) (I2 := Ia5) (r := none) (As := []) (rest := []) (st2 := []) (X5_known_ok hf0 hc6) gX5_pass_X5_known rfl X5_known_hy ⟨(Nat.le_of_ble_eq_true rfl), (Nat.le_of_ble_eq_true rfl)⟩ rfl hf0.1 rfl (Nat.le_of_ble_eq_true rfl) ⟨(Nat.le_of_ble_eq_true rfl), (Nat.le_of_ble_eq_true rfl)⟩ rfl rfl rfl dX5_pass_33 ?_
      refine hj_aload_n hX rfl 0 rfl dX5_pass_36 ?_
      refine hj_iconst hX (v := (0 : Int32)) (by decide) dX5_pass_37 ?_
      refine hj_iload_n hX rfl 1 rfl dX5_pass_38 ?_
      obtain ⟨u7, Ia8, hc9, h⟩ := ob_e h
      refine hj_callV hX (sh2 := sh) (I2 := Ia8) (r := none) (As := [.int (0 : Int32), .int v1]) (rest := []) (st2 := []) (X5_minutes_ok hf0 hc9) gX5_pass_X5_minutes rfl X5_minutes_hy ⟨(Nat.le_of_ble_eq_true rfl), (Nat.le_of_ble_eq_true rfl)⟩ rfl hf0.1 rfl (Nat.le_of_ble_eq_true rfl) ⟨(Nat.le_of_ble_eq_true rfl), (Nat.le_of_ble_eq_true rfl)⟩ rfl rfl rfl dX5_pass_39 ?_
      refine hj_aload_n hX rfl 0 rfl dX5_pass_42 ?_
      refine hj_getr hX (j := 26) hf0.1 rfl rfl X5_pass_w5 (Nat.le_of_ble_eq_true rfl) rfl X5_pass_k70 dX5_pass_43 ?_
      refine hj_bipush hX (v := (19 : Int32)) (by decide) dX5_pass_46 ?_
      refine hj_iald hX hf0.2.2.2.2.2.2.2.2.2.2.2.2.2.2.2.2.2.2.2.2.2.1 dX5_pass_48 h (fun h => ?_)
      refine hj_sipush hX (v := (10000 : Int32)) (by decide) dX5_pass_49 ?_
      refine hj_iadd hX dX5_pass_52 ?_
      exact hj_iret hX dX5_pass_53 h
    · refine hj_bipush hX (v := (-2 : Int32)) (by decide) dX5_pass_29 ?_
      exact hj_iret hX dX5_pass_31 h
  · refine hj_iconst hX (v := (-1 : Int32)) (by decide) dX5_pass_12 ?_
    exact hj_iret hX dX5_pass_13 h)
def X5_pin (v1 : Int32) (v2 : Int32) (I : hM) : Option (Int32 × hM) := ob (X5_isLady v1 I) (fun u1 Ia2 => if u1 = 0 then (some ((-1 : Int32), Ia2)) else (ob (X5_isGoing v2 Ia2) (fun u4 Ia5 => if u4 = 0 then (some ((-1 : Int32), Ia5)) else (ob (X5_canPin (0 : Int32) v1 v2 Ia5) (fun u7 Ia8 => if u7 = 0 then (some ((-2 : Int32), Ia8)) else (ob (X5_known Ia8) (fun u10 Ia11 => gd (hx ((14 : Int32) + v1) 240) (gd (hx ((14 : Int32) + v1) 240) (gd (hx (18 : Int32) 240) (ob (X5_ends (0 : Int32) v2 (3 : Int32) ((hu Ia11 113 (((14 : Int32) + v1)).toNatClampNeg ((Ia11 113 (((14 : Int32) + v1)).toNatClampNeg) - (1 : Int32))) 113 ((18 : Int32)).toNatClampNeg) (hu Ia11 113 (((14 : Int32) + v1)).toNatClampNeg ((Ia11 113 (((14 : Int32) + v1)).toNatClampNeg) - (1 : Int32)))) (fun u13 Ia14 => gd (hx ((14 : Int32) + v1) 240) (some ((Ia14 113 (((14 : Int32) + v1)).toNatClampNeg), Ia14)))))))))))))
theorem X5_pin_hy : yX5_pin.cls = RX5 ∧ yX5_pin.cls ≠ "java/lang/invoke/MethodHandle" ∧ yX5_pin.cls ≠ "java/lang/invoke/VarHandle" ∧ (parseMethodDescriptor yX5_pin.desc).map (fun d => d.parameters.length) = some 2 := by decide +kernel
theorem X5_pin_k70 : Cond.fieldLink RX5 70 "HatPinsModel" "slot" "[I" ∈ wsX5_pin := by decide +kernel
theorem X5_pin_w5 : ∀ w ∈ wsX50, w ∈ wsX5_pin := by decide +kernel
set_option maxHeartbeats 4000000 in
set_option maxRecDepth 100000 in
theorem X5_pin_ok {sh : List hS} {r : Int32} {I I2 : hM} {v1 : Int32} {v2 : Int32} (hf0 : hq_X5 sh) (h : X5_pin v1 v2 I = some (r, I2)) : hp_C yX5_pin wsX5_pin 2 0 0 sh I [.ref 92, .int v1, .int v2] (some (.int r)) sh I2 := hp_start (cc := cX5_pin) (maxL := 3) (ret := (some .int)) [(0, .ref 92), (1, .int v1), (2, .int v2)] (by decide) rfl (fun _ _ => rfl) (fun _ _ => Nat.le_of_ble_eq_true rfl) (fun p l e s m below meth c D E b z hX _ => by
  unfold X5_pin at h
  refine hj_aload_n hX rfl 0 rfl dX5_pin_0 ?_
  refine hj_iload_n hX rfl 1 rfl dX5_pin_1 ?_
  obtain ⟨u1, Ia2, hc3, h⟩ := ob_e h
  refine hj_callV hX (sh2 := sh) (I2 := Ia2) (r := (some (.int u1))) (As := [.int v1]) (rest := []) (st2 := [.int u1]) (X5_isLady_ok hf0 hc3) gX5_pin_X5_isLady rfl X5_isLady_hy ⟨(Nat.le_of_ble_eq_true rfl), (Nat.le_of_ble_eq_true rfl)⟩ rfl hf0.1 rfl (Nat.le_of_ble_eq_true rfl) ⟨(Nat.le_of_ble_eq_true rfl), (Nat.le_of_ble_eq_true rfl)⟩ rfl rfl rfl dX5_pin_2 ?_
  refine hj_if_eq hX (tgt := 16) (by decide) dX5_pin_5 h (fun h => ?_) (fun h => ?_)
  · refine hj_iconst hX (v := (-1 : Int32)) (by decide) dX5_pin_16 ?_
    exact hj_iret hX dX5_pin_17 h
  · refine hj_aload_n hX rfl 0 rfl dX5_pin_8 ?_
    refine hj_iload_n hX rfl 2 rfl dX5_pin_9 ?_
    obtain ⟨u4, Ia5, hc6, h⟩ := ob_e h
    refine hj_callV hX (sh2 := sh) (I2 := Ia5) (r := (some (.int u4))) (As := [.int v2]) (rest := []) (st2 := [.int u4]) (X5_isGoing_ok hf0 hc6) gX5_pin_X5_isGoing rfl X5_isGoing_hy ⟨(Nat.le_of_ble_eq_true rfl), (Nat.le_of_ble_eq_true rfl)⟩ rfl hf0.1 rfl (Nat.le_of_ble_eq_true rfl) ⟨(Nat.le_of_ble_eq_true rfl), (Nat.le_of_ble_eq_true rfl)⟩ rfl rfl rfl dX5_pin_10 ?_
    refine hj_if_ne hX (tgt := 18) (by decide) dX5_pin_13 h (fun h => ?_) (fun h => ?_)
    · refine hj_aload_n hX rfl 0 rfl dX5_pin_18 ?_
      refine hj_iconst hX (v := (0 : Int32)) (by decide) dX5_pin_19 ?_
      refine hj_iload_n hX rfl 1 rfl dX5_pin_20 ?_
      refine hj_iload_n hX rfl 2 rfl dX5_pin_21 ?_
      obtain ⟨u7, Ia8, hc9, h⟩ := ob_e h
      refine hj_callV hX (sh2 := sh) (I2 := Ia8) (r := (some (.int u7))) (As := [.int (0 : Int32), .int v1, .int v2]) (rest := []) (st2 := [.int u7]) (X5_canPin_ok hf0 hc9) gX5_pin_X5_canPin rfl X5_canPin_hy ⟨(Nat.le_of_ble_eq_true rfl), (Nat.le_of_ble_eq_true rfl)⟩ rfl hf0.1 rfl (Nat.le_of_ble_eq_true rfl) ⟨(Nat.le_of_ble_eq_true rfl), (Nat.le_of_ble_eq_true rfl)⟩ rfl rfl rfl dX5_pin_22 ?_
      refine hj_if_ne hX (tgt := 31) (by decide) dX5_pin_25 h (fun h => ?_) (fun h => ?_)
      · refine hj_aload_n hX rfl 0 rfl dX5_pin_31 ?_
        obtain ⟨u10, Ia11, hc12, h⟩ := ob_e h
        refine hj_callV hX (sh2 := sh) (I2 := Ia11) (r := none) (As := []) (rest := []) (st2 := []) (X5_known_ok hf0 hc12) gX5_pin_X5_known rfl X5_known_hy ⟨(Nat.le_of_ble_eq_true rfl), (Nat.le_of_ble_eq_true rfl)⟩ rfl hf0.1 rfl (Nat.le_of_ble_eq_true rfl) ⟨(Nat.le_of_ble_eq_true rfl), (Nat.le_of_ble_eq_true rfl)⟩ rfl rfl rfl dX5_pin_32 ?_
        refine hj_aload_n hX rfl 0 rfl dX5_pin_35 ?_
        refine hj_getr hX (j := 26) hf0.1 rfl rfl X5_pin_w5 (Nat.le_of_ble_eq_true rfl) rfl X5_pin_k70 dX5_pin_36 ?_
        refine hj_bipush hX (v := (14 : Int32)) (by decide) dX5_pin_39 ?_
        refine hj_iload_n hX rfl 1 rfl dX5_pin_41 ?_
        refine hj_iadd hX dX5_pin_42 ?_
        refine hj_dup2 hX rfl rfl dX5_pin_43 ?_
        refine hj_iald hX hf0.2.2.2.2.2.2.2.2.2.2.2.2.2.2.2.2.2.2.2.2.2.1 dX5_pin_44 h (fun h => ?_)
        refine hj_iconst hX (v := (1 : Int32)) (by decide) dX5_pin_45 ?_
        refine hj_isub hX dX5_pin_46 ?_
        refine hj_iast hX hf0.2.2.2.2.2.2.2.2.2.2.2.2.2.2.2.2.2.2.2.2.2.1 dX5_pin_47 h (fun h => ?_)
        refine hj_aload_n hX rfl 0 rfl dX5_pin_48 ?_
        refine hj_iconst hX (v := (0 : Int32)) (by decide) dX5_pin_49 ?_
        refine hj_iload_n hX rfl 2 rfl dX5_pin_50 ?_
        refine hj_iconst hX (v := (3 : Int32)) (by decide) dX5_pin_51 ?_
        refine hj_aload_n hX rfl 0 rfl dX5_pin_52 ?_
        refine hj_getr hX (j := 26) hf0.1 rfl rfl X5_pin_w5 (Nat.le_of_ble_eq_true rfl) rfl X5_pin_k70 dX5_pin_53 ?_
        refine hj_bipush hX (v := (18 : Int32)) (by decide) dX5_pin_56 ?_
        refine hj_iald hX hf0.2.2.2.2.2.2.2.2.2.2.2.2.2.2.2.2.2.2.2.2.2.1 dX5_pin_58 h (fun h => ?_)
        obtain ⟨u13, Ia14, hc15, h⟩ := ob_e h
        refine hj_callV hX (sh2 := sh) (I2 := Ia14) (r := none) (As := [.int (0 : Int32), .int v2, .int (3 : Int32), .int ((hu Ia11 113 (((14 : Int32) + v1)).toNatClampNeg ((Ia11 113 (((14 : Int32) + v1)).toNatClampNeg) - (1 : Int32))) 113 ((18 : Int32)).toNatClampNeg)]) (rest := []) (st2 := []) (X5_ends_ok hf0 hc15) gX5_pin_X5_ends rfl X5_ends_hy ⟨(Nat.le_of_ble_eq_true rfl), (Nat.le_of_ble_eq_true rfl)⟩ rfl hf0.1 rfl (Nat.le_of_ble_eq_true rfl) ⟨(Nat.le_of_ble_eq_true rfl), (Nat.le_of_ble_eq_true rfl)⟩ rfl rfl rfl dX5_pin_59 ?_
        refine hj_aload_n hX rfl 0 rfl dX5_pin_62 ?_
        refine hj_getr hX (j := 26) hf0.1 rfl rfl X5_pin_w5 (Nat.le_of_ble_eq_true rfl) rfl X5_pin_k70 dX5_pin_63 ?_
        refine hj_bipush hX (v := (14 : Int32)) (by decide) dX5_pin_66 ?_
        refine hj_iload_n hX rfl 1 rfl dX5_pin_68 ?_
        refine hj_iadd hX dX5_pin_69 ?_
        refine hj_iald hX hf0.2.2.2.2.2.2.2.2.2.2.2.2.2.2.2.2.2.2.2.2.2.1 dX5_pin_70 h (fun h => ?_)
        exact hj_iret hX dX5_pin_71 h
      · refine hj_bipush hX (v := (-2 : Int32)) (by decide) dX5_pin_28 ?_
        exact hj_iret hX dX5_pin_30 h
    · refine hj_iconst hX (v := (-1 : Int32)) (by decide) dX5_pin_16 ?_
      exact hj_iret hX dX5_pin_17 h)
def X5_lend (v1 : Int32) (v2 : Int32) (I : hM) : Option (Int32 × hM) := ob (X5_isLady v1 I) (fun u1 Ia2 => if u1 = 0 then (some ((-1 : Int32), Ia2)) else (ob (X5_isLady v2 Ia2) (fun u4 Ia5 => if u4 = 0 then (some ((-1 : Int32), Ia5)) else (if v1 = v2 then (some ((-1 : Int32), Ia5)) else (gd (hx ((14 : Int32) + v1) 240) (if (Ia5 113 (((14 : Int32) + v1)).toNatClampNeg) = 0 then (some ((-2 : Int32), Ia5)) else (gd (hx ((14 : Int32) + v2) 240) (if (Ia5 113 (((14 : Int32) + v2)).toNatClampNeg) = (9 : Int32) then (some ((-3 : Int32), Ia5)) else (ob (X5_known Ia5) (fun u7 Ia8 => gd (hx ((14 : Int32) + v1) 240) (gd (hx ((14 : Int32) + v1) 240) (gd (hx ((14 : Int32) + v2) 240) (gd (hx ((14 : Int32) + v2) 240) (gd (hx ((14 : Int32) + v2) 240) (some (((hu (hu Ia8 113 (((14 : Int32) + v1)).toNatClampNeg ((Ia8 113 (((14 : Int32) + v1)).toNatClampNeg) - (1 : Int32))) 113 (((14 : Int32) + v2)).toNatClampNeg (((hu Ia8 113 (((14 : Int32) + v1)).toNatClampNeg ((Ia8 113 (((14 : Int32) + v1)).toNatClampNeg) - (1 : Int32))) 113 (((14 : Int32) + v2)).toNatClampNeg) + (1 : Int32))) 113 (((14 : Int32) + v2)).toNatClampNeg), (hu (hu Ia8 113 (((14 : Int32) + v1)).toNatClampNeg ((Ia8 113 (((14 : Int32) + v1)).toNatClampNeg) - (1 : Int32))) 113 (((14 : Int32) + v2)).toNatClampNeg (((hu Ia8 113 (((14 : Int32) + v1)).toNatClampNeg ((Ia8 113 (((14 : Int32) + v1)).toNatClampNeg) - (1 : Int32))) 113 (((14 : Int32) + v2)).toNatClampNeg) + (1 : Int32)))))))))))))))))))
theorem X5_lend_hy : yX5_lend.cls = RX5 ∧ yX5_lend.cls ≠ "java/lang/invoke/MethodHandle" ∧ yX5_lend.cls ≠ "java/lang/invoke/VarHandle" ∧ (parseMethodDescriptor yX5_lend.desc).map (fun d => d.parameters.length) = some 2 := by decide +kernel
theorem X5_lend_k70 : Cond.fieldLink RX5 70 "HatPinsModel" "slot" "[I" ∈ wsX5_lend := by decide +kernel
theorem X5_lend_w5 : ∀ w ∈ wsX50, w ∈ wsX5_lend := by decide +kernel
set_option maxHeartbeats 4000000 in
set_option maxRecDepth 100000 in
theorem X5_lend_ok {sh : List hS} {r : Int32} {I I2 : hM} {v1 : Int32} {v2 : Int32} (hf0 : hq_X5 sh) (h : X5_lend v1 v2 I = some (r, I2)) : hp_C yX5_lend wsX5_lend 2 0 0 sh I [.ref 92, .int v1, .int v2] (some (.int r)) sh I2 := hp_start (cc := cX5_lend) (maxL := 3) (ret := (some .int)) [(0, .ref 92), (1, .int v1), (2, .int v2)] (by decide) rfl (fun _ _ => rfl) (fun _ _ => Nat.le_of_ble_eq_true rfl) (fun p l e s m below meth c D E b z hX _ => by
  unfold X5_lend at h
  refine hj_aload_n hX rfl 0 rfl dX5_lend_0 ?_
  refine hj_iload_n hX rfl 1 rfl dX5_lend_1 ?_
  obtain ⟨u1, Ia2, hc3, h⟩ := ob_e h
  refine hj_callV hX (sh2 := sh) (I2 := Ia2) (r := (some (.int u1))) (As := [.int v1]) (rest := []) (st2 := [.int u1]) (X5_isLady_ok hf0 hc3) gX5_lend_X5_isLady rfl X5_isLady_hy ⟨(Nat.le_of_ble_eq_true rfl), (Nat.le_of_ble_eq_true rfl)⟩ rfl hf0.1 rfl (Nat.le_of_ble_eq_true rfl) ⟨(Nat.le_of_ble_eq_true rfl), (Nat.le_of_ble_eq_true rfl)⟩ rfl rfl rfl dX5_lend_2 ?_
  refine hj_if_eq hX (tgt := 21) (by decide) dX5_lend_5 h (fun h => ?_) (fun h => ?_)
  · refine hj_iconst hX (v := (-1 : Int32)) (by decide) dX5_lend_21 ?_
    exact hj_iret hX dX5_lend_22 h
  · refine hj_aload_n hX rfl 0 rfl dX5_lend_8 ?_
    refine hj_iload_n hX rfl 2 rfl dX5_lend_9 ?_
    obtain ⟨u4, Ia5, hc6, h⟩ := ob_e h
    refine hj_callV hX (sh2 := sh) (I2 := Ia5) (r := (some (.int u4))) (As := [.int v2]) (rest := []) (st2 := [.int u4]) (X5_isLady_ok hf0 hc6) gX5_lend_X5_isLady rfl X5_isLady_hy ⟨(Nat.le_of_ble_eq_true rfl), (Nat.le_of_ble_eq_true rfl)⟩ rfl hf0.1 rfl (Nat.le_of_ble_eq_true rfl) ⟨(Nat.le_of_ble_eq_true rfl), (Nat.le_of_ble_eq_true rfl)⟩ rfl rfl rfl dX5_lend_10 ?_
    refine hj_if_eq hX (tgt := 21) (by decide) dX5_lend_13 h (fun h => ?_) (fun h => ?_)
    · refine hj_iconst hX (v := (-1 : Int32)) (by decide) dX5_lend_21 ?_
      exact hj_iret hX dX5_lend_22 h
    · refine hj_iload_n hX rfl 1 rfl dX5_lend_16 ?_
      refine hj_iload_n hX rfl 2 rfl dX5_lend_17 ?_
      refine hj_icmp_ne hX (tgt := 23) (by decide) dX5_lend_18 h (fun h => ?_) (fun h => ?_)
      · refine hj_aload_n hX rfl 0 rfl dX5_lend_23 ?_
        refine hj_getr hX (j := 26) hf0.1 rfl rfl X5_lend_w5 (Nat.le_of_ble_eq_true rfl) rfl X5_lend_k70 dX5_lend_24 ?_
        refine hj_bipush hX (v := (14 : Int32)) (by decide) dX5_lend_27 ?_
        refine hj_iload_n hX rfl 1 rfl dX5_lend_29 ?_
        refine hj_iadd hX dX5_lend_30 ?_
        refine hj_iald hX hf0.2.2.2.2.2.2.2.2.2.2.2.2.2.2.2.2.2.2.2.2.2.1 dX5_lend_31 h (fun h => ?_)
        refine hj_if_ne hX (tgt := 38) (by decide) dX5_lend_32 h (fun h => ?_) (fun h => ?_)
        · refine hj_aload_n hX rfl 0 rfl dX5_lend_38 ?_
          refine hj_getr hX (j := 26) hf0.1 rfl rfl X5_lend_w5 (Nat.le_of_ble_eq_true rfl) rfl X5_lend_k70 dX5_lend_39 ?_
          refine hj_bipush hX (v := (14 : Int32)) (by decide) dX5_lend_42 ?_
          refine hj_iload_n hX rfl 2 rfl dX5_lend_44 ?_
          refine hj_iadd hX dX5_lend_45 ?_
          refine hj_iald hX hf0.2.2.2.2.2.2.2.2.2.2.2.2.2.2.2.2.2.2.2.2.2.1 dX5_lend_46 h (fun h => ?_)
          refine hj_bipush hX (v := (9 : Int32)) (by decide) dX5_lend_47 ?_
          refine hj_icmp_ne hX (tgt := 55) (by decide) dX5_lend_49 h (fun h => ?_) (fun h => ?_)
          · refine hj_aload_n hX rfl 0 rfl dX5_lend_55 ?_
            obtain ⟨u7, Ia8, hc9, h⟩ := ob_e h
            refine hj_callV hX (sh2 := sh) (I2 := Ia8) (r := none) (As := []) (rest := []) (st2 := []) (X5_known_ok hf0 hc9) gX5_lend_X5_known rfl X5_known_hy ⟨(Nat.le_of_ble_eq_true rfl), (Nat.le_of_ble_eq_true rfl)⟩ rfl hf0.1 rfl (Nat.le_of_ble_eq_true rfl) ⟨(Nat.le_of_ble_eq_true rfl), (Nat.le_of_ble_eq_true rfl)⟩ rfl rfl rfl dX5_lend_56 ?_
            refine hj_aload_n hX rfl 0 rfl dX5_lend_59 ?_
            refine hj_getr hX (j := 26) hf0.1 rfl rfl X5_lend_w5 (Nat.le_of_ble_eq_true rfl) rfl X5_lend_k70 dX5_lend_60 ?_
            refine hj_bipush hX (v := (14 : Int32)) (by decide) dX5_lend_63 ?_
            refine hj_iload_n hX rfl 1 rfl dX5_lend_65 ?_
            refine hj_iadd hX dX5_lend_66 ?_
            refine hj_dup2 hX rfl rfl dX5_lend_67 ?_
            refine hj_iald hX hf0.2.2.2.2.2.2.2.2.2.2.2.2.2.2.2.2.2.2.2.2.2.1 dX5_lend_68 h (fun h => ?_)
            refine hj_iconst hX (v := (1 : Int32)) (by decide) dX5_lend_69 ?_
            refine hj_isub hX dX5_lend_70 ?_
            refine hj_iast hX hf0.2.2.2.2.2.2.2.2.2.2.2.2.2.2.2.2.2.2.2.2.2.1 dX5_lend_71 h (fun h => ?_)
            refine hj_aload_n hX rfl 0 rfl dX5_lend_72 ?_
            refine hj_getr hX (j := 26) hf0.1 rfl rfl X5_lend_w5 (Nat.le_of_ble_eq_true rfl) rfl X5_lend_k70 dX5_lend_73 ?_
            refine hj_bipush hX (v := (14 : Int32)) (by decide) dX5_lend_76 ?_
            refine hj_iload_n hX rfl 2 rfl dX5_lend_78 ?_
            refine hj_iadd hX dX5_lend_79 ?_
            refine hj_dup2 hX rfl rfl dX5_lend_80 ?_
            refine hj_iald hX hf0.2.2.2.2.2.2.2.2.2.2.2.2.2.2.2.2.2.2.2.2.2.1 dX5_lend_81 h (fun h => ?_)
            refine hj_iconst hX (v := (1 : Int32)) (by decide) dX5_lend_82 ?_
            refine hj_iadd hX dX5_lend_83 ?_
            refine hj_iast hX hf0.2.2.2.2.2.2.2.2.2.2.2.2.2.2.2.2.2.2.2.2.2.1 dX5_lend_84 h (fun h => ?_)
            refine hj_aload_n hX rfl 0 rfl dX5_lend_85 ?_
            refine hj_getr hX (j := 26) hf0.1 rfl rfl X5_lend_w5 (Nat.le_of_ble_eq_true rfl) rfl X5_lend_k70 dX5_lend_86 ?_
            refine hj_bipush hX (v := (14 : Int32)) (by decide) dX5_lend_89 ?_
            refine hj_iload_n hX rfl 2 rfl dX5_lend_91 ?_
            refine hj_iadd hX dX5_lend_92 ?_
            refine hj_iald hX hf0.2.2.2.2.2.2.2.2.2.2.2.2.2.2.2.2.2.2.2.2.2.1 dX5_lend_93 h (fun h => ?_)
            exact hj_iret hX dX5_lend_94 h
          · refine hj_bipush hX (v := (-3 : Int32)) (by decide) dX5_lend_52 ?_
            exact hj_iret hX dX5_lend_54 h
        · refine hj_bipush hX (v := (-2 : Int32)) (by decide) dX5_lend_35 ?_
          exact hj_iret hX dX5_lend_37 h
      · refine hj_iconst hX (v := (-1 : Int32)) (by decide) dX5_lend_21 ?_
        exact hj_iret hX dX5_lend_22 h)
def X5_undo (I : hM) : Option (Int32 × hM) := if (I 92 27) = 0 then (some ((-2 : Int32), I)) else (ob (X5_copies ((I 92 27) * (20 : Int32)) (0 : Int32) I) (fun u1 Ia2 => some (((hu Ia2 92 27 ((Ia2 92 27) - (1 : Int32))) 92 27), (hu Ia2 92 27 ((Ia2 92 27) - (1 : Int32))))))
theorem X5_undo_hy : yX5_undo.cls = RX5 ∧ yX5_undo.cls ≠ "java/lang/invoke/MethodHandle" ∧ yX5_undo.cls ≠ "java/lang/invoke/VarHandle" ∧ (parseMethodDescriptor yX5_undo.desc).map (fun d => d.parameters.length) = some 0 := by decide +kernel
theorem X5_undo_k176 : Cond.fieldLink RX5 176 "HatPinsModel" "acts" "I" ∈ wsX5_undo := by decide +kernel
theorem X5_undo_w5 : ∀ w ∈ wsX50, w ∈ wsX5_undo := by decide +kernel
set_option maxHeartbeats 4000000 in
set_option maxRecDepth 100000 in
theorem X5_undo_ok {sh : List hS} {r : Int32} {I I2 : hM} (hf0 : hq_X5 sh) (h : X5_undo I = some (r, I2)) : hp_C yX5_undo wsX5_undo 1 0 0 sh I [.ref 92] (some (.int r)) sh I2 := hp_start (cc := cX5_undo) (maxL := 1) (ret := (some .int)) [(0, .ref 92)] (by decide) rfl (fun _ _ => rfl) (fun _ _ => Nat.le_of_ble_eq_true rfl) (fun p l e s m below meth c D E b z hX _ => by
  unfold X5_undo at h
  refine hj_aload_n hX rfl 0 rfl dX5_undo_0 ?_
  refine hj_geti hX (j := 27) hf0.1 rfl rfl X5_undo_w5 (Nat.le_of_ble_eq_true rfl) rfl X5_undo_k176 dX5_undo_1 ?_
  refine hj_if_ne hX (tgt := 10) (by decide) dX5_undo_4 h (fun h => ?_) (fun h => ?_)
  · refine hj_aload_n hX rfl 0 rfl dX5_undo_10 ?_
    refine hj_aload_n hX rfl 0 rfl dX5_undo_11 ?_
    refine hj_geti hX (j := 27) hf0.1 rfl rfl X5_undo_w5 (Nat.le_of_ble_eq_true rfl) rfl X5_undo_k176 dX5_undo_12 ?_
    refine hj_bipush hX (v := (20 : Int32)) (by decide) dX5_undo_15 ?_
    refine hj_imul hX dX5_undo_17 ?_
    refine hj_iconst hX (v := (0 : Int32)) (by decide) dX5_undo_18 ?_
    obtain ⟨u1, Ia2, hc3, h⟩ := ob_e h
    refine hj_callV hX (sh2 := sh) (I2 := Ia2) (r := none) (As := [.int ((I 92 27) * (20 : Int32)), .int (0 : Int32)]) (rest := []) (st2 := []) (X5_copies_ok hf0 hc3) gX5_undo_X5_copies rfl X5_copies_hy ⟨(Nat.le_of_ble_eq_true rfl), (Nat.le_of_ble_eq_true rfl)⟩ rfl hf0.1 rfl (Nat.le_of_ble_eq_true rfl) ⟨(Nat.le_of_ble_eq_true rfl), (Nat.le_of_ble_eq_true rfl)⟩ rfl rfl rfl dX5_undo_19 ?_
    refine hj_aload_n hX rfl 0 rfl dX5_undo_22 ?_
    refine hj_dup hX rfl dX5_undo_23 ?_
    refine hj_geti hX (j := 27) hf0.1 rfl rfl X5_undo_w5 (Nat.le_of_ble_eq_true rfl) rfl X5_undo_k176 dX5_undo_24 ?_
    refine hj_iconst hX (v := (1 : Int32)) (by decide) dX5_undo_27 ?_
    refine hj_isub hX dX5_undo_28 ?_
    refine hj_puti hX (j := 27) hf0.1 rfl rfl X5_undo_w5 (Nat.le_of_ble_eq_true rfl) rfl X5_undo_k176 tyX5_ok nmX5 rfl (by decide +kernel) dX5_undo_29 ?_
    refine hj_aload_n hX rfl 0 rfl dX5_undo_32 ?_
    refine hj_geti hX (j := 27) hf0.1 rfl rfl X5_undo_w5 (Nat.le_of_ble_eq_true rfl) rfl X5_undo_k176 dX5_undo_33 ?_
    exact hj_iret hX dX5_undo_36 h
  · refine hj_bipush hX (v := (-2 : Int32)) (by decide) dX5_undo_7 ?_
    exact hj_iret hX dX5_undo_9 h)
def X5_behind (v1 : Int32) (v2 : Int32) (I : hM) : Option (Int32 × hM) := ob (X5_in (v1).toInt64 (0 : Int64) (60 : Int64) I) (fun u1 Ia2 => if u1 = 0 then (some ((-1 : Int32), Ia2)) else (ob (X5_in (v2).toInt64 (0 : Int64) (1 : Int64) Ia2) (fun u4 Ia5 => if u4 = 0 then (some ((-1 : Int32), Ia5)) else (ob (X5_copies (0 : Int32) (220 : Int32) Ia5) (fun u7 Ia8 => ob (X5_minutes (220 : Int32) v1 Ia8) (fun u10 Ia11 => if v2 = 0 then (gd (hx (239 : Int32) 240) (some (((Ia11 113 ((239 : Int32)).toNatClampNeg) + (10000 : Int32)), Ia11))) else (ob (X5_onNow (220 : Int32) Ia11) (fun u13 Ia14 => some (u13, Ia14)))))))))
theorem X5_behind_hy : yX5_behind.cls = RX5 ∧ yX5_behind.cls ≠ "java/lang/invoke/MethodHandle" ∧ yX5_behind.cls ≠ "java/lang/invoke/VarHandle" ∧ (parseMethodDescriptor yX5_behind.desc).map (fun d => d.parameters.length) = some 2 := by decide +kernel
theorem X5_behind_k70 : Cond.fieldLink RX5 70 "HatPinsModel" "slot" "[I" ∈ wsX5_behind := by decide +kernel
theorem X5_behind_mc242 : Cond.constantLong RX5 242 (60) ∈ wsX5_behind := by decide +kernel
theorem X5_behind_w5 : ∀ w ∈ wsX50, w ∈ wsX5_behind := by decide +kernel
set_option maxHeartbeats 4000000 in
set_option maxRecDepth 100000 in
theorem X5_behind_ok {sh : List hS} {r : Int32} {I I2 : hM} {v1 : Int32} {v2 : Int32} (hf0 : hq_X5 sh) (h : X5_behind v1 v2 I = some (r, I2)) : hp_C yX5_behind wsX5_behind 6 0 0 sh I [.ref 92, .int v1, .int v2] (some (.int r)) sh I2 := hp_start (cc := cX5_behind) (maxL := 3) (ret := (some .int)) [(0, .ref 92), (1, .int v1), (2, .int v2)] (by decide) rfl (fun _ _ => rfl) (fun _ _ => Nat.le_of_ble_eq_true rfl) (fun p l e s m below meth c D E b z hX _ => by
  unfold X5_behind at h
  refine hj_iload_n hX rfl 1 rfl dX5_behind_0 ?_
  refine hj_i2l hX dX5_behind_1 ?_
  refine hj_lconst hX (v := (0 : Int64)) (by decide) dX5_behind_2 ?_
  refine hj_ldc2 hX (v := (60 : Int64)) X5_behind_mc242 dX5_behind_3 ?_
  obtain ⟨u1, Ia2, hc3, h⟩ := ob_e h
  refine hj_callS hX (sh2 := sh) (I2 := Ia2) (r := (some (.int u1))) (As := [.long (v1).toInt64, .long (0 : Int64), .long (60 : Int64)]) (rest := []) (st2 := [.int u1]) (X5_in_ok hc3) gX5_behind_X5_in rfl X5_in_hy.2 ⟨(Nat.le_of_ble_eq_true rfl), (Nat.le_of_ble_eq_true rfl)⟩ rfl (Nat.le_of_ble_eq_true rfl) ⟨(Nat.le_of_ble_eq_true rfl), (Nat.le_of_ble_eq_true rfl)⟩ rfl rfl rfl dX5_behind_6 ?_
  refine hj_if_eq hX (tgt := 22) (by decide) dX5_behind_9 h (fun h => ?_) (fun h => ?_)
  · refine hj_iconst hX (v := (-1 : Int32)) (by decide) dX5_behind_22 ?_
    exact hj_iret hX dX5_behind_23 h
  · refine hj_iload_n hX rfl 2 rfl dX5_behind_12 ?_
    refine hj_i2l hX dX5_behind_13 ?_
    refine hj_lconst hX (v := (0 : Int64)) (by decide) dX5_behind_14 ?_
    refine hj_lconst hX (v := (1 : Int64)) (by decide) dX5_behind_15 ?_
    obtain ⟨u4, Ia5, hc6, h⟩ := ob_e h
    refine hj_callS hX (sh2 := sh) (I2 := Ia5) (r := (some (.int u4))) (As := [.long (v2).toInt64, .long (0 : Int64), .long (1 : Int64)]) (rest := []) (st2 := [.int u4]) (X5_in_ok hc6) gX5_behind_X5_in rfl X5_in_hy.2 ⟨(Nat.le_of_ble_eq_true rfl), (Nat.le_of_ble_eq_true rfl)⟩ rfl (Nat.le_of_ble_eq_true rfl) ⟨(Nat.le_of_ble_eq_true rfl), (Nat.le_of_ble_eq_true rfl)⟩ rfl rfl rfl dX5_behind_16 ?_
    refine hj_if_ne hX (tgt := 24) (by decide) dX5_behind_19 h (fun h => ?_) (fun h => ?_)
    · refine hj_aload_n hX rfl 0 rfl dX5_behind_24 ?_
      refine hj_iconst hX (v := (0 : Int32)) (by decide) dX5_behind_25 ?_
      refine hj_sipush hX (v := (220 : Int32)) (by decide) dX5_behind_26 ?_
      obtain ⟨u7, Ia8, hc9, h⟩ := ob_e h
      refine hj_callV hX (sh2 := sh) (I2 := Ia8) (r := none) (As := [.int (0 : Int32), .int (220 : Int32)]) (rest := []) (st2 := []) (X5_copies_ok hf0 hc9) gX5_behind_X5_copies rfl X5_copies_hy ⟨(Nat.le_of_ble_eq_true rfl), (Nat.le_of_ble_eq_true rfl)⟩ rfl hf0.1 rfl (Nat.le_of_ble_eq_true rfl) ⟨(Nat.le_of_ble_eq_true rfl), (Nat.le_of_ble_eq_true rfl)⟩ rfl rfl rfl dX5_behind_29 ?_
      refine hj_aload_n hX rfl 0 rfl dX5_behind_32 ?_
      refine hj_sipush hX (v := (220 : Int32)) (by decide) dX5_behind_33 ?_
      refine hj_iload_n hX rfl 1 rfl dX5_behind_36 ?_
      obtain ⟨u10, Ia11, hc12, h⟩ := ob_e h
      refine hj_callV hX (sh2 := sh) (I2 := Ia11) (r := none) (As := [.int (220 : Int32), .int v1]) (rest := []) (st2 := []) (X5_minutes_ok hf0 hc12) gX5_behind_X5_minutes rfl X5_minutes_hy ⟨(Nat.le_of_ble_eq_true rfl), (Nat.le_of_ble_eq_true rfl)⟩ rfl hf0.1 rfl (Nat.le_of_ble_eq_true rfl) ⟨(Nat.le_of_ble_eq_true rfl), (Nat.le_of_ble_eq_true rfl)⟩ rfl rfl rfl dX5_behind_37 ?_
      refine hj_iload_n hX rfl 2 rfl dX5_behind_40 ?_
      refine hj_if_ne hX (tgt := 59) (by decide) dX5_behind_41 h (fun h => ?_) (fun h => ?_)
      · refine hj_aload_n hX rfl 0 rfl dX5_behind_59 ?_
        refine hj_sipush hX (v := (220 : Int32)) (by decide) dX5_behind_60 ?_
        obtain ⟨u13, Ia14, hc15, h⟩ := ob_e h
        refine hj_callV hX (sh2 := sh) (I2 := Ia14) (r := (some (.int u13))) (As := [.int (220 : Int32)]) (rest := []) (st2 := [.int u13]) (X5_onNow_ok hf0 hc15) gX5_behind_X5_onNow rfl X5_onNow_hy ⟨(Nat.le_of_ble_eq_true rfl), (Nat.le_of_ble_eq_true rfl)⟩ rfl hf0.1 rfl (Nat.le_of_ble_eq_true rfl) ⟨(Nat.le_of_ble_eq_true rfl), (Nat.le_of_ble_eq_true rfl)⟩ rfl rfl rfl dX5_behind_63 ?_
        exact hj_iret hX dX5_behind_66 h
      · refine hj_aload_n hX rfl 0 rfl dX5_behind_44 ?_
        refine hj_getr hX (j := 26) hf0.1 rfl rfl X5_behind_w5 (Nat.le_of_ble_eq_true rfl) rfl X5_behind_k70 dX5_behind_45 ?_
        refine hj_sipush hX (v := (239 : Int32)) (by decide) dX5_behind_48 ?_
        refine hj_iald hX hf0.2.2.2.2.2.2.2.2.2.2.2.2.2.2.2.2.2.2.2.2.2.1 dX5_behind_51 h (fun h => ?_)
        refine hj_sipush hX (v := (10000 : Int32)) (by decide) dX5_behind_52 ?_
        refine hj_iadd hX dX5_behind_55 ?_
        refine hj_goto hX (tgt := 66) (by decide) dX5_behind_56 ?_
        exact hj_iret hX dX5_behind_66 h
    · refine hj_iconst hX (v := (-1 : Int32)) (by decide) dX5_behind_22 ?_
      exact hj_iret hX dX5_behind_23 h)
