def X0_clear (p0 : Nat) (I : hM) : Option (Int32 × hM) := some (0, (hu (hu (hu I p0 0 (0 : Int32)) p0 1 (0 : Int32)) p0 2 (0 : Int32)))
theorem X0_clear_hy : yX0_clear.cls = RX0 ∧ yX0_clear.cls ≠ "java/lang/invoke/MethodHandle" ∧ yX0_clear.cls ≠ "java/lang/invoke/VarHandle" ∧ (parseMethodDescriptor yX0_clear.desc).map (fun d => d.parameters.length) = some 0 := by decide +kernel
theorem X0_clear_k42 : Cond.fieldLink RX0 42 "HatPins$Evening" "goings" "I" ∈ wsX0_clear := by decide +kernel
theorem X0_clear_k46 : Cond.fieldLink RX0 46 "HatPins$Evening" "followings" "I" ∈ wsX0_clear := by decide +kernel
theorem X0_clear_k49 : Cond.fieldLink RX0 49 "HatPins$Evening" "ladies" "I" ∈ wsX0_clear := by decide +kernel
theorem X0_clear_w0 : ∀ w ∈ wsX00, w ∈ wsX0_clear := by decide +kernel
set_option maxHeartbeats 4000000 in
set_option maxRecDepth 100000 in
theorem X0_clear_ok {sh : List hS} {r : Int32} {I I2 : hM} {p0 : Nat} (hf0 : hq_X0 sh p0) (h : X0_clear p0 I = some (r, I2)) : hp_C yX0_clear wsX0_clear 0 0 0 sh I [.ref p0] none sh I2 := hp_start (cc := cX0_clear) (maxL := 1) (ret := none) [(0, .ref p0)] (by decide) rfl (fun _ _ => rfl) (fun _ _ => Nat.le_of_ble_eq_true rfl) (fun p l e s m below meth c D E b z hX _ => by
  unfold X0_clear at h
  refine hj_aload_n hX rfl 0 rfl dX0_clear_0 ?_
  refine hj_iconst hX (v := (0 : Int32)) (by decide) dX0_clear_1 ?_
  refine hj_puti hX (j := 0) hf0.1 rfl rfl X0_clear_w0 (Nat.le_of_ble_eq_true rfl) rfl X0_clear_k42 tyX0_ok nmX0 rfl (by decide +kernel) dX0_clear_2 ?_
  refine hj_aload_n hX rfl 0 rfl dX0_clear_5 ?_
  refine hj_iconst hX (v := (0 : Int32)) (by decide) dX0_clear_6 ?_
  refine hj_puti hX (j := 1) hf0.1 rfl rfl X0_clear_w0 (Nat.le_of_ble_eq_true rfl) rfl X0_clear_k46 tyX0_ok nmX0 rfl (by decide +kernel) dX0_clear_7 ?_
  refine hj_aload_n hX rfl 0 rfl dX0_clear_10 ?_
  refine hj_iconst hX (v := (0 : Int32)) (by decide) dX0_clear_11 ?_
  refine hj_puti hX (j := 2) hf0.1 rfl rfl X0_clear_w0 (Nat.le_of_ble_eq_true rfl) rfl X0_clear_k49 tyX0_ok nmX0 rfl (by decide +kernel) dX0_clear_12 ?_
  exact hj_vret hX dX0_clear_15 h)
def X0_addGoing_b38 (p0 p1 : Nat) (t0 : Int32) (I : hM) : Option (Int32 × hM) := gd (hx (0 : Int32) 5) (if (4 : Int32) ≤ (I p1 ((0 : Int32)).toNatClampNeg) then (gd (decide ((0 : Int32) = (0 : Int32)) || decide ((0 : Int32) = (1 : Int32))) (some ((0 : Int32), I))) else (if t0 = 0 then (gd (decide ((0 : Int32) = (0 : Int32)) || decide ((0 : Int32) = (1 : Int32))) (some ((0 : Int32), I))) else (gd (hx (2 : Int32) 5) (if (20 : Int32) < (I p1 ((2 : Int32)).toNatClampNeg) then (gd (decide ((0 : Int32) = (0 : Int32)) || decide ((0 : Int32) = (1 : Int32))) (some ((0 : Int32), I))) else (gd (hx (3 : Int32) 5) (if (I p1 ((3 : Int32)).toNatClampNeg) ≤ (5 : Int32) then (gd (hx (4 : Int32) 5) (if (I p1 ((4 : Int32)).toNatClampNeg) < (1 : Int32) then (gd (decide ((0 : Int32) = (0 : Int32)) || decide ((0 : Int32) = (1 : Int32))) (some ((0 : Int32), I))) else (gd (hx (4 : Int32) 5) (if (I p1 ((4 : Int32)).toNatClampNeg) ≤ (40 : Int32) then (gd (hx (0 : Int32) 5) (gd (hx (I p0 0) 7) (gd (hx (1 : Int32) 5) (gd (hx ((hu I (p0 + 1) ((I p0 0)).toNatClampNeg (I p1 ((0 : Int32)).toNatClampNeg)) p0 0) 7) (gd (hx (2 : Int32) 5) (gd (hx ((hu (hu I (p0 + 1) ((I p0 0)).toNatClampNeg (I p1 ((0 : Int32)).toNatClampNeg)) (p0 + 2) (((hu I (p0 + 1) ((I p0 0)).toNatClampNeg (I p1 ((0 : Int32)).toNatClampNeg)) p0 0)).toNatClampNeg ((hu I (p0 + 1) ((I p0 0)).toNatClampNeg (I p1 ((0 : Int32)).toNatClampNeg)) p1 ((1 : Int32)).toNatClampNeg)) p0 0) 7) (gd (hx (3 : Int32) 5) (gd (hx ((hu (hu (hu I (p0 + 1) ((I p0 0)).toNatClampNeg (I p1 ((0 : Int32)).toNatClampNeg)) (p0 + 2) (((hu I (p0 + 1) ((I p0 0)).toNatClampNeg (I p1 ((0 : Int32)).toNatClampNeg)) p0 0)).toNatClampNeg ((hu I (p0 + 1) ((I p0 0)).toNatClampNeg (I p1 ((0 : Int32)).toNatClampNeg)) p1 ((1 : Int32)).toNatClampNeg)) (p0 + 3) (((hu (hu I (p0 + 1) ((I p0 0)).toNatClampNeg (I p1 ((0 : Int32)).toNatClampNeg)) (p0 + 2) (((hu I (p0 + 1) ((I p0 0)).toNatClampNeg (I p1 ((0 : Int32)).toNatClampNeg)) p0 0)).toNatClampNeg ((hu I (p0 + 1) ((I p0 0)).toNatClampNeg (I p1 ((0 : Int32)).toNatClampNeg)) p1 ((1 : Int32)).toNatClampNeg)) p0 0)).toNatClampNeg ((hu (hu I (p0 + 1) ((I p0 0)).toNatClampNeg (I p1 ((0 : Int32)).toNatClampNeg)) (p0 + 2) (((hu I (p0 + 1) ((I p0 0)).toNatClampNeg (I p1 ((0 : Int32)).toNatClampNeg)) p0 0)).toNatClampNeg ((hu I (p0 + 1) ((I p0 0)).toNatClampNeg (I p1 ((0 : Int32)).toNatClampNeg)) p1 ((1 : Int32)).toNatClampNeg)) p1 ((2 : Int32)).toNatClampNeg)) p0 0) 7) (gd (hx (4 : Int32) 5) (gd (hx ((hu (hu (hu (hu I (p0 + 1) ((I p0 0)).toNatClampNeg (I p1 ((0 : Int32)).toNatClampNeg)) (p0 + 2) (((hu I (p0 + 1) ((I p0 0)).toNatClampNeg (I p1 ((0 : Int32)).toNatClampNeg)) p0 0)).toNatClampNeg ((hu I (p0 + 1) ((I p0 0)).toNatClampNeg (I p1 ((0 : Int32)).toNatClampNeg)) p1 ((1 : Int32)).toNatClampNeg)) (p0 + 3) (((hu (hu I (p0 + 1) ((I p0 0)).toNatClampNeg (I p1 ((0 : Int32)).toNatClampNeg)) (p0 + 2) (((hu I (p0 + 1) ((I p0 0)).toNatClampNeg (I p1 ((0 : Int32)).toNatClampNeg)) p0 0)).toNatClampNeg ((hu I (p0 + 1) ((I p0 0)).toNatClampNeg (I p1 ((0 : Int32)).toNatClampNeg)) p1 ((1 : Int32)).toNatClampNeg)) p0 0)).toNatClampNeg ((hu (hu I (p0 + 1) ((I p0 0)).toNatClampNeg (I p1 ((0 : Int32)).toNatClampNeg)) (p0 + 2) (((hu I (p0 + 1) ((I p0 0)).toNatClampNeg (I p1 ((0 : Int32)).toNatClampNeg)) p0 0)).toNatClampNeg ((hu I (p0 + 1) ((I p0 0)).toNatClampNeg (I p1 ((0 : Int32)).toNatClampNeg)) p1 ((1 : Int32)).toNatClampNeg)) p1 ((2 : Int32)).toNatClampNeg)) (p0 + 4) (((hu (hu (hu I (p0 + 1) ((I p0 0)).toNatClampNeg (I p1 ((0 : Int32)).toNatClampNeg)) (p0 + 2) (((hu I (p0 + 1) ((I p0 0)).toNatClampNeg (I p1 ((0 : Int32)).toNatClampNeg)) p0 0)).toNatClampNeg ((hu I (p0 + 1) ((I p0 0)).toNatClampNeg (I p1 ((0 : Int32)).toNatClampNeg)) p1 ((1 : Int32)).toNatClampNeg)) (p0 + 3) (((hu (hu I (p0 + 1) ((I p0 0)).toNatClampNeg (I p1 ((0 : Int32)).toNatClampNeg)) (p0 + 2) (((hu I (p0 + 1) ((I p0 0)).toNatClampNeg (I p1 ((0 : Int32)).toNatClampNeg)) p0 0)).toNatClampNeg ((hu I (p0 + 1) ((I p0 0)).toNatClampNeg (I p1 ((0 : Int32)).toNatClampNeg)) p1 ((1 : Int32)).toNatClampNeg)) p0 0)).toNatClampNeg ((hu (hu I (p0 + 1) ((I p0 0)).toNatClampNeg (I p1 ((0 : Int32)).toNatClampNeg)) (p0 + 2) (((hu I (p0 + 1) ((I p0 0)).toNatClampNeg (I p1 ((0 : Int32)).toNatClampNeg)) p0 0)).toNatClampNeg ((hu I (p0 + 1) ((I p0 0)).toNatClampNeg (I p1 ((0 : Int32)).toNatClampNeg)) p1 ((1 : Int32)).toNatClampNeg)) p1 ((2 : Int32)).toNatClampNeg)) p0 0)).toNatClampNeg ((hu (hu (hu I (p0 + 1) ((I p0 0)).toNatClampNeg (I p1 ((0 : Int32)).toNatClampNeg)) (p0 + 2) (((hu I (p0 + 1) ((I p0 0)).toNatClampNeg (I p1 ((0 : Int32)).toNatClampNeg)) p0 0)).toNatClampNeg ((hu I (p0 + 1) ((I p0 0)).toNatClampNeg (I p1 ((0 : Int32)).toNatClampNeg)) p1 ((1 : Int32)).toNatClampNeg)) (p0 + 3) (((hu (hu I (p0 + 1) ((I p0 0)).toNatClampNeg (I p1 ((0 : Int32)).toNatClampNeg)) (p0 + 2) (((hu I (p0 + 1) ((I p0 0)).toNatClampNeg (I p1 ((0 : Int32)).toNatClampNeg)) p0 0)).toNatClampNeg ((hu I (p0 + 1) ((I p0 0)).toNatClampNeg (I p1 ((0 : Int32)).toNatClampNeg)) p1 ((1 : Int32)).toNatClampNeg)) p0 0)).toNatClampNeg ((hu (hu I (p0 + 1) ((I p0 0)).toNatClampNeg (I p1 ((0 : Int32)).toNatClampNeg)) (p0 + 2) (((hu I (p0 + 1) ((I p0 0)).toNatClampNeg (I p1 ((0 : Int32)).toNatClampNeg)) p0 0)).toNatClampNeg ((hu I (p0 + 1) ((I p0 0)).toNatClampNeg (I p1 ((0 : Int32)).toNatClampNeg)) p1 ((1 : Int32)).toNatClampNeg)) p1 ((2 : Int32)).toNatClampNeg)) p1 ((3 : Int32)).toNatClampNeg)) p0 0) 7) (gd (decide ((1 : Int32) = (0 : Int32)) || decide ((1 : Int32) = (1 : Int32))) (some ((1 : Int32), (hu (hu (hu (hu (hu (hu I (p0 + 1) ((I p0 0)).toNatClampNeg (I p1 ((0 : Int32)).toNatClampNeg)) (p0 + 2) (((hu I (p0 + 1) ((I p0 0)).toNatClampNeg (I p1 ((0 : Int32)).toNatClampNeg)) p0 0)).toNatClampNeg ((hu I (p0 + 1) ((I p0 0)).toNatClampNeg (I p1 ((0 : Int32)).toNatClampNeg)) p1 ((1 : Int32)).toNatClampNeg)) (p0 + 3) (((hu (hu I (p0 + 1) ((I p0 0)).toNatClampNeg (I p1 ((0 : Int32)).toNatClampNeg)) (p0 + 2) (((hu I (p0 + 1) ((I p0 0)).toNatClampNeg (I p1 ((0 : Int32)).toNatClampNeg)) p0 0)).toNatClampNeg ((hu I (p0 + 1) ((I p0 0)).toNatClampNeg (I p1 ((0 : Int32)).toNatClampNeg)) p1 ((1 : Int32)).toNatClampNeg)) p0 0)).toNatClampNeg ((hu (hu I (p0 + 1) ((I p0 0)).toNatClampNeg (I p1 ((0 : Int32)).toNatClampNeg)) (p0 + 2) (((hu I (p0 + 1) ((I p0 0)).toNatClampNeg (I p1 ((0 : Int32)).toNatClampNeg)) p0 0)).toNatClampNeg ((hu I (p0 + 1) ((I p0 0)).toNatClampNeg (I p1 ((0 : Int32)).toNatClampNeg)) p1 ((1 : Int32)).toNatClampNeg)) p1 ((2 : Int32)).toNatClampNeg)) (p0 + 4) (((hu (hu (hu I (p0 + 1) ((I p0 0)).toNatClampNeg (I p1 ((0 : Int32)).toNatClampNeg)) (p0 + 2) (((hu I (p0 + 1) ((I p0 0)).toNatClampNeg (I p1 ((0 : Int32)).toNatClampNeg)) p0 0)).toNatClampNeg ((hu I (p0 + 1) ((I p0 0)).toNatClampNeg (I p1 ((0 : Int32)).toNatClampNeg)) p1 ((1 : Int32)).toNatClampNeg)) (p0 + 3) (((hu (hu I (p0 + 1) ((I p0 0)).toNatClampNeg (I p1 ((0 : Int32)).toNatClampNeg)) (p0 + 2) (((hu I (p0 + 1) ((I p0 0)).toNatClampNeg (I p1 ((0 : Int32)).toNatClampNeg)) p0 0)).toNatClampNeg ((hu I (p0 + 1) ((I p0 0)).toNatClampNeg (I p1 ((0 : Int32)).toNatClampNeg)) p1 ((1 : Int32)).toNatClampNeg)) p0 0)).toNatClampNeg ((hu (hu I (p0 + 1) ((I p0 0)).toNatClampNeg (I p1 ((0 : Int32)).toNatClampNeg)) (p0 + 2) (((hu I (p0 + 1) ((I p0 0)).toNatClampNeg (I p1 ((0 : Int32)).toNatClampNeg)) p0 0)).toNatClampNeg ((hu I (p0 + 1) ((I p0 0)).toNatClampNeg (I p1 ((0 : Int32)).toNatClampNeg)) p1 ((1 : Int32)).toNatClampNeg)) p1 ((2 : Int32)).toNatClampNeg)) p0 0)).toNatClampNeg ((hu (hu (hu I (p0 + 1) ((I p0 0)).toNatClampNeg (I p1 ((0 : Int32)).toNatClampNeg)) (p0 + 2) (((hu I (p0 + 1) ((I p0 0)).toNatClampNeg (I p1 ((0 : Int32)).toNatClampNeg)) p0 0)).toNatClampNeg ((hu I (p0 + 1) ((I p0 0)).toNatClampNeg (I p1 ((0 : Int32)).toNatClampNeg)) p1 ((1 : Int32)).toNatClampNeg)) (p0 + 3) (((hu (hu I (p0 + 1) ((I p0 0)).toNatClampNeg (I p1 ((0 : Int32)).toNatClampNeg)) (p0 + 2) (((hu I (p0 + 1) ((I p0 0)).toNatClampNeg (I p1 ((0 : Int32)).toNatClampNeg)) p0 0)).toNatClampNeg ((hu I (p0 + 1) ((I p0 0)).toNatClampNeg (I p1 ((0 : Int32)).toNatClampNeg)) p1 ((1 : Int32)).toNatClampNeg)) p0 0)).toNatClampNeg ((hu (hu I (p0 + 1) ((I p0 0)).toNatClampNeg (I p1 ((0 : Int32)).toNatClampNeg)) (p0 + 2) (((hu I (p0 + 1) ((I p0 0)).toNatClampNeg (I p1 ((0 : Int32)).toNatClampNeg)) p0 0)).toNatClampNeg ((hu I (p0 + 1) ((I p0 0)).toNatClampNeg (I p1 ((0 : Int32)).toNatClampNeg)) p1 ((1 : Int32)).toNatClampNeg)) p1 ((2 : Int32)).toNatClampNeg)) p1 ((3 : Int32)).toNatClampNeg)) (p0 + 5) (((hu (hu (hu (hu I (p0 + 1) ((I p0 0)).toNatClampNeg (I p1 ((0 : Int32)).toNatClampNeg)) (p0 + 2) (((hu I (p0 + 1) ((I p0 0)).toNatClampNeg (I p1 ((0 : Int32)).toNatClampNeg)) p0 0)).toNatClampNeg ((hu I (p0 + 1) ((I p0 0)).toNatClampNeg (I p1 ((0 : Int32)).toNatClampNeg)) p1 ((1 : Int32)).toNatClampNeg)) (p0 + 3) (((hu (hu I (p0 + 1) ((I p0 0)).toNatClampNeg (I p1 ((0 : Int32)).toNatClampNeg)) (p0 + 2) (((hu I (p0 + 1) ((I p0 0)).toNatClampNeg (I p1 ((0 : Int32)).toNatClampNeg)) p0 0)).toNatClampNeg ((hu I (p0 + 1) ((I p0 0)).toNatClampNeg (I p1 ((0 : Int32)).toNatClampNeg)) p1 ((1 : Int32)).toNatClampNeg)) p0 0)).toNatClampNeg ((hu (hu I (p0 + 1) ((I p0 0)).toNatClampNeg (I p1 ((0 : Int32)).toNatClampNeg)) (p0 + 2) (((hu I (p0 + 1) ((I p0 0)).toNatClampNeg (I p1 ((0 : Int32)).toNatClampNeg)) p0 0)).toNatClampNeg ((hu I (p0 + 1) ((I p0 0)).toNatClampNeg (I p1 ((0 : Int32)).toNatClampNeg)) p1 ((1 : Int32)).toNatClampNeg)) p1 ((2 : Int32)).toNatClampNeg)) (p0 + 4) (((hu (hu (hu I (p0 + 1) ((I p0 0)).toNatClampNeg (I p1 ((0 : Int32)).toNatClampNeg)) (p0 + 2) (((hu I (p0 + 1) ((I p0 0)).toNatClampNeg (I p1 ((0 : Int32)).toNatClampNeg)) p0 0)).toNatClampNeg ((hu I (p0 + 1) ((I p0 0)).toNatClampNeg (I p1 ((0 : Int32)).toNatClampNeg)) p1 ((1 : Int32)).toNatClampNeg)) (p0 + 3) (((hu (hu I (p0 + 1) ((I p0 0)).toNatClampNeg (I p1 ((0 : Int32)).toNatClampNeg)) (p0 + 2) (((hu I (p0 + 1) ((I p0 0)).toNatClampNeg (I p1 ((0 : Int32)).toNatClampNeg)) p0 0)).toNatClampNeg ((hu I (p0 + 1) ((I p0 0)).toNatClampNeg (I p1 ((0 : Int32)).toNatClampNeg)) p1 ((1 : Int32)).toNatClampNeg)) p0 0)).toNatClampNeg ((hu (hu I (p0 + 1) ((I p0 0)).toNatClampNeg (I p1 ((0 : Int32)).toNatClampNeg)) (p0 + 2) (((hu I (p0 + 1) ((I p0 0)).toNatClampNeg (I p1 ((0 : Int32)).toNatClampNeg)) p0 0)).toNatClampNeg ((hu I (p0 + 1) ((I p0 0)).toNatClampNeg (I p1 ((0 : Int32)).toNatClampNeg)) p1 ((1 : Int32)).toNatClampNeg)) p1 ((2 : Int32)).toNatClampNeg)) p0 0)).toNatClampNeg ((hu (hu (hu I (p0 + 1) ((I p0 0)).toNatClampNeg (I p1 ((0 : Int32)).toNatClampNeg)) (p0 + 2) (((hu I (p0 + 1) ((I p0 0)).toNatClampNeg (I p1 ((0 : Int32)).toNatClampNeg)) p0 0)).toNatClampNeg ((hu I (p0 + 1) ((I p0 0)).toNatClampNeg (I p1 ((0 : Int32)).toNatClampNeg)) p1 ((1 : Int32)).toNatClampNeg)) (p0 + 3) (((hu (hu I (p0 + 1) ((I p0 0)).toNatClampNeg (I p1 ((0 : Int32)).toNatClampNeg)) (p0 + 2) (((hu I (p0 + 1) ((I p0 0)).toNatClampNeg (I p1 ((0 : Int32)).toNatClampNeg)) p0 0)).toNatClampNeg ((hu I (p0 + 1) ((I p0 0)).toNatClampNeg (I p1 ((0 : Int32)).toNatClampNeg)) p1 ((1 : Int32)).toNatClampNeg)) p0 0)).toNatClampNeg ((hu (hu I (p0 + 1) ((I p0 0)).toNatClampNeg (I p1 ((0 : Int32)).toNatClampNeg)) (p0 + 2) (((hu I (p0 + 1) ((I p0 0)).toNatClampNeg (I p1 ((0 : Int32)).toNatClampNeg)) p0 0)).toNatClampNeg ((hu I (p0 + 1) ((I p0 0)).toNatClampNeg (I p1 ((0 : Int32)).toNatClampNeg)) p1 ((1 : Int32)).toNatClampNeg)) p1 ((2 : Int32)).toNatClampNeg)) p1 ((3 : Int32)).toNatClampNeg)) p0 0)).toNatClampNeg ((hu (hu (hu (hu I (p0 + 1) ((I p0 0)).toNatClampNeg (I p1 ((0 : Int32)).toNatClampNeg)) (p0 + 2) (((hu I (p0 + 1) ((I p0 0)).toNatClampNeg (I p1 ((0 : Int32)).toNatClampNeg)) p0 0)).toNatClampNeg ((hu I (p0 + 1) ((I p0 0)).toNatClampNeg (I p1 ((0 : Int32)).toNatClampNeg)) p1 ((1 : Int32)).toNatClampNeg)) (p0 + 3) (((hu (hu I (p0 + 1) ((I p0 0)).toNatClampNeg (I p1 ((0 : Int32)).toNatClampNeg)) (p0 + 2) (((hu I (p0 + 1) ((I p0 0)).toNatClampNeg (I p1 ((0 : Int32)).toNatClampNeg)) p0 0)).toNatClampNeg ((hu I (p0 + 1) ((I p0 0)).toNatClampNeg (I p1 ((0 : Int32)).toNatClampNeg)) p1 ((1 : Int32)).toNatClampNeg)) p0 0)).toNatClampNeg ((hu (hu I (p0 + 1) ((I p0 0)).toNatClampNeg (I p1 ((0 : Int32)).toNatClampNeg)) (p0 + 2) (((hu I (p0 + 1) ((I p0 0)).toNatClampNeg (I p1 ((0 : Int32)).toNatClampNeg)) p0 0)).toNatClampNeg ((hu I (p0 + 1) ((I p0 0)).toNatClampNeg (I p1 ((0 : Int32)).toNatClampNeg)) p1 ((1 : Int32)).toNatClampNeg)) p1 ((2 : Int32)).toNatClampNeg)) (p0 + 4) (((hu (hu (hu I (p0 + 1) ((I p0 0)).toNatClampNeg (I p1 ((0 : Int32)).toNatClampNeg)) (p0 + 2) (((hu I (p0 + 1) ((I p0 0)).toNatClampNeg (I p1 ((0 : Int32)).toNatClampNeg)) p0 0)).toNatClampNeg ((hu I (p0 + 1) ((I p0 0)).toNatClampNeg (I p1 ((0 : Int32)).toNatClampNeg)) p1 ((1 : Int32)).toNatClampNeg)) (p0 + 3) (((hu (hu I (p0 + 1) ((I p0 0)).toNatClampNeg (I p1 ((0 : Int32)).toNatClampNeg)) (p0 + 2) (((hu I (p0 + 1) ((I p0 0)).toNatClampNeg (I p1 ((0 : Int32)).toNatClampNeg)) p0 0)).toNatClampNeg ((hu I (p0 + 1) ((I p0 0)).toNatClampNeg (I p1 ((0 : Int32)).toNatClampNeg)) p1 ((1 : Int32)).toNatClampNeg)) p0 0)).toNatClampNeg ((hu (hu I (p0 + 1) ((I p0 0)).toNatClampNeg (I p1 ((0 : Int32)).toNatClampNeg)) (p0 + 2) (((hu I (p0 + 1) ((I p0 0)).toNatClampNeg (I p1 ((0 : Int32)).toNatClampNeg)) p0 0)).toNatClampNeg ((hu I (p0 + 1) ((I p0 0)).toNatClampNeg (I p1 ((0 : Int32)).toNatClampNeg)) p1 ((1 : Int32)).toNatClampNeg)) p1 ((2 : Int32)).toNatClampNeg)) p0 0)).toNatClampNeg ((hu (hu (hu I (p0 + 1) ((I p0 0)).toNatClampNeg (I p1 ((0 : Int32)).toNatClampNeg)) (p0 + 2) (((hu I (p0 + 1) ((I p0 0)).toNatClampNeg (I p1 ((0 : Int32)).toNatClampNeg)) p0 0)).toNatClampNeg ((hu I (p0 + 1) ((I p0 0)).toNatClampNeg (I p1 ((0 : Int32)).toNatClampNeg)) p1 ((1 : Int32)).toNatClampNeg)) (p0 + 3) (((hu (hu I (p0 + 1) ((I p0 0)).toNatClampNeg (I p1 ((0 : Int32)).toNatClampNeg)) (p0 + 2) (((hu I (p0 + 1) ((I p0 0)).toNatClampNeg (I p1 ((0 : Int32)).toNatClampNeg)) p0 0)).toNatClampNeg ((hu I (p0 + 1) ((I p0 0)).toNatClampNeg (I p1 ((0 : Int32)).toNatClampNeg)) p1 ((1 : Int32)).toNatClampNeg)) p0 0)).toNatClampNeg ((hu (hu I (p0 + 1) ((I p0 0)).toNatClampNeg (I p1 ((0 : Int32)).toNatClampNeg)) (p0 + 2) (((hu I (p0 + 1) ((I p0 0)).toNatClampNeg (I p1 ((0 : Int32)).toNatClampNeg)) p0 0)).toNatClampNeg ((hu I (p0 + 1) ((I p0 0)).toNatClampNeg (I p1 ((0 : Int32)).toNatClampNeg)) p1 ((1 : Int32)).toNatClampNeg)) p1 ((2 : Int32)).toNatClampNeg)) p1 ((3 : Int32)).toNatClampNeg)) p1 ((4 : Int32)).toNatClampNeg)) p0 0 (((hu (hu (hu (hu (hu I (p0 + 1) ((I p0 0)).toNatClampNeg (I p1 ((0 : Int32)).toNatClampNeg)) (p0 + 2) (((hu I (p0 + 1) ((I p0 0)).toNatClampNeg (I p1 ((0 : Int32)).toNatClampNeg)) p0 0)).toNatClampNeg ((hu I (p0 + 1) ((I p0 0)).toNatClampNeg (I p1 ((0 : Int32)).toNatClampNeg)) p1 ((1 : Int32)).toNatClampNeg)) (p0 + 3) (((hu (hu I (p0 + 1) ((I p0 0)).toNatClampNeg (I p1 ((0 : Int32)).toNatClampNeg)) (p0 + 2) (((hu I (p0 + 1) ((I p0 0)).toNatClampNeg (I p1 ((0 : Int32)).toNatClampNeg)) p0 0)).toNatClampNeg ((hu I (p0 + 1) ((I p0 0)).toNatClampNeg (I p1 ((0 : Int32)).toNatClampNeg)) p1 ((1 : Int32)).toNatClampNeg)) p0 0)).toNatClampNeg ((hu (hu I (p0 + 1) ((I p0 0)).toNatClampNeg (I p1 ((0 : Int32)).toNatClampNeg)) (p0 + 2) (((hu I (p0 + 1) ((I p0 0)).toNatClampNeg (I p1 ((0 : Int32)).toNatClampNeg)) p0 0)).toNatClampNeg ((hu I (p0 + 1) ((I p0 0)).toNatClampNeg (I p1 ((0 : Int32)).toNatClampNeg)) p1 ((1 : Int32)).toNatClampNeg)) p1 ((2 : Int32)).toNatClampNeg)) (p0 + 4) (((hu (hu (hu I (p0 + 1) ((I p0 0)).toNatClampNeg (I p1 ((0 : Int32)).toNatClampNeg)) (p0 + 2) (((hu I (p0 + 1) ((I p0 0)).toNatClampNeg (I p1 ((0 : Int32)).toNatClampNeg)) p0 0)).toNatClampNeg ((hu I (p0 + 1) ((I p0 0)).toNatClampNeg (I p1 ((0 : Int32)).toNatClampNeg)) p1 ((1 : Int32)).toNatClampNeg)) (p0 + 3) (((hu (hu I (p0 + 1) ((I p0 0)).toNatClampNeg (I p1 ((0 : Int32)).toNatClampNeg)) (p0 + 2) (((hu I (p0 + 1) ((I p0 0)).toNatClampNeg (I p1 ((0 : Int32)).toNatClampNeg)) p0 0)).toNatClampNeg ((hu I (p0 + 1) ((I p0 0)).toNatClampNeg (I p1 ((0 : Int32)).toNatClampNeg)) p1 ((1 : Int32)).toNatClampNeg)) p0 0)).toNatClampNeg ((hu (hu I (p0 + 1) ((I p0 0)).toNatClampNeg (I p1 ((0 : Int32)).toNatClampNeg)) (p0 + 2) (((hu I (p0 + 1) ((I p0 0)).toNatClampNeg (I p1 ((0 : Int32)).toNatClampNeg)) p0 0)).toNatClampNeg ((hu I (p0 + 1) ((I p0 0)).toNatClampNeg (I p1 ((0 : Int32)).toNatClampNeg)) p1 ((1 : Int32)).toNatClampNeg)) p1 ((2 : Int32)).toNatClampNeg)) p0 0)).toNatClampNeg ((hu (hu (hu I (p0 + 1) ((I p0 0)).toNatClampNeg (I p1 ((0 : Int32)).toNatClampNeg)) (p0 + 2) (((hu I (p0 + 1) ((I p0 0)).toNatClampNeg (I p1 ((0 : Int32)).toNatClampNeg)) p0 0)).toNatClampNeg ((hu I (p0 + 1) ((I p0 0)).toNatClampNeg (I p1 ((0 : Int32)).toNatClampNeg)) p1 ((1 : Int32)).toNatClampNeg)) (p0 + 3) (((hu (hu I (p0 + 1) ((I p0 0)).toNatClampNeg (I p1 ((0 : Int32)).toNatClampNeg)) (p0 + 2) (((hu I (p0 + 1) ((I p0 0)).toNatClampNeg (I p1 ((0 : Int32)).toNatClampNeg)) p0 0)).toNatClampNeg ((hu I (p0 + 1) ((I p0 0)).toNatClampNeg (I p1 ((0 : Int32)).toNatClampNeg)) p1 ((1 : Int32)).toNatClampNeg)) p0 0)).toNatClampNeg ((hu (hu I (p0 + 1) ((I p0 0)).toNatClampNeg (I p1 ((0 : Int32)).toNatClampNeg)) (p0 + 2) (((hu I (p0 + 1) ((I p0 0)).toNatClampNeg (I p1 ((0 : Int32)).toNatClampNeg)) p0 0)).toNatClampNeg ((hu I (p0 + 1) ((I p0 0)).toNatClampNeg (I p1 ((0 : Int32)).toNatClampNeg)) p1 ((1 : Int32)).toNatClampNeg)) p1 ((2 : Int32)).toNatClampNeg)) p1 ((3 : Int32)).toNatClampNeg)) (p0 + 5) (((hu (hu (hu (hu I (p0 + 1) ((I p0 0)).toNatClampNeg (I p1 ((0 : Int32)).toNatClampNeg)) (p0 + 2) (((hu I (p0 + 1) ((I p0 0)).toNatClampNeg (I p1 ((0 : Int32)).toNatClampNeg)) p0 0)).toNatClampNeg ((hu I (p0 + 1) ((I p0 0)).toNatClampNeg (I p1 ((0 : Int32)).toNatClampNeg)) p1 ((1 : Int32)).toNatClampNeg)) (p0 + 3) (((hu (hu I (p0 + 1) ((I p0 0)).toNatClampNeg (I p1 ((0 : Int32)).toNatClampNeg)) (p0 + 2) (((hu I (p0 + 1) ((I p0 0)).toNatClampNeg (I p1 ((0 : Int32)).toNatClampNeg)) p0 0)).toNatClampNeg ((hu I (p0 + 1) ((I p0 0)).toNatClampNeg (I p1 ((0 : Int32)).toNatClampNeg)) p1 ((1 : Int32)).toNatClampNeg)) p0 0)).toNatClampNeg ((hu (hu I (p0 + 1) ((I p0 0)).toNatClampNeg (I p1 ((0 : Int32)).toNatClampNeg)) (p0 + 2) (((hu I (p0 + 1) ((I p0 0)).toNatClampNeg (I p1 ((0 : Int32)).toNatClampNeg)) p0 0)).toNatClampNeg ((hu I (p0 + 1) ((I p0 0)).toNatClampNeg (I p1 ((0 : Int32)).toNatClampNeg)) p1 ((1 : Int32)).toNatClampNeg)) p1 ((2 : Int32)).toNatClampNeg)) (p0 + 4) (((hu (hu (hu I (p0 + 1) ((I p0 0)).toNatClampNeg (I p1 ((0 : Int32)).toNatClampNeg)) (p0 + 2) (((hu I (p0 + 1) ((I p0 0)).toNatClampNeg (I p1 ((0 : Int32)).toNatClampNeg)) p0 0)).toNatClampNeg ((hu I (p0 + 1) ((I p0 0)).toNatClampNeg (I p1 ((0 : Int32)).toNatClampNeg)) p1 ((1 : Int32)).toNatClampNeg)) (p0 + 3) (((hu (hu I (p0 + 1) ((I p0 0)).toNatClampNeg (I p1 ((0 : Int32)).toNatClampNeg)) (p0 + 2) (((hu I (p0 + 1) ((I p0 0)).toNatClampNeg (I p1 ((0 : Int32)).toNatClampNeg)) p0 0)).toNatClampNeg ((hu I (p0 + 1) ((I p0 0)).toNatClampNeg (I p1 ((0 : Int32)).toNatClampNeg)) p1 ((1 : Int32)).toNatClampNeg)) p0 0)).toNatClampNeg ((hu (hu I (p0 + 1) ((I p0 0)).toNatClampNeg (I p1 ((0 : Int32)).toNatClampNeg)) (p0 + 2) (((hu I (p0 + 1) ((I p0 0)).toNatClampNeg (I p1 ((0 : Int32)).toNatClampNeg)) p0 0)).toNatClampNeg ((hu I (p0 + 1) ((I p0 0)).toNatClampNeg (I p1 ((0 : Int32)).toNatClampNeg)) p1 ((1 : Int32)).toNatClampNeg)) p1 ((2 : Int32)).toNatClampNeg)) p0 0)).toNatClampNeg ((hu (hu (hu I (p0 + 1) ((I p0 0)).toNatClampNeg (I p1 ((0 : Int32)).toNatClampNeg)) (p0 + 2) (((hu I (p0 + 1) ((I p0 0)).toNatClampNeg (I p1 ((0 : Int32)).toNatClampNeg)) p0 0)).toNatClampNeg ((hu I (p0 + 1) ((I p0 0)).toNatClampNeg (I p1 ((0 : Int32)).toNatClampNeg)) p1 ((1 : Int32)).toNatClampNeg)) (p0 + 3) (((hu (hu I (p0 + 1) ((I p0 0)).toNatClampNeg (I p1 ((0 : Int32)).toNatClampNeg)) (p0 + 2) (((hu I (p0 + 1) ((I p0 0)).toNatClampNeg (I p1 ((0 : Int32)).toNatClampNeg)) p0 0)).toNatClampNeg ((hu I (p0 + 1) ((I p0 0)).toNatClampNeg (I p1 ((0 : Int32)).toNatClampNeg)) p1 ((1 : Int32)).toNatClampNeg)) p0 0)).toNatClampNeg ((hu (hu I (p0 + 1) ((I p0 0)).toNatClampNeg (I p1 ((0 : Int32)).toNatClampNeg)) (p0 + 2) (((hu I (p0 + 1) ((I p0 0)).toNatClampNeg (I p1 ((0 : Int32)).toNatClampNeg)) p0 0)).toNatClampNeg ((hu I (p0 + 1) ((I p0 0)).toNatClampNeg (I p1 ((0 : Int32)).toNatClampNeg)) p1 ((1 : Int32)).toNatClampNeg)) p1 ((2 : Int32)).toNatClampNeg)) p1 ((3 : Int32)).toNatClampNeg)) p0 0)).toNatClampNeg ((hu (hu (hu (hu I (p0 + 1) ((I p0 0)).toNatClampNeg (I p1 ((0 : Int32)).toNatClampNeg)) (p0 + 2) (((hu I (p0 + 1) ((I p0 0)).toNatClampNeg (I p1 ((0 : Int32)).toNatClampNeg)) p0 0)).toNatClampNeg ((hu I (p0 + 1) ((I p0 0)).toNatClampNeg (I p1 ((0 : Int32)).toNatClampNeg)) p1 ((1 : Int32)).toNatClampNeg)) (p0 + 3) (((hu (hu I (p0 + 1) ((I p0 0)).toNatClampNeg (I p1 ((0 : Int32)).toNatClampNeg)) (p0 + 2) (((hu I (p0 + 1) ((I p0 0)).toNatClampNeg (I p1 ((0 : Int32)).toNatClampNeg)) p0 0)).toNatClampNeg ((hu I (p0 + 1) ((I p0 0)).toNatClampNeg (I p1 ((0 : Int32)).toNatClampNeg)) p1 ((1 : Int32)).toNatClampNeg)) p0 0)).toNatClampNeg ((hu (hu I (p0 + 1) ((I p0 0)).toNatClampNeg (I p1 ((0 : Int32)).toNatClampNeg)) (p0 + 2) (((hu I (p0 + 1) ((I p0 0)).toNatClampNeg (I p1 ((0 : Int32)).toNatClampNeg)) p0 0)).toNatClampNeg ((hu I (p0 + 1) ((I p0 0)).toNatClampNeg (I p1 ((0 : Int32)).toNatClampNeg)) p1 ((1 : Int32)).toNatClampNeg)) p1 ((2 : Int32)).toNatClampNeg)) (p0 + 4) (((hu (hu (hu I (p0 + 1) ((I p0 0)).toNatClampNeg (I p1 ((0 : Int32)).toNatClampNeg)) (p0 + 2) (((hu I (p0 + 1) ((I p0 0)).toNatClampNeg (I p1 ((0 : Int32)).toNatClampNeg)) p0 0)).toNatClampNeg ((hu I (p0 + 1) ((I p0 0)).toNatClampNeg (I p1 ((0 : Int32)).toNatClampNeg)) p1 ((1 : Int32)).toNatClampNeg)) (p0 + 3) (((hu (hu I (p0 + 1) ((I p0 0)).toNatClampNeg (I p1 ((0 : Int32)).toNatClampNeg)) (p0 + 2) (((hu I (p0 + 1) ((I p0 0)).toNatClampNeg (I p1 ((0 : Int32)).toNatClampNeg)) p0 0)).toNatClampNeg ((hu I (p0 + 1) ((I p0 0)).toNatClampNeg (I p1 ((0 : Int32)).toNatClampNeg)) p1 ((1 : Int32)).toNatClampNeg)) p0 0)).toNatClampNeg ((hu (hu I (p0 + 1) ((I p0 0)).toNatClampNeg (I p1 ((0 : Int32)).toNatClampNeg)) (p0 + 2) (((hu I (p0 + 1) ((I p0 0)).toNatClampNeg (I p1 ((0 : Int32)).toNatClampNeg)) p0 0)).toNatClampNeg ((hu I (p0 + 1) ((I p0 0)).toNatClampNeg (I p1 ((0 : Int32)).toNatClampNeg)) p1 ((1 : Int32)).toNatClampNeg)) p1 ((2 : Int32)).toNatClampNeg)) p0 0)).toNatClampNeg ((hu (hu (hu I (p0 + 1) ((I p0 0)).toNatClampNeg (I p1 ((0 : Int32)).toNatClampNeg)) (p0 + 2) (((hu I (p0 + 1) ((I p0 0)).toNatClampNeg (I p1 ((0 : Int32)).toNatClampNeg)) p0 0)).toNatClampNeg ((hu I (p0 + 1) ((I p0 0)).toNatClampNeg (I p1 ((0 : Int32)).toNatClampNeg)) p1 ((1 : Int32)).toNatClampNeg)) (p0 + 3) (((hu (hu I (p0 + 1) ((I p0 0)).toNatClampNeg (I p1 ((0 : Int32)).toNatClampNeg)) (p0 + 2) (((hu I (p0 + 1) ((I p0 0)).toNatClampNeg (I p1 ((0 : Int32)).toNatClampNeg)) p0 0)).toNatClampNeg ((hu I (p0 + 1) ((I p0 0)).toNatClampNeg (I p1 ((0 : Int32)).toNatClampNeg)) p1 ((1 : Int32)).toNatClampNeg)) p0 0)).toNatClampNeg ((hu (hu I (p0 + 1) ((I p0 0)).toNatClampNeg (I p1 ((0 : Int32)).toNatClampNeg)) (p0 + 2) (((hu I (p0 + 1) ((I p0 0)).toNatClampNeg (I p1 ((0 : Int32)).toNatClampNeg)) p0 0)).toNatClampNeg ((hu I (p0 + 1) ((I p0 0)).toNatClampNeg (I p1 ((0 : Int32)).toNatClampNeg)) p1 ((1 : Int32)).toNatClampNeg)) p1 ((2 : Int32)).toNatClampNeg)) p1 ((3 : Int32)).toNatClampNeg)) p1 ((4 : Int32)).toNatClampNeg)) p0 0) + (1 : Int32)))))))))))))))) else (gd (decide ((0 : Int32) = (0 : Int32)) || decide ((0 : Int32) = (1 : Int32))) (some ((0 : Int32), I))))))) else (gd (decide ((0 : Int32) = (0 : Int32)) || decide ((0 : Int32) = (1 : Int32))) (some ((0 : Int32), I)))))))))
def X0_addGoing (p0 p1 : Nat) (I : hM) : Option (Int32 × hM) := if (7 : Int32) ≤ (I p0 0) then (gd (decide ((0 : Int32) = (0 : Int32)) || decide ((0 : Int32) = (1 : Int32))) (some ((0 : Int32), I))) else (if (5 : Int32) ≤ (nI 5) then (gd (hx (1 : Int32) 5) (if (I p1 ((1 : Int32)).toNatClampNeg) ≤ (60 : Int32) then ((X0_addGoing_b38 p0 p1 (1 : Int32) I)) else (gd (hx (1 : Int32) 5) (if (I p1 ((1 : Int32)).toNatClampNeg) = (99 : Int32) then ((X0_addGoing_b38 p0 p1 (1 : Int32) I)) else ((X0_addGoing_b38 p0 p1 (0 : Int32) I)))))) else (gd (decide ((0 : Int32) = (0 : Int32)) || decide ((0 : Int32) = (1 : Int32))) (some ((0 : Int32), I))))
theorem X0_addGoing_hy : yX0_addGoing.cls = RX0 ∧ yX0_addGoing.cls ≠ "java/lang/invoke/MethodHandle" ∧ yX0_addGoing.cls ≠ "java/lang/invoke/VarHandle" ∧ (parseMethodDescriptor yX0_addGoing.desc).map (fun d => d.parameters.length) = some 1 := by decide +kernel
theorem X0_addGoing_k42 : Cond.fieldLink RX0 42 "HatPins$Evening" "goings" "I" ∈ wsX0_addGoing := by decide +kernel
theorem X0_addGoing_k9 : Cond.fieldLink RX0 9 "HatPins$Evening" "kind" "[I" ∈ wsX0_addGoing := by decide +kernel
theorem X0_addGoing_k15 : Cond.fieldLink RX0 15 "HatPins$Evening" "begins" "[I" ∈ wsX0_addGoing := by decide +kernel
theorem X0_addGoing_k18 : Cond.fieldLink RX0 18 "HatPins$Evening" "interest" "[I" ∈ wsX0_addGoing := by decide +kernel
theorem X0_addGoing_k21 : Cond.fieldLink RX0 21 "HatPins$Evening" "wane" "[I" ∈ wsX0_addGoing := by decide +kernel
theorem X0_addGoing_k24 : Cond.fieldLink RX0 24 "HatPins$Evening" "minutes" "[I" ∈ wsX0_addGoing := by decide +kernel
theorem X0_addGoing_w0 : ∀ w ∈ wsX00, w ∈ wsX0_addGoing := by decide +kernel
set_option maxHeartbeats 4000000 in
set_option maxRecDepth 100000 in
theorem X0_addGoing_b38_ok {p : Program} {l : Launch} {e : Env} {s : State} {m : MethodId} {args : Array Value} {below : List Frame} {meth : Method} {c : Code} {D : va_G} {E : Nat → ClassId} {b z : Nat} {sh : List hS} {r : Int32} {I2 : hM} {p0 p1 : Nat} {t0 : Int32} {I : hM} (hX : hp_X p s m args meth c yX0_addGoing.cls cX0_addGoing 3 wsX0_addGoing D E (some .boolean) yX0_addGoing.name) (hf0 : hq_X0 sh p0) (hf1 : sh[p1]? = some (1, 5, [])) (h : X0_addGoing_b38 p0 p1 t0 I = some (r, I2)) : hp_J p l e ({ frames := 0, cells := 0, slots := 0, locals := 44 * 0 }) s m args below meth c (MQ below (hp_Q D E b z (some (.int r)) sh I2) args s 0 0 (fun q : Nat => b ≤ q)) D E b z 3 sh 0 0 I 38 [(0, .ref p0), (1, .ref p1)] [.int t0] := by
  unfold X0_addGoing_b38 at h
  refine hj_istore_n hX rfl (Nat.le_of_ble_eq_true rfl) (lv2 := [(2, .int t0), (0, .ref p0), (1, .ref p1)]) rfl dX0_addGoing_38 ?_
  refine hj_aload_n hX rfl 2 rfl dX0_addGoing_39 ?_
  refine hj_iconst hX (v := (0 : Int32)) (by decide) dX0_addGoing_40 ?_
  refine hj_iald hX hf1 dX0_addGoing_41 h (fun h => ?_)
  refine hj_iconst hX (v := (4 : Int32)) (by decide) dX0_addGoing_42 ?_
  refine hj_icmp_ge hX (tgt := 65) (by decide) dX0_addGoing_43 h (fun h => ?_) (fun h => ?_)
  · refine hj_iconst hX (v := (0 : Int32)) (by decide) dX0_addGoing_65 ?_
    exact hj_zret hX dX0_addGoing_66 h
  · refine hj_iload_n hX rfl 0 rfl dX0_addGoing_46 ?_
    refine hj_if_eq hX (tgt := 65) (by decide) dX0_addGoing_47 h (fun h => ?_) (fun h => ?_)
    · refine hj_iconst hX (v := (0 : Int32)) (by decide) dX0_addGoing_65 ?_
      exact hj_zret hX dX0_addGoing_66 h
    · refine hj_aload_n hX rfl 2 rfl dX0_addGoing_50 ?_
      refine hj_iconst hX (v := (2 : Int32)) (by decide) dX0_addGoing_51 ?_
      refine hj_iald hX hf1 dX0_addGoing_52 h (fun h => ?_)
      refine hj_bipush hX (v := (20 : Int32)) (by decide) dX0_addGoing_53 ?_
      refine hj_icmp_gt hX (tgt := 65) (by decide) dX0_addGoing_55 h (fun h => ?_) (fun h => ?_)
      · refine hj_iconst hX (v := (0 : Int32)) (by decide) dX0_addGoing_65 ?_
        exact hj_zret hX dX0_addGoing_66 h
      · refine hj_aload_n hX rfl 2 rfl dX0_addGoing_58 ?_
        refine hj_iconst hX (v := (3 : Int32)) (by decide) dX0_addGoing_59 ?_
        refine hj_iald hX hf1 dX0_addGoing_60 h (fun h => ?_)
        refine hj_iconst hX (v := (5 : Int32)) (by decide) dX0_addGoing_61 ?_
        refine hj_icmp_le hX (tgt := 67) (by decide) dX0_addGoing_62 h (fun h => ?_) (fun h => ?_)
        · refine hj_aload_n hX rfl 2 rfl dX0_addGoing_67 ?_
          refine hj_iconst hX (v := (4 : Int32)) (by decide) dX0_addGoing_68 ?_
          refine hj_iald hX hf1 dX0_addGoing_69 h (fun h => ?_)
          refine hj_iconst hX (v := (1 : Int32)) (by decide) dX0_addGoing_70 ?_
          refine hj_icmp_lt hX (tgt := 82) (by decide) dX0_addGoing_71 h (fun h => ?_) (fun h => ?_)
          · refine hj_iconst hX (v := (0 : Int32)) (by decide) dX0_addGoing_82 ?_
            exact hj_zret hX dX0_addGoing_83 h
          · refine hj_aload_n hX rfl 2 rfl dX0_addGoing_74 ?_
            refine hj_iconst hX (v := (4 : Int32)) (by decide) dX0_addGoing_75 ?_
            refine hj_iald hX hf1 dX0_addGoing_76 h (fun h => ?_)
            refine hj_bipush hX (v := (40 : Int32)) (by decide) dX0_addGoing_77 ?_
            refine hj_icmp_le hX (tgt := 84) (by decide) dX0_addGoing_79 h (fun h => ?_) (fun h => ?_)
            · refine hj_aload_n hX rfl 1 rfl dX0_addGoing_84 ?_
              refine hj_getr hX (j := 3) hf0.1 rfl rfl X0_addGoing_w0 (Nat.le_of_ble_eq_true rfl) rfl X0_addGoing_k9 dX0_addGoing_85 ?_
              refine hj_aload_n hX rfl 1 rfl dX0_addGoing_88 ?_
              refine hj_geti hX (j := 0) hf0.1 rfl rfl X0_addGoing_w0 (Nat.le_of_ble_eq_true rfl) rfl X0_addGoing_k42 dX0_addGoing_89 ?_
              refine hj_aload_n hX rfl 2 rfl dX0_addGoing_92 ?_
              refine hj_iconst hX (v := (0 : Int32)) (by decide) dX0_addGoing_93 ?_
              refine hj_iald hX hf1 dX0_addGoing_94 h (fun h => ?_)
              refine hj_iast hX hf0.2.1 dX0_addGoing_95 h (fun h => ?_)
              refine hj_aload_n hX rfl 1 rfl dX0_addGoing_96 ?_
              refine hj_getr hX (j := 4) hf0.1 rfl rfl X0_addGoing_w0 (Nat.le_of_ble_eq_true rfl) rfl X0_addGoing_k15 dX0_addGoing_97 ?_
              refine hj_aload_n hX rfl 1 rfl dX0_addGoing_100 ?_
              refine hj_geti hX (j := 0) hf0.1 rfl rfl X0_addGoing_w0 (Nat.le_of_ble_eq_true rfl) rfl X0_addGoing_k42 dX0_addGoing_101 ?_
              refine hj_aload_n hX rfl 2 rfl dX0_addGoing_104 ?_
              refine hj_iconst hX (v := (1 : Int32)) (by decide) dX0_addGoing_105 ?_
              refine hj_iald hX hf1 dX0_addGoing_106 h (fun h => ?_)
              refine hj_iast hX hf0.2.2.1 dX0_addGoing_107 h (fun h => ?_)
              refine hj_aload_n hX rfl 1 rfl dX0_addGoing_108 ?_
              refine hj_getr hX (j := 5) hf0.1 rfl rfl X0_addGoing_w0 (Nat.le_of_ble_eq_true rfl) rfl X0_addGoing_k18 dX0_addGoing_109 ?_
              refine hj_aload_n hX rfl 1 rfl dX0_addGoing_112 ?_
              refine hj_geti hX (j := 0) hf0.1 rfl rfl X0_addGoing_w0 (Nat.le_of_ble_eq_true rfl) rfl X0_addGoing_k42 dX0_addGoing_113 ?_
              refine hj_aload_n hX rfl 2 rfl dX0_addGoing_116 ?_
              refine hj_iconst hX (v := (2 : Int32)) (by decide) dX0_addGoing_117 ?_
              refine hj_iald hX hf1 dX0_addGoing_118 h (fun h => ?_)
              refine hj_iast hX hf0.2.2.2.1 dX0_addGoing_119 h (fun h => ?_)
              refine hj_aload_n hX rfl 1 rfl dX0_addGoing_120 ?_
              refine hj_getr hX (j := 6) hf0.1 rfl rfl X0_addGoing_w0 (Nat.le_of_ble_eq_true rfl) rfl X0_addGoing_k21 dX0_addGoing_121 ?_
              refine hj_aload_n hX rfl 1 rfl dX0_addGoing_124 ?_
              refine hj_geti hX (j := 0) hf0.1 rfl rfl X0_addGoing_w0 (Nat.le_of_ble_eq_true rfl) rfl X0_addGoing_k42 dX0_addGoing_125 ?_
              refine hj_aload_n hX rfl 2 rfl dX0_addGoing_128 ?_
              refine hj_iconst hX (v := (3 : Int32)) (by decide) dX0_addGoing_129 ?_
              refine hj_iald hX hf1 dX0_addGoing_130 h (fun h => ?_)
              refine hj_iast hX hf0.2.2.2.2.1 dX0_addGoing_131 h (fun h => ?_)
              refine hj_aload_n hX rfl 1 rfl dX0_addGoing_132 ?_
              refine hj_getr hX (j := 7) hf0.1 rfl rfl X0_addGoing_w0 (Nat.le_of_ble_eq_true rfl) rfl X0_addGoing_k24 dX0_addGoing_133 ?_
              refine hj_aload_n hX rfl 1 rfl dX0_addGoing_136 ?_
              refine hj_geti hX (j := 0) hf0.1 rfl rfl X0_addGoing_w0 (Nat.le_of_ble_eq_true rfl) rfl X0_addGoing_k42 dX0_addGoing_137 ?_
              refine hj_aload_n hX rfl 2 rfl dX0_addGoing_140 ?_
              refine hj_iconst hX (v := (4 : Int32)) (by decide) dX0_addGoing_141 ?_
              refine hj_iald hX hf1 dX0_addGoing_142 h (fun h => ?_)
              refine hj_iast hX hf0.2.2.2.2.2.1 dX0_addGoing_143 h (fun h => ?_)
              refine hj_aload_n hX rfl 1 rfl dX0_addGoing_144 ?_
              refine hj_dup hX rfl dX0_addGoing_145 ?_
              refine hj_geti hX (j := 0) hf0.1 rfl rfl X0_addGoing_w0 (Nat.le_of_ble_eq_true rfl) rfl X0_addGoing_k42 dX0_addGoing_146 ?_
              refine hj_iconst hX (v := (1 : Int32)) (by decide) dX0_addGoing_149 ?_
              refine hj_iadd hX dX0_addGoing_150 ?_
              refine hj_puti hX (j := 0) hf0.1 rfl rfl X0_addGoing_w0 (Nat.le_of_ble_eq_true rfl) rfl X0_addGoing_k42 tyX0_ok nmX0 rfl (by decide +kernel) dX0_addGoing_151 ?_
              refine hj_iconst hX (v := (1 : Int32)) (by decide) dX0_addGoing_154 ?_
              exact hj_zret hX dX0_addGoing_155 h
            · refine hj_iconst hX (v := (0 : Int32)) (by decide) dX0_addGoing_82 ?_
              exact hj_zret hX dX0_addGoing_83 h
        · refine hj_iconst hX (v := (0 : Int32)) (by decide) dX0_addGoing_65 ?_
          exact hj_zret hX dX0_addGoing_66 h
set_option maxHeartbeats 4000000 in
set_option maxRecDepth 100000 in
theorem X0_addGoing_ok {sh : List hS} {r : Int32} {I I2 : hM} {p0 p1 : Nat} (hf0 : hq_X0 sh p0) (hf1 : sh[p1]? = some (1, 5, [])) (h : X0_addGoing p0 p1 I = some (r, I2)) : hp_C yX0_addGoing wsX0_addGoing 0 0 0 sh I [.ref p0, .ref p1] (some (.int r)) sh I2 := hp_start (cc := cX0_addGoing) (maxL := 3) (ret := (some .boolean)) [(0, .ref p0), (1, .ref p1)] (by decide) rfl (fun _ _ => rfl) (fun _ _ => Nat.le_of_ble_eq_true rfl) (fun p l e s m below meth c D E b z hX _ => by
  unfold X0_addGoing at h
  refine hj_aload_n hX rfl 0 rfl dX0_addGoing_0 ?_
  refine hj_geti hX (j := 0) hf0.1 rfl rfl X0_addGoing_w0 (Nat.le_of_ble_eq_true rfl) rfl X0_addGoing_k42 dX0_addGoing_1 ?_
  refine hj_bipush hX (v := (7 : Int32)) (by decide) dX0_addGoing_4 ?_
  refine hj_icmp_ge hX (tgt := 15) (by decide) dX0_addGoing_6 h (fun h => ?_) (fun h => ?_)
  · refine hj_iconst hX (v := (0 : Int32)) (by decide) dX0_addGoing_15 ?_
    exact hj_zret hX dX0_addGoing_16 h
  · refine hj_aload_n hX rfl 1 rfl dX0_addGoing_9 ?_
    refine hj_alen1 hX hf1 dX0_addGoing_10 ?_
    refine hj_iconst hX (v := (5 : Int32)) (by decide) dX0_addGoing_11 ?_
    refine hj_icmp_ge hX (tgt := 17) (by decide) dX0_addGoing_12 h (fun h => ?_) (fun h => ?_)
    · refine hj_aload_n hX rfl 1 rfl dX0_addGoing_17 ?_
      refine hj_iconst hX (v := (1 : Int32)) (by decide) dX0_addGoing_18 ?_
      refine hj_iald hX hf1 dX0_addGoing_19 h (fun h => ?_)
      refine hj_bipush hX (v := (60 : Int32)) (by decide) dX0_addGoing_20 ?_
      refine hj_icmp_le hX (tgt := 33) (by decide) dX0_addGoing_22 h (fun h => ?_) (fun h => ?_)
      · refine hj_iconst hX (v := (1 : Int32)) (by decide) dX0_addGoing_33 ?_
        refine hj_goto hX (tgt := 38) (by decide) dX0_addGoing_34 ?_
        exact X0_addGoing_b38_ok hX hf0 hf1 h
      · refine hj_aload_n hX rfl 1 rfl dX0_addGoing_25 ?_
        refine hj_iconst hX (v := (1 : Int32)) (by decide) dX0_addGoing_26 ?_
        refine hj_iald hX hf1 dX0_addGoing_27 h (fun h => ?_)
        refine hj_bipush hX (v := (99 : Int32)) (by decide) dX0_addGoing_28 ?_
        refine hj_icmp_ne hX (tgt := 37) (by decide) dX0_addGoing_30 h (fun h => ?_) (fun h => ?_)
        · refine hj_iconst hX (v := (0 : Int32)) (by decide) dX0_addGoing_37 ?_
          exact X0_addGoing_b38_ok hX hf0 hf1 h
        · refine hj_iconst hX (v := (1 : Int32)) (by decide) dX0_addGoing_33 ?_
          refine hj_goto hX (tgt := 38) (by decide) dX0_addGoing_34 ?_
          exact X0_addGoing_b38_ok hX hf0 hf1 h
    · refine hj_iconst hX (v := (0 : Int32)) (by decide) dX0_addGoing_15 ?_
      exact hj_zret hX dX0_addGoing_16 h)
def X0_addFollowing (p0 p1 : Nat) (I : hM) : Option (Int32 × hM) := if (6 : Int32) ≤ (I p0 1) then (gd (decide ((0 : Int32) = (0 : Int32)) || decide ((0 : Int32) = (1 : Int32))) (some ((0 : Int32), I))) else (if (3 : Int32) ≤ (nI 5) then (gd (hx (0 : Int32) 5) (if (I p0 0) ≤ (I p1 ((0 : Int32)).toNatClampNeg) then (gd (decide ((0 : Int32) = (0 : Int32)) || decide ((0 : Int32) = (1 : Int32))) (some ((0 : Int32), I))) else (gd (hx (1 : Int32) 5) (if (I p0 0) ≤ (I p1 ((1 : Int32)).toNatClampNeg) then (gd (decide ((0 : Int32) = (0 : Int32)) || decide ((0 : Int32) = (1 : Int32))) (some ((0 : Int32), I))) else (gd (hx (0 : Int32) 5) (gd (hx (1 : Int32) 5) (if (I p1 ((0 : Int32)).toNatClampNeg) = (I p1 ((1 : Int32)).toNatClampNeg) then (gd (decide ((0 : Int32) = (0 : Int32)) || decide ((0 : Int32) = (1 : Int32))) (some ((0 : Int32), I))) else (gd (hx (2 : Int32) 5) (if (I p1 ((2 : Int32)).toNatClampNeg) ≤ (20 : Int32) then (gd (hx (0 : Int32) 5) (gd (hx (I p0 1) 6) (gd (hx (1 : Int32) 5) (gd (hx ((hu I (p0 + 6) ((I p0 1)).toNatClampNeg (I p1 ((0 : Int32)).toNatClampNeg)) p0 1) 6) (gd (hx (2 : Int32) 5) (gd (hx ((hu (hu I (p0 + 6) ((I p0 1)).toNatClampNeg (I p1 ((0 : Int32)).toNatClampNeg)) (p0 + 7) (((hu I (p0 + 6) ((I p0 1)).toNatClampNeg (I p1 ((0 : Int32)).toNatClampNeg)) p0 1)).toNatClampNeg ((hu I (p0 + 6) ((I p0 1)).toNatClampNeg (I p1 ((0 : Int32)).toNatClampNeg)) p1 ((1 : Int32)).toNatClampNeg)) p0 1) 6) (gd (decide ((1 : Int32) = (0 : Int32)) || decide ((1 : Int32) = (1 : Int32))) (some ((1 : Int32), (hu (hu (hu (hu I (p0 + 6) ((I p0 1)).toNatClampNeg (I p1 ((0 : Int32)).toNatClampNeg)) (p0 + 7) (((hu I (p0 + 6) ((I p0 1)).toNatClampNeg (I p1 ((0 : Int32)).toNatClampNeg)) p0 1)).toNatClampNeg ((hu I (p0 + 6) ((I p0 1)).toNatClampNeg (I p1 ((0 : Int32)).toNatClampNeg)) p1 ((1 : Int32)).toNatClampNeg)) (p0 + 8) (((hu (hu I (p0 + 6) ((I p0 1)).toNatClampNeg (I p1 ((0 : Int32)).toNatClampNeg)) (p0 + 7) (((hu I (p0 + 6) ((I p0 1)).toNatClampNeg (I p1 ((0 : Int32)).toNatClampNeg)) p0 1)).toNatClampNeg ((hu I (p0 + 6) ((I p0 1)).toNatClampNeg (I p1 ((0 : Int32)).toNatClampNeg)) p1 ((1 : Int32)).toNatClampNeg)) p0 1)).toNatClampNeg ((hu (hu I (p0 + 6) ((I p0 1)).toNatClampNeg (I p1 ((0 : Int32)).toNatClampNeg)) (p0 + 7) (((hu I (p0 + 6) ((I p0 1)).toNatClampNeg (I p1 ((0 : Int32)).toNatClampNeg)) p0 1)).toNatClampNeg ((hu I (p0 + 6) ((I p0 1)).toNatClampNeg (I p1 ((0 : Int32)).toNatClampNeg)) p1 ((1 : Int32)).toNatClampNeg)) p1 ((2 : Int32)).toNatClampNeg)) p0 1 (((hu (hu (hu I (p0 + 6) ((I p0 1)).toNatClampNeg (I p1 ((0 : Int32)).toNatClampNeg)) (p0 + 7) (((hu I (p0 + 6) ((I p0 1)).toNatClampNeg (I p1 ((0 : Int32)).toNatClampNeg)) p0 1)).toNatClampNeg ((hu I (p0 + 6) ((I p0 1)).toNatClampNeg (I p1 ((0 : Int32)).toNatClampNeg)) p1 ((1 : Int32)).toNatClampNeg)) (p0 + 8) (((hu (hu I (p0 + 6) ((I p0 1)).toNatClampNeg (I p1 ((0 : Int32)).toNatClampNeg)) (p0 + 7) (((hu I (p0 + 6) ((I p0 1)).toNatClampNeg (I p1 ((0 : Int32)).toNatClampNeg)) p0 1)).toNatClampNeg ((hu I (p0 + 6) ((I p0 1)).toNatClampNeg (I p1 ((0 : Int32)).toNatClampNeg)) p1 ((1 : Int32)).toNatClampNeg)) p0 1)).toNatClampNeg ((hu (hu I (p0 + 6) ((I p0 1)).toNatClampNeg (I p1 ((0 : Int32)).toNatClampNeg)) (p0 + 7) (((hu I (p0 + 6) ((I p0 1)).toNatClampNeg (I p1 ((0 : Int32)).toNatClampNeg)) p0 1)).toNatClampNeg ((hu I (p0 + 6) ((I p0 1)).toNatClampNeg (I p1 ((0 : Int32)).toNatClampNeg)) p1 ((1 : Int32)).toNatClampNeg)) p1 ((2 : Int32)).toNatClampNeg)) p0 1) + (1 : Int32)))))))))))) else (gd (decide ((0 : Int32) = (0 : Int32)) || decide ((0 : Int32) = (1 : Int32))) (some ((0 : Int32), I)))))))))))) else (gd (decide ((0 : Int32) = (0 : Int32)) || decide ((0 : Int32) = (1 : Int32))) (some ((0 : Int32), I))))
theorem X0_addFollowing_hy : yX0_addFollowing.cls = RX0 ∧ yX0_addFollowing.cls ≠ "java/lang/invoke/MethodHandle" ∧ yX0_addFollowing.cls ≠ "java/lang/invoke/VarHandle" ∧ (parseMethodDescriptor yX0_addFollowing.desc).map (fun d => d.parameters.length) = some 1 := by decide +kernel
theorem X0_addFollowing_k46 : Cond.fieldLink RX0 46 "HatPins$Evening" "followings" "I" ∈ wsX0_addFollowing := by decide +kernel
theorem X0_addFollowing_k42 : Cond.fieldLink RX0 42 "HatPins$Evening" "goings" "I" ∈ wsX0_addFollowing := by decide +kernel
theorem X0_addFollowing_k27 : Cond.fieldLink RX0 27 "HatPins$Evening" "leader" "[I" ∈ wsX0_addFollowing := by decide +kernel
theorem X0_addFollowing_k30 : Cond.fieldLink RX0 30 "HatPins$Evening" "follower" "[I" ∈ wsX0_addFollowing := by decide +kernel
theorem X0_addFollowing_k33 : Cond.fieldLink RX0 33 "HatPins$Evening" "gap" "[I" ∈ wsX0_addFollowing := by decide +kernel
theorem X0_addFollowing_w0 : ∀ w ∈ wsX00, w ∈ wsX0_addFollowing := by decide +kernel
set_option maxHeartbeats 4000000 in
set_option maxRecDepth 100000 in
theorem X0_addFollowing_ok {sh : List hS} {r : Int32} {I I2 : hM} {p0 p1 : Nat} (hf0 : hq_X0 sh p0) (hf1 : sh[p1]? = some (1, 5, [])) (h : X0_addFollowing p0 p1 I = some (r, I2)) : hp_C yX0_addFollowing wsX0_addFollowing 0 0 0 sh I [.ref p0, .ref p1] (some (.int r)) sh I2 := hp_start (cc := cX0_addFollowing) (maxL := 2) (ret := (some .boolean)) [(0, .ref p0), (1, .ref p1)] (by decide) rfl (fun _ _ => rfl) (fun _ _ => Nat.le_of_ble_eq_true rfl) (fun p l e s m below meth c D E b z hX _ => by
  unfold X0_addFollowing at h
  refine hj_aload_n hX rfl 0 rfl dX0_addFollowing_0 ?_
  refine hj_geti hX (j := 1) hf0.1 rfl rfl X0_addFollowing_w0 (Nat.le_of_ble_eq_true rfl) rfl X0_addFollowing_k46 dX0_addFollowing_1 ?_
  refine hj_bipush hX (v := (6 : Int32)) (by decide) dX0_addFollowing_4 ?_
  refine hj_icmp_ge hX (tgt := 15) (by decide) dX0_addFollowing_6 h (fun h => ?_) (fun h => ?_)
  · refine hj_iconst hX (v := (0 : Int32)) (by decide) dX0_addFollowing_15 ?_
    exact hj_zret hX dX0_addFollowing_16 h
  · refine hj_aload_n hX rfl 1 rfl dX0_addFollowing_9 ?_
    refine hj_alen1 hX hf1 dX0_addFollowing_10 ?_
    refine hj_iconst hX (v := (3 : Int32)) (by decide) dX0_addFollowing_11 ?_
    refine hj_icmp_ge hX (tgt := 17) (by decide) dX0_addFollowing_12 h (fun h => ?_) (fun h => ?_)
    · refine hj_aload_n hX rfl 1 rfl dX0_addFollowing_17 ?_
      refine hj_iconst hX (v := (0 : Int32)) (by decide) dX0_addFollowing_18 ?_
      refine hj_iald hX hf1 dX0_addFollowing_19 h (fun h => ?_)
      refine hj_aload_n hX rfl 0 rfl dX0_addFollowing_20 ?_
      refine hj_geti hX (j := 0) hf0.1 rfl rfl X0_addFollowing_w0 (Nat.le_of_ble_eq_true rfl) rfl X0_addFollowing_k42 dX0_addFollowing_21 ?_
      refine hj_icmp_ge hX (tgt := 54) (by decide) dX0_addFollowing_24 h (fun h => ?_) (fun h => ?_)
      · refine hj_iconst hX (v := (0 : Int32)) (by decide) dX0_addFollowing_54 ?_
        exact hj_zret hX dX0_addFollowing_55 h
      · refine hj_aload_n hX rfl 1 rfl dX0_addFollowing_27 ?_
        refine hj_iconst hX (v := (1 : Int32)) (by decide) dX0_addFollowing_28 ?_
        refine hj_iald hX hf1 dX0_addFollowing_29 h (fun h => ?_)
        refine hj_aload_n hX rfl 0 rfl dX0_addFollowing_30 ?_
        refine hj_geti hX (j := 0) hf0.1 rfl rfl X0_addFollowing_w0 (Nat.le_of_ble_eq_true rfl) rfl X0_addFollowing_k42 dX0_addFollowing_31 ?_
        refine hj_icmp_ge hX (tgt := 54) (by decide) dX0_addFollowing_34 h (fun h => ?_) (fun h => ?_)
        · refine hj_iconst hX (v := (0 : Int32)) (by decide) dX0_addFollowing_54 ?_
          exact hj_zret hX dX0_addFollowing_55 h
        · refine hj_aload_n hX rfl 1 rfl dX0_addFollowing_37 ?_
          refine hj_iconst hX (v := (0 : Int32)) (by decide) dX0_addFollowing_38 ?_
          refine hj_iald hX hf1 dX0_addFollowing_39 h (fun h => ?_)
          refine hj_aload_n hX rfl 1 rfl dX0_addFollowing_40 ?_
          refine hj_iconst hX (v := (1 : Int32)) (by decide) dX0_addFollowing_41 ?_
          refine hj_iald hX hf1 dX0_addFollowing_42 h (fun h => ?_)
          refine hj_icmp_eq hX (tgt := 54) (by decide) dX0_addFollowing_43 h (fun h => ?_) (fun h => ?_)
          · refine hj_iconst hX (v := (0 : Int32)) (by decide) dX0_addFollowing_54 ?_
            exact hj_zret hX dX0_addFollowing_55 h
          · refine hj_aload_n hX rfl 1 rfl dX0_addFollowing_46 ?_
            refine hj_iconst hX (v := (2 : Int32)) (by decide) dX0_addFollowing_47 ?_
            refine hj_iald hX hf1 dX0_addFollowing_48 h (fun h => ?_)
            refine hj_bipush hX (v := (20 : Int32)) (by decide) dX0_addFollowing_49 ?_
            refine hj_icmp_le hX (tgt := 56) (by decide) dX0_addFollowing_51 h (fun h => ?_) (fun h => ?_)
            · refine hj_aload_n hX rfl 0 rfl dX0_addFollowing_56 ?_
              refine hj_getr hX (j := 8) hf0.1 rfl rfl X0_addFollowing_w0 (Nat.le_of_ble_eq_true rfl) rfl X0_addFollowing_k27 dX0_addFollowing_57 ?_
              refine hj_aload_n hX rfl 0 rfl dX0_addFollowing_60 ?_
              refine hj_geti hX (j := 1) hf0.1 rfl rfl X0_addFollowing_w0 (Nat.le_of_ble_eq_true rfl) rfl X0_addFollowing_k46 dX0_addFollowing_61 ?_
              refine hj_aload_n hX rfl 1 rfl dX0_addFollowing_64 ?_
              refine hj_iconst hX (v := (0 : Int32)) (by decide) dX0_addFollowing_65 ?_
              refine hj_iald hX hf1 dX0_addFollowing_66 h (fun h => ?_)
              refine hj_iast hX hf0.2.2.2.2.2.2.1 dX0_addFollowing_67 h (fun h => ?_)
              refine hj_aload_n hX rfl 0 rfl dX0_addFollowing_68 ?_
              refine hj_getr hX (j := 9) hf0.1 rfl rfl X0_addFollowing_w0 (Nat.le_of_ble_eq_true rfl) rfl X0_addFollowing_k30 dX0_addFollowing_69 ?_
              refine hj_aload_n hX rfl 0 rfl dX0_addFollowing_72 ?_
              refine hj_geti hX (j := 1) hf0.1 rfl rfl X0_addFollowing_w0 (Nat.le_of_ble_eq_true rfl) rfl X0_addFollowing_k46 dX0_addFollowing_73 ?_
              refine hj_aload_n hX rfl 1 rfl dX0_addFollowing_76 ?_
              refine hj_iconst hX (v := (1 : Int32)) (by decide) dX0_addFollowing_77 ?_
              refine hj_iald hX hf1 dX0_addFollowing_78 h (fun h => ?_)
              refine hj_iast hX hf0.2.2.2.2.2.2.2.1 dX0_addFollowing_79 h (fun h => ?_)
              refine hj_aload_n hX rfl 0 rfl dX0_addFollowing_80 ?_
              refine hj_getr hX (j := 10) hf0.1 rfl rfl X0_addFollowing_w0 (Nat.le_of_ble_eq_true rfl) rfl X0_addFollowing_k33 dX0_addFollowing_81 ?_
              refine hj_aload_n hX rfl 0 rfl dX0_addFollowing_84 ?_
              refine hj_geti hX (j := 1) hf0.1 rfl rfl X0_addFollowing_w0 (Nat.le_of_ble_eq_true rfl) rfl X0_addFollowing_k46 dX0_addFollowing_85 ?_
              refine hj_aload_n hX rfl 1 rfl dX0_addFollowing_88 ?_
              refine hj_iconst hX (v := (2 : Int32)) (by decide) dX0_addFollowing_89 ?_
              refine hj_iald hX hf1 dX0_addFollowing_90 h (fun h => ?_)
              refine hj_iast hX hf0.2.2.2.2.2.2.2.2.1 dX0_addFollowing_91 h (fun h => ?_)
              refine hj_aload_n hX rfl 0 rfl dX0_addFollowing_92 ?_
              refine hj_dup hX rfl dX0_addFollowing_93 ?_
              refine hj_geti hX (j := 1) hf0.1 rfl rfl X0_addFollowing_w0 (Nat.le_of_ble_eq_true rfl) rfl X0_addFollowing_k46 dX0_addFollowing_94 ?_
              refine hj_iconst hX (v := (1 : Int32)) (by decide) dX0_addFollowing_97 ?_
              refine hj_iadd hX dX0_addFollowing_98 ?_
              refine hj_puti hX (j := 1) hf0.1 rfl rfl X0_addFollowing_w0 (Nat.le_of_ble_eq_true rfl) rfl X0_addFollowing_k46 tyX0_ok nmX0 rfl (by decide +kernel) dX0_addFollowing_99 ?_
              refine hj_iconst hX (v := (1 : Int32)) (by decide) dX0_addFollowing_102 ?_
              exact hj_zret hX dX0_addFollowing_103 h
            · refine hj_iconst hX (v := (0 : Int32)) (by decide) dX0_addFollowing_54 ?_
              exact hj_zret hX dX0_addFollowing_55 h
    · refine hj_iconst hX (v := (0 : Int32)) (by decide) dX0_addFollowing_15 ?_
      exact hj_zret hX dX0_addFollowing_16 h)
def X0_addLady_b73 (p0 p1 : Nat) (v3 : Int32) (I : hM) : Option (Int32 × hM) := gd (hx (0 : Int32) 5) (gd (hx (I p0 2) 4) (gd (hx ((hu I (p0 + 9) ((I p0 2)).toNatClampNeg (I p1 ((0 : Int32)).toNatClampNeg)) p0 2) 4) (gd (decide ((1 : Int32) = (0 : Int32)) || decide ((1 : Int32) = (1 : Int32))) (some ((1 : Int32), (hu (hu (hu I (p0 + 9) ((I p0 2)).toNatClampNeg (I p1 ((0 : Int32)).toNatClampNeg)) (p0 + 10) (((hu I (p0 + 9) ((I p0 2)).toNatClampNeg (I p1 ((0 : Int32)).toNatClampNeg)) p0 2)).toNatClampNeg v3) p0 2 (((hu (hu I (p0 + 9) ((I p0 2)).toNatClampNeg (I p1 ((0 : Int32)).toNatClampNeg)) (p0 + 10) (((hu I (p0 + 9) ((I p0 2)).toNatClampNeg (I p1 ((0 : Int32)).toNatClampNeg)) p0 2)).toNatClampNeg v3) p0 2) + (1 : Int32))))))))
def X0_addLady_h23 (p0 p1 : Nat) (k23 : Int32 → Int32 → Int32 → hM → Option (Int32 × hM)) (v2 : Int32) (v3 : Int32) (v4 : Int32) (I : hM) : Option (Int32 × hM) := if v2 ≤ v4 then (X0_addLady_b73 p0 p1 v3 I) else (if (nI 5) ≤ v4 then (X0_addLady_b73 p0 p1 v3 I) else (gd (hx v4 5) (if (4 : Int32) ≤ (I p1 (v4).toNatClampNeg) then (gd (decide ((0 : Int32) = (0 : Int32)) || decide ((0 : Int32) = (1 : Int32))) (some ((0 : Int32), I))) else (gd (hx v4 5) (if ((v3 >>> ((I p1 (v4).toNatClampNeg) &&& 31)) &&& (1 : Int32)) = (1 : Int32) then (gd (decide ((0 : Int32) = (0 : Int32)) || decide ((0 : Int32) = (1 : Int32))) (some ((0 : Int32), I))) else (gd (hx v4 5) ((k23 v2 (v3 ||| ((1 : Int32) <<< ((I p1 (v4).toNatClampNeg) &&& 31))) (v4 + (1 : Int32)) I))))))))
def X0_addLady_l23 (p0 p1 : Nat) : Nat → Int32 → Int32 → Int32 → hM → Option (Int32 × hM)
  | 0 => fun _ _ _ _ => none
  | n + 1 => X0_addLady_h23 p0 p1  (X0_addLady_l23 p0 p1  n)
def X0_addLady (p0 p1 : Nat) (v2 : Int32) (I : hM) : Option (Int32 × hM) := if (4 : Int32) ≤ (I p0 2) then (gd (decide ((0 : Int32) = (0 : Int32)) || decide ((0 : Int32) = (1 : Int32))) (some ((0 : Int32), I))) else (gd (hx (0 : Int32) 5) (if (I p1 ((0 : Int32)).toNatClampNeg) ≤ (9 : Int32) then ((X0_addLady_l23 p0 p1 hF v2 (0 : Int32) (1 : Int32) I)) else (gd (decide ((0 : Int32) = (0 : Int32)) || decide ((0 : Int32) = (1 : Int32))) (some ((0 : Int32), I)))))
theorem X0_addLady_hy : yX0_addLady.cls = RX0 ∧ yX0_addLady.cls ≠ "java/lang/invoke/MethodHandle" ∧ yX0_addLady.cls ≠ "java/lang/invoke/VarHandle" ∧ (parseMethodDescriptor yX0_addLady.desc).map (fun d => d.parameters.length) = some 2 := by decide +kernel
theorem X0_addLady_k49 : Cond.fieldLink RX0 49 "HatPins$Evening" "ladies" "I" ∈ wsX0_addLady := by decide +kernel
theorem X0_addLady_k36 : Cond.fieldLink RX0 36 "HatPins$Evening" "pins" "[I" ∈ wsX0_addLady := by decide +kernel
theorem X0_addLady_k39 : Cond.fieldLink RX0 39 "HatPins$Evening" "reach" "[I" ∈ wsX0_addLady := by decide +kernel
theorem X0_addLady_w0 : ∀ w ∈ wsX00, w ∈ wsX0_addLady := by decide +kernel
set_option maxHeartbeats 4000000 in
set_option maxRecDepth 100000 in
theorem X0_addLady_b73_ok {p : Program} {l : Launch} {e : Env} {s : State} {m : MethodId} {args : Array Value} {below : List Frame} {meth : Method} {c : Code} {D : va_G} {E : Nat → ClassId} {b z : Nat} {sh : List hS} {r : Int32} {I2 : hM} {p0 p1 : Nat} {v3 : Int32} {I : hM} (hX : hp_X p s m args meth c yX0_addLady.cls cX0_addLady 5 wsX0_addLady D E (some .boolean) yX0_addLady.name) (hf0 : hq_X0 sh p0) (hf1 : sh[p1]? = some (1, 5, [])) (h : X0_addLady_b73 p0 p1 v3 I = some (r, I2)) : hp_J p l e ({ frames := 0, cells := 0, slots := 0, locals := 44 * 0 }) s m args below meth c (MQ below (hp_Q D E b z (some (.int r)) sh I2) args s 0 0 (fun q : Nat => b ≤ q)) D E b z 5 sh 0 0 I 73 [(0, .ref p0), (1, .ref p1), (3, .int v3)] [] := by
  unfold X0_addLady_b73 at h
  refine hj_aload_n hX rfl 0 rfl dX0_addLady_73 ?_
  refine hj_getr hX (j := 11) hf0.1 rfl rfl X0_addLady_w0 (Nat.le_of_ble_eq_true rfl) rfl X0_addLady_k36 dX0_addLady_74 ?_
  refine hj_aload_n hX rfl 0 rfl dX0_addLady_77 ?_
  refine hj_geti hX (j := 2) hf0.1 rfl rfl X0_addLady_w0 (Nat.le_of_ble_eq_true rfl) rfl X0_addLady_k49 dX0_addLady_78 ?_
  refine hj_aload_n hX rfl 1 rfl dX0_addLady_81 ?_
  refine hj_iconst hX (v := (0 : Int32)) (by decide) dX0_addLady_82 ?_
  refine hj_iald hX hf1 dX0_addLady_83 h (fun h => ?_)
  refine hj_iast hX hf0.2.2.2.2.2.2.2.2.2.1 dX0_addLady_84 h (fun h => ?_)
  refine hj_aload_n hX rfl 0 rfl dX0_addLady_85 ?_
  refine hj_getr hX (j := 12) hf0.1 rfl rfl X0_addLady_w0 (Nat.le_of_ble_eq_true rfl) rfl X0_addLady_k39 dX0_addLady_86 ?_
  refine hj_aload_n hX rfl 0 rfl dX0_addLady_89 ?_
  refine hj_geti hX (j := 2) hf0.1 rfl rfl X0_addLady_w0 (Nat.le_of_ble_eq_true rfl) rfl X0_addLady_k49 dX0_addLady_90 ?_
  refine hj_iload_n hX rfl 2 rfl dX0_addLady_93 ?_
  refine hj_iast hX hf0.2.2.2.2.2.2.2.2.2.2 dX0_addLady_94 h (fun h => ?_)
  refine hj_aload_n hX rfl 0 rfl dX0_addLady_95 ?_
  refine hj_dup hX rfl dX0_addLady_96 ?_
  refine hj_geti hX (j := 2) hf0.1 rfl rfl X0_addLady_w0 (Nat.le_of_ble_eq_true rfl) rfl X0_addLady_k49 dX0_addLady_97 ?_
  refine hj_iconst hX (v := (1 : Int32)) (by decide) dX0_addLady_100 ?_
  refine hj_iadd hX dX0_addLady_101 ?_
  refine hj_puti hX (j := 2) hf0.1 rfl rfl X0_addLady_w0 (Nat.le_of_ble_eq_true rfl) rfl X0_addLady_k49 tyX0_ok nmX0 rfl (by decide +kernel) dX0_addLady_102 ?_
  refine hj_iconst hX (v := (1 : Int32)) (by decide) dX0_addLady_105 ?_
  exact hj_zret hX dX0_addLady_106 h
set_option maxHeartbeats 4000000 in
set_option maxRecDepth 100000 in
theorem X0_addLady_h23_ok {p : Program} {l : Launch} {e : Env} {s : State} {m : MethodId} {args : Array Value} {below : List Frame} {meth : Method} {c : Code} {D : va_G} {E : Nat → ClassId} {b z : Nat} {sh : List hS} {r : Int32} {I2 : hM} {p0 p1 : Nat} {k23 : Int32 → Int32 → Int32 → hM → Option (Int32 × hM)} {v2 : Int32} {v3 : Int32} {v4 : Int32} {I : hM} (hX : hp_X p s m args meth c yX0_addLady.cls cX0_addLady 5 wsX0_addLady D E (some .boolean) yX0_addLady.name) (hf0 : hq_X0 sh p0) (hf1 : sh[p1]? = some (1, 5, [])) (hk23 : ∀ (v2 : Int32) (v3 : Int32) (v4 : Int32) (I : hM), k23 v2 v3 v4 I = some (r, I2) → hp_J p l e ({ frames := 0, cells := 0, slots := 0, locals := 44 * 0 }) s m args below meth c (MQ below (hp_Q D E b z (some (.int r)) sh I2) args s 0 0 (fun q : Nat => b ≤ q)) D E b z 5 sh 0 0 I 23 [(0, .ref p0), (1, .ref p1), (2, .int v2), (3, .int v3), (4, .int v4)] []) (h : X0_addLady_h23 p0 p1 k23 v2 v3 v4 I = some (r, I2)) : hp_J p l e ({ frames := 0, cells := 0, slots := 0, locals := 44 * 0 }) s m args below meth c (MQ below (hp_Q D E b z (some (.int r)) sh I2) args s 0 0 (fun q : Nat => b ≤ q)) D E b z 5 sh 0 0 I 23 [(0, .ref p0), (1, .ref p1), (2, .int v2), (3, .int v3), (4, .int v4)] [] := by
  unfold X0_addLady_h23 at h
  refine hj_iload hX 4 rfl dX0_addLady_23 ?_
  refine hj_iload_n hX rfl 2 rfl dX0_addLady_25 ?_
  refine hj_icmp_ge hX (tgt := 73) (by decide) dX0_addLady_26 h (fun h => ?_) (fun h => ?_)
  · refine hj_lv hX [0, 1, 3] (lv2 := [(0, .ref p0), (1, .ref p1), (3, .int v3)]) rfl ?_
    exact X0_addLady_b73_ok hX hf0 hf1 h
  · refine hj_iload hX 4 rfl dX0_addLady_29 ?_
    refine hj_aload_n hX rfl 1 rfl dX0_addLady_31 ?_
    refine hj_alen1 hX hf1 dX0_addLady_32 ?_
    refine hj_icmp_ge hX (tgt := 73) (by decide) dX0_addLady_33 h (fun h => ?_) (fun h => ?_)
    · refine hj_lv hX [0, 1, 3] (lv2 := [(0, .ref p0), (1, .ref p1), (3, .int v3)]) rfl ?_
      exact X0_addLady_b73_ok hX hf0 hf1 h
    · refine hj_aload_n hX rfl 1 rfl dX0_addLady_36 ?_
      refine hj_iload hX 4 rfl dX0_addLady_37 ?_
      refine hj_iald hX hf1 dX0_addLady_39 h (fun h => ?_)
      refine hj_iconst hX (v := (4 : Int32)) (by decide) dX0_addLady_40 ?_
      refine hj_icmp_ge hX (tgt := 56) (by decide) dX0_addLady_41 h (fun h => ?_) (fun h => ?_)
      · refine hj_iconst hX (v := (0 : Int32)) (by decide) dX0_addLady_56 ?_
        exact hj_zret hX dX0_addLady_57 h
      · refine hj_iload_n hX rfl 3 rfl dX0_addLady_44 ?_
        refine hj_aload_n hX rfl 1 rfl dX0_addLady_45 ?_
        refine hj_iload hX 4 rfl dX0_addLady_46 ?_
        refine hj_iald hX hf1 dX0_addLady_48 h (fun h => ?_)
        refine hj_ishr hX dX0_addLady_49 ?_
        refine hj_iconst hX (v := (1 : Int32)) (by decide) dX0_addLady_50 ?_
        refine hj_iand hX dX0_addLady_51 ?_
        refine hj_iconst hX (v := (1 : Int32)) (by decide) dX0_addLady_52 ?_
        refine hj_icmp_ne hX (tgt := 58) (by decide) dX0_addLady_53 h (fun h => ?_) (fun h => ?_)
        · refine hj_iload_n hX rfl 3 rfl dX0_addLady_58 ?_
          refine hj_iconst hX (v := (1 : Int32)) (by decide) dX0_addLady_59 ?_
          refine hj_aload_n hX rfl 1 rfl dX0_addLady_60 ?_
          refine hj_iload hX 4 rfl dX0_addLady_61 ?_
          refine hj_iald hX hf1 dX0_addLady_63 h (fun h => ?_)
          refine hj_ishl hX dX0_addLady_64 ?_
          refine hj_ior hX dX0_addLady_65 ?_
          refine hj_istore_n hX rfl (Nat.le_of_ble_eq_true rfl) (lv2 := [(3, .int (v3 ||| ((1 : Int32) <<< ((I p1 (v4).toNatClampNeg) &&& 31)))), (0, .ref p0), (1, .ref p1), (2, .int v2), (4, .int v4)]) rfl dX0_addLady_66 ?_
          refine hj_iinc hX (k1 := 4) (v := (v4 + (1 : Int32))) rfl rfl (Nat.le_of_ble_eq_true rfl) (lv2 := [(4, .int (v4 + (1 : Int32))), (3, .int (v3 ||| ((1 : Int32) <<< ((I p1 (v4).toNatClampNeg) &&& 31)))), (0, .ref p0), (1, .ref p1), (2, .int v2)]) rfl dX0_addLady_67 ?_
          refine hj_goto hX (tgt := 23) (by decide) dX0_addLady_70 ?_
          refine hj_lv hX [2, 3, 4, 1, 0] (lv2 := [(0, .ref p0), (1, .ref p1), (2, .int v2), (3, .int (v3 ||| ((1 : Int32) <<< ((I p1 (v4).toNatClampNeg) &&& 31)))), (4, .int (v4 + (1 : Int32)))]) rfl ?_
          exact hk23 _ _ _ _ h
        · refine hj_iconst hX (v := (0 : Int32)) (by decide) dX0_addLady_56 ?_
          exact hj_zret hX dX0_addLady_57 h
set_option maxHeartbeats 4000000 in
set_option maxRecDepth 100000 in
theorem X0_addLady_l23_ok {p : Program} {l : Launch} {e : Env} {s : State} {m : MethodId} {args : Array Value} {below : List Frame} {meth : Method} {c : Code} {D : va_G} {E : Nat → ClassId} {b z : Nat} {sh : List hS} {r : Int32} {I2 : hM} {p0 p1 : Nat} (hX : hp_X p s m args meth c yX0_addLady.cls cX0_addLady 5 wsX0_addLady D E (some .boolean) yX0_addLady.name) (hf0 : hq_X0 sh p0) (hf1 : sh[p1]? = some (1, 5, [])) : ∀ (n : Nat) (v2 : Int32) (v3 : Int32) (v4 : Int32) (I : hM), X0_addLady_l23 p0 p1 n v2 v3 v4 I = some (r, I2) → hp_J p l e ({ frames := 0, cells := 0, slots := 0, locals := 44 * 0 }) s m args below meth c (MQ below (hp_Q D E b z (some (.int r)) sh I2) args s 0 0 (fun q : Nat => b ≤ q)) D E b z 5 sh 0 0 I 23 [(0, .ref p0), (1, .ref p1), (2, .int v2), (3, .int v3), (4, .int v4)] [] := by
  intro n
  induction n with
  | zero => exact fun _ _ _ _ h => nomatch h
  | succ n ih => exact fun _ _ _ _ h => X0_addLady_h23_ok hX hf0 hf1 ih h
set_option maxHeartbeats 4000000 in
set_option maxRecDepth 100000 in
theorem X0_addLady_ok {sh : List hS} {r : Int32} {I I2 : hM} {p0 p1 : Nat} {v2 : Int32} (hf0 : hq_X0 sh p0) (hf1 : sh[p1]? = some (1, 5, [])) (h : X0_addLady p0 p1 v2 I = some (r, I2)) : hp_C yX0_addLady wsX0_addLady 0 0 0 sh I [.ref p0, .ref p1, .int v2] (some (.int r)) sh I2 := hp_start (cc := cX0_addLady) (maxL := 5) (ret := (some .boolean)) [(0, .ref p0), (1, .ref p1), (2, .int v2)] (by decide) rfl (fun _ _ => rfl) (fun _ _ => Nat.le_of_ble_eq_true rfl) (fun p l e s m below meth c D E b z hX _ => by
  unfold X0_addLady at h
  refine hj_aload_n hX rfl 0 rfl dX0_addLady_0 ?_
  refine hj_geti hX (j := 2) hf0.1 rfl rfl X0_addLady_w0 (Nat.le_of_ble_eq_true rfl) rfl X0_addLady_k49 dX0_addLady_1 ?_
  refine hj_iconst hX (v := (4 : Int32)) (by decide) dX0_addLady_4 ?_
  refine hj_icmp_ge hX (tgt := 16) (by decide) dX0_addLady_5 h (fun h => ?_) (fun h => ?_)
  · refine hj_iconst hX (v := (0 : Int32)) (by decide) dX0_addLady_16 ?_
    exact hj_zret hX dX0_addLady_17 h
  · refine hj_aload_n hX rfl 1 rfl dX0_addLady_8 ?_
    refine hj_iconst hX (v := (0 : Int32)) (by decide) dX0_addLady_9 ?_
    refine hj_iald hX hf1 dX0_addLady_10 h (fun h => ?_)
    refine hj_bipush hX (v := (9 : Int32)) (by decide) dX0_addLady_11 ?_
    refine hj_icmp_le hX (tgt := 18) (by decide) dX0_addLady_13 h (fun h => ?_) (fun h => ?_)
    · refine hj_iconst hX (v := (0 : Int32)) (by decide) dX0_addLady_18 ?_
      refine hj_istore_n hX rfl (Nat.le_of_ble_eq_true rfl) (lv2 := [(3, .int (0 : Int32)), (0, .ref p0), (1, .ref p1), (2, .int v2)]) rfl dX0_addLady_19 ?_
      refine hj_iconst hX (v := (1 : Int32)) (by decide) dX0_addLady_20 ?_
      refine hj_istore hX (Nat.le_of_ble_eq_true rfl) (lv2 := [(4, .int (1 : Int32)), (3, .int (0 : Int32)), (0, .ref p0), (1, .ref p1), (2, .int v2)]) rfl dX0_addLady_21 ?_
      refine hj_lv hX [2, 3, 4, 1, 0] (lv2 := [(0, .ref p0), (1, .ref p1), (2, .int v2), (3, .int (0 : Int32)), (4, .int (1 : Int32))]) rfl ?_
      exact X0_addLady_l23_ok hX hf0 hf1 hF _ _ _ _ h
    · refine hj_iconst hX (v := (0 : Int32)) (by decide) dX0_addLady_16 ?_
      exact hj_zret hX dX0_addLady_17 h)
def X0_add (p0 p2 : Nat) (v1 : Int32) (v3 : Int32) (I : hM) : Option (Int32 × hM) := if v3 < 0 then (gd (decide ((0 : Int32) = (0 : Int32)) || decide ((0 : Int32) = (1 : Int32))) (some ((0 : Int32), I))) else (if v3 ≤ (nI 5) then (if v1 = (102 : Int32) then (if v3 = (3 : Int32) then (ob (X0_addFollowing p0 p2 I) (fun u1 Ia2 => if u1 = 0 then (gd (decide ((0 : Int32) = (0 : Int32)) || decide ((0 : Int32) = (1 : Int32))) (some ((0 : Int32), Ia2))) else (gd (decide ((1 : Int32) = (0 : Int32)) || decide ((1 : Int32) = (1 : Int32))) (some ((1 : Int32), Ia2))))) else (gd (decide ((0 : Int32) = (0 : Int32)) || decide ((0 : Int32) = (1 : Int32))) (some ((0 : Int32), I)))) else (if v1 = (103 : Int32) then (if v3 = (5 : Int32) then (ob (X0_addGoing p0 p2 I) (fun u5 Ia6 => if u5 = 0 then (gd (decide ((0 : Int32) = (0 : Int32)) || decide ((0 : Int32) = (1 : Int32))) (some ((0 : Int32), Ia6))) else (gd (decide ((1 : Int32) = (0 : Int32)) || decide ((1 : Int32) = (1 : Int32))) (some ((1 : Int32), Ia6))))) else (gd (decide ((0 : Int32) = (0 : Int32)) || decide ((0 : Int32) = (1 : Int32))) (some ((0 : Int32), I)))) else (if v1 = (108 : Int32) then (if v3 < (2 : Int32) then (gd (decide ((0 : Int32) = (0 : Int32)) || decide ((0 : Int32) = (1 : Int32))) (some ((0 : Int32), I))) else (ob (X0_addLady p0 p2 v3 I) (fun u9 Ia10 => if u9 = 0 then (gd (decide ((0 : Int32) = (0 : Int32)) || decide ((0 : Int32) = (1 : Int32))) (some ((0 : Int32), Ia10))) else (gd (decide ((1 : Int32) = (0 : Int32)) || decide ((1 : Int32) = (1 : Int32))) (some ((1 : Int32), Ia10)))))) else (gd (decide ((0 : Int32) = (0 : Int32)) || decide ((0 : Int32) = (1 : Int32))) (some ((0 : Int32), I)))))) else (gd (decide ((0 : Int32) = (0 : Int32)) || decide ((0 : Int32) = (1 : Int32))) (some ((0 : Int32), I))))
theorem X0_add_hy : yX0_add.cls = RX0 ∧ yX0_add.cls ≠ "java/lang/invoke/MethodHandle" ∧ yX0_add.cls ≠ "java/lang/invoke/VarHandle" ∧ (parseMethodDescriptor yX0_add.desc).map (fun d => d.parameters.length) = some 3 := by decide +kernel
set_option maxHeartbeats 4000000 in
set_option maxRecDepth 100000 in
theorem X0_add_ok {sh : List hS} {r : Int32} {I I2 : hM} {p0 p2 : Nat} {v1 : Int32} {v3 : Int32} (hf0 : hq_X0 sh p0) (hf2 : sh[p2]? = some (1, 5, [])) (h : X0_add p0 p2 v1 v3 I = some (r, I2)) : hp_C yX0_add wsX0_add 1 0 0 sh I [.ref p0, .int v1, .ref p2, .int v3] (some (.int r)) sh I2 := hp_start (cc := cX0_add) (maxL := 4) (ret := (some .boolean)) [(0, .ref p0), (1, .int v1), (2, .ref p2), (3, .int v3)] (by decide) rfl (fun _ _ => rfl) (fun _ _ => Nat.le_of_ble_eq_true rfl) (fun p l e s m below meth c D E b z hX _ => by
  unfold X0_add at h
  refine hj_iload_n hX rfl 3 rfl dX0_add_0 ?_
  refine hj_if_lt hX (tgt := 10) (by decide) dX0_add_1 h (fun h => ?_) (fun h => ?_)
  · refine hj_iconst hX (v := (0 : Int32)) (by decide) dX0_add_10 ?_
    exact hj_zret hX dX0_add_11 h
  · refine hj_iload_n hX rfl 3 rfl dX0_add_4 ?_
    refine hj_aload_n hX rfl 2 rfl dX0_add_5 ?_
    refine hj_alen1 hX hf2 dX0_add_6 ?_
    refine hj_icmp_le hX (tgt := 12) (by decide) dX0_add_7 h (fun h => ?_) (fun h => ?_)
    · refine hj_iload_n hX rfl 1 rfl dX0_add_12 ?_
      refine hp_ite h (fun c4 h => ?_) (fun c4 h => ?_)
      · refine hj_look hX (tgt := 67) (off := 54) (by decide) (by rw [c4]; rfl) (by decide) dX0_add_13 ?_
        refine hj_iload_n hX rfl 3 rfl dX0_add_67 ?_
        refine hj_iconst hX (v := (3 : Int32)) (by decide) dX0_add_68 ?_
        refine hj_icmp_ne hX (tgt := 84) (by decide) dX0_add_69 h (fun h => ?_) (fun h => ?_)
        · refine hj_iconst hX (v := (0 : Int32)) (by decide) dX0_add_84 ?_
          exact hj_zret hX dX0_add_85 h
        · refine hj_aload_n hX rfl 0 rfl dX0_add_72 ?_
          refine hj_aload_n hX rfl 2 rfl dX0_add_73 ?_
          obtain ⟨u1, Ia2, hc3, h⟩ := ob_e h
          refine hj_callV hX (sh2 := sh) (I2 := Ia2) (r := (some (.int u1))) (As := [.ref p2]) (rest := []) (st2 := [.int u1]) (X0_addFollowing_ok hf0 hf2 hc3) gX0_add_X0_addFollowing rfl X0_addFollowing_hy ⟨(Nat.le_of_ble_eq_true rfl), (Nat.le_of_ble_eq_true rfl)⟩ rfl hf0.1 rfl (Nat.le_of_ble_eq_true rfl) ⟨(Nat.le_of_ble_eq_true rfl), (Nat.le_of_ble_eq_true rfl)⟩ rfl rfl rfl dX0_add_74 ?_
          refine hj_if_eq hX (tgt := 84) (by decide) dX0_add_77 h (fun h => ?_) (fun h => ?_)
          · refine hj_iconst hX (v := (0 : Int32)) (by decide) dX0_add_84 ?_
            exact hj_zret hX dX0_add_85 h
          · refine hj_iconst hX (v := (1 : Int32)) (by decide) dX0_add_80 ?_
            refine hj_goto hX (tgt := 85) (by decide) dX0_add_81 ?_
            exact hj_zret hX dX0_add_85 h
      · refine hp_ite h (fun c8 h => ?_) (fun c8 h => ?_)
        · refine hj_look hX (tgt := 48) (off := 35) (by decide) (by rw [c8]; rfl) (by decide) dX0_add_13 ?_
          refine hj_iload_n hX rfl 3 rfl dX0_add_48 ?_
          refine hj_iconst hX (v := (5 : Int32)) (by decide) dX0_add_49 ?_
          refine hj_icmp_ne hX (tgt := 65) (by decide) dX0_add_50 h (fun h => ?_) (fun h => ?_)
          · refine hj_iconst hX (v := (0 : Int32)) (by decide) dX0_add_65 ?_
            exact hj_zret hX dX0_add_66 h
          · refine hj_aload_n hX rfl 0 rfl dX0_add_53 ?_
            refine hj_aload_n hX rfl 2 rfl dX0_add_54 ?_
            obtain ⟨u5, Ia6, hc7, h⟩ := ob_e h
            refine hj_callV hX (sh2 := sh) (I2 := Ia6) (r := (some (.int u5))) (As := [.ref p2]) (rest := []) (st2 := [.int u5]) (X0_addGoing_ok hf0 hf2 hc7) gX0_add_X0_addGoing rfl X0_addGoing_hy ⟨(Nat.le_of_ble_eq_true rfl), (Nat.le_of_ble_eq_true rfl)⟩ rfl hf0.1 rfl (Nat.le_of_ble_eq_true rfl) ⟨(Nat.le_of_ble_eq_true rfl), (Nat.le_of_ble_eq_true rfl)⟩ rfl rfl rfl dX0_add_55 ?_
            refine hj_if_eq hX (tgt := 65) (by decide) dX0_add_58 h (fun h => ?_) (fun h => ?_)
            · refine hj_iconst hX (v := (0 : Int32)) (by decide) dX0_add_65 ?_
              exact hj_zret hX dX0_add_66 h
            · refine hj_iconst hX (v := (1 : Int32)) (by decide) dX0_add_61 ?_
              refine hj_goto hX (tgt := 66) (by decide) dX0_add_62 ?_
              exact hj_zret hX dX0_add_66 h
        · refine hp_ite h (fun c12 h => ?_) (fun c12 h => ?_)
          · refine hj_look hX (tgt := 86) (off := 73) (by decide) (by rw [c12]; rfl) (by decide) dX0_add_13 ?_
            refine hj_iload_n hX rfl 3 rfl dX0_add_86 ?_
            refine hj_iconst hX (v := (2 : Int32)) (by decide) dX0_add_87 ?_
            refine hj_icmp_lt hX (tgt := 104) (by decide) dX0_add_88 h (fun h => ?_) (fun h => ?_)
            · refine hj_iconst hX (v := (0 : Int32)) (by decide) dX0_add_104 ?_
              exact hj_zret hX dX0_add_105 h
            · refine hj_aload_n hX rfl 0 rfl dX0_add_91 ?_
              refine hj_aload_n hX rfl 2 rfl dX0_add_92 ?_
              refine hj_iload_n hX rfl 3 rfl dX0_add_93 ?_
              obtain ⟨u9, Ia10, hc11, h⟩ := ob_e h
              refine hj_callV hX (sh2 := sh) (I2 := Ia10) (r := (some (.int u9))) (As := [.ref p2, .int v3]) (rest := []) (st2 := [.int u9]) (X0_addLady_ok hf0 hf2 hc11) gX0_add_X0_addLady rfl X0_addLady_hy ⟨(Nat.le_of_ble_eq_true rfl), (Nat.le_of_ble_eq_true rfl)⟩ rfl hf0.1 rfl (Nat.le_of_ble_eq_true rfl) ⟨(Nat.le_of_ble_eq_true rfl), (Nat.le_of_ble_eq_true rfl)⟩ rfl rfl rfl dX0_add_94 ?_
              refine hj_if_eq hX (tgt := 104) (by decide) dX0_add_97 h (fun h => ?_) (fun h => ?_)
              · refine hj_iconst hX (v := (0 : Int32)) (by decide) dX0_add_104 ?_
                exact hj_zret hX dX0_add_105 h
              · refine hj_iconst hX (v := (1 : Int32)) (by decide) dX0_add_100 ?_
                refine hj_goto hX (tgt := 105) (by decide) dX0_add_101 ?_
                exact hj_zret hX dX0_add_105 h
          · refine hj_look hX (tgt := 106) (off := 93) (by decide) (by show Op.lookupswitch.offset [(102, 54), (103, 35), (108, 73)] 93 _ = _; rw [lv_osw c4 (by decide)]; rw [lv_osw c8 (by decide)]; rw [lv_osw c12 (by decide)]; rfl) (by decide) dX0_add_13 ?_
            refine hj_iconst hX (v := (0 : Int32)) (by decide) dX0_add_106 ?_
            exact hj_zret hX dX0_add_107 h
    · refine hj_iconst hX (v := (0 : Int32)) (by decide) dX0_add_10 ?_
      exact hj_zret hX dX0_add_11 h)
def X3_append (p0 : Nat) (v1 : Int32) (I : hM) : Option (Int32 × hM) := if (I p0 1) < 0 then (gd (decide ((0 : Int32) = (0 : Int32)) || decide ((0 : Int32) = (1 : Int32))) (some ((0 : Int32), I))) else (if (I p0 1) < (200 : Int32) then (gd (hx (I p0 1) 200) (gd (decide ((1 : Int32) = (0 : Int32)) || decide ((1 : Int32) = (1 : Int32))) (some ((1 : Int32), (hu (hu I (p0 + 1) ((I p0 1)).toNatClampNeg v1) p0 1 (((hu I (p0 + 1) ((I p0 1)).toNatClampNeg v1) p0 1) + (1 : Int32))))))) else (gd (decide ((0 : Int32) = (0 : Int32)) || decide ((0 : Int32) = (1 : Int32))) (some ((0 : Int32), I))))
theorem X3_append_hy : yX3_append.cls = RX3 ∧ yX3_append.cls ≠ "java/lang/invoke/MethodHandle" ∧ yX3_append.cls ≠ "java/lang/invoke/VarHandle" ∧ (parseMethodDescriptor yX3_append.desc).map (fun d => d.parameters.length) = some 1 := by decide +kernel
theorem X3_append_k18 : Cond.fieldLink RX3 18 "HatPins$Text" "length" "I" ∈ wsX3_append := by decide +kernel
theorem X3_append_k9 : Cond.fieldLink RX3 9 "HatPins$Text" "letters" "[I" ∈ wsX3_append := by decide +kernel
theorem X3_append_w3 : ∀ w ∈ wsX30, w ∈ wsX3_append := by decide +kernel
set_option maxHeartbeats 4000000 in
set_option maxRecDepth 100000 in
theorem X3_append_ok {sh : List hS} {r : Int32} {I I2 : hM} {p0 : Nat} {v1 : Int32} (hf0 : hq_X3 sh p0) (h : X3_append p0 v1 I = some (r, I2)) : hp_C yX3_append wsX3_append 0 0 0 sh I [.ref p0, .int v1] (some (.int r)) sh I2 := hp_start (cc := cX3_append) (maxL := 2) (ret := (some .boolean)) [(0, .ref p0), (1, .int v1)] (by decide) rfl (fun _ _ => rfl) (fun _ _ => Nat.le_of_ble_eq_true rfl) (fun p l e s m below meth c D E b z hX _ => by
  unfold X3_append at h
  refine hj_aload_n hX rfl 0 rfl dX3_append_0 ?_
  refine hj_geti hX (j := 1) hf0.1 rfl rfl X3_append_w3 (Nat.le_of_ble_eq_true rfl) rfl X3_append_k18 dX3_append_1 ?_
  refine hj_if_lt hX (tgt := 17) (by decide) dX3_append_4 h (fun h => ?_) (fun h => ?_)
  · refine hj_iconst hX (v := (0 : Int32)) (by decide) dX3_append_17 ?_
    exact hj_zret hX dX3_append_18 h
  · refine hj_aload_n hX rfl 0 rfl dX3_append_7 ?_
    refine hj_geti hX (j := 1) hf0.1 rfl rfl X3_append_w3 (Nat.le_of_ble_eq_true rfl) rfl X3_append_k18 dX3_append_8 ?_
    refine hj_sipush hX (v := (200 : Int32)) (by decide) dX3_append_11 ?_
    refine hj_icmp_lt hX (tgt := 19) (by decide) dX3_append_14 h (fun h => ?_) (fun h => ?_)
    · refine hj_aload_n hX rfl 0 rfl dX3_append_19 ?_
      refine hj_getr hX (j := 0) hf0.1 rfl rfl X3_append_w3 (Nat.le_of_ble_eq_true rfl) rfl X3_append_k9 dX3_append_20 ?_
      refine hj_aload_n hX rfl 0 rfl dX3_append_23 ?_
      refine hj_geti hX (j := 1) hf0.1 rfl rfl X3_append_w3 (Nat.le_of_ble_eq_true rfl) rfl X3_append_k18 dX3_append_24 ?_
      refine hj_iload_n hX rfl 1 rfl dX3_append_27 ?_
      refine hj_iast hX hf0.2.1 dX3_append_28 h (fun h => ?_)
      refine hj_aload_n hX rfl 0 rfl dX3_append_29 ?_
      refine hj_dup hX rfl dX3_append_30 ?_
      refine hj_geti hX (j := 1) hf0.1 rfl rfl X3_append_w3 (Nat.le_of_ble_eq_true rfl) rfl X3_append_k18 dX3_append_31 ?_
      refine hj_iconst hX (v := (1 : Int32)) (by decide) dX3_append_34 ?_
      refine hj_iadd hX dX3_append_35 ?_
      refine hj_puti hX (j := 1) hf0.1 rfl rfl X3_append_w3 (Nat.le_of_ble_eq_true rfl) rfl X3_append_k18 tyX3_ok nmX3 rfl (by decide +kernel) dX3_append_36 ?_
      refine hj_iconst hX (v := (1 : Int32)) (by decide) dX3_append_39 ?_
      exact hj_zret hX dX3_append_40 h
    · refine hj_iconst hX (v := (0 : Int32)) (by decide) dX3_append_17 ?_
      exact hj_zret hX dX3_append_18 h)
def X3_letterAt (p0 : Nat) (v1 : Int32) (I : hM) : Option (Int32 × hM) := if v1 < 0 then (some ((0 : Int32), I)) else (if (I p0 1) ≤ v1 then (some ((0 : Int32), I)) else (if (200 : Int32) ≤ v1 then (some ((0 : Int32), I)) else (gd (hx v1 200) (some ((I (p0 + 1) (v1).toNatClampNeg), I)))))
theorem X3_letterAt_hy : yX3_letterAt.cls = RX3 ∧ yX3_letterAt.cls ≠ "java/lang/invoke/MethodHandle" ∧ yX3_letterAt.cls ≠ "java/lang/invoke/VarHandle" ∧ (parseMethodDescriptor yX3_letterAt.desc).map (fun d => d.parameters.length) = some 1 := by decide +kernel
theorem X3_letterAt_k18 : Cond.fieldLink RX3 18 "HatPins$Text" "length" "I" ∈ wsX3_letterAt := by decide +kernel
theorem X3_letterAt_k9 : Cond.fieldLink RX3 9 "HatPins$Text" "letters" "[I" ∈ wsX3_letterAt := by decide +kernel
theorem X3_letterAt_w3 : ∀ w ∈ wsX30, w ∈ wsX3_letterAt := by decide +kernel
set_option maxHeartbeats 4000000 in
set_option maxRecDepth 100000 in
theorem X3_letterAt_ok {sh : List hS} {r : Int32} {I I2 : hM} {p0 : Nat} {v1 : Int32} (hf0 : hq_X3 sh p0) (h : X3_letterAt p0 v1 I = some (r, I2)) : hp_C yX3_letterAt wsX3_letterAt 0 0 0 sh I [.ref p0, .int v1] (some (.int r)) sh I2 := hp_start (cc := cX3_letterAt) (maxL := 2) (ret := (some .int)) [(0, .ref p0), (1, .int v1)] (by decide) rfl (fun _ _ => rfl) (fun _ _ => Nat.le_of_ble_eq_true rfl) (fun p l e s m below meth c D E b z hX _ => by
  unfold X3_letterAt at h
  refine hj_iload_n hX rfl 1 rfl dX3_letterAt_0 ?_
  refine hj_if_lt hX (tgt := 28) (by decide) dX3_letterAt_1 h (fun h => ?_) (fun h => ?_)
  · refine hj_iconst hX (v := (0 : Int32)) (by decide) dX3_letterAt_28 ?_
    exact hj_iret hX dX3_letterAt_29 h
  · refine hj_iload_n hX rfl 1 rfl dX3_letterAt_4 ?_
    refine hj_aload_n hX rfl 0 rfl dX3_letterAt_5 ?_
    refine hj_geti hX (j := 1) hf0.1 rfl rfl X3_letterAt_w3 (Nat.le_of_ble_eq_true rfl) rfl X3_letterAt_k18 dX3_letterAt_6 ?_
    refine hj_icmp_ge hX (tgt := 28) (by decide) dX3_letterAt_9 h (fun h => ?_) (fun h => ?_)
    · refine hj_iconst hX (v := (0 : Int32)) (by decide) dX3_letterAt_28 ?_
      exact hj_iret hX dX3_letterAt_29 h
    · refine hj_iload_n hX rfl 1 rfl dX3_letterAt_12 ?_
      refine hj_sipush hX (v := (200 : Int32)) (by decide) dX3_letterAt_13 ?_
      refine hj_icmp_ge hX (tgt := 28) (by decide) dX3_letterAt_16 h (fun h => ?_) (fun h => ?_)
      · refine hj_iconst hX (v := (0 : Int32)) (by decide) dX3_letterAt_28 ?_
        exact hj_iret hX dX3_letterAt_29 h
      · refine hj_aload_n hX rfl 0 rfl dX3_letterAt_19 ?_
        refine hj_getr hX (j := 0) hf0.1 rfl rfl X3_letterAt_w3 (Nat.le_of_ble_eq_true rfl) rfl X3_letterAt_k9 dX3_letterAt_20 ?_
        refine hj_iload_n hX rfl 1 rfl dX3_letterAt_23 ?_
        refine hj_iald hX hf0.2.1 dX3_letterAt_24 h (fun h => ?_)
        refine hj_goto hX (tgt := 29) (by decide) dX3_letterAt_25 ?_
        exact hj_iret hX dX3_letterAt_29 h)
def X3_isFigure (p0 : Nat) (v1 : Int32) (I : hM) : Option (Int32 × hM) := ob (X3_letterAt p0 v1 I) (fun u1 Ia2 => if u1 < (48 : Int32) then (gd (decide ((0 : Int32) = (0 : Int32)) || decide ((0 : Int32) = (1 : Int32))) (some ((0 : Int32), Ia2))) else (if (57 : Int32) < u1 then (gd (decide ((0 : Int32) = (0 : Int32)) || decide ((0 : Int32) = (1 : Int32))) (some ((0 : Int32), Ia2))) else (gd (decide ((1 : Int32) = (0 : Int32)) || decide ((1 : Int32) = (1 : Int32))) (some ((1 : Int32), Ia2)))))
theorem X3_isFigure_hy : yX3_isFigure.cls = RX3 ∧ yX3_isFigure.cls ≠ "java/lang/invoke/MethodHandle" ∧ yX3_isFigure.cls ≠ "java/lang/invoke/VarHandle" ∧ (parseMethodDescriptor yX3_isFigure.desc).map (fun d => d.parameters.length) = some 1 := by decide +kernel
set_option maxHeartbeats 4000000 in
set_option maxRecDepth 100000 in
theorem X3_isFigure_ok {sh : List hS} {r : Int32} {I I2 : hM} {p0 : Nat} {v1 : Int32} (hf0 : hq_X3 sh p0) (h : X3_isFigure p0 v1 I = some (r, I2)) : hp_C yX3_isFigure wsX3_isFigure 1 0 0 sh I [.ref p0, .int v1] (some (.int r)) sh I2 := hp_start (cc := cX3_isFigure) (maxL := 3) (ret := (some .boolean)) [(0, .ref p0), (1, .int v1)] (by decide) rfl (fun _ _ => rfl) (fun _ _ => Nat.le_of_ble_eq_true rfl) (fun p l e s m below meth c D E b z hX _ => by
  unfold X3_isFigure at h
  refine hj_aload_n hX rfl 0 rfl dX3_isFigure_0 ?_
  refine hj_iload_n hX rfl 1 rfl dX3_isFigure_1 ?_
  obtain ⟨u1, Ia2, hc3, h⟩ := ob_e h
  refine hj_callV hX (sh2 := sh) (I2 := Ia2) (r := (some (.int u1))) (As := [.int v1]) (rest := []) (st2 := [.int u1]) (X3_letterAt_ok hf0 hc3) gX3_isFigure_X3_letterAt rfl X3_letterAt_hy ⟨(Nat.le_of_ble_eq_true rfl), (Nat.le_of_ble_eq_true rfl)⟩ rfl hf0.1 rfl (Nat.le_of_ble_eq_true rfl) ⟨(Nat.le_of_ble_eq_true rfl), (Nat.le_of_ble_eq_true rfl)⟩ rfl rfl rfl dX3_isFigure_2 ?_
  refine hj_istore_n hX rfl (Nat.le_of_ble_eq_true rfl) (lv2 := [(2, .int u1), (0, .ref p0), (1, .int v1)]) rfl dX3_isFigure_5 ?_
  refine hj_iload_n hX rfl 0 rfl dX3_isFigure_6 ?_
  refine hj_bipush hX (v := (48 : Int32)) (by decide) dX3_isFigure_7 ?_
  refine hj_icmp_lt hX (tgt := 22) (by decide) dX3_isFigure_9 h (fun h => ?_) (fun h => ?_)
  · refine hj_iconst hX (v := (0 : Int32)) (by decide) dX3_isFigure_22 ?_
    exact hj_zret hX dX3_isFigure_23 h
  · refine hj_iload_n hX rfl 0 rfl dX3_isFigure_12 ?_
    refine hj_bipush hX (v := (57 : Int32)) (by decide) dX3_isFigure_13 ?_
    refine hj_icmp_gt hX (tgt := 22) (by decide) dX3_isFigure_15 h (fun h => ?_) (fun h => ?_)
    · refine hj_iconst hX (v := (0 : Int32)) (by decide) dX3_isFigure_22 ?_
      exact hj_zret hX dX3_isFigure_23 h
    · refine hj_iconst hX (v := (1 : Int32)) (by decide) dX3_isFigure_18 ?_
      refine hj_goto hX (tgt := 23) (by decide) dX3_isFigure_19 ?_
      exact hj_zret hX dX3_isFigure_23 h)
def X3_readNumbers_b60 (p0 : Nat) (k4 : Int32 → Int32 → hM → Option (Int32 × hM)) (v2 : Int32) (v3 : Int32) (v4 : Int32) (I : hM) : Option (Int32 × hM) := gd (hx v3 5) (ob (X3_letterAt p0 v2 (hu (hu I (p0 + 2) (v3).toNatClampNeg v4) p0 3 (v3 + (1 : Int32)))) (fun u13 Ia14 => if u13 = (59 : Int32) then (some ((v2 + (1 : Int32)), Ia14)) else (if u13 = (44 : Int32) then ((k4 (v2 + (1 : Int32)) (v3 + (1 : Int32)) Ia14)) else (some ((-4 : Int32), Ia14)))))
def X3_readNumbers_h4 (p0 : Nat) (k4 : Int32 → Int32 → hM → Option (Int32 × hM)) (v2 : Int32) (v3 : Int32) (I : hM) : Option (Int32 × hM) := if (5 : Int32) ≤ v3 then (some ((-4 : Int32), I)) else (ob (X3_isFigure p0 v2 I) (fun u1 Ia2 => if u1 = 0 then (some ((-4 : Int32), Ia2)) else (ob (X3_letterAt p0 v2 Ia2) (fun u4 Ia5 => ob (X3_isFigure p0 (v2 + (1 : Int32)) Ia5) (fun u7 Ia8 => if u7 = 0 then ((X3_readNumbers_b60 p0 k4 (v2 + (1 : Int32)) v3 (u4 - (48 : Int32)) Ia8)) else (ob (X3_letterAt p0 (v2 + (1 : Int32)) Ia8) (fun u10 Ia11 => (X3_readNumbers_b60 p0 k4 ((v2 + (1 : Int32)) + (1 : Int32)) v3 ((((10 : Int32) * (u4 - (48 : Int32))) + u10) - (48 : Int32)) Ia11))))))))
def X3_readNumbers_l4 (p0 : Nat) : Nat → Int32 → Int32 → hM → Option (Int32 × hM)
  | 0 => fun _ _ _ => none
  | n + 1 => X3_readNumbers_h4 p0  (X3_readNumbers_l4 p0  n)
def X3_readNumbers (p0 : Nat) (v1 : Int32) (I : hM) : Option (Int32 × hM) := (X3_readNumbers_l4 p0 hF v1 (0 : Int32) I)
theorem X3_readNumbers_hy : yX3_readNumbers.cls = RX3 ∧ yX3_readNumbers.cls ≠ "java/lang/invoke/MethodHandle" ∧ yX3_readNumbers.cls ≠ "java/lang/invoke/VarHandle" ∧ (parseMethodDescriptor yX3_readNumbers.desc).map (fun d => d.parameters.length) = some 1 := by decide +kernel
theorem X3_readNumbers_k15 : Cond.fieldLink RX3 15 "HatPins$Text" "numbers" "[I" ∈ wsX3_readNumbers := by decide +kernel
theorem X3_readNumbers_k34 : Cond.fieldLink RX3 34 "HatPins$Text" "found" "I" ∈ wsX3_readNumbers := by decide +kernel
theorem X3_readNumbers_w3 : ∀ w ∈ wsX30, w ∈ wsX3_readNumbers := by decide +kernel
set_option maxHeartbeats 4000000 in
set_option maxRecDepth 100000 in
theorem X3_readNumbers_b60_ok {p : Program} {l : Launch} {e : Env} {s : State} {m : MethodId} {args : Array Value} {below : List Frame} {meth : Method} {c : Code} {D : va_G} {E : Nat → ClassId} {b z : Nat} {sh : List hS} {r : Int32} {I2 : hM} {p0 : Nat} {k4 : Int32 → Int32 → hM → Option (Int32 × hM)} {v2 : Int32} {v3 : Int32} {v4 : Int32} {I : hM} (hX : hp_X p s m args meth c yX3_readNumbers.cls cX3_readNumbers 6 wsX3_readNumbers D E (some .int) yX3_readNumbers.name) (hf0 : hq_X3 sh p0) (hk4 : ∀ (v2 : Int32) (v3 : Int32) (I : hM), k4 v2 v3 I = some (r, I2) → hp_J p l e ({ frames := 2, cells := 0, slots := 0, locals := 44 * 2 }) s m args below meth c (MQ below (hp_Q D E b z (some (.int r)) sh I2) args s 0 0 (fun q : Nat => b ≤ q)) D E b z 6 sh 0 0 I 4 [(0, .ref p0), (2, .int v2), (3, .int v3)] []) (h : X3_readNumbers_b60 p0 k4 v2 v3 v4 I = some (r, I2)) : hp_J p l e ({ frames := 2, cells := 0, slots := 0, locals := 44 * 2 }) s m args below meth c (MQ below (hp_Q D E b z (some (.int r)) sh I2) args s 0 0 (fun q : Nat => b ≤ q)) D E b z 6 sh 0 0 I 60 [(0, .ref p0), (2, .int v2), (3, .int v3), (4, .int v4)] [] := by
  unfold X3_readNumbers_b60 at h
  refine hj_aload_n hX rfl 0 rfl dX3_readNumbers_60 ?_
  refine hj_getr hX (j := 2) hf0.1 rfl rfl X3_readNumbers_w3 (Nat.le_of_ble_eq_true rfl) rfl X3_readNumbers_k15 dX3_readNumbers_61 ?_
  refine hj_iload_n hX rfl 2 rfl dX3_readNumbers_64 ?_
  refine hj_iload hX 3 rfl dX3_readNumbers_65 ?_
  refine hj_iast hX hf0.2.2 dX3_readNumbers_67 h (fun h => ?_)
  refine hj_aload_n hX rfl 0 rfl dX3_readNumbers_68 ?_
  refine hj_iload_n hX rfl 2 rfl dX3_readNumbers_69 ?_
  refine hj_iconst hX (v := (1 : Int32)) (by decide) dX3_readNumbers_70 ?_
  refine hj_iadd hX dX3_readNumbers_71 ?_
  refine hj_puti hX (j := 3) hf0.1 rfl rfl X3_readNumbers_w3 (Nat.le_of_ble_eq_true rfl) rfl X3_readNumbers_k34 tyX3_ok nmX3 rfl (by decide +kernel) dX3_readNumbers_72 ?_
  refine hj_aload_n hX rfl 0 rfl dX3_readNumbers_75 ?_
  refine hj_iload_n hX rfl 1 rfl dX3_readNumbers_76 ?_
  obtain ⟨u13, Ia14, hc15, h⟩ := ob_e h
  refine hj_callV hX (sh2 := sh) (I2 := Ia14) (r := (some (.int u13))) (As := [.int v2]) (rest := []) (st2 := [.int u13]) (X3_letterAt_ok hf0 hc15) gX3_readNumbers_X3_letterAt rfl X3_letterAt_hy ⟨(Nat.le_of_ble_eq_true rfl), (Nat.le_of_ble_eq_true rfl)⟩ rfl hf0.1 rfl (Nat.le_of_ble_eq_true rfl) ⟨(Nat.le_of_ble_eq_true rfl), (Nat.le_of_ble_eq_true rfl)⟩ rfl rfl rfl dX3_readNumbers_77 ?_
  refine hj_istore hX (Nat.le_of_ble_eq_true rfl) (lv2 := [(5, .int u13), (0, .ref p0), (2, .int v2), (3, .int v3), (4, .int v4)]) rfl dX3_readNumbers_80 ?_
  refine hj_iinc hX (k1 := 2) (v := (v2 + (1 : Int32))) rfl rfl (Nat.le_of_ble_eq_true rfl) (lv2 := [(2, .int (v2 + (1 : Int32))), (5, .int u13), (0, .ref p0), (3, .int v3), (4, .int v4)]) rfl dX3_readNumbers_82 ?_
  refine hj_iload hX 1 rfl dX3_readNumbers_85 ?_
  refine hj_bipush hX (v := (59 : Int32)) (by decide) dX3_readNumbers_87 ?_
  refine hj_icmp_ne hX (tgt := 94) (by decide) dX3_readNumbers_89 h (fun h => ?_) (fun h => ?_)
  · refine hj_iload hX 1 rfl dX3_readNumbers_94 ?_
    refine hj_bipush hX (v := (44 : Int32)) (by decide) dX3_readNumbers_96 ?_
    refine hj_icmp_eq hX (tgt := 104) (by decide) dX3_readNumbers_98 h (fun h => ?_) (fun h => ?_)
    · refine hj_iinc hX (k1 := 3) (v := (v3 + (1 : Int32))) rfl rfl (Nat.le_of_ble_eq_true rfl) (lv2 := [(3, .int (v3 + (1 : Int32))), (2, .int (v2 + (1 : Int32))), (5, .int u13), (0, .ref p0), (4, .int v4)]) rfl dX3_readNumbers_104 ?_
      refine hj_goto hX (tgt := 4) (by decide) dX3_readNumbers_107 ?_
      refine hj_lv hX [3, 1, 0] (lv2 := [(0, .ref p0), (2, .int (v2 + (1 : Int32))), (3, .int (v3 + (1 : Int32)))]) rfl ?_
      exact hk4 _ _ _ h
    · refine hj_bipush hX (v := (-4 : Int32)) (by decide) dX3_readNumbers_101 ?_
      exact hj_iret hX dX3_readNumbers_103 h
  · refine hj_iload_n hX rfl 0 rfl dX3_readNumbers_92 ?_
    exact hj_iret hX dX3_readNumbers_93 h
set_option maxHeartbeats 4000000 in
set_option maxRecDepth 100000 in
theorem X3_readNumbers_h4_ok {p : Program} {l : Launch} {e : Env} {s : State} {m : MethodId} {args : Array Value} {below : List Frame} {meth : Method} {c : Code} {D : va_G} {E : Nat → ClassId} {b z : Nat} {sh : List hS} {r : Int32} {I2 : hM} {p0 : Nat} {k4 : Int32 → Int32 → hM → Option (Int32 × hM)} {v2 : Int32} {v3 : Int32} {I : hM} (hX : hp_X p s m args meth c yX3_readNumbers.cls cX3_readNumbers 6 wsX3_readNumbers D E (some .int) yX3_readNumbers.name) (hf0 : hq_X3 sh p0) (hk4 : ∀ (v2 : Int32) (v3 : Int32) (I : hM), k4 v2 v3 I = some (r, I2) → hp_J p l e ({ frames := 2, cells := 0, slots := 0, locals := 44 * 2 }) s m args below meth c (MQ below (hp_Q D E b z (some (.int r)) sh I2) args s 0 0 (fun q : Nat => b ≤ q)) D E b z 6 sh 0 0 I 4 [(0, .ref p0), (2, .int v2), (3, .int v3)] []) (h : X3_readNumbers_h4 p0 k4 v2 v3 I = some (r, I2)) : hp_J p l e ({ frames := 2, cells := 0, slots := 0, locals := 44 * 2 }) s m args below meth c (MQ below (hp_Q D E b z (some (.int r)) sh I2) args s 0 0 (fun q : Nat => b ≤ q)) D E b z 6 sh 0 0 I 4 [(0, .ref p0), (2, .int v2), (3, .int v3)] [] := by
  unfold X3_readNumbers_h4 at h
  refine hj_iload_n hX rfl 2 rfl dX3_readNumbers_4 ?_
  refine hj_iconst hX (v := (5 : Int32)) (by decide) dX3_readNumbers_5 ?_
  refine hj_icmp_ge hX (tgt := 110) (by decide) dX3_readNumbers_6 h (fun h => ?_) (fun h => ?_)
  · refine hj_bipush hX (v := (-4 : Int32)) (by decide) dX3_readNumbers_110 ?_
    exact hj_iret hX dX3_readNumbers_112 h
  · refine hj_aload_n hX rfl 0 rfl dX3_readNumbers_9 ?_
    refine hj_iload_n hX rfl 1 rfl dX3_readNumbers_10 ?_
    obtain ⟨u1, Ia2, hc3, h⟩ := ob_e h
    refine hj_callV hX (sh2 := sh) (I2 := Ia2) (r := (some (.int u1))) (As := [.int v2]) (rest := []) (st2 := [.int u1]) (X3_isFigure_ok hf0 hc3) gX3_readNumbers_X3_isFigure rfl X3_isFigure_hy ⟨(Nat.le_of_ble_eq_true rfl), (Nat.le_of_ble_eq_true rfl)⟩ rfl hf0.1 rfl (Nat.le_of_ble_eq_true rfl) ⟨(Nat.le_of_ble_eq_true rfl), (Nat.le_of_ble_eq_true rfl)⟩ rfl rfl rfl dX3_readNumbers_11 ?_
    refine hj_if_ne hX (tgt := 20) (by decide) dX3_readNumbers_14 h (fun h => ?_) (fun h => ?_)
    · refine hj_aload_n hX rfl 0 rfl dX3_readNumbers_20 ?_
      refine hj_iload_n hX rfl 1 rfl dX3_readNumbers_21 ?_
      obtain ⟨u4, Ia5, hc6, h⟩ := ob_e h
      refine hj_callV hX (sh2 := sh) (I2 := Ia5) (r := (some (.int u4))) (As := [.int v2]) (rest := []) (st2 := [.int u4]) (X3_letterAt_ok hf0 hc6) gX3_readNumbers_X3_letterAt rfl X3_letterAt_hy ⟨(Nat.le_of_ble_eq_true rfl), (Nat.le_of_ble_eq_true rfl)⟩ rfl hf0.1 rfl (Nat.le_of_ble_eq_true rfl) ⟨(Nat.le_of_ble_eq_true rfl), (Nat.le_of_ble_eq_true rfl)⟩ rfl rfl rfl dX3_readNumbers_22 ?_
      refine hj_bipush hX (v := (48 : Int32)) (by decide) dX3_readNumbers_25 ?_
      refine hj_isub hX dX3_readNumbers_27 ?_
      refine hj_istore hX (Nat.le_of_ble_eq_true rfl) (lv2 := [(4, .int (u4 - (48 : Int32))), (0, .ref p0), (2, .int v2), (3, .int v3)]) rfl dX3_readNumbers_28 ?_
      refine hj_iinc hX (k1 := 2) (v := (v2 + (1 : Int32))) rfl rfl (Nat.le_of_ble_eq_true rfl) (lv2 := [(2, .int (v2 + (1 : Int32))), (4, .int (u4 - (48 : Int32))), (0, .ref p0), (3, .int v3)]) rfl dX3_readNumbers_30 ?_
      refine hj_aload_n hX rfl 2 rfl dX3_readNumbers_33 ?_
      refine hj_iload_n hX rfl 0 rfl dX3_readNumbers_34 ?_
      obtain ⟨u7, Ia8, hc9, h⟩ := ob_e h
      refine hj_callV hX (sh2 := sh) (I2 := Ia8) (r := (some (.int u7))) (As := [.int (v2 + (1 : Int32))]) (rest := []) (st2 := [.int u7]) (X3_isFigure_ok hf0 hc9) gX3_readNumbers_X3_isFigure rfl X3_isFigure_hy ⟨(Nat.le_of_ble_eq_true rfl), (Nat.le_of_ble_eq_true rfl)⟩ rfl hf0.1 rfl (Nat.le_of_ble_eq_true rfl) ⟨(Nat.le_of_ble_eq_true rfl), (Nat.le_of_ble_eq_true rfl)⟩ rfl rfl rfl dX3_readNumbers_35 ?_
      refine hj_if_eq hX (tgt := 60) (by decide) dX3_readNumbers_38 h (fun h => ?_) (fun h => ?_)
      · refine hj_lv hX [2, 0, 3, 1] (lv2 := [(0, .ref p0), (2, .int (v2 + (1 : Int32))), (3, .int v3), (4, .int (u4 - (48 : Int32)))]) rfl ?_
        exact X3_readNumbers_b60_ok hX hf0 hk4 h
      · refine hj_bipush hX (v := (10 : Int32)) (by decide) dX3_readNumbers_41 ?_
        refine hj_iload hX 1 rfl dX3_readNumbers_43 ?_
        refine hj_imul hX dX3_readNumbers_45 ?_
        refine hj_aload_n hX rfl 2 rfl dX3_readNumbers_46 ?_
        refine hj_iload_n hX rfl 0 rfl dX3_readNumbers_47 ?_
        obtain ⟨u10, Ia11, hc12, h⟩ := ob_e h
        refine hj_callV hX (sh2 := sh) (I2 := Ia11) (r := (some (.int u10))) (As := [.int (v2 + (1 : Int32))]) (rest := [.int ((10 : Int32) * (u4 - (48 : Int32)))]) (st2 := [.int u10, .int ((10 : Int32) * (u4 - (48 : Int32)))]) (X3_letterAt_ok hf0 hc12) gX3_readNumbers_X3_letterAt rfl X3_letterAt_hy ⟨(Nat.le_of_ble_eq_true rfl), (Nat.le_of_ble_eq_true rfl)⟩ rfl hf0.1 rfl (Nat.le_of_ble_eq_true rfl) ⟨(Nat.le_of_ble_eq_true rfl), (Nat.le_of_ble_eq_true rfl)⟩ rfl rfl rfl dX3_readNumbers_48 ?_
        refine hj_iadd hX dX3_readNumbers_51 ?_
        refine hj_bipush hX (v := (48 : Int32)) (by decide) dX3_readNumbers_52 ?_
        refine hj_isub hX dX3_readNumbers_54 ?_
        refine hj_istore hX (Nat.le_of_ble_eq_true rfl) (lv2 := [(4, .int ((((10 : Int32) * (u4 - (48 : Int32))) + u10) - (48 : Int32))), (2, .int (v2 + (1 : Int32))), (0, .ref p0), (3, .int v3)]) rfl dX3_readNumbers_55 ?_
        refine hj_iinc hX (k1 := 1) (v := ((v2 + (1 : Int32)) + (1 : Int32))) rfl rfl (Nat.le_of_ble_eq_true rfl) (lv2 := [(2, .int ((v2 + (1 : Int32)) + (1 : Int32))), (4, .int ((((10 : Int32) * (u4 - (48 : Int32))) + u10) - (48 : Int32))), (0, .ref p0), (3, .int v3)]) rfl dX3_readNumbers_57 ?_
        refine hj_lv hX [2, 0, 3, 1] (lv2 := [(0, .ref p0), (2, .int ((v2 + (1 : Int32)) + (1 : Int32))), (3, .int v3), (4, .int ((((10 : Int32) * (u4 - (48 : Int32))) + u10) - (48 : Int32)))]) rfl ?_
        exact X3_readNumbers_b60_ok hX hf0 hk4 h
    · refine hj_bipush hX (v := (-4 : Int32)) (by decide) dX3_readNumbers_17 ?_
      exact hj_iret hX dX3_readNumbers_19 h
set_option maxHeartbeats 4000000 in
set_option maxRecDepth 100000 in
theorem X3_readNumbers_l4_ok {p : Program} {l : Launch} {e : Env} {s : State} {m : MethodId} {args : Array Value} {below : List Frame} {meth : Method} {c : Code} {D : va_G} {E : Nat → ClassId} {b z : Nat} {sh : List hS} {r : Int32} {I2 : hM} {p0 : Nat} (hX : hp_X p s m args meth c yX3_readNumbers.cls cX3_readNumbers 6 wsX3_readNumbers D E (some .int) yX3_readNumbers.name) (hf0 : hq_X3 sh p0) : ∀ (n : Nat) (v2 : Int32) (v3 : Int32) (I : hM), X3_readNumbers_l4 p0 n v2 v3 I = some (r, I2) → hp_J p l e ({ frames := 2, cells := 0, slots := 0, locals := 44 * 2 }) s m args below meth c (MQ below (hp_Q D E b z (some (.int r)) sh I2) args s 0 0 (fun q : Nat => b ≤ q)) D E b z 6 sh 0 0 I 4 [(0, .ref p0), (2, .int v2), (3, .int v3)] [] := by
  intro n
  induction n with
  | zero => exact fun _ _ _ h => nomatch h
  | succ n ih => exact fun _ _ _ h => X3_readNumbers_h4_ok hX hf0 ih h
set_option maxHeartbeats 4000000 in
set_option maxRecDepth 100000 in
theorem X3_readNumbers_ok {sh : List hS} {r : Int32} {I I2 : hM} {p0 : Nat} {v1 : Int32} (hf0 : hq_X3 sh p0) (h : X3_readNumbers p0 v1 I = some (r, I2)) : hp_C yX3_readNumbers wsX3_readNumbers 2 0 0 sh I [.ref p0, .int v1] (some (.int r)) sh I2 := hp_start (cc := cX3_readNumbers) (maxL := 6) (ret := (some .int)) [(0, .ref p0), (1, .int v1)] (by decide) rfl (fun _ _ => rfl) (fun _ _ => Nat.le_of_ble_eq_true rfl) (fun p l e s m below meth c D E b z hX _ => by
  unfold X3_readNumbers at h
  refine hj_iload_n hX rfl 1 rfl dX3_readNumbers_0 ?_
  refine hj_istore_n hX rfl (Nat.le_of_ble_eq_true rfl) (lv2 := [(2, .int v1), (0, .ref p0), (1, .int v1)]) rfl dX3_readNumbers_1 ?_
  refine hj_iconst hX (v := (0 : Int32)) (by decide) dX3_readNumbers_2 ?_
  refine hj_istore_n hX rfl (Nat.le_of_ble_eq_true rfl) (lv2 := [(3, .int (0 : Int32)), (2, .int v1), (0, .ref p0), (1, .int v1)]) rfl dX3_readNumbers_3 ?_
  refine hj_lv hX [2, 1, 0] (lv2 := [(0, .ref p0), (2, .int v1), (3, .int (0 : Int32))]) rfl ?_
  exact X3_readNumbers_l4_ok hX hf0 hF _ _ _ h)
def X3_readInto_h8 (p0 p1 : Nat) (k8 : Int32 → Int32 → hM → Option (Int32 × hM)) (v2 : Int32) (v3 : Int32) (I : hM) : Option (Int32 × hM) := if (200 : Int32) ≤ v3 then (some ((-4 : Int32), I)) else (if (I p0 1) ≤ v2 then (some ((-4 : Int32), I)) else (ob (X3_readNumbers p0 (v2 + (1 : Int32)) I) (fun u4 Ia5 => if u4 = (-4 : Int32) then (some (v2, Ia5)) else (ob (X3_letterAt p0 v2 Ia5) (fun u7 Ia8 => ob (X0_add p1 (p0 + 2) u7 (Ia8 p0 3) Ia8) (fun u10 Ia11 => if u10 = 0 then (some (v2, Ia11)) else ((k8 u4 (v3 + (1 : Int32)) Ia11))))))))
def X3_readInto_l8 (p0 p1 : Nat) : Nat → Int32 → Int32 → hM → Option (Int32 × hM)
  | 0 => fun _ _ _ => none
  | n + 1 => X3_readInto_h8 p0 p1  (X3_readInto_l8 p0 p1  n)
def X3_readInto (p0 p1 : Nat) (I : hM) : Option (Int32 × hM) := ob (X0_clear p1 I) (fun u1 Ia2 => (X3_readInto_l8 p0 p1 hF (0 : Int32) (0 : Int32) Ia2))
theorem X3_readInto_hy : yX3_readInto.cls = RX3 ∧ yX3_readInto.cls ≠ "java/lang/invoke/MethodHandle" ∧ yX3_readInto.cls ≠ "java/lang/invoke/VarHandle" ∧ (parseMethodDescriptor yX3_readInto.desc).map (fun d => d.parameters.length) = some 1 := by decide +kernel
theorem X3_readInto_k18 : Cond.fieldLink RX3 18 "HatPins$Text" "length" "I" ∈ wsX3_readInto := by decide +kernel
theorem X3_readInto_k15 : Cond.fieldLink RX3 15 "HatPins$Text" "numbers" "[I" ∈ wsX3_readInto := by decide +kernel
theorem X3_readInto_k34 : Cond.fieldLink RX3 34 "HatPins$Text" "found" "I" ∈ wsX3_readInto := by decide +kernel
theorem X3_readInto_w3 : ∀ w ∈ wsX30, w ∈ wsX3_readInto := by decide +kernel
set_option maxHeartbeats 4000000 in
set_option maxRecDepth 100000 in
theorem X3_readInto_h8_ok {p : Program} {l : Launch} {e : Env} {s : State} {m : MethodId} {args : Array Value} {below : List Frame} {meth : Method} {c : Code} {D : va_G} {E : Nat → ClassId} {b z : Nat} {sh : List hS} {r : Int32} {I2 : hM} {p0 p1 : Nat} {k8 : Int32 → Int32 → hM → Option (Int32 × hM)} {v2 : Int32} {v3 : Int32} {I : hM} (hX : hp_X p s m args meth c yX3_readInto.cls cX3_readInto 5 wsX3_readInto D E (some .int) yX3_readInto.name) (hf0 : hq_X3 sh p0) (hf1 : hq_X0 sh p1) (hk8 : ∀ (v2 : Int32) (v3 : Int32) (I : hM), k8 v2 v3 I = some (r, I2) → hp_J p l e ({ frames := 3, cells := 0, slots := 0, locals := 44 * 3 }) s m args below meth c (MQ below (hp_Q D E b z (some (.int r)) sh I2) args s 0 0 (fun q : Nat => b ≤ q)) D E b z 5 sh 0 0 I 8 [(0, .ref p0), (1, .ref p1), (2, .int v2), (3, .int v3)] []) (h : X3_readInto_h8 p0 p1 k8 v2 v3 I = some (r, I2)) : hp_J p l e ({ frames := 3, cells := 0, slots := 0, locals := 44 * 3 }) s m args below meth c (MQ below (hp_Q D E b z (some (.int r)) sh I2) args s 0 0 (fun q : Nat => b ≤ q)) D E b z 5 sh 0 0 I 8 [(0, .ref p0), (1, .ref p1), (2, .int v2), (3, .int v3)] [] := by
  unfold X3_readInto_h8 at h
  refine hj_iload_n hX rfl 3 rfl dX3_readInto_8 ?_
  refine hj_sipush hX (v := (200 : Int32)) (by decide) dX3_readInto_9 ?_
  refine hj_icmp_ge hX (tgt := 70) (by decide) dX3_readInto_12 h (fun h => ?_) (fun h => ?_)
  · refine hj_bipush hX (v := (-4 : Int32)) (by decide) dX3_readInto_70 ?_
    exact hj_iret hX dX3_readInto_72 h
  · refine hj_iload_n hX rfl 2 rfl dX3_readInto_15 ?_
    refine hj_aload_n hX rfl 0 rfl dX3_readInto_16 ?_
    refine hj_geti hX (j := 1) hf0.1 rfl rfl X3_readInto_w3 (Nat.le_of_ble_eq_true rfl) rfl X3_readInto_k18 dX3_readInto_17 ?_
    refine hj_icmp_ge hX (tgt := 70) (by decide) dX3_readInto_20 h (fun h => ?_) (fun h => ?_)
    · refine hj_bipush hX (v := (-4 : Int32)) (by decide) dX3_readInto_70 ?_
      exact hj_iret hX dX3_readInto_72 h
    · refine hj_aload_n hX rfl 0 rfl dX3_readInto_23 ?_
      refine hj_iload_n hX rfl 2 rfl dX3_readInto_24 ?_
      refine hj_iconst hX (v := (1 : Int32)) (by decide) dX3_readInto_25 ?_
      refine hj_iadd hX dX3_readInto_26 ?_
      obtain ⟨u4, Ia5, hc6, h⟩ := ob_e h
      refine hj_callV hX (sh2 := sh) (I2 := Ia5) (r := (some (.int u4))) (As := [.int (v2 + (1 : Int32))]) (rest := []) (st2 := [.int u4]) (X3_readNumbers_ok hf0 hc6) gX3_readInto_X3_readNumbers rfl X3_readNumbers_hy ⟨(Nat.le_of_ble_eq_true rfl), (Nat.le_of_ble_eq_true rfl)⟩ rfl hf0.1 rfl (Nat.le_of_ble_eq_true rfl) ⟨(Nat.le_of_ble_eq_true rfl), (Nat.le_of_ble_eq_true rfl)⟩ rfl rfl rfl dX3_readInto_27 ?_
      refine hj_istore hX (Nat.le_of_ble_eq_true rfl) (lv2 := [(4, .int u4), (0, .ref p0), (1, .ref p1), (2, .int v2), (3, .int v3)]) rfl dX3_readInto_30 ?_
      refine hj_iload hX 0 rfl dX3_readInto_32 ?_
      refine hj_bipush hX (v := (-4 : Int32)) (by decide) dX3_readInto_34 ?_
      refine hj_icmp_eq hX (tgt := 59) (by decide) dX3_readInto_36 h (fun h => ?_) (fun h => ?_)
      · refine hj_iload_n hX rfl 3 rfl dX3_readInto_59 ?_
        exact hj_iret hX dX3_readInto_60 h
      · refine hj_aload_n hX rfl 2 rfl dX3_readInto_39 ?_
        refine hj_aload_n hX rfl 1 rfl dX3_readInto_40 ?_
        refine hj_iload_n hX rfl 3 rfl dX3_readInto_41 ?_
        obtain ⟨u7, Ia8, hc9, h⟩ := ob_e h
        refine hj_callV hX (sh2 := sh) (I2 := Ia8) (r := (some (.int u7))) (As := [.int v2]) (rest := [.ref p1]) (st2 := [.int u7, .ref p1]) (X3_letterAt_ok hf0 hc9) gX3_readInto_X3_letterAt rfl X3_letterAt_hy ⟨(Nat.le_of_ble_eq_true rfl), (Nat.le_of_ble_eq_true rfl)⟩ rfl hf0.1 rfl (Nat.le_of_ble_eq_true rfl) ⟨(Nat.le_of_ble_eq_true rfl), (Nat.le_of_ble_eq_true rfl)⟩ rfl rfl rfl dX3_readInto_42 ?_
        refine hj_aload_n hX rfl 1 rfl dX3_readInto_45 ?_
        refine hj_getr hX (j := 2) hf0.1 rfl rfl X3_readInto_w3 (Nat.le_of_ble_eq_true rfl) rfl X3_readInto_k15 dX3_readInto_46 ?_
        refine hj_aload_n hX rfl 1 rfl dX3_readInto_49 ?_
        refine hj_geti hX (j := 3) hf0.1 rfl rfl X3_readInto_w3 (Nat.le_of_ble_eq_true rfl) rfl X3_readInto_k34 dX3_readInto_50 ?_
        obtain ⟨u10, Ia11, hc12, h⟩ := ob_e h
        refine hj_callV hX (sh2 := sh) (I2 := Ia11) (r := (some (.int u10))) (As := [.int u7, .ref (p0 + 2), .int (Ia8 p0 3)]) (rest := []) (st2 := [.int u10]) (X0_add_ok hf1 hf0.2.2 hc12) gX3_readInto_X0_add rfl X0_add_hy ⟨(Nat.le_of_ble_eq_true rfl), (Nat.le_of_ble_eq_true rfl)⟩ rfl hf1.1 rfl (Nat.le_of_ble_eq_true rfl) ⟨(Nat.le_of_ble_eq_true rfl), (Nat.le_of_ble_eq_true rfl)⟩ rfl rfl rfl dX3_readInto_53 ?_
        refine hj_if_ne hX (tgt := 61) (by decide) dX3_readInto_56 h (fun h => ?_) (fun h => ?_)
        · refine hj_iload hX 0 rfl dX3_readInto_61 ?_
          refine hj_istore_n hX rfl (Nat.le_of_ble_eq_true rfl) (lv2 := [(2, .int u4), (4, .int u4), (0, .ref p0), (1, .ref p1), (3, .int v3)]) rfl dX3_readInto_63 ?_
          refine hj_iinc hX (k1 := 4) (v := (v3 + (1 : Int32))) rfl rfl (Nat.le_of_ble_eq_true rfl) (lv2 := [(3, .int (v3 + (1 : Int32))), (2, .int u4), (4, .int u4), (0, .ref p0), (1, .ref p1)]) rfl dX3_readInto_64 ?_
          refine hj_goto hX (tgt := 8) (by decide) dX3_readInto_67 ?_
          refine hj_lv hX [3, 4, 1, 0] (lv2 := [(0, .ref p0), (1, .ref p1), (2, .int u4), (3, .int (v3 + (1 : Int32)))]) rfl ?_
          exact hk8 _ _ _ h
        · refine hj_iload_n hX rfl 3 rfl dX3_readInto_59 ?_
          exact hj_iret hX dX3_readInto_60 h
set_option maxHeartbeats 4000000 in
set_option maxRecDepth 100000 in
theorem X3_readInto_l8_ok {p : Program} {l : Launch} {e : Env} {s : State} {m : MethodId} {args : Array Value} {below : List Frame} {meth : Method} {c : Code} {D : va_G} {E : Nat → ClassId} {b z : Nat} {sh : List hS} {r : Int32} {I2 : hM} {p0 p1 : Nat} (hX : hp_X p s m args meth c yX3_readInto.cls cX3_readInto 5 wsX3_readInto D E (some .int) yX3_readInto.name) (hf0 : hq_X3 sh p0) (hf1 : hq_X0 sh p1) : ∀ (n : Nat) (v2 : Int32) (v3 : Int32) (I : hM), X3_readInto_l8 p0 p1 n v2 v3 I = some (r, I2) → hp_J p l e ({ frames := 3, cells := 0, slots := 0, locals := 44 * 3 }) s m args below meth c (MQ below (hp_Q D E b z (some (.int r)) sh I2) args s 0 0 (fun q : Nat => b ≤ q)) D E b z 5 sh 0 0 I 8 [(0, .ref p0), (1, .ref p1), (2, .int v2), (3, .int v3)] [] := by
  intro n
  induction n with
  | zero => exact fun _ _ _ h => nomatch h
  | succ n ih => exact fun _ _ _ h => X3_readInto_h8_ok hX hf0 hf1 ih h
set_option maxHeartbeats 4000000 in
set_option maxRecDepth 100000 in
theorem X3_readInto_ok {sh : List hS} {r : Int32} {I I2 : hM} {p0 p1 : Nat} (hf0 : hq_X3 sh p0) (hf1 : hq_X0 sh p1) (h : X3_readInto p0 p1 I = some (r, I2)) : hp_C yX3_readInto wsX3_readInto 3 0 0 sh I [.ref p0, .ref p1] (some (.int r)) sh I2 := hp_start (cc := cX3_readInto) (maxL := 5) (ret := (some .int)) [(0, .ref p0), (1, .ref p1)] (by decide) rfl (fun _ _ => rfl) (fun _ _ => Nat.le_of_ble_eq_true rfl) (fun p l e s m below meth c D E b z hX _ => by
  unfold X3_readInto at h
  refine hj_aload_n hX rfl 1 rfl dX3_readInto_0 ?_
  obtain ⟨u1, Ia2, hc3, h⟩ := ob_e h
  refine hj_callV hX (sh2 := sh) (I2 := Ia2) (r := none) (As := []) (rest := []) (st2 := []) (X0_clear_ok hf1 hc3) gX3_readInto_X0_clear rfl X0_clear_hy ⟨(Nat.le_of_ble_eq_true rfl), (Nat.le_of_ble_eq_true rfl)⟩ rfl hf1.1 rfl (Nat.le_of_ble_eq_true rfl) ⟨(Nat.le_of_ble_eq_true rfl), (Nat.le_of_ble_eq_true rfl)⟩ rfl rfl rfl dX3_readInto_1 ?_
  refine hj_iconst hX (v := (0 : Int32)) (by decide) dX3_readInto_4 ?_
  refine hj_istore_n hX rfl (Nat.le_of_ble_eq_true rfl) (lv2 := [(2, .int (0 : Int32)), (0, .ref p0), (1, .ref p1)]) rfl dX3_readInto_5 ?_
  refine hj_iconst hX (v := (0 : Int32)) (by decide) dX3_readInto_6 ?_
  refine hj_istore_n hX rfl (Nat.le_of_ble_eq_true rfl) (lv2 := [(3, .int (0 : Int32)), (2, .int (0 : Int32)), (0, .ref p0), (1, .ref p1)]) rfl dX3_readInto_7 ?_
  refine hj_lv hX [2, 3, 1, 0] (lv2 := [(0, .ref p0), (1, .ref p1), (2, .int (0 : Int32)), (3, .int (0 : Int32))]) rfl ?_
  exact X3_readInto_l8_ok hX hf0 hf1 hF _ _ _ h)
