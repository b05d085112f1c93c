theorem hc_len {A t : List hS} {n : Nat} (h : t.length = n) : (A ++ t).length = A.length + n := by
  rw [List.length_append, h]
theorem hc_set {A t : List hS} {c c2 : hS} : (A ++ (c :: t)).set A.length c2 = A ++ (c2 :: t) := by
  rw [List.set_append_right _ _ (Nat.le_refl _), Nat.sub_self]
  rfl
theorem hc_getk {A t : List hS} {k : Nat} {c : hS} (h : t[k]? = some c) : (A ++ t)[A.length + k]? = some c := by
  rw [List.getElem?_append_right (by omega), show A.length + k - A.length = k by omega]
  exact h
theorem hz_id {I : hM} {k : Nat} (h : I k = fun _ => 0) : hz I k = I := by
  funext a i
  unfold hz
  by_cases q : a = k
  · subst q
    rw [if_pos rfl, h]
  · rw [if_neg q]
theorem hc_gd {c : Bool} {r : Int32 × hM} (h : c = true) : gd c (some r) = some r := by
  rw [h]
  rfl

theorem X3_init_mo1 : Cond.methodLink RX3 3 Lib.objectInit ∈ wsX3_init := by decide +kernel
theorem X3_init_mo2 : Cond.instanceMethod Lib.objectInit ∈ wsX3_init := by decide +kernel
theorem X3_init_mo3 : Cond.code Lib.objectInit ⟨#[0xb1]⟩ 1 none ∈ wsX3_init := by decide +kernel
theorem X3_init_mar : Cond.arrayClass .int ∈ wsX3_init := by decide +kernel
theorem X3_init_w3 : ∀ w ∈ wsX30, w ∈ wsX3_init := by decide +kernel
theorem X3_init_hy : yX3_init.cls = RX3 ∧ yX3_init.cls ≠ "java/lang/invoke/MethodHandle" ∧ yX3_init.cls ≠ "java/lang/invoke/VarHandle" ∧ (parseMethodDescriptor yX3_init.desc).map (fun d => d.parameters.length) = some 0 := by decide +kernel
theorem X3_init_mf0 : Cond.fieldLink RX3 9 "HatPins$Text" "letters" "[I" ∈ wsX3_init := by decide +kernel
theorem X3_init_mf2 : Cond.fieldLink RX3 15 "HatPins$Text" "numbers" "[I" ∈ wsX3_init := by decide +kernel
theorem X0_init_mo1 : Cond.methodLink RX0 3 Lib.objectInit ∈ wsX0_init := by decide +kernel
theorem X0_init_mo2 : Cond.instanceMethod Lib.objectInit ∈ wsX0_init := by decide +kernel
theorem X0_init_mo3 : Cond.code Lib.objectInit ⟨#[0xb1]⟩ 1 none ∈ wsX0_init := by decide +kernel
theorem X0_init_mar : Cond.arrayClass .int ∈ wsX0_init := by decide +kernel
theorem X0_init_w0 : ∀ w ∈ wsX00, w ∈ wsX0_init := by decide +kernel
theorem X0_init_hy : yX0_init.cls = RX0 ∧ yX0_init.cls ≠ "java/lang/invoke/MethodHandle" ∧ yX0_init.cls ≠ "java/lang/invoke/VarHandle" ∧ (parseMethodDescriptor yX0_init.desc).map (fun d => d.parameters.length) = some 0 := by decide +kernel
theorem X0_init_mf3 : Cond.fieldLink RX0 9 "HatPins$Evening" "kind" "[I" ∈ wsX0_init := by decide +kernel
theorem X0_init_mf4 : Cond.fieldLink RX0 15 "HatPins$Evening" "begins" "[I" ∈ wsX0_init := by decide +kernel
theorem X0_init_mf5 : Cond.fieldLink RX0 18 "HatPins$Evening" "interest" "[I" ∈ wsX0_init := by decide +kernel
theorem X0_init_mf6 : Cond.fieldLink RX0 21 "HatPins$Evening" "wane" "[I" ∈ wsX0_init := by decide +kernel
theorem X0_init_mf7 : Cond.fieldLink RX0 24 "HatPins$Evening" "minutes" "[I" ∈ wsX0_init := by decide +kernel
theorem X0_init_mf8 : Cond.fieldLink RX0 27 "HatPins$Evening" "leader" "[I" ∈ wsX0_init := by decide +kernel
theorem X0_init_mf9 : Cond.fieldLink RX0 30 "HatPins$Evening" "follower" "[I" ∈ wsX0_init := by decide +kernel
theorem X0_init_mf10 : Cond.fieldLink RX0 33 "HatPins$Evening" "gap" "[I" ∈ wsX0_init := by decide +kernel
theorem X0_init_mf11 : Cond.fieldLink RX0 36 "HatPins$Evening" "pins" "[I" ∈ wsX0_init := by decide +kernel
theorem X0_init_mf12 : Cond.fieldLink RX0 39 "HatPins$Evening" "reach" "[I" ∈ wsX0_init := by decide +kernel
theorem X2_init_mo1 : Cond.methodLink RX2 3 Lib.objectInit ∈ wsX2_init := by decide +kernel
theorem X2_init_mo2 : Cond.instanceMethod Lib.objectInit ∈ wsX2_init := by decide +kernel
theorem X2_init_mo3 : Cond.code Lib.objectInit ⟨#[0xb1]⟩ 1 none ∈ wsX2_init := by decide +kernel
theorem X2_init_mar : Cond.arrayClass .int ∈ wsX2_init := by decide +kernel
theorem X2_init_w2 : ∀ w ∈ wsX20, w ∈ wsX2_init := by decide +kernel
theorem X2_init_hy : yX2_init.cls = RX2 ∧ yX2_init.cls ≠ "java/lang/invoke/MethodHandle" ∧ yX2_init.cls ≠ "java/lang/invoke/VarHandle" ∧ (parseMethodDescriptor yX2_init.desc).map (fun d => d.parameters.length) = some 0 := by decide +kernel
theorem X2_init_mf2 : Cond.fieldLink RX2 9 "HatPins$Standing" "state" "[I" ∈ wsX2_init := by decide +kernel
theorem X2_init_mf3 : Cond.fieldLink RX2 15 "HatPins$Standing" "due" "[I" ∈ wsX2_init := by decide +kernel
theorem X2_init_mf4 : Cond.fieldLink RX2 18 "HatPins$Standing" "began" "[I" ∈ wsX2_init := by decide +kernel
theorem X2_init_mf5 : Cond.fieldLink RX2 21 "HatPins$Standing" "pins" "[I" ∈ wsX2_init := by decide +kernel
theorem X1_init_mo1 : Cond.methodLink RX1 1 Lib.objectInit ∈ wsX1_init := by decide +kernel
theorem X1_init_mo2 : Cond.instanceMethod Lib.objectInit ∈ wsX1_init := by decide +kernel
theorem X1_init_mo3 : Cond.code Lib.objectInit ⟨#[0xb1]⟩ 1 none ∈ wsX1_init := by decide +kernel
theorem X1_init_mx1 : Cond.methodLink RX1 7 Lib.Math.max.name ∈ wsX1_init := by decide +kernel
theorem X1_init_mx2 : Cond.static Lib.Math.max.name ∈ wsX1_init := by decide +kernel
theorem X1_init_mx3 : Cond.initialized "java/lang/Math" ∈ wsX1_init := by decide +kernel
theorem X1_init_mx4 : Cond.code Lib.Math.max.name Lib.Math.max.code 2 (some .int) ∈ wsX1_init := by decide +kernel
theorem X1_init_mcl : Cond.classLink RX1 13 RX2 ∈ wsX1_init := by decide +kernel
theorem X1_init_mis : Cond.instantiable RX2 6 ∈ wsX1_init := by decide +kernel
theorem X1_init_min : Cond.initialized RX2 ∈ wsX1_init := by decide +kernel
theorem X1_init_mf0 : Cond.fieldLink RX1 15 "HatPins$Shelf" "rows" "[LHatPins$Standing;" ∈ wsX1_init := by decide +kernel
theorem X1_init_mi2 : Cond.instanceMethod yX2_init ∈ wsX1_init := by decide +kernel
theorem X1_init_mic : Cond.initialized yX2_init.cls ∈ wsX1_init := by decide +kernel
theorem X1_init_w1 : ∀ w ∈ wsX10, w ∈ wsX1_init := by decide +kernel
theorem X1_init_w2 : ∀ w ∈ wsX20, w ∈ wsX1_init := by decide +kernel
theorem X1_init_hy : yX1_init.cls = RX1 ∧ yX1_init.cls ≠ "java/lang/invoke/MethodHandle" ∧ yX1_init.cls ≠ "java/lang/invoke/VarHandle" ∧ (parseMethodDescriptor yX1_init.desc).map (fun d => d.parameters.length) = some 1 := by decide +kernel
theorem hfs_X2 : ∀ (b : Nat) (j : Nat), j < 6 → defaultValue (tyX2 j) = vp_V (([none, none, some none, some none, some none, some none] : List (Option (Option Nat))).mapIdx (fun _ q => hp_f b 0 q)) j := by
  intro b j hj
  match j, hj with
  | 0, _ => rfl
  | 1, _ => rfl
  | 2, _ => rfl
  | 3, _ => rfl
  | 4, _ => rfl
  | 5, _ => rfl
  | n + 6, hj => exact absurd hj (by omega)
set_option maxHeartbeats 4000000 in
set_option maxRecDepth 100000 in
theorem X3_init_ok {A : List hS} {I : hM} (hI : ∀ k, A.length < k → I k = fun _ => 0) : hp_C yX3_init wsX3_init 1 2 205 (A ++ [(0, 3, [some none, none, some none, none])]) I [.ref A.length] none (A ++ [(0, 3, [some (some (A.length + 1)), none, some (some (A.length + 2)), none]), (1, 200, []), (1, 5, [])]) I := hp_start (cc := cX3_init) (maxL := 1) (ret := none) [(0, .ref A.length)] (by decide) rfl (fun _ _ => rfl) (fun _ _ => Nat.le_of_ble_eq_true rfl) (fun p l e s m below meth c D E b z hX _ => by
  refine hj_aload_n hX rfl 0 rfl dX3_init_0 ?_
  refine hj_objInit hX X3_init_mo1 X3_init_mo2 X3_init_mo3 (Nat.le_of_ble_eq_true rfl) (Nat.le_of_ble_eq_true rfl) dX3_init_1 ?_
  refine hj_aload_n hX rfl 0 rfl dX3_init_4 ?_
  refine hj_sipush hX (v := 200) (by decide) dX3_init_5 ?_
  refine hj_newi hX (N := 200) X3_init_mar (by decide) (by decide) (by decide) ⟨(Nat.le_of_ble_eq_true rfl), (Nat.le_of_ble_eq_true rfl)⟩ dX3_init_8 ?_
  refine hj_eqs (sh2 := A ++ [(0, 3, [some none, none, some none, none]), (1, 200, [])]) (I2 := I) (st2 := [.ref (A.length + 1), .ref A.length]) (List.append_assoc _ _ _) (hz_id (by rw [hc_len (n := 1) rfl]; exact hI _ (by omega))) (by rw [hc_len (n := 1) rfl]) ?_
  refine hj_putr hX (q := (A.length + 1)) (fs := [some none, none, some none, none]) (j := 0) (hc_getk (k := 0) rfl) (Nat.le_of_ble_eq_true rfl) rfl X3_init_w3 (Nat.le_of_ble_eq_true rfl) rfl X3_init_mf0 tyX3_ok nmX3 rfl rfl rfl (ty := .array .int) (by decide +kernel) (fun _ => rfl) (fun _ => rfl) dX3_init_10 ?_
  refine hj_eqs (sh2 := A ++ [(0, 3, [some (some (A.length + 1)), none, some none, none]), (1, 200, [])]) (I2 := I) (st2 := []) hc_set rfl rfl ?_
  refine hj_aload_n hX rfl 0 rfl dX3_init_13 ?_
  refine hj_iconst hX (v := 5) (by decide) dX3_init_14 ?_
  refine hj_newi hX (N := 5) X3_init_mar (by decide) (by decide) (by decide) ⟨(Nat.le_of_ble_eq_true rfl), (Nat.le_of_ble_eq_true rfl)⟩ dX3_init_15 ?_
  refine hj_eqs (sh2 := A ++ [(0, 3, [some (some (A.length + 1)), none, some none, none]), (1, 200, []), (1, 5, [])]) (I2 := I) (st2 := [.ref (A.length + 2), .ref A.length]) (List.append_assoc _ _ _) (hz_id (by rw [hc_len (n := 2) rfl]; exact hI _ (by omega))) (by rw [hc_len (n := 2) rfl]) ?_
  refine hj_putr hX (q := (A.length + 2)) (fs := [some (some (A.length + 1)), none, some none, none]) (j := 2) (hc_getk (k := 0) rfl) (Nat.le_of_ble_eq_true rfl) rfl X3_init_w3 (Nat.le_of_ble_eq_true rfl) rfl X3_init_mf2 tyX3_ok nmX3 rfl rfl rfl (ty := .array .int) (by decide +kernel) (fun _ => rfl) (fun _ => rfl) dX3_init_17 ?_
  refine hj_eqs (sh2 := A ++ [(0, 3, [some (some (A.length + 1)), none, some (some (A.length + 2)), none]), (1, 200, []), (1, 5, [])]) (I2 := I) (st2 := []) hc_set rfl rfl ?_
  exact hj_vret hX dX3_init_20 rfl)
set_option maxHeartbeats 4000000 in
set_option maxRecDepth 100000 in
theorem X0_init_ok {A : List hS} {I : hM} (hI : ∀ k, A.length < k → I k = fun _ => 0) : hp_C yX0_init wsX0_init 1 10 61 (A ++ [(0, 0, [none, none, none, some none, some none, some none, some none, some none, some none, some none, some none, some none, some none])]) I [.ref A.length] none (A ++ [(0, 0, [none, none, none, some (some (A.length + 1)), some (some (A.length + 2)), some (some (A.length + 3)), some (some (A.length + 4)), some (some (A.length + 5)), some (some (A.length + 6)), some (some (A.length + 7)), some (some (A.length + 8)), some (some (A.length + 9)), some (some (A.length + 10))]), (1, 7, []), (1, 7, []), (1, 7, []), (1, 7, []), (1, 7, []), (1, 6, []), (1, 6, []), (1, 6, []), (1, 4, []), (1, 4, [])]) I := hp_start (cc := cX0_init) (maxL := 1) (ret := none) [(0, .ref A.length)] (by decide) rfl (fun _ _ => rfl) (fun _ _ => Nat.le_of_ble_eq_true rfl) (fun p l e s m below meth c D E b z hX _ => by
  refine hj_aload_n hX rfl 0 rfl dX0_init_0 ?_
  refine hj_objInit hX X0_init_mo1 X0_init_mo2 X0_init_mo3 (Nat.le_of_ble_eq_true rfl) (Nat.le_of_ble_eq_true rfl) dX0_init_1 ?_
  refine hj_aload_n hX rfl 0 rfl dX0_init_4 ?_
  refine hj_bipush hX (v := 7) (by decide) dX0_init_5 ?_
  refine hj_newi hX (N := 7) X0_init_mar (by decide) (by decide) (by decide) ⟨(Nat.le_of_ble_eq_true rfl), (Nat.le_of_ble_eq_true rfl)⟩ dX0_init_7 ?_
  refine hj_eqs (sh2 := A ++ [(0, 0, [none, none, none, some none, some none, some none, some none, some none, some none, some none, some none, some none, some none]), (1, 7, [])]) (I2 := I) (st2 := [.ref (A.length + 1), .ref A.length]) (List.append_assoc _ _ _) (hz_id (by rw [hc_len (n := 1) rfl]; exact hI _ (by omega))) (by rw [hc_len (n := 1) rfl]) ?_
  refine hj_putr hX (q := (A.length + 1)) (fs := [none, none, none, some none, some none, some none, some none, some none, some none, some none, some none, some none, some none]) (j := 3) (hc_getk (k := 0) rfl) (Nat.le_of_ble_eq_true rfl) rfl X0_init_w0 (Nat.le_of_ble_eq_true rfl) rfl X0_init_mf3 tyX0_ok nmX0 rfl rfl rfl (ty := .array .int) (by decide +kernel) (fun _ => rfl) (fun _ => rfl) dX0_init_9 ?_
  refine hj_eqs (sh2 := A ++ [(0, 0, [none, none, none, some (some (A.length + 1)), some none, some none, some none, some none, some none, some none, some none, some none, some none]), (1, 7, [])]) (I2 := I) (st2 := []) hc_set rfl rfl ?_
  refine hj_aload_n hX rfl 0 rfl dX0_init_12 ?_
  refine hj_bipush hX (v := 7) (by decide) dX0_init_13 ?_
  refine hj_newi hX (N := 7) X0_init_mar (by decide) (by decide) (by decide) ⟨(Nat.le_of_ble_eq_true rfl), (Nat.le_of_ble_eq_true rfl)⟩ dX0_init_15 ?_
  refine hj_eqs (sh2 := A ++ [(0, 0, [none, none, none, some (some (A.length + 1)), some none, some none, some none, some none, some none, some none, some none, some none, some none]), (1, 7, []), (1, 7, [])]) (I2 := I) (st2 := [.ref (A.length + 2), .ref A.length]) (List.append_assoc _ _ _) (hz_id (by rw [hc_len (n := 2) rfl]; exact hI _ (by omega))) (by rw [hc_len (n := 2) rfl]) ?_
  refine hj_putr hX (q := (A.length + 2)) (fs := [none, none, none, some (some (A.length + 1)), some none, some none, some none, some none, some none, some none, some none, some none, some none]) (j := 4) (hc_getk (k := 0) rfl) (Nat.le_of_ble_eq_true rfl) rfl X0_init_w0 (Nat.le_of_ble_eq_true rfl) rfl X0_init_mf4 tyX0_ok nmX0 rfl rfl rfl (ty := .array .int) (by decide +kernel) (fun _ => rfl) (fun _ => rfl) dX0_init_17 ?_
  refine hj_eqs (sh2 := A ++ [(0, 0, [none, none, none, some (some (A.length + 1)), some (some (A.length + 2)), some none, some none, some none, some none, some none, some none, some none, some none]), (1, 7, []), (1, 7, [])]) (I2 := I) (st2 := []) hc_set rfl rfl ?_
  refine hj_aload_n hX rfl 0 rfl dX0_init_20 ?_
  refine hj_bipush hX (v := 7) (by decide) dX0_init_21 ?_
  refine hj_newi hX (N := 7) X0_init_mar (by decide) (by decide) (by decide) ⟨(Nat.le_of_ble_eq_true rfl), (Nat.le_of_ble_eq_true rfl)⟩ dX0_init_23 ?_
  refine hj_eqs (sh2 := A ++ [(0, 0, [none, none, none, some (some (A.length + 1)), some (some (A.length + 2)), some none, some none, some none, some none, some none, some none, some none, some none]), (1, 7, []), (1, 7, []), (1, 7, [])]) (I2 := I) (st2 := [.ref (A.length + 3), .ref A.length]) (List.append_assoc _ _ _) (hz_id (by rw [hc_len (n := 3) rfl]; exact hI _ (by omega))) (by rw [hc_len (n := 3) rfl]) ?_
  refine hj_putr hX (q := (A.length + 3)) (fs := [none, none, none, some (some (A.length + 1)), some (some (A.length + 2)), some none, some none, some none, some none, some none, some none, some none, some none]) (j := 5) (hc_getk (k := 0) rfl) (Nat.le_of_ble_eq_true rfl) rfl X0_init_w0 (Nat.le_of_ble_eq_true rfl) rfl X0_init_mf5 tyX0_ok nmX0 rfl rfl rfl (ty := .array .int) (by decide +kernel) (fun _ => rfl) (fun _ => rfl) dX0_init_25 ?_
  refine hj_eqs (sh2 := A ++ [(0, 0, [none, none, none, some (some (A.length + 1)), some (some (A.length + 2)), some (some (A.length + 3)), some none, some none, some none, some none, some none, some none, some none]), (1, 7, []), (1, 7, []), (1, 7, [])]) (I2 := I) (st2 := []) hc_set rfl rfl ?_
  refine hj_aload_n hX rfl 0 rfl dX0_init_28 ?_
  refine hj_bipush hX (v := 7) (by decide) dX0_init_29 ?_
  refine hj_newi hX (N := 7) X0_init_mar (by decide) (by decide) (by decide) ⟨(Nat.le_of_ble_eq_true rfl), (Nat.le_of_ble_eq_true rfl)⟩ dX0_init_31 ?_
  refine hj_eqs (sh2 := A ++ [(0, 0, [none, none, none, some (some (A.length + 1)), some (some (A.length + 2)), some (some (A.length + 3)), some none, some none, some none, some none, some none, some none, some none]), (1, 7, []), (1, 7, []), (1, 7, []), (1, 7, [])]) (I2 := I) (st2 := [.ref (A.length + 4), .ref A.length]) (List.append_assoc _ _ _) (hz_id (by rw [hc_len (n := 4) rfl]; exact hI _ (by omega))) (by rw [hc_len (n := 4) rfl]) ?_
  refine hj_putr hX (q := (A.length + 4)) (fs := [none, none, none, some (some (A.length + 1)), some (some (A.length + 2)), some (some (A.length + 3)), some none, some none, some none, some none, some none, some none, some none]) (j := 6) (hc_getk (k := 0) rfl) (Nat.le_of_ble_eq_true rfl) rfl X0_init_w0 (Nat.le_of_ble_eq_true rfl) rfl X0_init_mf6 tyX0_ok nmX0 rfl rfl rfl (ty := .array .int) (by decide +kernel) (fun _ => rfl) (fun _ => rfl) dX0_init_33 ?_
  refine hj_eqs (sh2 := A ++ [(0, 0, [none, none, none, some (some (A.length + 1)), some (some (A.length + 2)), some (some (A.length + 3)), some (some (A.length + 4)), some none, some none, some none, some none, some none, some none]), (1, 7, []), (1, 7, []), (1, 7, []), (1, 7, [])]) (I2 := I) (st2 := []) hc_set rfl rfl ?_
  refine hj_aload_n hX rfl 0 rfl dX0_init_36 ?_
  refine hj_bipush hX (v := 7) (by decide) dX0_init_37 ?_
  refine hj_newi hX (N := 7) X0_init_mar (by decide) (by decide) (by decide) ⟨(Nat.le_of_ble_eq_true rfl), (Nat.le_of_ble_eq_true rfl)⟩ dX0_init_39 ?_
  refine hj_eqs (sh2 := A ++ [(0, 0, [none, none, none, some (some (A.length + 1)), some (some (A.length + 2)), some (some (A.length + 3)), some (some (A.length + 4)), some none, some none, some none, some none, some none, some none]), (1, 7, []), (1, 7, []), (1, 7, []), (1, 7, []), (1, 7, [])]) (I2 := I) (st2 := [.ref (A.length + 5), .ref A.length]) (List.append_assoc _ _ _) (hz_id (by rw [hc_len (n := 5) rfl]; exact hI _ (by omega))) (by rw [hc_len (n := 5) rfl]) ?_
  refine hj_putr hX (q := (A.length + 5)) (fs := [none, none, none, some (some (A.length + 1)), some (some (A.length + 2)), some (some (A.length + 3)), some (some (A.length + 4)), some none, some none, some none, some none, some none, some none]) (j := 7) (hc_getk (k := 0) rfl) (Nat.le_of_ble_eq_true rfl) rfl X0_init_w0 (Nat.le_of_ble_eq_true rfl) rfl X0_init_mf7 tyX0_ok nmX0 rfl rfl rfl (ty := .array .int) (by decide +kernel) (fun _ => rfl) (fun _ => rfl) dX0_init_41 ?_
  refine hj_eqs (sh2 := A ++ [(0, 0, [none, none, none, some (some (A.length + 1)), some (some (A.length + 2)), some (some (A.length + 3)), some (some (A.length + 4)), some (some (A.length + 5)), some none, some none, some none, some none, some none]), (1, 7, []), (1, 7, []), (1, 7, []), (1, 7, []), (1, 7, [])]) (I2 := I) (st2 := []) hc_set rfl rfl ?_
  refine hj_aload_n hX rfl 0 rfl dX0_init_44 ?_
  refine hj_bipush hX (v := 6) (by decide) dX0_init_45 ?_
  refine hj_newi hX (N := 6) X0_init_mar (by decide) (by decide) (by decide) ⟨(Nat.le_of_ble_eq_true rfl), (Nat.le_of_ble_eq_true rfl)⟩ dX0_init_47 ?_
  refine hj_eqs (sh2 := A ++ [(0, 0, [none, none, none, some (some (A.length + 1)), some (some (A.length + 2)), some (some (A.length + 3)), some (some (A.length + 4)), some (some (A.length + 5)), some none, some none, some none, some none, some none]), (1, 7, []), (1, 7, []), (1, 7, []), (1, 7, []), (1, 7, []), (1, 6, [])]) (I2 := I) (st2 := [.ref (A.length + 6), .ref A.length]) (List.append_assoc _ _ _) (hz_id (by rw [hc_len (n := 6) rfl]; exact hI _ (by omega))) (by rw [hc_len (n := 6) rfl]) ?_
  refine hj_putr hX (q := (A.length + 6)) (fs := [none, none, none, some (some (A.length + 1)), some (some (A.length + 2)), some (some (A.length + 3)), some (some (A.length + 4)), some (some (A.length + 5)), some none, some none, some none, some none, some none]) (j := 8) (hc_getk (k := 0) rfl) (Nat.le_of_ble_eq_true rfl) rfl X0_init_w0 (Nat.le_of_ble_eq_true rfl) rfl X0_init_mf8 tyX0_ok nmX0 rfl rfl rfl (ty := .array .int) (by decide +kernel) (fun _ => rfl) (fun _ => rfl) dX0_init_49 ?_
  refine hj_eqs (sh2 := A ++ [(0, 0, [none, none, none, some (some (A.length + 1)), some (some (A.length + 2)), some (some (A.length + 3)), some (some (A.length + 4)), some (some (A.length + 5)), some (some (A.length + 6)), some none, some none, some none, some none]), (1, 7, []), (1, 7, []), (1, 7, []), (1, 7, []), (1, 7, []), (1, 6, [])]) (I2 := I) (st2 := []) hc_set rfl rfl ?_
  refine hj_aload_n hX rfl 0 rfl dX0_init_52 ?_
  refine hj_bipush hX (v := 6) (by decide) dX0_init_53 ?_
  refine hj_newi hX (N := 6) X0_init_mar (by decide) (by decide) (by decide) ⟨(Nat.le_of_ble_eq_true rfl), (Nat.le_of_ble_eq_true rfl)⟩ dX0_init_55 ?_
  refine hj_eqs (sh2 := A ++ [(0, 0, [none, none, none, some (some (A.length + 1)), some (some (A.length + 2)), some (some (A.length + 3)), some (some (A.length + 4)), some (some (A.length + 5)), some (some (A.length + 6)), some none, some none, some none, some none]), (1, 7, []), (1, 7, []), (1, 7, []), (1, 7, []), (1, 7, []), (1, 6, []), (1, 6, [])]) (I2 := I) (st2 := [.ref (A.length + 7), .ref A.length]) (List.append_assoc _ _ _) (hz_id (by rw [hc_len (n := 7) rfl]; exact hI _ (by omega))) (by rw [hc_len (n := 7) rfl]) ?_
  refine hj_putr hX (q := (A.length + 7)) (fs := [none, none, none, some (some (A.length + 1)), some (some (A.length + 2)), some (some (A.length + 3)), some (some (A.length + 4)), some (some (A.length + 5)), some (some (A.length + 6)), some none, some none, some none, some none]) (j := 9) (hc_getk (k := 0) rfl) (Nat.le_of_ble_eq_true rfl) rfl X0_init_w0 (Nat.le_of_ble_eq_true rfl) rfl X0_init_mf9 tyX0_ok nmX0 rfl rfl rfl (ty := .array .int) (by decide +kernel) (fun _ => rfl) (fun _ => rfl) dX0_init_57 ?_
  refine hj_eqs (sh2 := A ++ [(0, 0, [none, none, none, some (some (A.length + 1)), some (some (A.length + 2)), some (some (A.length + 3)), some (some (A.length + 4)), some (some (A.length + 5)), some (some (A.length + 6)), some (some (A.length + 7)), some none, some none, some none]), (1, 7, []), (1, 7, []), (1, 7, []), (1, 7, []), (1, 7, []), (1, 6, []), (1, 6, [])]) (I2 := I) (st2 := []) hc_set rfl rfl ?_
  refine hj_aload_n hX rfl 0 rfl dX0_init_60 ?_
  refine hj_bipush hX (v := 6) (by decide) dX0_init_61 ?_
  refine hj_newi hX (N := 6) X0_init_mar (by decide) (by decide) (by decide) ⟨(Nat.le_of_ble_eq_true rfl), (Nat.le_of_ble_eq_true rfl)⟩ dX0_init_63 ?_
  refine hj_eqs (sh2 := A ++ [(0, 0, [none, none, none, some (some (A.length + 1)), some (some (A.length + 2)), some (some (A.length + 3)), some (some (A.length + 4)), some (some (A.length + 5)), some (some (A.length + 6)), some (some (A.length + 7)), some none, some none, some none]), (1, 7, []), (1, 7, []), (1, 7, []), (1, 7, []), (1, 7, []), (1, 6, []), (1, 6, []), (1, 6, [])]) (I2 := I) (st2 := [.ref (A.length + 8), .ref A.length]) (List.append_assoc _ _ _) (hz_id (by rw [hc_len (n := 8) rfl]; exact hI _ (by omega))) (by rw [hc_len (n := 8) rfl]) ?_
  refine hj_putr hX (q := (A.length + 8)) (fs := [none, none, none, some (some (A.length + 1)), some (some (A.length + 2)), some (some (A.length + 3)), some (some (A.length + 4)), some (some (A.length + 5)), some (some (A.length + 6)), some (some (A.length + 7)), some none, some none, some none]) (j := 10) (hc_getk (k := 0) rfl) (Nat.le_of_ble_eq_true rfl) rfl X0_init_w0 (Nat.le_of_ble_eq_true rfl) rfl X0_init_mf10 tyX0_ok nmX0 rfl rfl rfl (ty := .array .int) (by decide +kernel) (fun _ => rfl) (fun _ => rfl) dX0_init_65 ?_
  refine hj_eqs (sh2 := A ++ [(0, 0, [none, none, none, some (some (A.length + 1)), some (some (A.length + 2)), some (some (A.length + 3)), some (some (A.length + 4)), some (some (A.length + 5)), some (some (A.length + 6)), some (some (A.length + 7)), some (some (A.length + 8)), some none, some none]), (1, 7, []), (1, 7, []), (1, 7, []), (1, 7, []), (1, 7, []), (1, 6, []), (1, 6, []), (1, 6, [])]) (I2 := I) (st2 := []) hc_set rfl rfl ?_
  refine hj_aload_n hX rfl 0 rfl dX0_init_68 ?_
  refine hj_iconst hX (v := 4) (by decide) dX0_init_69 ?_
  refine hj_newi hX (N := 4) X0_init_mar (by decide) (by decide) (by decide) ⟨(Nat.le_of_ble_eq_true rfl), (Nat.le_of_ble_eq_true rfl)⟩ dX0_init_70 ?_
  refine hj_eqs (sh2 := A ++ [(0, 0, [none, none, none, some (some (A.length + 1)), some (some (A.length + 2)), some (some (A.length + 3)), some (some (A.length + 4)), some (some (A.length + 5)), some (some (A.length + 6)), some (some (A.length + 7)), some (some (A.length + 8)), some none, some none]), (1, 7, []), (1, 7, []), (1, 7, []), (1, 7, []), (1, 7, []), (1, 6, []), (1, 6, []), (1, 6, []), (1, 4, [])]) (I2 := I) (st2 := [.ref (A.length + 9), .ref A.length]) (List.append_assoc _ _ _) (hz_id (by rw [hc_len (n := 9) rfl]; exact hI _ (by omega))) (by rw [hc_len (n := 9) rfl]) ?_
  refine hj_putr hX (q := (A.length + 9)) (fs := [none, none, none, some (some (A.length + 1)), some (some (A.length + 2)), some (some (A.length + 3)), some (some (A.length + 4)), some (some (A.length + 5)), some (some (A.length + 6)), some (some (A.length + 7)), some (some (A.length + 8)), some none, some none]) (j := 11) (hc_getk (k := 0) rfl) (Nat.le_of_ble_eq_true rfl) rfl X0_init_w0 (Nat.le_of_ble_eq_true rfl) rfl X0_init_mf11 tyX0_ok nmX0 rfl rfl rfl (ty := .array .int) (by decide +kernel) (fun _ => rfl) (fun _ => rfl) dX0_init_72 ?_
  refine hj_eqs (sh2 := A ++ [(0, 0, [none, none, none, some (some (A.length + 1)), some (some (A.length + 2)), some (some (A.length + 3)), some (some (A.length + 4)), some (some (A.length + 5)), some (some (A.length + 6)), some (some (A.length + 7)), some (some (A.length + 8)), some (some (A.length + 9)), some none]), (1, 7, []), (1, 7, []), (1, 7, []), (1, 7, []), (1, 7, []), (1, 6, []), (1, 6, []), (1, 6, []), (1, 4, [])]) (I2 := I) (st2 := []) hc_set rfl rfl ?_
  refine hj_aload_n hX rfl 0 rfl dX0_init_75 ?_
  refine hj_iconst hX (v := 4) (by decide) dX0_init_76 ?_
  refine hj_newi hX (N := 4) X0_init_mar (by decide) (by decide) (by decide) ⟨(Nat.le_of_ble_eq_true rfl), (Nat.le_of_ble_eq_true rfl)⟩ dX0_init_77 ?_
  refine hj_eqs (sh2 := A ++ [(0, 0, [none, none, none, some (some (A.length + 1)), some (some (A.length + 2)), some (some (A.length + 3)), some (some (A.length + 4)), some (some (A.length + 5)), some (some (A.length + 6)), some (some (A.length + 7)), some (some (A.length + 8)), some (some (A.length + 9)), some none]), (1, 7, []), (1, 7, []), (1, 7, []), (1, 7, []), (1, 7, []), (1, 6, []), (1, 6, []), (1, 6, []), (1, 4, []), (1, 4, [])]) (I2 := I) (st2 := [.ref (A.length + 10), .ref A.length]) (List.append_assoc _ _ _) (hz_id (by rw [hc_len (n := 10) rfl]; exact hI _ (by omega))) (by rw [hc_len (n := 10) rfl]) ?_
  refine hj_putr hX (q := (A.length + 10)) (fs := [none, none, none, some (some (A.length + 1)), some (some (A.length + 2)), some (some (A.length + 3)), some (some (A.length + 4)), some (some (A.length + 5)), some (some (A.length + 6)), some (some (A.length + 7)), some (some (A.length + 8)), some (some (A.length + 9)), some none]) (j := 12) (hc_getk (k := 0) rfl) (Nat.le_of_ble_eq_true rfl) rfl X0_init_w0 (Nat.le_of_ble_eq_true rfl) rfl X0_init_mf12 tyX0_ok nmX0 rfl rfl rfl (ty := .array .int) (by decide +kernel) (fun _ => rfl) (fun _ => rfl) dX0_init_79 ?_
  refine hj_eqs (sh2 := A ++ [(0, 0, [none, none, none, some (some (A.length + 1)), some (some (A.length + 2)), some (some (A.length + 3)), some (some (A.length + 4)), some (some (A.length + 5)), some (some (A.length + 6)), some (some (A.length + 7)), some (some (A.length + 8)), some (some (A.length + 9)), some (some (A.length + 10))]), (1, 7, []), (1, 7, []), (1, 7, []), (1, 7, []), (1, 7, []), (1, 6, []), (1, 6, []), (1, 6, []), (1, 4, []), (1, 4, [])]) (I2 := I) (st2 := []) hc_set rfl rfl ?_
  exact hj_vret hX dX0_init_82 rfl)
set_option maxHeartbeats 4000000 in
set_option maxRecDepth 100000 in
theorem X2_init_ok {A : List hS} {I : hM} (hI : ∀ k, A.length < k → I k = fun _ => 0) : hp_C yX2_init wsX2_init 1 4 25 (A ++ [(0, 2, [none, none, some none, some none, some none, some none])]) I [.ref A.length] none (A ++ [(0, 2, [none, none, some (some (A.length + 1)), some (some (A.length + 2)), some (some (A.length + 3)), some (some (A.length + 4))]), (1, 7, []), (1, 7, []), (1, 7, []), (1, 4, [])]) I := hp_start (cc := cX2_init) (maxL := 1) (ret := none) [(0, .ref A.length)] (by decide) rfl (fun _ _ => rfl) (fun _ _ => Nat.le_of_ble_eq_true rfl) (fun p l e s m below meth c D E b z hX _ => by
  refine hj_aload_n hX rfl 0 rfl dX2_init_0 ?_
  refine hj_objInit hX X2_init_mo1 X2_init_mo2 X2_init_mo3 (Nat.le_of_ble_eq_true rfl) (Nat.le_of_ble_eq_true rfl) dX2_init_1 ?_
  refine hj_aload_n hX rfl 0 rfl dX2_init_4 ?_
  refine hj_bipush hX (v := 7) (by decide) dX2_init_5 ?_
  refine hj_newi hX (N := 7) X2_init_mar (by decide) (by decide) (by decide) ⟨(Nat.le_of_ble_eq_true rfl), (Nat.le_of_ble_eq_true rfl)⟩ dX2_init_7 ?_
  refine hj_eqs (sh2 := A ++ [(0, 2, [none, none, some none, some none, some none, some none]), (1, 7, [])]) (I2 := I) (st2 := [.ref (A.length + 1), .ref A.length]) (List.append_assoc _ _ _) (hz_id (by rw [hc_len (n := 1) rfl]; exact hI _ (by omega))) (by rw [hc_len (n := 1) rfl]) ?_
  refine hj_putr hX (q := (A.length + 1)) (fs := [none, none, some none, some none, some none, some none]) (j := 2) (hc_getk (k := 0) rfl) (Nat.le_of_ble_eq_true rfl) rfl X2_init_w2 (Nat.le_of_ble_eq_true rfl) rfl X2_init_mf2 tyX2_ok nmX2 rfl rfl rfl (ty := .array .int) (by decide +kernel) (fun _ => rfl) (fun _ => rfl) dX2_init_9 ?_
  refine hj_eqs (sh2 := A ++ [(0, 2, [none, none, some (some (A.length + 1)), some none, some none, some none]), (1, 7, [])]) (I2 := I) (st2 := []) hc_set rfl rfl ?_
  refine hj_aload_n hX rfl 0 rfl dX2_init_12 ?_
  refine hj_bipush hX (v := 7) (by decide) dX2_init_13 ?_
  refine hj_newi hX (N := 7) X2_init_mar (by decide) (by decide) (by decide) ⟨(Nat.le_of_ble_eq_true rfl), (Nat.le_of_ble_eq_true rfl)⟩ dX2_init_15 ?_
  refine hj_eqs (sh2 := A ++ [(0, 2, [none, none, some (some (A.length + 1)), some none, some none, some none]), (1, 7, []), (1, 7, [])]) (I2 := I) (st2 := [.ref (A.length + 2), .ref A.length]) (List.append_assoc _ _ _) (hz_id (by rw [hc_len (n := 2) rfl]; exact hI _ (by omega))) (by rw [hc_len (n := 2) rfl]) ?_
  refine hj_putr hX (q := (A.length + 2)) (fs := [none, none, some (some (A.length + 1)), some none, some none, some none]) (j := 3) (hc_getk (k := 0) rfl) (Nat.le_of_ble_eq_true rfl) rfl X2_init_w2 (Nat.le_of_ble_eq_true rfl) rfl X2_init_mf3 tyX2_ok nmX2 rfl rfl rfl (ty := .array .int) (by decide +kernel) (fun _ => rfl) (fun _ => rfl) dX2_init_17 ?_
  refine hj_eqs (sh2 := A ++ [(0, 2, [none, none, some (some (A.length + 1)), some (some (A.length + 2)), some none, some none]), (1, 7, []), (1, 7, [])]) (I2 := I) (st2 := []) hc_set rfl rfl ?_
  refine hj_aload_n hX rfl 0 rfl dX2_init_20 ?_
  refine hj_bipush hX (v := 7) (by decide) dX2_init_21 ?_
  refine hj_newi hX (N := 7) X2_init_mar (by decide) (by decide) (by decide) ⟨(Nat.le_of_ble_eq_true rfl), (Nat.le_of_ble_eq_true rfl)⟩ dX2_init_23 ?_
  refine hj_eqs (sh2 := A ++ [(0, 2, [none, none, some (some (A.length + 1)), some (some (A.length + 2)), some none, some none]), (1, 7, []), (1, 7, []), (1, 7, [])]) (I2 := I) (st2 := [.ref (A.length + 3), .ref A.length]) (List.append_assoc _ _ _) (hz_id (by rw [hc_len (n := 3) rfl]; exact hI _ (by omega))) (by rw [hc_len (n := 3) rfl]) ?_
  refine hj_putr hX (q := (A.length + 3)) (fs := [none, none, some (some (A.length + 1)), some (some (A.length + 2)), some none, some none]) (j := 4) (hc_getk (k := 0) rfl) (Nat.le_of_ble_eq_true rfl) rfl X2_init_w2 (Nat.le_of_ble_eq_true rfl) rfl X2_init_mf4 tyX2_ok nmX2 rfl rfl rfl (ty := .array .int) (by decide +kernel) (fun _ => rfl) (fun _ => rfl) dX2_init_25 ?_
  refine hj_eqs (sh2 := A ++ [(0, 2, [none, none, some (some (A.length + 1)), some (some (A.length + 2)), some (some (A.length + 3)), some none]), (1, 7, []), (1, 7, []), (1, 7, [])]) (I2 := I) (st2 := []) hc_set rfl rfl ?_
  refine hj_aload_n hX rfl 0 rfl dX2_init_28 ?_
  refine hj_iconst hX (v := 4) (by decide) dX2_init_29 ?_
  refine hj_newi hX (N := 4) X2_init_mar (by decide) (by decide) (by decide) ⟨(Nat.le_of_ble_eq_true rfl), (Nat.le_of_ble_eq_true rfl)⟩ dX2_init_30 ?_
  refine hj_eqs (sh2 := A ++ [(0, 2, [none, none, some (some (A.length + 1)), some (some (A.length + 2)), some (some (A.length + 3)), some none]), (1, 7, []), (1, 7, []), (1, 7, []), (1, 4, [])]) (I2 := I) (st2 := [.ref (A.length + 4), .ref A.length]) (List.append_assoc _ _ _) (hz_id (by rw [hc_len (n := 4) rfl]; exact hI _ (by omega))) (by rw [hc_len (n := 4) rfl]) ?_
  refine hj_putr hX (q := (A.length + 4)) (fs := [none, none, some (some (A.length + 1)), some (some (A.length + 2)), some (some (A.length + 3)), some none]) (j := 5) (hc_getk (k := 0) rfl) (Nat.le_of_ble_eq_true rfl) rfl X2_init_w2 (Nat.le_of_ble_eq_true rfl) rfl X2_init_mf5 tyX2_ok nmX2 rfl rfl rfl (ty := .array .int) (by decide +kernel) (fun _ => rfl) (fun _ => rfl) dX2_init_32 ?_
  refine hj_eqs (sh2 := A ++ [(0, 2, [none, none, some (some (A.length + 1)), some (some (A.length + 2)), some (some (A.length + 3)), some (some (A.length + 4))]), (1, 7, []), (1, 7, []), (1, 7, []), (1, 4, [])]) (I2 := I) (st2 := []) hc_set rfl rfl ?_
  exact hj_vret hX dX2_init_35 rfl)
set_option maxHeartbeats 4000000 in
set_option maxRecDepth 100000 in
theorem X1_init8_ok {A : List hS} {I : hM} (hA : A.length = 36) (hI : ∀ k, A.length < k → I k = fun _ => 0) : hp_C yX1_init wsX1_init 2 41 256 (A ++ [(0, 1, [some none, none])]) I [.ref A.length, .int 8] none (A ++ [(0, 1, [some (some (A.length + 1)), none]), (3, 8, []), (0, 2, [none, none, some (some (A.length + 3)), some (some (A.length + 4)), some (some (A.length + 5)), some (some (A.length + 6))]), (1, 7, []), (1, 7, []), (1, 7, []), (1, 4, []), (0, 2, [none, none, some (some (A.length + 8)), some (some (A.length + 9)), some (some (A.length + 10)), some (some (A.length + 11))]), (1, 7, []), (1, 7, []), (1, 7, []), (1, 4, []), (0, 2, [none, none, some (some (A.length + 13)), some (some (A.length + 14)), some (some (A.length + 15)), some (some (A.length + 16))]), (1, 7, []), (1, 7, []), (1, 7, []), (1, 4, []), (0, 2, [none, none, some (some (A.length + 18)), some (some (A.length + 19)), some (some (A.length + 20)), some (some (A.length + 21))]), (1, 7, []), (1, 7, []), (1, 7, []), (1, 4, []), (0, 2, [none, none, some (some (A.length + 23)), some (some (A.length + 24)), some (some (A.length + 25)), some (some (A.length + 26))]), (1, 7, []), (1, 7, []), (1, 7, []), (1, 4, []), (0, 2, [none, none, some (some (A.length + 28)), some (some (A.length + 29)), some (some (A.length + 30)), some (some (A.length + 31))]), (1, 7, []), (1, 7, []), (1, 7, []), (1, 4, []), (0, 2, [none, none, some (some (A.length + 33)), some (some (A.length + 34)), some (some (A.length + 35)), some (some (A.length + 36))]), (1, 7, []), (1, 7, []), (1, 7, []), (1, 4, []), (0, 2, [none, none, some (some (A.length + 38)), some (some (A.length + 39)), some (some (A.length + 40)), some (some (A.length + 41))]), (1, 7, []), (1, 7, []), (1, 7, []), (1, 4, [])]) (hu (hu (hu (hu (hu (hu (hu (hu (hn I (A.length + 1)) (A.length + 1) 0 (nI (A.length + 2))) (A.length + 1) 1 (nI (A.length + 7))) (A.length + 1) 2 (nI (A.length + 12))) (A.length + 1) 3 (nI (A.length + 17))) (A.length + 1) 4 (nI (A.length + 22))) (A.length + 1) 5 (nI (A.length + 27))) (A.length + 1) 6 (nI (A.length + 32))) (A.length + 1) 7 (nI (A.length + 37))) := hp_start (cc := cX1_init) (maxL := 3) (ret := none) [(0, .ref A.length), (1, .int 8)] (by decide) rfl (fun _ _ => rfl) (fun _ _ => Nat.le_of_ble_eq_true rfl) (fun p l e s m below meth c D E b z hX _ => by
  refine hj_aload_n hX rfl 0 rfl dX1_init_0 ?_
  refine hj_objInit hX X1_init_mo1 X1_init_mo2 X1_init_mo3 (Nat.le_of_ble_eq_true rfl) (Nat.le_of_ble_eq_true rfl) dX1_init_1 ?_
  refine hj_aload_n hX rfl 0 rfl dX1_init_4 ?_
  refine hj_iload_n hX rfl 1 rfl dX1_init_5 ?_
  refine hj_iconst hX (v := 1) (by decide) dX1_init_6 ?_
  refine hj_mmax hX X1_init_mx1 X1_init_mx2 X1_init_mx3 X1_init_mx4 (Nat.le_of_ble_eq_true rfl) (Nat.le_of_ble_eq_true rfl) ⟨(Nat.le_of_ble_eq_true rfl), (Nat.le_of_ble_eq_true rfl)⟩ dX1_init_7 ?_
  refine hj_newq hX (N := 8) X1_init_mcl (by decide) (by decide) (by decide) ⟨(Nat.le_of_ble_eq_true rfl), (Nat.le_of_ble_eq_true rfl)⟩ dX1_init_10 ?_
  refine hj_eqs (sh2 := A ++ [(0, 1, [some none, none]), (3, 8, [])]) (I2 := (hn I (A.length + 1))) (st2 := [.ref (A.length + 1), .ref A.length]) (List.append_assoc _ _ _) (by rw [hc_len (n := 1) rfl]) (by rw [hc_len (n := 1) rfl]) ?_
  refine hj_putr hX (q := (A.length + 1)) (fs := [some none, none]) (j := 0) (hc_getk (k := 0) rfl) (Nat.le_of_ble_eq_true rfl) rfl X1_init_w1 (Nat.le_of_ble_eq_true rfl) rfl X1_init_mf0 tyX1_ok nmX1 rfl rfl rfl (ty := .array (.object "HatPins$Standing")) (by decide +kernel) (fun _ => rfl) (fun _ => rfl) dX1_init_13 ?_
  refine hj_eqs (sh2 := A ++ [(0, 1, [some (some (A.length + 1)), none]), (3, 8, [])]) (I2 := (hn I (A.length + 1))) (st2 := []) hc_set rfl rfl ?_
  refine hj_iconst hX (v := 0) (by decide) dX1_init_16 ?_
  refine hj_istore_n hX rfl (Nat.le_of_ble_eq_true rfl) (lv2 := [(2, .int 0), (0, .ref A.length), (1, .int 8)]) rfl dX1_init_17 ?_
  refine hj_iload_n hX rfl 0 rfl dX1_init_18 ?_
  refine hj_aload_n hX rfl 1 rfl dX1_init_19 ?_
  refine hj_getr hX (j := 0) (q := A.length + 1) (hc_getk (k := 0) rfl) rfl rfl X1_init_w1 (Nat.le_of_ble_eq_true rfl) rfl X1_init_mf0 dX1_init_20 ?_
  refine hj_alen3 hX (hc_getk (k := 1) rfl) dX1_init_23 ?_
  refine hj_icmp_ge hX (tgt := 46) (A := none) (B := some (0, I)) (rr := (0, I)) (by decide) dX1_init_24 (if_neg (by decide)) (fun h => nomatch h) (fun _ => ?_)
  refine hj_aload_n hX rfl 1 rfl dX1_init_27 ?_
  refine hj_getr hX (j := 0) (q := A.length + 1) (hc_getk (k := 0) rfl) rfl rfl X1_init_w1 (Nat.le_of_ble_eq_true rfl) rfl X1_init_mf0 dX1_init_28 ?_
  refine hj_iload_n hX rfl 0 rfl dX1_init_31 ?_
  refine hj_new hX (ci := 2) tyX2 tyX2_ok X1_init_w2 X1_init_mcl X1_init_mis X1_init_min rfl _ hfs_X2 ⟨(Nat.le_of_ble_eq_true rfl), (Nat.le_of_ble_eq_true rfl)⟩ dX1_init_32 ?_
  refine hj_eqs (I2 := (hn I (A.length + 1))) rfl (by
    have hL : (A ++ [(0, 1, [some (some (A.length + 1)), none]), (3, 8, [])]).length = A.length + 2 := hc_len rfl
    rw [hL]
    refine hz_id ?_
    rw [hn_ne _ _ _ (by omega)]
    exact hI _ (by omega)) rfl ?_
  refine hj_dup hX rfl dX1_init_35 ?_
  refine hj_callIN hX (rt := none) (host := RX4) (I2 := (hn I (A.length + 1))) (r := none) (As := []) (st2 := [.ref (A ++ [(0, 1, [some (some (A.length + 1)), none]), (3, 8, [])]).length, .int 0, .ref (A.length + 1)]) (X2_init_ok (A := A ++ [(0, 1, [some (some (A.length + 1)), none]), (3, 8, [])]) (I := (hn I (A.length + 1))) (by
    intro k hk
    rw [hc_len (n := 2) rfl] at hk
    rw [hn_ne _ _ _ (by omega)]
    exact hI _ (by omega))) gX1_init_X2_init_n21 rfl X1_init_mic X1_init_mi2 rfl (fun q => q.2.2.2.2.1) X2_init_hy.2 ⟨(Nat.le_of_ble_eq_true rfl), (Nat.le_of_ble_eq_true rfl)⟩ rfl (Nat.le_of_ble_eq_true rfl) ⟨(Nat.le_of_ble_eq_true rfl), (Nat.le_of_ble_eq_true rfl)⟩ (by simp only [List.length_append]; rfl) rfl rfl dX1_init_36 ?_
  refine hj_eqs (sh2 := A ++ [(0, 1, [some (some (A.length + 1)), none]), (3, 8, []), (0, 2, [none, none, some (some (A.length + 3)), some (some (A.length + 4)), some (some (A.length + 5)), some (some (A.length + 6))]), (1, 7, []), (1, 7, []), (1, 7, []), (1, 4, [])]) (I2 := (hn I (A.length + 1))) (st2 := [.ref (A.length + 2), .int 0, .ref (A.length + 1)]) (by rw [hc_len (n := 2) rfl, List.append_assoc]; rfl) rfl (by rw [hc_len (n := 2) rfl]) ?_
  refine hj_aast hX (A := some (0, I)) (rr := (0, I)) (hc_getk (k := 1) rfl) (hc_getk (k := 2) rfl) dX1_init_39 (hc_gd (by rw [decide_eq_true (show A.length + 2 < 2147483648 by omega)]; rfl)) (fun _ => ?_)
  refine hj_eqs (I2 := (hu (hn I (A.length + 1)) (A.length + 1) 0 (nI (A.length + 2)))) rfl rfl rfl ?_
  refine hj_iinc hX (k1 := 0) (v := 1) rfl (by decide) (Nat.le_of_ble_eq_true rfl) (lv2 := [(2, .int 1), (0, .ref A.length), (1, .int 8)]) rfl dX1_init_40 ?_
  refine hj_goto hX (tgt := 18) (by decide) dX1_init_43 ?_
  refine hj_iload_n hX rfl 0 rfl dX1_init_18 ?_
  refine hj_aload_n hX rfl 1 rfl dX1_init_19 ?_
  refine hj_getr hX (j := 0) (q := A.length + 1) (hc_getk (k := 0) rfl) rfl rfl X1_init_w1 (Nat.le_of_ble_eq_true rfl) rfl X1_init_mf0 dX1_init_20 ?_
  refine hj_alen3 hX (hc_getk (k := 1) rfl) dX1_init_23 ?_
  refine hj_icmp_ge hX (tgt := 46) (A := none) (B := some (0, I)) (rr := (0, I)) (by decide) dX1_init_24 (if_neg (by decide)) (fun h => nomatch h) (fun _ => ?_)
  refine hj_aload_n hX rfl 1 rfl dX1_init_27 ?_
  refine hj_getr hX (j := 0) (q := A.length + 1) (hc_getk (k := 0) rfl) rfl rfl X1_init_w1 (Nat.le_of_ble_eq_true rfl) rfl X1_init_mf0 dX1_init_28 ?_
  refine hj_iload_n hX rfl 0 rfl dX1_init_31 ?_
  refine hj_new hX (ci := 2) tyX2 tyX2_ok X1_init_w2 X1_init_mcl X1_init_mis X1_init_min rfl _ hfs_X2 ⟨(Nat.le_of_ble_eq_true rfl), (Nat.le_of_ble_eq_true rfl)⟩ dX1_init_32 ?_
  refine hj_eqs (I2 := (hu (hn I (A.length + 1)) (A.length + 1) 0 (nI (A.length + 2)))) rfl (by
    have hL : (A ++ [(0, 1, [some (some (A.length + 1)), none]), (3, 8, []), (0, 2, [none, none, some (some (A.length + 3)), some (some (A.length + 4)), some (some (A.length + 5)), some (some (A.length + 6))]), (1, 7, []), (1, 7, []), (1, 7, []), (1, 4, [])]).length = A.length + 7 := hc_len rfl
    rw [hL]
    refine hz_id ?_
    rw [hu_ne _ _ _ _ _ (by omega)]
    rw [hn_ne _ _ _ (by omega)]
    exact hI _ (by omega)) rfl ?_
  refine hj_dup hX rfl dX1_init_35 ?_
  refine hj_callIN hX (rt := none) (host := RX4) (I2 := (hu (hn I (A.length + 1)) (A.length + 1) 0 (nI (A.length + 2)))) (r := none) (As := []) (st2 := [.ref (A ++ [(0, 1, [some (some (A.length + 1)), none]), (3, 8, []), (0, 2, [none, none, some (some (A.length + 3)), some (some (A.length + 4)), some (some (A.length + 5)), some (some (A.length + 6))]), (1, 7, []), (1, 7, []), (1, 7, []), (1, 4, [])]).length, .int 1, .ref (A.length + 1)]) (X2_init_ok (A := A ++ [(0, 1, [some (some (A.length + 1)), none]), (3, 8, []), (0, 2, [none, none, some (some (A.length + 3)), some (some (A.length + 4)), some (some (A.length + 5)), some (some (A.length + 6))]), (1, 7, []), (1, 7, []), (1, 7, []), (1, 4, [])]) (I := (hu (hn I (A.length + 1)) (A.length + 1) 0 (nI (A.length + 2)))) (by
    intro k hk
    rw [hc_len (n := 7) rfl] at hk
    rw [hu_ne _ _ _ _ _ (by omega)]
    rw [hn_ne _ _ _ (by omega)]
    exact hI _ (by omega))) gX1_init_X2_init_n21 rfl X1_init_mic X1_init_mi2 rfl (fun q => q.2.2.2.2.1) X2_init_hy.2 ⟨(Nat.le_of_ble_eq_true rfl), (Nat.le_of_ble_eq_true rfl)⟩ rfl (Nat.le_of_ble_eq_true rfl) ⟨(Nat.le_of_ble_eq_true rfl), (Nat.le_of_ble_eq_true rfl)⟩ (by simp only [List.length_append]; rfl) rfl rfl dX1_init_36 ?_
  refine hj_eqs (sh2 := A ++ [(0, 1, [some (some (A.length + 1)), none]), (3, 8, []), (0, 2, [none, none, some (some (A.length + 3)), some (some (A.length + 4)), some (some (A.length + 5)), some (some (A.length + 6))]), (1, 7, []), (1, 7, []), (1, 7, []), (1, 4, []), (0, 2, [none, none, some (some (A.length + 8)), some (some (A.length + 9)), some (some (A.length + 10)), some (some (A.length + 11))]), (1, 7, []), (1, 7, []), (1, 7, []), (1, 4, [])]) (I2 := (hu (hn I (A.length + 1)) (A.length + 1) 0 (nI (A.length + 2)))) (st2 := [.ref (A.length + 7), .int 1, .ref (A.length + 1)]) (by rw [hc_len (n := 7) rfl, List.append_assoc]; rfl) rfl (by rw [hc_len (n := 7) rfl]) ?_
  refine hj_aast hX (A := some (0, I)) (rr := (0, I)) (hc_getk (k := 1) rfl) (hc_getk (k := 7) rfl) dX1_init_39 (hc_gd (by rw [decide_eq_true (show A.length + 7 < 2147483648 by omega)]; rfl)) (fun _ => ?_)
  refine hj_eqs (I2 := (hu (hu (hn I (A.length + 1)) (A.length + 1) 0 (nI (A.length + 2))) (A.length + 1) 1 (nI (A.length + 7)))) rfl rfl rfl ?_
  refine hj_iinc hX (k1 := 0) (v := 2) rfl (by decide) (Nat.le_of_ble_eq_true rfl) (lv2 := [(2, .int 2), (0, .ref A.length), (1, .int 8)]) rfl dX1_init_40 ?_
  refine hj_goto hX (tgt := 18) (by decide) dX1_init_43 ?_
  refine hj_iload_n hX rfl 0 rfl dX1_init_18 ?_
  refine hj_aload_n hX rfl 1 rfl dX1_init_19 ?_
  refine hj_getr hX (j := 0) (q := A.length + 1) (hc_getk (k := 0) rfl) rfl rfl X1_init_w1 (Nat.le_of_ble_eq_true rfl) rfl X1_init_mf0 dX1_init_20 ?_
  refine hj_alen3 hX (hc_getk (k := 1) rfl) dX1_init_23 ?_
  refine hj_icmp_ge hX (tgt := 46) (A := none) (B := some (0, I)) (rr := (0, I)) (by decide) dX1_init_24 (if_neg (by decide)) (fun h => nomatch h) (fun _ => ?_)
  refine hj_aload_n hX rfl 1 rfl dX1_init_27 ?_
  refine hj_getr hX (j := 0) (q := A.length + 1) (hc_getk (k := 0) rfl) rfl rfl X1_init_w1 (Nat.le_of_ble_eq_true rfl) rfl X1_init_mf0 dX1_init_28 ?_
  refine hj_iload_n hX rfl 0 rfl dX1_init_31 ?_
  refine hj_new hX (ci := 2) tyX2 tyX2_ok X1_init_w2 X1_init_mcl X1_init_mis X1_init_min rfl _ hfs_X2 ⟨(Nat.le_of_ble_eq_true rfl), (Nat.le_of_ble_eq_true rfl)⟩ dX1_init_32 ?_
  refine hj_eqs (I2 := (hu (hu (hn I (A.length + 1)) (A.length + 1) 0 (nI (A.length + 2))) (A.length + 1) 1 (nI (A.length + 7)))) rfl (by
    have hL : (A ++ [(0, 1, [some (some (A.length + 1)), none]), (3, 8, []), (0, 2, [none, none, some (some (A.length + 3)), some (some (A.length + 4)), some (some (A.length + 5)), some (some (A.length + 6))]), (1, 7, []), (1, 7, []), (1, 7, []), (1, 4, []), (0, 2, [none, none, some (some (A.length + 8)), some (some (A.length + 9)), some (some (A.length + 10)), some (some (A.length + 11))]), (1, 7, []), (1, 7, []), (1, 7, []), (1, 4, [])]).length = A.length + 12 := hc_len rfl
    rw [hL]
    refine hz_id ?_
    rw [hu_ne _ _ _ _ _ (by omega)]
    rw [hu_ne _ _ _ _ _ (by omega)]
    rw [hn_ne _ _ _ (by omega)]
    exact hI _ (by omega)) rfl ?_
  refine hj_dup hX rfl dX1_init_35 ?_
  refine hj_callIN hX (rt := none) (host := RX4) (I2 := (hu (hu (hn I (A.length + 1)) (A.length + 1) 0 (nI (A.length + 2))) (A.length + 1) 1 (nI (A.length + 7)))) (r := none) (As := []) (st2 := [.ref (A ++ [(0, 1, [some (some (A.length + 1)), none]), (3, 8, []), (0, 2, [none, none, some (some (A.length + 3)), some (some (A.length + 4)), some (some (A.length + 5)), some (some (A.length + 6))]), (1, 7, []), (1, 7, []), (1, 7, []), (1, 4, []), (0, 2, [none, none, some (some (A.length + 8)), some (some (A.length + 9)), some (some (A.length + 10)), some (some (A.length + 11))]), (1, 7, []), (1, 7, []), (1, 7, []), (1, 4, [])]).length, .int 2, .ref (A.length + 1)]) (X2_init_ok (A := A ++ [(0, 1, [some (some (A.length + 1)), none]), (3, 8, []), (0, 2, [none, none, some (some (A.length + 3)), some (some (A.length + 4)), some (some (A.length + 5)), some (some (A.length + 6))]), (1, 7, []), (1, 7, []), (1, 7, []), (1, 4, []), (0, 2, [none, none, some (some (A.length + 8)), some (some (A.length + 9)), some (some (A.length + 10)), some (some (A.length + 11))]), (1, 7, []), (1, 7, []), (1, 7, []), (1, 4, [])]) (I := (hu (hu (hn I (A.length + 1)) (A.length + 1) 0 (nI (A.length + 2))) (A.length + 1) 1 (nI (A.length + 7)))) (by
    intro k hk
    rw [hc_len (n := 12) rfl] at hk
    rw [hu_ne _ _ _ _ _ (by omega)]
    rw [hu_ne _ _ _ _ _ (by omega)]
    rw [hn_ne _ _ _ (by omega)]
    exact hI _ (by omega))) gX1_init_X2_init_n21 rfl X1_init_mic X1_init_mi2 rfl (fun q => q.2.2.2.2.1) X2_init_hy.2 ⟨(Nat.le_of_ble_eq_true rfl), (Nat.le_of_ble_eq_true rfl)⟩ rfl (Nat.le_of_ble_eq_true rfl) ⟨(Nat.le_of_ble_eq_true rfl), (Nat.le_of_ble_eq_true rfl)⟩ (by simp only [List.length_append]; rfl) rfl rfl dX1_init_36 ?_
  refine hj_eqs (sh2 := A ++ [(0, 1, [some (some (A.length + 1)), none]), (3, 8, []), (0, 2, [none, none, some (some (A.length + 3)), some (some (A.length + 4)), some (some (A.length + 5)), some (some (A.length + 6))]), (1, 7, []), (1, 7, []), (1, 7, []), (1, 4, []), (0, 2, [none, none, some (some (A.length + 8)), some (some (A.length + 9)), some (some (A.length + 10)), some (some (A.length + 11))]), (1, 7, []), (1, 7, []), (1, 7, []), (1, 4, []), (0, 2, [none, none, some (some (A.length + 13)), some (some (A.length + 14)), some (some (A.length + 15)), some (some (A.length + 16))]), (1, 7, []), (1, 7, []), (1, 7, []), (1, 4, [])]) (I2 := (hu (hu (hn I (A.length + 1)) (A.length + 1) 0 (nI (A.length + 2))) (A.length + 1) 1 (nI (A.length + 7)))) (st2 := [.ref (A.length + 12), .int 2, .ref (A.length + 1)]) (by rw [hc_len (n := 12) rfl, List.append_assoc]; rfl) rfl (by rw [hc_len (n := 12) rfl]) ?_
  refine hj_aast hX (A := some (0, I)) (rr := (0, I)) (hc_getk (k := 1) rfl) (hc_getk (k := 12) rfl) dX1_init_39 (hc_gd (by rw [decide_eq_true (show A.length + 12 < 2147483648 by omega)]; rfl)) (fun _ => ?_)
  refine hj_eqs (I2 := (hu (hu (hu (hn I (A.length + 1)) (A.length + 1) 0 (nI (A.length + 2))) (A.length + 1) 1 (nI (A.length + 7))) (A.length + 1) 2 (nI (A.length + 12)))) rfl rfl rfl ?_
  refine hj_iinc hX (k1 := 0) (v := 3) rfl (by decide) (Nat.le_of_ble_eq_true rfl) (lv2 := [(2, .int 3), (0, .ref A.length), (1, .int 8)]) rfl dX1_init_40 ?_
  refine hj_goto hX (tgt := 18) (by decide) dX1_init_43 ?_
  refine hj_iload_n hX rfl 0 rfl dX1_init_18 ?_
  refine hj_aload_n hX rfl 1 rfl dX1_init_19 ?_
  refine hj_getr hX (j := 0) (q := A.length + 1) (hc_getk (k := 0) rfl) rfl rfl X1_init_w1 (Nat.le_of_ble_eq_true rfl) rfl X1_init_mf0 dX1_init_20 ?_
  refine hj_alen3 hX (hc_getk (k := 1) rfl) dX1_init_23 ?_
  refine hj_icmp_ge hX (tgt := 46) (A := none) (B := some (0, I)) (rr := (0, I)) (by decide) dX1_init_24 (if_neg (by decide)) (fun h => nomatch h) (fun _ => ?_)
  refine hj_aload_n hX rfl 1 rfl dX1_init_27 ?_
  refine hj_getr hX (j := 0) (q := A.length + 1) (hc_getk (k := 0) rfl) rfl rfl X1_init_w1 (Nat.le_of_ble_eq_true rfl) rfl X1_init_mf0 dX1_init_28 ?_
  refine hj_iload_n hX rfl 0 rfl dX1_init_31 ?_
  refine hj_new hX (ci := 2) tyX2 tyX2_ok X1_init_w2 X1_init_mcl X1_init_mis X1_init_min rfl _ hfs_X2 ⟨(Nat.le_of_ble_eq_true rfl), (Nat.le_of_ble_eq_true rfl)⟩ dX1_init_32 ?_
  refine hj_eqs (I2 := (hu (hu (hu (hn I (A.length + 1)) (A.length + 1) 0 (nI (A.length + 2))) (A.length + 1) 1 (nI (A.length + 7))) (A.length + 1) 2 (nI (A.length + 12)))) rfl (by
    have hL : (A ++ [(0, 1, [some (some (A.length + 1)), none]), (3, 8, []), (0, 2, [none, none, some (some (A.length + 3)), some (some (A.length + 4)), some (some (A.length + 5)), some (some (A.length + 6))]), (1, 7, []), (1, 7, []), (1, 7, []), (1, 4, []), (0, 2, [none, none, some (some (A.length + 8)), some (some (A.length + 9)), some (some (A.length + 10)), some (some (A.length + 11))]), (1, 7, []), (1, 7, []), (1, 7, []), (1, 4, []), (0, 2, [none, none, some (some (A.length + 13)), some (some (A.length + 14)), some (some (A.length + 15)), some (some (A.length + 16))]), (1, 7, []), (1, 7, []), (1, 7, []), (1, 4, [])]).length = A.length + 17 := hc_len rfl
    rw [hL]
    refine hz_id ?_
    rw [hu_ne _ _ _ _ _ (by omega)]
    rw [hu_ne _ _ _ _ _ (by omega)]
    rw [hu_ne _ _ _ _ _ (by omega)]
    rw [hn_ne _ _ _ (by omega)]
    exact hI _ (by omega)) rfl ?_
  refine hj_dup hX rfl dX1_init_35 ?_
  refine hj_callIN hX (rt := none) (host := RX4) (I2 := (hu (hu (hu (hn I (A.length + 1)) (A.length + 1) 0 (nI (A.length + 2))) (A.length + 1) 1 (nI (A.length + 7))) (A.length + 1) 2 (nI (A.length + 12)))) (r := none) (As := []) (st2 := [.ref (A ++ [(0, 1, [some (some (A.length + 1)), none]), (3, 8, []), (0, 2, [none, none, some (some (A.length + 3)), some (some (A.length + 4)), some (some (A.length + 5)), some (some (A.length + 6))]), (1, 7, []), (1, 7, []), (1, 7, []), (1, 4, []), (0, 2, [none, none, some (some (A.length + 8)), some (some (A.length + 9)), some (some (A.length + 10)), some (some (A.length + 11))]), (1, 7, []), (1, 7, []), (1, 7, []), (1, 4, []), (0, 2, [none, none, some (some (A.length + 13)), some (some (A.length + 14)), some (some (A.length + 15)), some (some (A.length + 16))]), (1, 7, []), (1, 7, []), (1, 7, []), (1, 4, [])]).length, .int 3, .ref (A.length + 1)]) (X2_init_ok (A := A ++ [(0, 1, [some (some (A.length + 1)), none]), (3, 8, []), (0, 2, [none, none, some (some (A.length + 3)), some (some (A.length + 4)), some (some (A.length + 5)), some (some (A.length + 6))]), (1, 7, []), (1, 7, []), (1, 7, []), (1, 4, []), (0, 2, [none, none, some (some (A.length + 8)), some (some (A.length + 9)), some (some (A.length + 10)), some (some (A.length + 11))]), (1, 7, []), (1, 7, []), (1, 7, []), (1, 4, []), (0, 2, [none, none, some (some (A.length + 13)), some (some (A.length + 14)), some (some (A.length + 15)), some (some (A.length + 16))]), (1, 7, []), (1, 7, []), (1, 7, []), (1, 4, [])]) (I := (hu (hu (hu (hn I (A.length + 1)) (A.length + 1) 0 (nI (A.length + 2))) (A.length + 1) 1 (nI (A.length + 7))) (A.length + 1) 2 (nI (A.length + 12)))) (by
    intro k hk
    rw [hc_len (n := 17) rfl] at hk
    rw [hu_ne _ _ _ _ _ (by omega)]
    rw [hu_ne _ _ _ _ _ (by omega)]
    rw [hu_ne _ _ _ _ _ (by omega)]
    rw [hn_ne _ _ _ (by omega)]
    exact hI _ (by omega))) gX1_init_X2_init_n21 rfl X1_init_mic X1_init_mi2 rfl (fun q => q.2.2.2.2.1) X2_init_hy.2 ⟨(Nat.le_of_ble_eq_true rfl), (Nat.le_of_ble_eq_true rfl)⟩ rfl (Nat.le_of_ble_eq_true rfl) ⟨(Nat.le_of_ble_eq_true rfl), (Nat.le_of_ble_eq_true rfl)⟩ (by simp only [List.length_append]; rfl) rfl rfl dX1_init_36 ?_
  refine hj_eqs (sh2 := A ++ [(0, 1, [some (some (A.length + 1)), none]), (3, 8, []), (0, 2, [none, none, some (some (A.length + 3)), some (some (A.length + 4)), some (some (A.length + 5)), some (some (A.length + 6))]), (1, 7, []), (1, 7, []), (1, 7, []), (1, 4, []), (0, 2, [none, none, some (some (A.length + 8)), some (some (A.length + 9)), some (some (A.length + 10)), some (some (A.length + 11))]), (1, 7, []), (1, 7, []), (1, 7, []), (1, 4, []), (0, 2, [none, none, some (some (A.length + 13)), some (some (A.length + 14)), some (some (A.length + 15)), some (some (A.length + 16))]), (1, 7, []), (1, 7, []), (1, 7, []), (1, 4, []), (0, 2, [none, none, some (some (A.length + 18)), some (some (A.length + 19)), some (some (A.length + 20)), some (some (A.length + 21))]), (1, 7, []), (1, 7, []), (1, 7, []), (1, 4, [])]) (I2 := (hu (hu (hu (hn I (A.length + 1)) (A.length + 1) 0 (nI (A.length + 2))) (A.length + 1) 1 (nI (A.length + 7))) (A.length + 1) 2 (nI (A.length + 12)))) (st2 := [.ref (A.length + 17), .int 3, .ref (A.length + 1)]) (by rw [hc_len (n := 17) rfl, List.append_assoc]; rfl) rfl (by rw [hc_len (n := 17) rfl]) ?_
  refine hj_aast hX (A := some (0, I)) (rr := (0, I)) (hc_getk (k := 1) rfl) (hc_getk (k := 17) rfl) dX1_init_39 (hc_gd (by rw [decide_eq_true (show A.length + 17 < 2147483648 by omega)]; rfl)) (fun _ => ?_)
  refine hj_eqs (I2 := (hu (hu (hu (hu (hn I (A.length + 1)) (A.length + 1) 0 (nI (A.length + 2))) (A.length + 1) 1 (nI (A.length + 7))) (A.length + 1) 2 (nI (A.length + 12))) (A.length + 1) 3 (nI (A.length + 17)))) rfl rfl rfl ?_
  refine hj_iinc hX (k1 := 0) (v := 4) rfl (by decide) (Nat.le_of_ble_eq_true rfl) (lv2 := [(2, .int 4), (0, .ref A.length), (1, .int 8)]) rfl dX1_init_40 ?_
  refine hj_goto hX (tgt := 18) (by decide) dX1_init_43 ?_
  refine hj_iload_n hX rfl 0 rfl dX1_init_18 ?_
  refine hj_aload_n hX rfl 1 rfl dX1_init_19 ?_
  refine hj_getr hX (j := 0) (q := A.length + 1) (hc_getk (k := 0) rfl) rfl rfl X1_init_w1 (Nat.le_of_ble_eq_true rfl) rfl X1_init_mf0 dX1_init_20 ?_
  refine hj_alen3 hX (hc_getk (k := 1) rfl) dX1_init_23 ?_
  refine hj_icmp_ge hX (tgt := 46) (A := none) (B := some (0, I)) (rr := (0, I)) (by decide) dX1_init_24 (if_neg (by decide)) (fun h => nomatch h) (fun _ => ?_)
  refine hj_aload_n hX rfl 1 rfl dX1_init_27 ?_
  refine hj_getr hX (j := 0) (q := A.length + 1) (hc_getk (k := 0) rfl) rfl rfl X1_init_w1 (Nat.le_of_ble_eq_true rfl) rfl X1_init_mf0 dX1_init_28 ?_
  refine hj_iload_n hX rfl 0 rfl dX1_init_31 ?_
  refine hj_new hX (ci := 2) tyX2 tyX2_ok X1_init_w2 X1_init_mcl X1_init_mis X1_init_min rfl _ hfs_X2 ⟨(Nat.le_of_ble_eq_true rfl), (Nat.le_of_ble_eq_true rfl)⟩ dX1_init_32 ?_
  refine hj_eqs (I2 := (hu (hu (hu (hu (hn I (A.length + 1)) (A.length + 1) 0 (nI (A.length + 2))) (A.length + 1) 1 (nI (A.length + 7))) (A.length + 1) 2 (nI (A.length + 12))) (A.length + 1) 3 (nI (A.length + 17)))) rfl (by
    have hL : (A ++ [(0, 1, [some (some (A.length + 1)), none]), (3, 8, []), (0, 2, [none, none, some (some (A.length + 3)), some (some (A.length + 4)), some (some (A.length + 5)), some (some (A.length + 6))]), (1, 7, []), (1, 7, []), (1, 7, []), (1, 4, []), (0, 2, [none, none, some (some (A.length + 8)), some (some (A.length + 9)), some (some (A.length + 10)), some (some (A.length + 11))]), (1, 7, []), (1, 7, []), (1, 7, []), (1, 4, []), (0, 2, [none, none, some (some (A.length + 13)), some (some (A.length + 14)), some (some (A.length + 15)), some (some (A.length + 16))]), (1, 7, []), (1, 7, []), (1, 7, []), (1, 4, []), (0, 2, [none, none, some (some (A.length + 18)), some (some (A.length + 19)), some (some (A.length + 20)), some (some (A.length + 21))]), (1, 7, []), (1, 7, []), (1, 7, []), (1, 4, [])]).length = A.length + 22 := hc_len rfl
    rw [hL]
    refine hz_id ?_
    rw [hu_ne _ _ _ _ _ (by omega)]
    rw [hu_ne _ _ _ _ _ (by omega)]
    rw [hu_ne _ _ _ _ _ (by omega)]
    rw [hu_ne _ _ _ _ _ (by omega)]
    rw [hn_ne _ _ _ (by omega)]
    exact hI _ (by omega)) rfl ?_
  refine hj_dup hX rfl dX1_init_35 ?_
  refine hj_callIN hX (rt := none) (host := RX4) (I2 := (hu (hu (hu (hu (hn I (A.length + 1)) (A.length + 1) 0 (nI (A.length + 2))) (A.length + 1) 1 (nI (A.length + 7))) (A.length + 1) 2 (nI (A.length + 12))) (A.length + 1) 3 (nI (A.length + 17)))) (r := none) (As := []) (st2 := [.ref (A ++ [(0, 1, [some (some (A.length + 1)), none]), (3, 8, []), (0, 2, [none, none, some (some (A.length + 3)), some (some (A.length + 4)), some (some (A.length + 5)), some (some (A.length + 6))]), (1, 7, []), (1, 7, []), (1, 7, []), (1, 4, []), (0, 2, [none, none, some (some (A.length + 8)), some (some (A.length + 9)), some (some (A.length + 10)), some (some (A.length + 11))]), (1, 7, []), (1, 7, []), (1, 7, []), (1, 4, []), (0, 2, [none, none, some (some (A.length + 13)), some (some (A.length + 14)), some (some (A.length + 15)), some (some (A.length + 16))]), (1, 7, []), (1, 7, []), (1, 7, []), (1, 4, []), (0, 2, [none, none, some (some (A.length + 18)), some (some (A.length + 19)), some (some (A.length + 20)), some (some (A.length + 21))]), (1, 7, []), (1, 7, []), (1, 7, []), (1, 4, [])]).length, .int 4, .ref (A.length + 1)]) (X2_init_ok (A := A ++ [(0, 1, [some (some (A.length + 1)), none]), (3, 8, []), (0, 2, [none, none, some (some (A.length + 3)), some (some (A.length + 4)), some (some (A.length + 5)), some (some (A.length + 6))]), (1, 7, []), (1, 7, []), (1, 7, []), (1, 4, []), (0, 2, [none, none, some (some (A.length + 8)), some (some (A.length + 9)), some (some (A.length + 10)), some (some (A.length + 11))]), (1, 7, []), (1, 7, []), (1, 7, []), (1, 4, []), (0, 2, [none, none, some (some (A.length + 13)), some (some (A.length + 14)), some (some (A.length + 15)), some (some (A.length + 16))]), (1, 7, []), (1, 7, []), (1, 7, []), (1, 4, []), (0, 2, [none, none, some (some (A.length + 18)), some (some (A.length + 19)), some (some (A.length + 20)), some (some (A.length + 21))]), (1, 7, []), (1, 7, []), (1, 7, []), (1, 4, [])]) (I := (hu (hu (hu (hu (hn I (A.length + 1)) (A.length + 1) 0 (nI (A.length + 2))) (A.length + 1) 1 (nI (A.length + 7))) (A.length + 1) 2 (nI (A.length + 12))) (A.length + 1) 3 (nI (A.length + 17)))) (by
    intro k hk
    rw [hc_len (n := 22) rfl] at hk
    rw [hu_ne _ _ _ _ _ (by omega)]
    rw [hu_ne _ _ _ _ _ (by omega)]
    rw [hu_ne _ _ _ _ _ (by omega)]
    rw [hu_ne _ _ _ _ _ (by omega)]
    rw [hn_ne _ _ _ (by omega)]
    exact hI _ (by omega))) gX1_init_X2_init_n21 rfl X1_init_mic X1_init_mi2 rfl (fun q => q.2.2.2.2.1) X2_init_hy.2 ⟨(Nat.le_of_ble_eq_true rfl), (Nat.le_of_ble_eq_true rfl)⟩ rfl (Nat.le_of_ble_eq_true rfl) ⟨(Nat.le_of_ble_eq_true rfl), (Nat.le_of_ble_eq_true rfl)⟩ (by simp only [List.length_append]; rfl) rfl rfl dX1_init_36 ?_
  refine hj_eqs (sh2 := A ++ [(0, 1, [some (some (A.length + 1)), none]), (3, 8, []), (0, 2, [none, none, some (some (A.length + 3)), some (some (A.length + 4)), some (some (A.length + 5)), some (some (A.length + 6))]), (1, 7, []), (1, 7, []), (1, 7, []), (1, 4, []), (0, 2, [none, none, some (some (A.length + 8)), some (some (A.length + 9)), some (some (A.length + 10)), some (some (A.length + 11))]), (1, 7, []), (1, 7, []), (1, 7, []), (1, 4, []), (0, 2, [none, none, some (some (A.length + 13)), some (some (A.length + 14)), some (some (A.length + 15)), some (some (A.length + 16))]), (1, 7, []), (1, 7, []), (1, 7, []), (1, 4, []), (0, 2, [none, none, some (some (A.length + 18)), some (some (A.length + 19)), some (some (A.length + 20)), some (some (A.length + 21))]), (1, 7, []), (1, 7, []), (1, 7, []), (1, 4, []), (0, 2, [none, none, some (some (A.length + 23)), some (some (A.length + 24)), some (some (A.length + 25)), some (some (A.length + 26))]), (1, 7, []), (1, 7, []), (1, 7, []), (1, 4, [])]) (I2 := (hu (hu (hu (hu (hn I (A.length + 1)) (A.length + 1) 0 (nI (A.length + 2))) (A.length + 1) 1 (nI (A.length + 7))) (A.length + 1) 2 (nI (A.length + 12))) (A.length + 1) 3 (nI (A.length + 17)))) (st2 := [.ref (A.length + 22), .int 4, .ref (A.length + 1)]) (by rw [hc_len (n := 22) rfl, List.append_assoc]; rfl) rfl (by rw [hc_len (n := 22) rfl]) ?_
  refine hj_aast hX (A := some (0, I)) (rr := (0, I)) (hc_getk (k := 1) rfl) (hc_getk (k := 22) rfl) dX1_init_39 (hc_gd (by rw [decide_eq_true (show A.length + 22 < 2147483648 by omega)]; rfl)) (fun _ => ?_)
  refine hj_eqs (I2 := (hu (hu (hu (hu (hu (hn I (A.length + 1)) (A.length + 1) 0 (nI (A.length + 2))) (A.length + 1) 1 (nI (A.length + 7))) (A.length + 1) 2 (nI (A.length + 12))) (A.length + 1) 3 (nI (A.length + 17))) (A.length + 1) 4 (nI (A.length + 22)))) rfl rfl rfl ?_
  refine hj_iinc hX (k1 := 0) (v := 5) rfl (by decide) (Nat.le_of_ble_eq_true rfl) (lv2 := [(2, .int 5), (0, .ref A.length), (1, .int 8)]) rfl dX1_init_40 ?_
  refine hj_goto hX (tgt := 18) (by decide) dX1_init_43 ?_
  refine hj_iload_n hX rfl 0 rfl dX1_init_18 ?_
  refine hj_aload_n hX rfl 1 rfl dX1_init_19 ?_
  refine hj_getr hX (j := 0) (q := A.length + 1) (hc_getk (k := 0) rfl) rfl rfl X1_init_w1 (Nat.le_of_ble_eq_true rfl) rfl X1_init_mf0 dX1_init_20 ?_
  refine hj_alen3 hX (hc_getk (k := 1) rfl) dX1_init_23 ?_
  refine hj_icmp_ge hX (tgt := 46) (A := none) (B := some (0, I)) (rr := (0, I)) (by decide) dX1_init_24 (if_neg (by decide)) (fun h => nomatch h) (fun _ => ?_)
  refine hj_aload_n hX rfl 1 rfl dX1_init_27 ?_
  refine hj_getr hX (j := 0) (q := A.length + 1) (hc_getk (k := 0) rfl) rfl rfl X1_init_w1 (Nat.le_of_ble_eq_true rfl) rfl X1_init_mf0 dX1_init_28 ?_
  refine hj_iload_n hX rfl 0 rfl dX1_init_31 ?_
  refine hj_new hX (ci := 2) tyX2 tyX2_ok X1_init_w2 X1_init_mcl X1_init_mis X1_init_min rfl _ hfs_X2 ⟨(Nat.le_of_ble_eq_true rfl), (Nat.le_of_ble_eq_true rfl)⟩ dX1_init_32 ?_
  refine hj_eqs (I2 := (hu (hu (hu (hu (hu (hn I (A.length + 1)) (A.length + 1) 0 (nI (A.length + 2))) (A.length + 1) 1 (nI (A.length + 7))) (A.length + 1) 2 (nI (A.length + 12))) (A.length + 1) 3 (nI (A.length + 17))) (A.length + 1) 4 (nI (A.length + 22)))) rfl (by
    have hL : (A ++ [(0, 1, [some (some (A.length + 1)), none]), (3, 8, []), (0, 2, [none, none, some (some (A.length + 3)), some (some (A.length + 4)), some (some (A.length + 5)), some (some (A.length + 6))]), (1, 7, []), (1, 7, []), (1, 7, []), (1, 4, []), (0, 2, [none, none, some (some (A.length + 8)), some (some (A.length + 9)), some (some (A.length + 10)), some (some (A.length + 11))]), (1, 7, []), (1, 7, []), (1, 7, []), (1, 4, []), (0, 2, [none, none, some (some (A.length + 13)), some (some (A.length + 14)), some (some (A.length + 15)), some (some (A.length + 16))]), (1, 7, []), (1, 7, []), (1, 7, []), (1, 4, []), (0, 2, [none, none, some (some (A.length + 18)), some (some (A.length + 19)), some (some (A.length + 20)), some (some (A.length + 21))]), (1, 7, []), (1, 7, []), (1, 7, []), (1, 4, []), (0, 2, [none, none, some (some (A.length + 23)), some (some (A.length + 24)), some (some (A.length + 25)), some (some (A.length + 26))]), (1, 7, []), (1, 7, []), (1, 7, []), (1, 4, [])]).length = A.length + 27 := hc_len rfl
    rw [hL]
    refine hz_id ?_
    rw [hu_ne _ _ _ _ _ (by omega)]
    rw [hu_ne _ _ _ _ _ (by omega)]
    rw [hu_ne _ _ _ _ _ (by omega)]
    rw [hu_ne _ _ _ _ _ (by omega)]
    rw [hu_ne _ _ _ _ _ (by omega)]
    rw [hn_ne _ _ _ (by omega)]
    exact hI _ (by omega)) rfl ?_
  refine hj_dup hX rfl dX1_init_35 ?_
  refine hj_callIN hX (rt := none) (host := RX4) (I2 := (hu (hu (hu (hu (hu (hn I (A.length + 1)) (A.length + 1) 0 (nI (A.length + 2))) (A.length + 1) 1 (nI (A.length + 7))) (A.length + 1) 2 (nI (A.length + 12))) (A.length + 1) 3 (nI (A.length + 17))) (A.length + 1) 4 (nI (A.length + 22)))) (r := none) (As := []) (st2 := [.ref (A ++ [(0, 1, [some (some (A.length + 1)), none]), (3, 8, []), (0, 2, [none, none, some (some (A.length + 3)), some (some (A.length + 4)), some (some (A.length + 5)), some (some (A.length + 6))]), (1, 7, []), (1, 7, []), (1, 7, []), (1, 4, []), (0, 2, [none, none, some (some (A.length + 8)), some (some (A.length + 9)), some (some (A.length + 10)), some (some (A.length + 11))]), (1, 7, []), (1, 7, []), (1, 7, []), (1, 4, []), (0, 2, [none, none, some (some (A.length + 13)), some (some (A.length + 14)), some (some (A.length + 15)), some (some (A.length + 16))]), (1, 7, []), (1, 7, []), (1, 7, []), (1, 4, []), (0, 2, [none, none, some (some (A.length + 18)), some (some (A.length + 19)), some (some (A.length + 20)), some (some (A.length + 21))]), (1, 7, []), (1, 7, []), (1, 7, []), (1, 4, []), (0, 2, [none, none, some (some (A.length + 23)), some (some (A.length + 24)), some (some (A.length + 25)), some (some (A.length + 26))]), (1, 7, []), (1, 7, []), (1, 7, []), (1, 4, [])]).length, .int 5, .ref (A.length + 1)]) (X2_init_ok (A := A ++ [(0, 1, [some (some (A.length + 1)), none]), (3, 8, []), (0, 2, [none, none, some (some (A.length + 3)), some (some (A.length + 4)), some (some (A.length + 5)), some (some (A.length + 6))]), (1, 7, []), (1, 7, []), (1, 7, []), (1, 4, []), (0, 2, [none, none, some (some (A.length + 8)), some (some (A.length + 9)), some (some (A.length + 10)), some (some (A.length + 11))]), (1, 7, []), (1, 7, []), (1, 7, []), (1, 4, []), (0, 2, [none, none, some (some (A.length + 13)), some (some (A.length + 14)), some (some (A.length + 15)), some (some (A.length + 16))]), (1, 7, []), (1, 7, []), (1, 7, []), (1, 4, []), (0, 2, [none, none, some (some (A.length + 18)), some (some (A.length + 19)), some (some (A.length + 20)), some (some (A.length + 21))]), (1, 7, []), (1, 7, []), (1, 7, []), (1, 4, []), (0, 2, [none, none, some (some (A.length + 23)), some (some (A.length + 24)), some (some (A.length + 25)), some (some (A.length + 26))]), (1, 7, []), (1, 7, []), (1, 7, []), (1, 4, [])]) (I := (hu (hu (hu (hu (hu (hn I (A.length + 1)) (A.length + 1) 0 (nI (A.length + 2))) (A.length + 1) 1 (nI (A.length + 7))) (A.length + 1) 2 (nI (A.length + 12))) (A.length + 1) 3 (nI (A.length + 17))) (A.length + 1) 4 (nI (A.length + 22)))) (by
    intro k hk
    rw [hc_len (n := 27) rfl] at hk
    rw [hu_ne _ _ _ _ _ (by omega)]
    rw [hu_ne _ _ _ _ _ (by omega)]
    rw [hu_ne _ _ _ _ _ (by omega)]
    rw [hu_ne _ _ _ _ _ (by omega)]
    rw [hu_ne _ _ _ _ _ (by omega)]
    rw [hn_ne _ _ _ (by omega)]
    exact hI _ (by omega))) gX1_init_X2_init_n21 rfl X1_init_mic X1_init_mi2 rfl (fun q => q.2.2.2.2.1) X2_init_hy.2 ⟨(Nat.le_of_ble_eq_true rfl), (Nat.le_of_ble_eq_true rfl)⟩ rfl (Nat.le_of_ble_eq_true rfl) ⟨(Nat.le_of_ble_eq_true rfl), (Nat.le_of_ble_eq_true rfl)⟩ (by simp only [List.length_append]; rfl) rfl rfl dX1_init_36 ?_
  refine hj_eqs (sh2 := A ++ [(0, 1, [some (some (A.length + 1)), none]), (3, 8, []), (0, 2, [none, none, some (some (A.length + 3)), some (some (A.length + 4)), some (some (A.length + 5)), some (some (A.length + 6))]), (1, 7, []), (1, 7, []), (1, 7, []), (1, 4, []), (0, 2, [none, none, some (some (A.length + 8)), some (some (A.length + 9)), some (some (A.length + 10)), some (some (A.length + 11))]), (1, 7, []), (1, 7, []), (1, 7, []), (1, 4, []), (0, 2, [none, none, some (some (A.length + 13)), some (some (A.length + 14)), some (some (A.length + 15)), some (some (A.length + 16))]), (1, 7, []), (1, 7, []), (1, 7, []), (1, 4, []), (0, 2, [none, none, some (some (A.length + 18)), some (some (A.length + 19)), some (some (A.length + 20)), some (some (A.length + 21))]), (1, 7, []), (1, 7, []), (1, 7, []), (1, 4, []), (0, 2, [none, none, some (some (A.length + 23)), some (some (A.length + 24)), some (some (A.length + 25)), some (some (A.length + 26))]), (1, 7, []), (1, 7, []), (1, 7, []), (1, 4, []), (0, 2, [none, none, some (some (A.length + 28)), some (some (A.length + 29)), some (some (A.length + 30)), some (some (A.length + 31))]), (1, 7, []), (1, 7, []), (1, 7, []), (1, 4, [])]) (I2 := (hu (hu (hu (hu (hu (hn I (A.length + 1)) (A.length + 1) 0 (nI (A.length + 2))) (A.length + 1) 1 (nI (A.length + 7))) (A.length + 1) 2 (nI (A.length + 12))) (A.length + 1) 3 (nI (A.length + 17))) (A.length + 1) 4 (nI (A.length + 22)))) (st2 := [.ref (A.length + 27), .int 5, .ref (A.length + 1)]) (by rw [hc_len (n := 27) rfl, List.append_assoc]; rfl) rfl (by rw [hc_len (n := 27) rfl]) ?_
  refine hj_aast hX (A := some (0, I)) (rr := (0, I)) (hc_getk (k := 1) rfl) (hc_getk (k := 27) rfl) dX1_init_39 (hc_gd (by rw [decide_eq_true (show A.length + 27 < 2147483648 by omega)]; rfl)) (fun _ => ?_)
  refine hj_eqs (I2 := (hu (hu (hu (hu (hu (hu (hn I (A.length + 1)) (A.length + 1) 0 (nI (A.length + 2))) (A.length + 1) 1 (nI (A.length + 7))) (A.length + 1) 2 (nI (A.length + 12))) (A.length + 1) 3 (nI (A.length + 17))) (A.length + 1) 4 (nI (A.length + 22))) (A.length + 1) 5 (nI (A.length + 27)))) rfl rfl rfl ?_
  refine hj_iinc hX (k1 := 0) (v := 6) rfl (by decide) (Nat.le_of_ble_eq_true rfl) (lv2 := [(2, .int 6), (0, .ref A.length), (1, .int 8)]) rfl dX1_init_40 ?_
  refine hj_goto hX (tgt := 18) (by decide) dX1_init_43 ?_
  refine hj_iload_n hX rfl 0 rfl dX1_init_18 ?_
  refine hj_aload_n hX rfl 1 rfl dX1_init_19 ?_
  refine hj_getr hX (j := 0) (q := A.length + 1) (hc_getk (k := 0) rfl) rfl rfl X1_init_w1 (Nat.le_of_ble_eq_true rfl) rfl X1_init_mf0 dX1_init_20 ?_
  refine hj_alen3 hX (hc_getk (k := 1) rfl) dX1_init_23 ?_
  refine hj_icmp_ge hX (tgt := 46) (A := none) (B := some (0, I)) (rr := (0, I)) (by decide) dX1_init_24 (if_neg (by decide)) (fun h => nomatch h) (fun _ => ?_)
  refine hj_aload_n hX rfl 1 rfl dX1_init_27 ?_
  refine hj_getr hX (j := 0) (q := A.length + 1) (hc_getk (k := 0) rfl) rfl rfl X1_init_w1 (Nat.le_of_ble_eq_true rfl) rfl X1_init_mf0 dX1_init_28 ?_
  refine hj_iload_n hX rfl 0 rfl dX1_init_31 ?_
  refine hj_new hX (ci := 2) tyX2 tyX2_ok X1_init_w2 X1_init_mcl X1_init_mis X1_init_min rfl _ hfs_X2 ⟨(Nat.le_of_ble_eq_true rfl), (Nat.le_of_ble_eq_true rfl)⟩ dX1_init_32 ?_
  refine hj_eqs (I2 := (hu (hu (hu (hu (hu (hu (hn I (A.length + 1)) (A.length + 1) 0 (nI (A.length + 2))) (A.length + 1) 1 (nI (A.length + 7))) (A.length + 1) 2 (nI (A.length + 12))) (A.length + 1) 3 (nI (A.length + 17))) (A.length + 1) 4 (nI (A.length + 22))) (A.length + 1) 5 (nI (A.length + 27)))) rfl (by
    have hL : (A ++ [(0, 1, [some (some (A.length + 1)), none]), (3, 8, []), (0, 2, [none, none, some (some (A.length + 3)), some (some (A.length + 4)), some (some (A.length + 5)), some (some (A.length + 6))]), (1, 7, []), (1, 7, []), (1, 7, []), (1, 4, []), (0, 2, [none, none, some (some (A.length + 8)), some (some (A.length + 9)), some (some (A.length + 10)), some (some (A.length + 11))]), (1, 7, []), (1, 7, []), (1, 7, []), (1, 4, []), (0, 2, [none, none, some (some (A.length + 13)), some (some (A.length + 14)), some (some (A.length + 15)), some (some (A.length + 16))]), (1, 7, []), (1, 7, []), (1, 7, []), (1, 4, []), (0, 2, [none, none, some (some (A.length + 18)), some (some (A.length + 19)), some (some (A.length + 20)), some (some (A.length + 21))]), (1, 7, []), (1, 7, []), (1, 7, []), (1, 4, []), (0, 2, [none, none, some (some (A.length + 23)), some (some (A.length + 24)), some (some (A.length + 25)), some (some (A.length + 26))]), (1, 7, []), (1, 7, []), (1, 7, []), (1, 4, []), (0, 2, [none, none, some (some (A.length + 28)), some (some (A.length + 29)), some (some (A.length + 30)), some (some (A.length + 31))]), (1, 7, []), (1, 7, []), (1, 7, []), (1, 4, [])]).length = A.length + 32 := hc_len rfl
    rw [hL]
    refine hz_id ?_
    rw [hu_ne _ _ _ _ _ (by omega)]
    rw [hu_ne _ _ _ _ _ (by omega)]
    rw [hu_ne _ _ _ _ _ (by omega)]
    rw [hu_ne _ _ _ _ _ (by omega)]
    rw [hu_ne _ _ _ _ _ (by omega)]
    rw [hu_ne _ _ _ _ _ (by omega)]
    rw [hn_ne _ _ _ (by omega)]
    exact hI _ (by omega)) rfl ?_
  refine hj_dup hX rfl dX1_init_35 ?_
  refine hj_callIN hX (rt := none) (host := RX4) (I2 := (hu (hu (hu (hu (hu (hu (hn I (A.length + 1)) (A.length + 1) 0 (nI (A.length + 2))) (A.length + 1) 1 (nI (A.length + 7))) (A.length + 1) 2 (nI (A.length + 12))) (A.length + 1) 3 (nI (A.length + 17))) (A.length + 1) 4 (nI (A.length + 22))) (A.length + 1) 5 (nI (A.length + 27)))) (r := none) (As := []) (st2 := [.ref (A ++ [(0, 1, [some (some (A.length + 1)), none]), (3, 8, []), (0, 2, [none, none, some (some (A.length + 3)), some (some (A.length + 4)), some (some (A.length + 5)), some (some (A.length + 6))]), (1, 7, []), (1, 7, []), (1, 7, []), (1, 4, []), (0, 2, [none, none, some (some (A.length + 8)), some (some (A.length + 9)), some (some (A.length + 10)), some (some (A.length + 11))]), (1, 7, []), (1, 7, []), (1, 7, []), (1, 4, []), (0, 2, [none, none, some (some (A.length + 13)), some (some (A.length + 14)), some (some (A.length + 15)), some (some (A.length + 16))]), (1, 7, []), (1, 7, []), (1, 7, []), (1, 4, []), (0, 2, [none, none, some (some (A.length + 18)), some (some (A.length + 19)), some (some (A.length + 20)), some (some (A.length + 21))]), (1, 7, []), (1, 7, []), (1, 7, []), (1, 4, []), (0, 2, [none, none, some (some (A.length + 23)), some (some (A.length + 24)), some (some (A.length + 25)), some (some (A.length + 26))]), (1, 7, []), (1, 7, []), (1, 7, []), (1, 4, []), (0, 2, [none, none, some (some (A.length + 28)), some (some (A.length + 29)), some (some (A.length + 30)), some (some (A.length + 31))]), (1, 7, []), (1, 7, []), (1, 7, []), (1, 4, [])]).length, .int 6, .ref (A.length + 1)]) (X2_init_ok (A := A ++ [(0, 1, [some (some (A.length + 1)), none]), (3, 8, []), (0, 2, [none, none, some (some (A.length + 3)), some (some (A.length + 4)), some (some (A.length + 5)), some (some (A.length + 6))]), (1, 7, []), (1, 7, []), (1, 7, []), (1, 4, []), (0, 2, [none, none, some (some (A.length + 8)), some (some (A.length + 9)), some (some (A.length + 10)), some (some (A.length + 11))]), (1, 7, []), (1, 7, []), (1, 7, []), (1, 4, []), (0, 2, [none, none, some (some (A.length + 13)), some (some (A.length + 14)), some (some (A.length + 15)), some (some (A.length + 16))]), (1, 7, []), (1, 7, []), (1, 7, []), (1, 4, []), (0, 2, [none, none, some (some (A.length + 18)), some (some (A.length + 19)), some (some (A.length + 20)), some (some (A.length + 21))]), (1, 7, []), (1, 7, []), (1, 7, []), (1, 4, []), (0, 2, [none, none, some (some (A.length + 23)), some (some (A.length + 24)), some (some (A.length + 25)), some (some (A.length + 26))]), (1, 7, []), (1, 7, []), (1, 7, []), (1, 4, []), (0, 2, [none, none, some (some (A.length + 28)), some (some (A.length + 29)), some (some (A.length + 30)), some (some (A.length + 31))]), (1, 7, []), (1, 7, []), (1, 7, []), (1, 4, [])]) (I := (hu (hu (hu (hu (hu (hu (hn I (A.length + 1)) (A.length + 1) 0 (nI (A.length + 2))) (A.length + 1) 1 (nI (A.length + 7))) (A.length + 1) 2 (nI (A.length + 12))) (A.length + 1) 3 (nI (A.length + 17))) (A.length + 1) 4 (nI (A.length + 22))) (A.length + 1) 5 (nI (A.length + 27)))) (by
    intro k hk
    rw [hc_len (n := 32) rfl] at hk
    rw [hu_ne _ _ _ _ _ (by omega)]
    rw [hu_ne _ _ _ _ _ (by omega)]
    rw [hu_ne _ _ _ _ _ (by omega)]
    rw [hu_ne _ _ _ _ _ (by omega)]
    rw [hu_ne _ _ _ _ _ (by omega)]
    rw [hu_ne _ _ _ _ _ (by omega)]
    rw [hn_ne _ _ _ (by omega)]
    exact hI _ (by omega))) gX1_init_X2_init_n21 rfl X1_init_mic X1_init_mi2 rfl (fun q => q.2.2.2.2.1) X2_init_hy.2 ⟨(Nat.le_of_ble_eq_true rfl), (Nat.le_of_ble_eq_true rfl)⟩ rfl (Nat.le_of_ble_eq_true rfl) ⟨(Nat.le_of_ble_eq_true rfl), (Nat.le_of_ble_eq_true rfl)⟩ (by simp only [List.length_append]; rfl) rfl rfl dX1_init_36 ?_
  refine hj_eqs (sh2 := A ++ [(0, 1, [some (some (A.length + 1)), none]), (3, 8, []), (0, 2, [none, none, some (some (A.length + 3)), some (some (A.length + 4)), some (some (A.length + 5)), some (some (A.length + 6))]), (1, 7, []), (1, 7, []), (1, 7, []), (1, 4, []), (0, 2, [none, none, some (some (A.length + 8)), some (some (A.length + 9)), some (some (A.length + 10)), some (some (A.length + 11))]), (1, 7, []), (1, 7, []), (1, 7, []), (1, 4, []), (0, 2, [none, none, some (some (A.length + 13)), some (some (A.length + 14)), some (some (A.length + 15)), some (some (A.length + 16))]), (1, 7, []), (1, 7, []), (1, 7, []), (1, 4, []), (0, 2, [none, none, some (some (A.length + 18)), some (some (A.length + 19)), some (some (A.length + 20)), some (some (A.length + 21))]), (1, 7, []), (1, 7, []), (1, 7, []), (1, 4, []), (0, 2, [none, none, some (some (A.length + 23)), some (some (A.length + 24)), some (some (A.length + 25)), some (some (A.length + 26))]), (1, 7, []), (1, 7, []), (1, 7, []), (1, 4, []), (0, 2, [none, none, some (some (A.length + 28)), some (some (A.length + 29)), some (some (A.length + 30)), some (some (A.length + 31))]), (1, 7, []), (1, 7, []), (1, 7, []), (1, 4, []), (0, 2, [none, none, some (some (A.length + 33)), some (some (A.length + 34)), some (some (A.length + 35)), some (some (A.length + 36))]), (1, 7, []), (1, 7, []), (1, 7, []), (1, 4, [])]) (I2 := (hu (hu (hu (hu (hu (hu (hn I (A.length + 1)) (A.length + 1) 0 (nI (A.length + 2))) (A.length + 1) 1 (nI (A.length + 7))) (A.length + 1) 2 (nI (A.length + 12))) (A.length + 1) 3 (nI (A.length + 17))) (A.length + 1) 4 (nI (A.length + 22))) (A.length + 1) 5 (nI (A.length + 27)))) (st2 := [.ref (A.length + 32), .int 6, .ref (A.length + 1)]) (by rw [hc_len (n := 32) rfl, List.append_assoc]; rfl) rfl (by rw [hc_len (n := 32) rfl]) ?_
  refine hj_aast hX (A := some (0, I)) (rr := (0, I)) (hc_getk (k := 1) rfl) (hc_getk (k := 32) rfl) dX1_init_39 (hc_gd (by rw [decide_eq_true (show A.length + 32 < 2147483648 by omega)]; rfl)) (fun _ => ?_)
  refine hj_eqs (I2 := (hu (hu (hu (hu (hu (hu (hu (hn I (A.length + 1)) (A.length + 1) 0 (nI (A.length + 2))) (A.length + 1) 1 (nI (A.length + 7))) (A.length + 1) 2 (nI (A.length + 12))) (A.length + 1) 3 (nI (A.length + 17))) (A.length + 1) 4 (nI (A.length + 22))) (A.length + 1) 5 (nI (A.length + 27))) (A.length + 1) 6 (nI (A.length + 32)))) rfl rfl rfl ?_
  refine hj_iinc hX (k1 := 0) (v := 7) rfl (by decide) (Nat.le_of_ble_eq_true rfl) (lv2 := [(2, .int 7), (0, .ref A.length), (1, .int 8)]) rfl dX1_init_40 ?_
  refine hj_goto hX (tgt := 18) (by decide) dX1_init_43 ?_
  refine hj_iload_n hX rfl 0 rfl dX1_init_18 ?_
  refine hj_aload_n hX rfl 1 rfl dX1_init_19 ?_
  refine hj_getr hX (j := 0) (q := A.length + 1) (hc_getk (k := 0) rfl) rfl rfl X1_init_w1 (Nat.le_of_ble_eq_true rfl) rfl X1_init_mf0 dX1_init_20 ?_
  refine hj_alen3 hX (hc_getk (k := 1) rfl) dX1_init_23 ?_
  refine hj_icmp_ge hX (tgt := 46) (A := none) (B := some (0, I)) (rr := (0, I)) (by decide) dX1_init_24 (if_neg (by decide)) (fun h => nomatch h) (fun _ => ?_)
  refine hj_aload_n hX rfl 1 rfl dX1_init_27 ?_
  refine hj_getr hX (j := 0) (q := A.length + 1) (hc_getk (k := 0) rfl) rfl rfl X1_init_w1 (Nat.le_of_ble_eq_true rfl) rfl X1_init_mf0 dX1_init_28 ?_
  refine hj_iload_n hX rfl 0 rfl dX1_init_31 ?_
  refine hj_new hX (ci := 2) tyX2 tyX2_ok X1_init_w2 X1_init_mcl X1_init_mis X1_init_min rfl _ hfs_X2 ⟨(Nat.le_of_ble_eq_true rfl), (Nat.le_of_ble_eq_true rfl)⟩ dX1_init_32 ?_
  refine hj_eqs (I2 := (hu (hu (hu (hu (hu (hu (hu (hn I (A.length + 1)) (A.length + 1) 0 (nI (A.length + 2))) (A.length + 1) 1 (nI (A.length + 7))) (A.length + 1) 2 (nI (A.length + 12))) (A.length + 1) 3 (nI (A.length + 17))) (A.length + 1) 4 (nI (A.length + 22))) (A.length + 1) 5 (nI (A.length + 27))) (A.length + 1) 6 (nI (A.length + 32)))) rfl (by
    have hL : (A ++ [(0, 1, [some (some (A.length + 1)), none]), (3, 8, []), (0, 2, [none, none, some (some (A.length + 3)), some (some (A.length + 4)), some (some (A.length + 5)), some (some (A.length + 6))]), (1, 7, []), (1, 7, []), (1, 7, []), (1, 4, []), (0, 2, [none, none, some (some (A.length + 8)), some (some (A.length + 9)), some (some (A.length + 10)), some (some (A.length + 11))]), (1, 7, []), (1, 7, []), (1, 7, []), (1, 4, []), (0, 2, [none, none, some (some (A.length + 13)), some (some (A.length + 14)), some (some (A.length + 15)), some (some (A.length + 16))]), (1, 7, []), (1, 7, []), (1, 7, []), (1, 4, []), (0, 2, [none, none, some (some (A.length + 18)), some (some (A.length + 19)), some (some (A.length + 20)), some (some (A.length + 21))]), (1, 7, []), (1, 7, []), (1, 7, []), (1, 4, []), (0, 2, [none, none, some (some (A.length + 23)), some (some (A.length + 24)), some (some (A.length + 25)), some (some (A.length + 26))]), (1, 7, []), (1, 7, []), (1, 7, []), (1, 4, []), (0, 2, [none, none, some (some (A.length + 28)), some (some (A.length + 29)), some (some (A.length + 30)), some (some (A.length + 31))]), (1, 7, []), (1, 7, []), (1, 7, []), (1, 4, []), (0, 2, [none, none, some (some (A.length + 33)), some (some (A.length + 34)), some (some (A.length + 35)), some (some (A.length + 36))]), (1, 7, []), (1, 7, []), (1, 7, []), (1, 4, [])]).length = A.length + 37 := hc_len rfl
    rw [hL]
    refine hz_id ?_
    rw [hu_ne _ _ _ _ _ (by omega)]
    rw [hu_ne _ _ _ _ _ (by omega)]
    rw [hu_ne _ _ _ _ _ (by omega)]
    rw [hu_ne _ _ _ _ _ (by omega)]
    rw [hu_ne _ _ _ _ _ (by omega)]
    rw [hu_ne _ _ _ _ _ (by omega)]
    rw [hu_ne _ _ _ _ _ (by omega)]
    rw [hn_ne _ _ _ (by omega)]
    exact hI _ (by omega)) rfl ?_
  refine hj_dup hX rfl dX1_init_35 ?_
  refine hj_callIN hX (rt := none) (host := RX4) (I2 := (hu (hu (hu (hu (hu (hu (hu (hn I (A.length + 1)) (A.length + 1) 0 (nI (A.length + 2))) (A.length + 1) 1 (nI (A.length + 7))) (A.length + 1) 2 (nI (A.length + 12))) (A.length + 1) 3 (nI (A.length + 17))) (A.length + 1) 4 (nI (A.length + 22))) (A.length + 1) 5 (nI (A.length + 27))) (A.length + 1) 6 (nI (A.length + 32)))) (r := none) (As := []) (st2 := [.ref (A ++ [(0, 1, [some (some (A.length + 1)), none]), (3, 8, []), (0, 2, [none, none, some (some (A.length + 3)), some (some (A.length + 4)), some (some (A.length + 5)), some (some (A.length + 6))]), (1, 7, []), (1, 7, []), (1, 7, []), (1, 4, []), (0, 2, [none, none, some (some (A.length + 8)), some (some (A.length + 9)), some (some (A.length + 10)), some (some (A.length + 11))]), (1, 7, []), (1, 7, []), (1, 7, []), (1, 4, []), (0, 2, [none, none, some (some (A.length + 13)), some (some (A.length + 14)), some (some (A.length + 15)), some (some (A.length + 16))]), (1, 7, []), (1, 7, []), (1, 7, []), (1, 4, []), (0, 2, [none, none, some (some (A.length + 18)), some (some (A.length + 19)), some (some (A.length + 20)), some (some (A.length + 21))]), (1, 7, []), (1, 7, []), (1, 7, []), (1, 4, []), (0, 2, [none, none, some (some (A.length + 23)), some (some (A.length + 24)), some (some (A.length + 25)), some (some (A.length + 26))]), (1, 7, []), (1, 7, []), (1, 7, []), (1, 4, []), (0, 2, [none, none, some (some (A.length + 28)), some (some (A.length + 29)), some (some (A.length + 30)), some (some (A.length + 31))]), (1, 7, []), (1, 7, []), (1, 7, []), (1, 4, []), (0, 2, [none, none, some (some (A.length + 33)), some (some (A.length + 34)), some (some (A.length + 35)), some (some (A.length + 36))]), (1, 7, []), (1, 7, []), (1, 7, []), (1, 4, [])]).length, .int 7, .ref (A.length + 1)]) (X2_init_ok (A := A ++ [(0, 1, [some (some (A.length + 1)), none]), (3, 8, []), (0, 2, [none, none, some (some (A.length + 3)), some (some (A.length + 4)), some (some (A.length + 5)), some (some (A.length + 6))]), (1, 7, []), (1, 7, []), (1, 7, []), (1, 4, []), (0, 2, [none, none, some (some (A.length + 8)), some (some (A.length + 9)), some (some (A.length + 10)), some (some (A.length + 11))]), (1, 7, []), (1, 7, []), (1, 7, []), (1, 4, []), (0, 2, [none, none, some (some (A.length + 13)), some (some (A.length + 14)), some (some (A.length + 15)), some (some (A.length + 16))]), (1, 7, []), (1, 7, []), (1, 7, []), (1, 4, []), (0, 2, [none, none, some (some (A.length + 18)), some (some (A.length + 19)), some (some (A.length + 20)), some (some (A.length + 21))]), (1, 7, []), (1, 7, []), (1, 7, []), (1, 4, []), (0, 2, [none, none, some (some (A.length + 23)), some (some (A.length + 24)), some (some (A.length + 25)), some (some (A.length + 26))]), (1, 7, []), (1, 7, []), (1, 7, []), (1, 4, []), (0, 2, [none, none, some (some (A.length + 28)), some (some (A.length + 29)), some (some (A.length + 30)), some (some (A.length + 31))]), (1, 7, []), (1, 7, []), (1, 7, []), (1, 4, []), (0, 2, [none, none, some (some (A.length + 33)), some (some (A.length + 34)), some (some (A.length + 35)), some (some (A.length + 36))]), (1, 7, []), (1, 7, []), (1, 7, []), (1, 4, [])]) (I := (hu (hu (hu (hu (hu (hu (hu (hn I (A.length + 1)) (A.length + 1) 0 (nI (A.length + 2))) (A.length + 1) 1 (nI (A.length + 7))) (A.length + 1) 2 (nI (A.length + 12))) (A.length + 1) 3 (nI (A.length + 17))) (A.length + 1) 4 (nI (A.length + 22))) (A.length + 1) 5 (nI (A.length + 27))) (A.length + 1) 6 (nI (A.length + 32)))) (by
    intro k hk
    rw [hc_len (n := 37) rfl] at hk
    rw [hu_ne _ _ _ _ _ (by omega)]
    rw [hu_ne _ _ _ _ _ (by omega)]
    rw [hu_ne _ _ _ _ _ (by omega)]
    rw [hu_ne _ _ _ _ _ (by omega)]
    rw [hu_ne _ _ _ _ _ (by omega)]
    rw [hu_ne _ _ _ _ _ (by omega)]
    rw [hu_ne _ _ _ _ _ (by omega)]
    rw [hn_ne _ _ _ (by omega)]
    exact hI _ (by omega))) gX1_init_X2_init_n21 rfl X1_init_mic X1_init_mi2 rfl (fun q => q.2.2.2.2.1) X2_init_hy.2 ⟨(Nat.le_of_ble_eq_true rfl), (Nat.le_of_ble_eq_true rfl)⟩ rfl (Nat.le_of_ble_eq_true rfl) ⟨(Nat.le_of_ble_eq_true rfl), (Nat.le_of_ble_eq_true rfl)⟩ (by simp only [List.length_append]; rfl) rfl rfl dX1_init_36 ?_
  refine hj_eqs (sh2 := A ++ [(0, 1, [some (some (A.length + 1)), none]), (3, 8, []), (0, 2, [none, none, some (some (A.length + 3)), some (some (A.length + 4)), some (some (A.length + 5)), some (some (A.length + 6))]), (1, 7, []), (1, 7, []), (1, 7, []), (1, 4, []), (0, 2, [none, none, some (some (A.length + 8)), some (some (A.length + 9)), some (some (A.length + 10)), some (some (A.length + 11))]), (1, 7, []), (1, 7, []), (1, 7, []), (1, 4, []), (0, 2, [none, none, some (some (A.length + 13)), some (some (A.length + 14)), some (some (A.length + 15)), some (some (A.length + 16))]), (1, 7, []), (1, 7, []), (1, 7, []), (1, 4, []), (0, 2, [none, none, some (some (A.length + 18)), some (some (A.length + 19)), some (some (A.length + 20)), some (some (A.length + 21))]), (1, 7, []), (1, 7, []), (1, 7, []), (1, 4, []), (0, 2, [none, none, some (some (A.length + 23)), some (some (A.length + 24)), some (some (A.length + 25)), some (some (A.length + 26))]), (1, 7, []), (1, 7, []), (1, 7, []), (1, 4, []), (0, 2, [none, none, some (some (A.length + 28)), some (some (A.length + 29)), some (some (A.length + 30)), some (some (A.length + 31))]), (1, 7, []), (1, 7, []), (1, 7, []), (1, 4, []), (0, 2, [none, none, some (some (A.length + 33)), some (some (A.length + 34)), some (some (A.length + 35)), some (some (A.length + 36))]), (1, 7, []), (1, 7, []), (1, 7, []), (1, 4, []), (0, 2, [none, none, some (some (A.length + 38)), some (some (A.length + 39)), some (some (A.length + 40)), some (some (A.length + 41))]), (1, 7, []), (1, 7, []), (1, 7, []), (1, 4, [])]) (I2 := (hu (hu (hu (hu (hu (hu (hu (hn I (A.length + 1)) (A.length + 1) 0 (nI (A.length + 2))) (A.length + 1) 1 (nI (A.length + 7))) (A.length + 1) 2 (nI (A.length + 12))) (A.length + 1) 3 (nI (A.length + 17))) (A.length + 1) 4 (nI (A.length + 22))) (A.length + 1) 5 (nI (A.length + 27))) (A.length + 1) 6 (nI (A.length + 32)))) (st2 := [.ref (A.length + 37), .int 7, .ref (A.length + 1)]) (by rw [hc_len (n := 37) rfl, List.append_assoc]; rfl) rfl (by rw [hc_len (n := 37) rfl]) ?_
  refine hj_aast hX (A := some (0, I)) (rr := (0, I)) (hc_getk (k := 1) rfl) (hc_getk (k := 37) rfl) dX1_init_39 (hc_gd (by rw [decide_eq_true (show A.length + 37 < 2147483648 by omega)]; rfl)) (fun _ => ?_)
  refine hj_eqs (I2 := (hu (hu (hu (hu (hu (hu (hu (hu (hn I (A.length + 1)) (A.length + 1) 0 (nI (A.length + 2))) (A.length + 1) 1 (nI (A.length + 7))) (A.length + 1) 2 (nI (A.length + 12))) (A.length + 1) 3 (nI (A.length + 17))) (A.length + 1) 4 (nI (A.length + 22))) (A.length + 1) 5 (nI (A.length + 27))) (A.length + 1) 6 (nI (A.length + 32))) (A.length + 1) 7 (nI (A.length + 37)))) rfl rfl rfl ?_
  refine hj_iinc hX (k1 := 0) (v := 8) rfl (by decide) (Nat.le_of_ble_eq_true rfl) (lv2 := [(2, .int 8), (0, .ref A.length), (1, .int 8)]) rfl dX1_init_40 ?_
  refine hj_goto hX (tgt := 18) (by decide) dX1_init_43 ?_
  refine hj_iload_n hX rfl 0 rfl dX1_init_18 ?_
  refine hj_aload_n hX rfl 1 rfl dX1_init_19 ?_
  refine hj_getr hX (j := 0) (q := A.length + 1) (hc_getk (k := 0) rfl) rfl rfl X1_init_w1 (Nat.le_of_ble_eq_true rfl) rfl X1_init_mf0 dX1_init_20 ?_
  refine hj_alen3 hX (hc_getk (k := 1) rfl) dX1_init_23 ?_
  refine hj_icmp_ge hX (tgt := 46) (A := some (0, I)) (B := none) (rr := (0, I)) (by decide) dX1_init_24 (if_pos (by decide)) (fun _ => ?_) (fun h => nomatch h)
  exact hj_vret hX dX1_init_46 rfl)
set_option maxHeartbeats 4000000 in
set_option maxRecDepth 100000 in
theorem X1_init2_ok {A : List hS} {I : hM} (hA : A.length = 78) (hI : ∀ k, A.length < k → I k = fun _ => 0) : hp_C yX1_init wsX1_init 2 11 64 (A ++ [(0, 1, [some none, none])]) I [.ref A.length, .int 2] none (A ++ [(0, 1, [some (some (A.length + 1)), none]), (3, 2, []), (0, 2, [none, none, some (some (A.length + 3)), some (some (A.length + 4)), some (some (A.length + 5)), some (some (A.length + 6))]), (1, 7, []), (1, 7, []), (1, 7, []), (1, 4, []), (0, 2, [none, none, some (some (A.length + 8)), some (some (A.length + 9)), some (some (A.length + 10)), some (some (A.length + 11))]), (1, 7, []), (1, 7, []), (1, 7, []), (1, 4, [])]) (hu (hu (hn I (A.length + 1)) (A.length + 1) 0 (nI (A.length + 2))) (A.length + 1) 1 (nI (A.length + 7))) := hp_start (cc := cX1_init) (maxL := 3) (ret := none) [(0, .ref A.length), (1, .int 2)] (by decide) rfl (fun _ _ => rfl) (fun _ _ => Nat.le_of_ble_eq_true rfl) (fun p l e s m below meth c D E b z hX _ => by
  refine hj_aload_n hX rfl 0 rfl dX1_init_0 ?_
  refine hj_objInit hX X1_init_mo1 X1_init_mo2 X1_init_mo3 (Nat.le_of_ble_eq_true rfl) (Nat.le_of_ble_eq_true rfl) dX1_init_1 ?_
  refine hj_aload_n hX rfl 0 rfl dX1_init_4 ?_
  refine hj_iload_n hX rfl 1 rfl dX1_init_5 ?_
  refine hj_iconst hX (v := 1) (by decide) dX1_init_6 ?_
  refine hj_mmax hX X1_init_mx1 X1_init_mx2 X1_init_mx3 X1_init_mx4 (Nat.le_of_ble_eq_true rfl) (Nat.le_of_ble_eq_true rfl) ⟨(Nat.le_of_ble_eq_true rfl), (Nat.le_of_ble_eq_true rfl)⟩ dX1_init_7 ?_
  refine hj_newq hX (N := 2) X1_init_mcl (by decide) (by decide) (by decide) ⟨(Nat.le_of_ble_eq_true rfl), (Nat.le_of_ble_eq_true rfl)⟩ dX1_init_10 ?_
  refine hj_eqs (sh2 := A ++ [(0, 1, [some none, none]), (3, 2, [])]) (I2 := (hn I (A.length + 1))) (st2 := [.ref (A.length + 1), .ref A.length]) (List.append_assoc _ _ _) (by rw [hc_len (n := 1) rfl]) (by rw [hc_len (n := 1) rfl]) ?_
  refine hj_putr hX (q := (A.length + 1)) (fs := [some none, none]) (j := 0) (hc_getk (k := 0) rfl) (Nat.le_of_ble_eq_true rfl) rfl X1_init_w1 (Nat.le_of_ble_eq_true rfl) rfl X1_init_mf0 tyX1_ok nmX1 rfl rfl rfl (ty := .array (.object "HatPins$Standing")) (by decide +kernel) (fun _ => rfl) (fun _ => rfl) dX1_init_13 ?_
  refine hj_eqs (sh2 := A ++ [(0, 1, [some (some (A.length + 1)), none]), (3, 2, [])]) (I2 := (hn I (A.length + 1))) (st2 := []) hc_set rfl rfl ?_
  refine hj_iconst hX (v := 0) (by decide) dX1_init_16 ?_
  refine hj_istore_n hX rfl (Nat.le_of_ble_eq_true rfl) (lv2 := [(2, .int 0), (0, .ref A.length), (1, .int 2)]) rfl dX1_init_17 ?_
  refine hj_iload_n hX rfl 0 rfl dX1_init_18 ?_
  refine hj_aload_n hX rfl 1 rfl dX1_init_19 ?_
  refine hj_getr hX (j := 0) (q := A.length + 1) (hc_getk (k := 0) rfl) rfl rfl X1_init_w1 (Nat.le_of_ble_eq_true rfl) rfl X1_init_mf0 dX1_init_20 ?_
  refine hj_alen3 hX (hc_getk (k := 1) rfl) dX1_init_23 ?_
  refine hj_icmp_ge hX (tgt := 46) (A := none) (B := some (0, I)) (rr := (0, I)) (by decide) dX1_init_24 (if_neg (by decide)) (fun h => nomatch h) (fun _ => ?_)
  refine hj_aload_n hX rfl 1 rfl dX1_init_27 ?_
  refine hj_getr hX (j := 0) (q := A.length + 1) (hc_getk (k := 0) rfl) rfl rfl X1_init_w1 (Nat.le_of_ble_eq_true rfl) rfl X1_init_mf0 dX1_init_28 ?_
  refine hj_iload_n hX rfl 0 rfl dX1_init_31 ?_
  refine hj_new hX (ci := 2) tyX2 tyX2_ok X1_init_w2 X1_init_mcl X1_init_mis X1_init_min rfl _ hfs_X2 ⟨(Nat.le_of_ble_eq_true rfl), (Nat.le_of_ble_eq_true rfl)⟩ dX1_init_32 ?_
  refine hj_eqs (I2 := (hn I (A.length + 1))) rfl (by
    have hL : (A ++ [(0, 1, [some (some (A.length + 1)), none]), (3, 2, [])]).length = A.length + 2 := hc_len rfl
    rw [hL]
    refine hz_id ?_
    rw [hn_ne _ _ _ (by omega)]
    exact hI _ (by omega)) rfl ?_
  refine hj_dup hX rfl dX1_init_35 ?_
  refine hj_callIN hX (rt := none) (host := RX4) (I2 := (hn I (A.length + 1))) (r := none) (As := []) (st2 := [.ref (A ++ [(0, 1, [some (some (A.length + 1)), none]), (3, 2, [])]).length, .int 0, .ref (A.length + 1)]) (X2_init_ok (A := A ++ [(0, 1, [some (some (A.length + 1)), none]), (3, 2, [])]) (I := (hn I (A.length + 1))) (by
    intro k hk
    rw [hc_len (n := 2) rfl] at hk
    rw [hn_ne _ _ _ (by omega)]
    exact hI _ (by omega))) gX1_init_X2_init_n21 rfl X1_init_mic X1_init_mi2 rfl (fun q => q.2.2.2.2.1) X2_init_hy.2 ⟨(Nat.le_of_ble_eq_true rfl), (Nat.le_of_ble_eq_true rfl)⟩ rfl (Nat.le_of_ble_eq_true rfl) ⟨(Nat.le_of_ble_eq_true rfl), (Nat.le_of_ble_eq_true rfl)⟩ (by simp only [List.length_append]; rfl) rfl rfl dX1_init_36 ?_
  refine hj_eqs (sh2 := A ++ [(0, 1, [some (some (A.length + 1)), none]), (3, 2, []), (0, 2, [none, none, some (some (A.length + 3)), some (some (A.length + 4)), some (some (A.length + 5)), some (some (A.length + 6))]), (1, 7, []), (1, 7, []), (1, 7, []), (1, 4, [])]) (I2 := (hn I (A.length + 1))) (st2 := [.ref (A.length + 2), .int 0, .ref (A.length + 1)]) (by rw [hc_len (n := 2) rfl, List.append_assoc]; rfl) rfl (by rw [hc_len (n := 2) rfl]) ?_
  refine hj_aast hX (A := some (0, I)) (rr := (0, I)) (hc_getk (k := 1) rfl) (hc_getk (k := 2) rfl) dX1_init_39 (hc_gd (by rw [decide_eq_true (show A.length + 2 < 2147483648 by omega)]; rfl)) (fun _ => ?_)
  refine hj_eqs (I2 := (hu (hn I (A.length + 1)) (A.length + 1) 0 (nI (A.length + 2)))) rfl rfl rfl ?_
  refine hj_iinc hX (k1 := 0) (v := 1) rfl (by decide) (Nat.le_of_ble_eq_true rfl) (lv2 := [(2, .int 1), (0, .ref A.length), (1, .int 2)]) rfl dX1_init_40 ?_
  refine hj_goto hX (tgt := 18) (by decide) dX1_init_43 ?_
  refine hj_iload_n hX rfl 0 rfl dX1_init_18 ?_
  refine hj_aload_n hX rfl 1 rfl dX1_init_19 ?_
  refine hj_getr hX (j := 0) (q := A.length + 1) (hc_getk (k := 0) rfl) rfl rfl X1_init_w1 (Nat.le_of_ble_eq_true rfl) rfl X1_init_mf0 dX1_init_20 ?_
  refine hj_alen3 hX (hc_getk (k := 1) rfl) dX1_init_23 ?_
  refine hj_icmp_ge hX (tgt := 46) (A := none) (B := some (0, I)) (rr := (0, I)) (by decide) dX1_init_24 (if_neg (by decide)) (fun h => nomatch h) (fun _ => ?_)
  refine hj_aload_n hX rfl 1 rfl dX1_init_27 ?_
  refine hj_getr hX (j := 0) (q := A.length + 1) (hc_getk (k := 0) rfl) rfl rfl X1_init_w1 (Nat.le_of_ble_eq_true rfl) rfl X1_init_mf0 dX1_init_28 ?_
  refine hj_iload_n hX rfl 0 rfl dX1_init_31 ?_
  refine hj_new hX (ci := 2) tyX2 tyX2_ok X1_init_w2 X1_init_mcl X1_init_mis X1_init_min rfl _ hfs_X2 ⟨(Nat.le_of_ble_eq_true rfl), (Nat.le_of_ble_eq_true rfl)⟩ dX1_init_32 ?_
  refine hj_eqs (I2 := (hu (hn I (A.length + 1)) (A.length + 1) 0 (nI (A.length + 2)))) rfl (by
    have hL : (A ++ [(0, 1, [some (some (A.length + 1)), none]), (3, 2, []), (0, 2, [none, none, some (some (A.length + 3)), some (some (A.length + 4)), some (some (A.length + 5)), some (some (A.length + 6))]), (1, 7, []), (1, 7, []), (1, 7, []), (1, 4, [])]).length = A.length + 7 := hc_len rfl
    rw [hL]
    refine hz_id ?_
    rw [hu_ne _ _ _ _ _ (by omega)]
    rw [hn_ne _ _ _ (by omega)]
    exact hI _ (by omega)) rfl ?_
  refine hj_dup hX rfl dX1_init_35 ?_
  refine hj_callIN hX (rt := none) (host := RX4) (I2 := (hu (hn I (A.length + 1)) (A.length + 1) 0 (nI (A.length + 2)))) (r := none) (As := []) (st2 := [.ref (A ++ [(0, 1, [some (some (A.length + 1)), none]), (3, 2, []), (0, 2, [none, none, some (some (A.length + 3)), some (some (A.length + 4)), some (some (A.length + 5)), some (some (A.length + 6))]), (1, 7, []), (1, 7, []), (1, 7, []), (1, 4, [])]).length, .int 1, .ref (A.length + 1)]) (X2_init_ok (A := A ++ [(0, 1, [some (some (A.length + 1)), none]), (3, 2, []), (0, 2, [none, none, some (some (A.length + 3)), some (some (A.length + 4)), some (some (A.length + 5)), some (some (A.length + 6))]), (1, 7, []), (1, 7, []), (1, 7, []), (1, 4, [])]) (I := (hu (hn I (A.length + 1)) (A.length + 1) 0 (nI (A.length + 2)))) (by
    intro k hk
    rw [hc_len (n := 7) rfl] at hk
    rw [hu_ne _ _ _ _ _ (by omega)]
    rw [hn_ne _ _ _ (by omega)]
    exact hI _ (by omega))) gX1_init_X2_init_n21 rfl X1_init_mic X1_init_mi2 rfl (fun q => q.2.2.2.2.1) X2_init_hy.2 ⟨(Nat.le_of_ble_eq_true rfl), (Nat.le_of_ble_eq_true rfl)⟩ rfl (Nat.le_of_ble_eq_true rfl) ⟨(Nat.le_of_ble_eq_true rfl), (Nat.le_of_ble_eq_true rfl)⟩ (by simp only [List.length_append]; rfl) rfl rfl dX1_init_36 ?_
  refine hj_eqs (sh2 := A ++ [(0, 1, [some (some (A.length + 1)), none]), (3, 2, []), (0, 2, [none, none, some (some (A.length + 3)), some (some (A.length + 4)), some (some (A.length + 5)), some (some (A.length + 6))]), (1, 7, []), (1, 7, []), (1, 7, []), (1, 4, []), (0, 2, [none, none, some (some (A.length + 8)), some (some (A.length + 9)), some (some (A.length + 10)), some (some (A.length + 11))]), (1, 7, []), (1, 7, []), (1, 7, []), (1, 4, [])]) (I2 := (hu (hn I (A.length + 1)) (A.length + 1) 0 (nI (A.length + 2)))) (st2 := [.ref (A.length + 7), .int 1, .ref (A.length + 1)]) (by rw [hc_len (n := 7) rfl, List.append_assoc]; rfl) rfl (by rw [hc_len (n := 7) rfl]) ?_
  refine hj_aast hX (A := some (0, I)) (rr := (0, I)) (hc_getk (k := 1) rfl) (hc_getk (k := 7) rfl) dX1_init_39 (hc_gd (by rw [decide_eq_true (show A.length + 7 < 2147483648 by omega)]; rfl)) (fun _ => ?_)
  refine hj_eqs (I2 := (hu (hu (hn I (A.length + 1)) (A.length + 1) 0 (nI (A.length + 2))) (A.length + 1) 1 (nI (A.length + 7)))) rfl rfl rfl ?_
  refine hj_iinc hX (k1 := 0) (v := 2) rfl (by decide) (Nat.le_of_ble_eq_true rfl) (lv2 := [(2, .int 2), (0, .ref A.length), (1, .int 2)]) rfl dX1_init_40 ?_
  refine hj_goto hX (tgt := 18) (by decide) dX1_init_43 ?_
  refine hj_iload_n hX rfl 0 rfl dX1_init_18 ?_
  refine hj_aload_n hX rfl 1 rfl dX1_init_19 ?_
  refine hj_getr hX (j := 0) (q := A.length + 1) (hc_getk (k := 0) rfl) rfl rfl X1_init_w1 (Nat.le_of_ble_eq_true rfl) rfl X1_init_mf0 dX1_init_20 ?_
  refine hj_alen3 hX (hc_getk (k := 1) rfl) dX1_init_23 ?_
  refine hj_icmp_ge hX (tgt := 46) (A := some (0, I)) (B := none) (rr := (0, I)) (by decide) dX1_init_24 (if_pos (by decide)) (fun _ => ?_) (fun h => nomatch h)
  exact hj_vret hX dX1_init_46 rfl)
