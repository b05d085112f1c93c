def X1_dropOldest_b38 (p0 n0 : Nat) (q1 : Nat) (I : hM) : Option (Int32 × hM) := gd (hst (q1)) (gd (hx ((nI n0) - (1 : Int32)) n0 && decide ((q1) < 2147483648)) (some (0, (hu (hu I (p0 + 1) (((nI n0) - (1 : Int32))).toNatClampNeg (nI (q1))) p0 1 ((nI n0) - (1 : Int32))))))
def X1_dropOldest_h9 (p0 n0 : Nat) (k9 : Nat → Int32 → hM → Option (Int32 × hM)) (q1 : Nat) (v2 : Int32) (I : hM) : Option (Int32 × hM) := if (nI n0) ≤ v2 then (X1_dropOldest_b38 p0 n0 q1 I) else (gd (hx v2 n0 && decide (¬ (I (p0 + 1) (v2).toNatClampNeg) < 0)) (gd (hst (((I (p0 + 1) (v2).toNatClampNeg)).toNatClampNeg)) (gd (hx (v2 - (1 : Int32)) n0 && decide ((((I (p0 + 1) (v2).toNatClampNeg)).toNatClampNeg) < 2147483648)) ((k9 q1 (v2 + (1 : Int32)) (hu I (p0 + 1) ((v2 - (1 : Int32))).toNatClampNeg (nI (((I (p0 + 1) (v2).toNatClampNeg)).toNatClampNeg))))))))
def X1_dropOldest_l9 (p0 n0 : Nat) : Nat → Nat → Int32 → hM → Option (Int32 × hM)
  | 0 => fun _ _ _ => none
  | n + 1 => X1_dropOldest_h9 p0 n0  (X1_dropOldest_l9 p0 n0  n)
def X1_dropOldest (p0 n0 : Nat) (I : hM) : Option (Int32 × hM) := gd (hx (0 : Int32) n0 && decide (¬ (I (p0 + 1) ((0 : Int32)).toNatClampNeg) < 0)) ((X1_dropOldest_l9 p0 n0 hF ((I (p0 + 1) ((0 : Int32)).toNatClampNeg)).toNatClampNeg (1 : Int32) I))
theorem X1_dropOldest_hy : yX1_dropOldest.cls = RX1 ∧ yX1_dropOldest.cls ≠ "java/lang/invoke/MethodHandle" ∧ yX1_dropOldest.cls ≠ "java/lang/invoke/VarHandle" ∧ (parseMethodDescriptor yX1_dropOldest.desc).map (fun d => d.parameters.length) = some 0 := by decide +kernel
theorem X1_dropOldest_k15 : Cond.fieldLink RX1 15 "HatPins$Shelf" "rows" "[LHatPins$Standing;" ∈ wsX1_dropOldest := by decide +kernel
theorem X1_dropOldest_k22 : Cond.fieldLink RX1 22 "HatPins$Shelf" "held" "I" ∈ wsX1_dropOldest := by decide +kernel
theorem X1_dropOldest_w1 : ∀ w ∈ wsX10, w ∈ wsX1_dropOldest := by decide +kernel
set_option maxHeartbeats 4000000 in
set_option maxRecDepth 100000 in
theorem X1_dropOldest_b38_ok {p : Program} {l : Launch} {e : Env} {s : State} {m : MethodId} {args : Array Value} {below : List Frame} {meth : Method} {c : Code} {D : va_G} {E : Nat → ClassId} {b z : Nat} {sh : List hS} {r : Int32} {I2 : hM} {p0 n0 : Nat} {q1 : Nat} {I : hM} (hX : hp_X p s m args meth c yX1_dropOldest.cls cX1_dropOldest 3 wsX1_dropOldest D E none yX1_dropOldest.name) (hf0 : hq_X1 sh p0 n0) (hfR : hq_R sh) (h : X1_dropOldest_b38 p0 n0 q1 I = some (r, I2)) : hp_J p l e ({ frames := 0, cells := 0, slots := 0, locals := 44 * 0 }) s m args below meth c (MQ below (hp_Q D E b z none sh I2) args s 0 0 (fun q : Nat => b ≤ q)) D E b z 3 sh 0 0 I 38 [(0, .ref p0), (1, .ref q1)] [] := by
  unfold X1_dropOldest_b38 at h
  refine hj_aload_n hX rfl 0 rfl dX1_dropOldest_38 ?_
  refine hj_getr hX (j := 0) hf0.1 rfl rfl X1_dropOldest_w1 (Nat.le_of_ble_eq_true rfl) rfl X1_dropOldest_k15 dX1_dropOldest_39 ?_
  refine hj_aload_n hX rfl 0 rfl dX1_dropOldest_42 ?_
  refine hj_getr hX (j := 0) hf0.1 rfl rfl X1_dropOldest_w1 (Nat.le_of_ble_eq_true rfl) rfl X1_dropOldest_k15 dX1_dropOldest_43 ?_
  refine hj_alen3 hX hf0.2 dX1_dropOldest_46 ?_
  refine hj_iconst hX (v := (1 : Int32)) (by decide) dX1_dropOldest_47 ?_
  refine hj_isub hX dX1_dropOldest_48 ?_
  refine hj_aload_n hX rfl 1 rfl dX1_dropOldest_49 ?_
  obtain ⟨g2, h⟩ := gd_e h
  refine hj_aast hX hf0.2 (hfR _ g2).1 dX1_dropOldest_50 h (fun h => ?_)
  refine hj_aload_n hX rfl 0 rfl dX1_dropOldest_51 ?_
  refine hj_aload_n hX rfl 0 rfl dX1_dropOldest_52 ?_
  refine hj_getr hX (j := 0) hf0.1 rfl rfl X1_dropOldest_w1 (Nat.le_of_ble_eq_true rfl) rfl X1_dropOldest_k15 dX1_dropOldest_53 ?_
  refine hj_alen3 hX hf0.2 dX1_dropOldest_56 ?_
  refine hj_iconst hX (v := (1 : Int32)) (by decide) dX1_dropOldest_57 ?_
  refine hj_isub hX dX1_dropOldest_58 ?_
  refine hj_puti hX (j := 1) hf0.1 rfl rfl X1_dropOldest_w1 (Nat.le_of_ble_eq_true rfl) rfl X1_dropOldest_k22 tyX1_ok nmX1 rfl (by decide +kernel) dX1_dropOldest_59 ?_
  exact hj_vret hX dX1_dropOldest_62 h
set_option maxHeartbeats 4000000 in
set_option maxRecDepth 100000 in
theorem X1_dropOldest_h9_ok {p : Program} {l : Launch} {e : Env} {s : State} {m : MethodId} {args : Array Value} {below : List Frame} {meth : Method} {c : Code} {D : va_G} {E : Nat → ClassId} {b z : Nat} {sh : List hS} {r : Int32} {I2 : hM} {p0 n0 : Nat} {k9 : Nat → Int32 → hM → Option (Int32 × hM)} {q1 : Nat} {v2 : Int32} {I : hM} (hX : hp_X p s m args meth c yX1_dropOldest.cls cX1_dropOldest 3 wsX1_dropOldest D E none yX1_dropOldest.name) (hf0 : hq_X1 sh p0 n0) (hfR : hq_R sh) (hk9 : ∀ (q1 : Nat) (v2 : Int32) (I : hM), k9 q1 v2 I = some (r, I2) → hp_J p l e ({ frames := 0, cells := 0, slots := 0, locals := 44 * 0 }) s m args below meth c (MQ below (hp_Q D E b z none sh I2) args s 0 0 (fun q : Nat => b ≤ q)) D E b z 3 sh 0 0 I 9 [(0, .ref p0), (1, .ref q1), (2, .int v2)] []) (h : X1_dropOldest_h9 p0 n0 k9 q1 v2 I = some (r, I2)) : hp_J p l e ({ frames := 0, cells := 0, slots := 0, locals := 44 * 0 }) s m args below meth c (MQ below (hp_Q D E b z none sh I2) args s 0 0 (fun q : Nat => b ≤ q)) D E b z 3 sh 0 0 I 9 [(0, .ref p0), (1, .ref q1), (2, .int v2)] [] := by
  unfold X1_dropOldest_h9 at h
  refine hj_iload_n hX rfl 2 rfl dX1_dropOldest_9 ?_
  refine hj_aload_n hX rfl 0 rfl dX1_dropOldest_10 ?_
  refine hj_getr hX (j := 0) hf0.1 rfl rfl X1_dropOldest_w1 (Nat.le_of_ble_eq_true rfl) rfl X1_dropOldest_k15 dX1_dropOldest_11 ?_
  refine hj_alen3 hX hf0.2 dX1_dropOldest_14 ?_
  refine hj_icmp_ge hX (tgt := 38) (by decide) dX1_dropOldest_15 h (fun h => ?_) (fun h => ?_)
  · refine hj_lv hX [0, 1] (lv2 := [(0, .ref p0), (1, .ref q1)]) rfl ?_
    exact X1_dropOldest_b38_ok hX hf0 hfR h
  · refine hj_aload_n hX rfl 0 rfl dX1_dropOldest_18 ?_
    refine hj_getr hX (j := 0) hf0.1 rfl rfl X1_dropOldest_w1 (Nat.le_of_ble_eq_true rfl) rfl X1_dropOldest_k15 dX1_dropOldest_19 ?_
    refine hj_iload_n hX rfl 2 rfl dX1_dropOldest_22 ?_
    refine hj_iconst hX (v := (1 : Int32)) (by decide) dX1_dropOldest_23 ?_
    refine hj_isub hX dX1_dropOldest_24 ?_
    refine hj_aload_n hX rfl 0 rfl dX1_dropOldest_25 ?_
    refine hj_getr hX (j := 0) hf0.1 rfl rfl X1_dropOldest_w1 (Nat.le_of_ble_eq_true rfl) rfl X1_dropOldest_k15 dX1_dropOldest_26 ?_
    refine hj_iload_n hX rfl 2 rfl dX1_dropOldest_29 ?_
    refine hj_aald hX hf0.2 dX1_dropOldest_30 h (fun h => ?_)
    obtain ⟨g1, h⟩ := gd_e h
    refine hj_aast hX hf0.2 (hfR _ g1).1 dX1_dropOldest_31 h (fun h => ?_)
    refine hj_iinc hX (k1 := 2) (v := (v2 + (1 : Int32))) rfl rfl (Nat.le_of_ble_eq_true rfl) (lv2 := [(2, .int (v2 + (1 : Int32))), (0, .ref p0), (1, .ref q1)]) rfl dX1_dropOldest_32 ?_
    refine hj_goto hX (tgt := 9) (by decide) dX1_dropOldest_35 ?_
    refine hj_lv hX [1, 2, 0] (lv2 := [(0, .ref p0), (1, .ref q1), (2, .int (v2 + (1 : Int32)))]) rfl ?_
    exact hk9 _ _ _ h
set_option maxHeartbeats 4000000 in
set_option maxRecDepth 100000 in
theorem X1_dropOldest_l9_ok {p : Program} {l : Launch} {e : Env} {s : State} {m : MethodId} {args : Array Value} {below : List Frame} {meth : Method} {c : Code} {D : va_G} {E : Nat → ClassId} {b z : Nat} {sh : List hS} {r : Int32} {I2 : hM} {p0 n0 : Nat} (hX : hp_X p s m args meth c yX1_dropOldest.cls cX1_dropOldest 3 wsX1_dropOldest D E none yX1_dropOldest.name) (hf0 : hq_X1 sh p0 n0) (hfR : hq_R sh) : ∀ (n : Nat) (q1 : Nat) (v2 : Int32) (I : hM), X1_dropOldest_l9 p0 n0 n q1 v2 I = some (r, I2) → hp_J p l e ({ frames := 0, cells := 0, slots := 0, locals := 44 * 0 }) s m args below meth c (MQ below (hp_Q D E b z none sh I2) args s 0 0 (fun q : Nat => b ≤ q)) D E b z 3 sh 0 0 I 9 [(0, .ref p0), (1, .ref q1), (2, .int v2)] [] := by
  intro n
  induction n with
  | zero => exact fun _ _ _ h => nomatch h
  | succ n ih => exact fun _ _ _ h => X1_dropOldest_h9_ok hX hf0 hfR ih h
set_option maxHeartbeats 4000000 in
set_option maxRecDepth 100000 in
theorem X1_dropOldest_ok {sh : List hS} {r : Int32} {I I2 : hM} {p0 n0 : Nat} (hf0 : hq_X1 sh p0 n0) (hfR : hq_R sh) (h : X1_dropOldest p0 n0 I = some (r, I2)) : hp_C yX1_dropOldest wsX1_dropOldest 0 0 0 sh I [.ref p0] none sh I2 := hp_start (cc := cX1_dropOldest) (maxL := 3) (ret := none) [(0, .ref p0)] (by decide) rfl (fun _ _ => rfl) (fun _ _ => Nat.le_of_ble_eq_true rfl) (fun p l e s m below meth c D E b z hX _ => by
  unfold X1_dropOldest at h
  refine hj_aload_n hX rfl 0 rfl dX1_dropOldest_0 ?_
  refine hj_getr hX (j := 0) hf0.1 rfl rfl X1_dropOldest_w1 (Nat.le_of_ble_eq_true rfl) rfl X1_dropOldest_k15 dX1_dropOldest_1 ?_
  refine hj_iconst hX (v := (0 : Int32)) (by decide) dX1_dropOldest_4 ?_
  refine hj_aald hX hf0.2 dX1_dropOldest_5 h (fun h => ?_)
  refine hj_astore_n hX rfl (Nat.le_of_ble_eq_true rfl) (lv2 := [(1, .ref ((I (p0 + 1) ((0 : Int32)).toNatClampNeg)).toNatClampNeg), (0, .ref p0)]) rfl dX1_dropOldest_6 ?_
  refine hj_iconst hX (v := (1 : Int32)) (by decide) dX1_dropOldest_7 ?_
  refine hj_istore_n hX rfl (Nat.le_of_ble_eq_true rfl) (lv2 := [(2, .int (1 : Int32)), (1, .ref ((I (p0 + 1) ((0 : Int32)).toNatClampNeg)).toNatClampNeg), (0, .ref p0)]) rfl dX1_dropOldest_8 ?_
  refine hj_lv hX [2, 1, 0] (lv2 := [(0, .ref p0), (1, .ref ((I (p0 + 1) ((0 : Int32)).toNatClampNeg)).toNatClampNeg), (2, .int (1 : Int32))]) rfl ?_
  exact X1_dropOldest_l9_ok hX hf0 hfR hF _ _ _ h)
def X2_copyOf (p0 p1 : Nat) (I : hM) : Option (Int32 × hM) := some (0, (hcp (hcp (hcp (hcp (hu (hu I p0 0 (I p1 0)) p0 1 ((hu I p0 0 (I p1 0)) p1 1)) (p0 + 1) (va_cpy ((hu (hu I p0 0 (I p1 0)) p0 1 ((hu I p0 0 (I p1 0)) p1 1)) (p1 + 1)) ((hu (hu I p0 0 (I p1 0)) p0 1 ((hu I p0 0 (I p1 0)) p1 1)) (p0 + 1)) 0 0 7)) (p0 + 2) (va_cpy ((hcp (hu (hu I p0 0 (I p1 0)) p0 1 ((hu I p0 0 (I p1 0)) p1 1)) (p0 + 1) (va_cpy ((hu (hu I p0 0 (I p1 0)) p0 1 ((hu I p0 0 (I p1 0)) p1 1)) (p1 + 1)) ((hu (hu I p0 0 (I p1 0)) p0 1 ((hu I p0 0 (I p1 0)) p1 1)) (p0 + 1)) 0 0 7)) (p1 + 2)) ((hcp (hu (hu I p0 0 (I p1 0)) p0 1 ((hu I p0 0 (I p1 0)) p1 1)) (p0 + 1) (va_cpy ((hu (hu I p0 0 (I p1 0)) p0 1 ((hu I p0 0 (I p1 0)) p1 1)) (p1 + 1)) ((hu (hu I p0 0 (I p1 0)) p0 1 ((hu I p0 0 (I p1 0)) p1 1)) (p0 + 1)) 0 0 7)) (p0 + 2)) 0 0 7)) (p0 + 3) (va_cpy ((hcp (hcp (hu (hu I p0 0 (I p1 0)) p0 1 ((hu I p0 0 (I p1 0)) p1 1)) (p0 + 1) (va_cpy ((hu (hu I p0 0 (I p1 0)) p0 1 ((hu I p0 0 (I p1 0)) p1 1)) (p1 + 1)) ((hu (hu I p0 0 (I p1 0)) p0 1 ((hu I p0 0 (I p1 0)) p1 1)) (p0 + 1)) 0 0 7)) (p0 + 2) (va_cpy ((hcp (hu (hu I p0 0 (I p1 0)) p0 1 ((hu I p0 0 (I p1 0)) p1 1)) (p0 + 1) (va_cpy ((hu (hu I p0 0 (I p1 0)) p0 1 ((hu I p0 0 (I p1 0)) p1 1)) (p1 + 1)) ((hu (hu I p0 0 (I p1 0)) p0 1 ((hu I p0 0 (I p1 0)) p1 1)) (p0 + 1)) 0 0 7)) (p1 + 2)) ((hcp (hu (hu I p0 0 (I p1 0)) p0 1 ((hu I p0 0 (I p1 0)) p1 1)) (p0 + 1) (va_cpy ((hu (hu I p0 0 (I p1 0)) p0 1 ((hu I p0 0 (I p1 0)) p1 1)) (p1 + 1)) ((hu (hu I p0 0 (I p1 0)) p0 1 ((hu I p0 0 (I p1 0)) p1 1)) (p0 + 1)) 0 0 7)) (p0 + 2)) 0 0 7)) (p1 + 3)) ((hcp (hcp (hu (hu I p0 0 (I p1 0)) p0 1 ((hu I p0 0 (I p1 0)) p1 1)) (p0 + 1) (va_cpy ((hu (hu I p0 0 (I p1 0)) p0 1 ((hu I p0 0 (I p1 0)) p1 1)) (p1 + 1)) ((hu (hu I p0 0 (I p1 0)) p0 1 ((hu I p0 0 (I p1 0)) p1 1)) (p0 + 1)) 0 0 7)) (p0 + 2) (va_cpy ((hcp (hu (hu I p0 0 (I p1 0)) p0 1 ((hu I p0 0 (I p1 0)) p1 1)) (p0 + 1) (va_cpy ((hu (hu I p0 0 (I p1 0)) p0 1 ((hu I p0 0 (I p1 0)) p1 1)) (p1 + 1)) ((hu (hu I p0 0 (I p1 0)) p0 1 ((hu I p0 0 (I p1 0)) p1 1)) (p0 + 1)) 0 0 7)) (p1 + 2)) ((hcp (hu (hu I p0 0 (I p1 0)) p0 1 ((hu I p0 0 (I p1 0)) p1 1)) (p0 + 1) (va_cpy ((hu (hu I p0 0 (I p1 0)) p0 1 ((hu I p0 0 (I p1 0)) p1 1)) (p1 + 1)) ((hu (hu I p0 0 (I p1 0)) p0 1 ((hu I p0 0 (I p1 0)) p1 1)) (p0 + 1)) 0 0 7)) (p0 + 2)) 0 0 7)) (p0 + 3)) 0 0 7)) (p0 + 4) (va_cpy ((hcp (hcp (hcp (hu (hu I p0 0 (I p1 0)) p0 1 ((hu I p0 0 (I p1 0)) p1 1)) (p0 + 1) (va_cpy ((hu (hu I p0 0 (I p1 0)) p0 1 ((hu I p0 0 (I p1 0)) p1 1)) (p1 + 1)) ((hu (hu I p0 0 (I p1 0)) p0 1 ((hu I p0 0 (I p1 0)) p1 1)) (p0 + 1)) 0 0 7)) (p0 + 2) (va_cpy ((hcp (hu (hu I p0 0 (I p1 0)) p0 1 ((hu I p0 0 (I p1 0)) p1 1)) (p0 + 1) (va_cpy ((hu (hu I p0 0 (I p1 0)) p0 1 ((hu I p0 0 (I p1 0)) p1 1)) (p1 + 1)) ((hu (hu I p0 0 (I p1 0)) p0 1 ((hu I p0 0 (I p1 0)) p1 1)) (p0 + 1)) 0 0 7)) (p1 + 2)) ((hcp (hu (hu I p0 0 (I p1 0)) p0 1 ((hu I p0 0 (I p1 0)) p1 1)) (p0 + 1) (va_cpy ((hu (hu I p0 0 (I p1 0)) p0 1 ((hu I p0 0 (I p1 0)) p1 1)) (p1 + 1)) ((hu (hu I p0 0 (I p1 0)) p0 1 ((hu I p0 0 (I p1 0)) p1 1)) (p0 + 1)) 0 0 7)) (p0 + 2)) 0 0 7)) (p0 + 3) (va_cpy ((hcp (hcp (hu (hu I p0 0 (I p1 0)) p0 1 ((hu I p0 0 (I p1 0)) p1 1)) (p0 + 1) (va_cpy ((hu (hu I p0 0 (I p1 0)) p0 1 ((hu I p0 0 (I p1 0)) p1 1)) (p1 + 1)) ((hu (hu I p0 0 (I p1 0)) p0 1 ((hu I p0 0 (I p1 0)) p1 1)) (p0 + 1)) 0 0 7)) (p0 + 2) (va_cpy ((hcp (hu (hu I p0 0 (I p1 0)) p0 1 ((hu I p0 0 (I p1 0)) p1 1)) (p0 + 1) (va_cpy ((hu (hu I p0 0 (I p1 0)) p0 1 ((hu I p0 0 (I p1 0)) p1 1)) (p1 + 1)) ((hu (hu I p0 0 (I p1 0)) p0 1 ((hu I p0 0 (I p1 0)) p1 1)) (p0 + 1)) 0 0 7)) (p1 + 2)) ((hcp (hu (hu I p0 0 (I p1 0)) p0 1 ((hu I p0 0 (I p1 0)) p1 1)) (p0 + 1) (va_cpy ((hu (hu I p0 0 (I p1 0)) p0 1 ((hu I p0 0 (I p1 0)) p1 1)) (p1 + 1)) ((hu (hu I p0 0 (I p1 0)) p0 1 ((hu I p0 0 (I p1 0)) p1 1)) (p0 + 1)) 0 0 7)) (p0 + 2)) 0 0 7)) (p1 + 3)) ((hcp (hcp (hu (hu I p0 0 (I p1 0)) p0 1 ((hu I p0 0 (I p1 0)) p1 1)) (p0 + 1) (va_cpy ((hu (hu I p0 0 (I p1 0)) p0 1 ((hu I p0 0 (I p1 0)) p1 1)) (p1 + 1)) ((hu (hu I p0 0 (I p1 0)) p0 1 ((hu I p0 0 (I p1 0)) p1 1)) (p0 + 1)) 0 0 7)) (p0 + 2) (va_cpy ((hcp (hu (hu I p0 0 (I p1 0)) p0 1 ((hu I p0 0 (I p1 0)) p1 1)) (p0 + 1) (va_cpy ((hu (hu I p0 0 (I p1 0)) p0 1 ((hu I p0 0 (I p1 0)) p1 1)) (p1 + 1)) ((hu (hu I p0 0 (I p1 0)) p0 1 ((hu I p0 0 (I p1 0)) p1 1)) (p0 + 1)) 0 0 7)) (p1 + 2)) ((hcp (hu (hu I p0 0 (I p1 0)) p0 1 ((hu I p0 0 (I p1 0)) p1 1)) (p0 + 1) (va_cpy ((hu (hu I p0 0 (I p1 0)) p0 1 ((hu I p0 0 (I p1 0)) p1 1)) (p1 + 1)) ((hu (hu I p0 0 (I p1 0)) p0 1 ((hu I p0 0 (I p1 0)) p1 1)) (p0 + 1)) 0 0 7)) (p0 + 2)) 0 0 7)) (p0 + 3)) 0 0 7)) (p1 + 4)) ((hcp (hcp (hcp (hu (hu I p0 0 (I p1 0)) p0 1 ((hu I p0 0 (I p1 0)) p1 1)) (p0 + 1) (va_cpy ((hu (hu I p0 0 (I p1 0)) p0 1 ((hu I p0 0 (I p1 0)) p1 1)) (p1 + 1)) ((hu (hu I p0 0 (I p1 0)) p0 1 ((hu I p0 0 (I p1 0)) p1 1)) (p0 + 1)) 0 0 7)) (p0 + 2) (va_cpy ((hcp (hu (hu I p0 0 (I p1 0)) p0 1 ((hu I p0 0 (I p1 0)) p1 1)) (p0 + 1) (va_cpy ((hu (hu I p0 0 (I p1 0)) p0 1 ((hu I p0 0 (I p1 0)) p1 1)) (p1 + 1)) ((hu (hu I p0 0 (I p1 0)) p0 1 ((hu I p0 0 (I p1 0)) p1 1)) (p0 + 1)) 0 0 7)) (p1 + 2)) ((hcp (hu (hu I p0 0 (I p1 0)) p0 1 ((hu I p0 0 (I p1 0)) p1 1)) (p0 + 1) (va_cpy ((hu (hu I p0 0 (I p1 0)) p0 1 ((hu I p0 0 (I p1 0)) p1 1)) (p1 + 1)) ((hu (hu I p0 0 (I p1 0)) p0 1 ((hu I p0 0 (I p1 0)) p1 1)) (p0 + 1)) 0 0 7)) (p0 + 2)) 0 0 7)) (p0 + 3) (va_cpy ((hcp (hcp (hu (hu I p0 0 (I p1 0)) p0 1 ((hu I p0 0 (I p1 0)) p1 1)) (p0 + 1) (va_cpy ((hu (hu I p0 0 (I p1 0)) p0 1 ((hu I p0 0 (I p1 0)) p1 1)) (p1 + 1)) ((hu (hu I p0 0 (I p1 0)) p0 1 ((hu I p0 0 (I p1 0)) p1 1)) (p0 + 1)) 0 0 7)) (p0 + 2) (va_cpy ((hcp (hu (hu I p0 0 (I p1 0)) p0 1 ((hu I p0 0 (I p1 0)) p1 1)) (p0 + 1) (va_cpy ((hu (hu I p0 0 (I p1 0)) p0 1 ((hu I p0 0 (I p1 0)) p1 1)) (p1 + 1)) ((hu (hu I p0 0 (I p1 0)) p0 1 ((hu I p0 0 (I p1 0)) p1 1)) (p0 + 1)) 0 0 7)) (p1 + 2)) ((hcp (hu (hu I p0 0 (I p1 0)) p0 1 ((hu I p0 0 (I p1 0)) p1 1)) (p0 + 1) (va_cpy ((hu (hu I p0 0 (I p1 0)) p0 1 ((hu I p0 0 (I p1 0)) p1 1)) (p1 + 1)) ((hu (hu I p0 0 (I p1 0)) p0 1 ((hu I p0 0 (I p1 0)) p1 1)) (p0 + 1)) 0 0 7)) (p0 + 2)) 0 0 7)) (p1 + 3)) ((hcp (hcp (hu (hu I p0 0 (I p1 0)) p0 1 ((hu I p0 0 (I p1 0)) p1 1)) (p0 + 1) (va_cpy ((hu (hu I p0 0 (I p1 0)) p0 1 ((hu I p0 0 (I p1 0)) p1 1)) (p1 + 1)) ((hu (hu I p0 0 (I p1 0)) p0 1 ((hu I p0 0 (I p1 0)) p1 1)) (p0 + 1)) 0 0 7)) (p0 + 2) (va_cpy ((hcp (hu (hu I p0 0 (I p1 0)) p0 1 ((hu I p0 0 (I p1 0)) p1 1)) (p0 + 1) (va_cpy ((hu (hu I p0 0 (I p1 0)) p0 1 ((hu I p0 0 (I p1 0)) p1 1)) (p1 + 1)) ((hu (hu I p0 0 (I p1 0)) p0 1 ((hu I p0 0 (I p1 0)) p1 1)) (p0 + 1)) 0 0 7)) (p1 + 2)) ((hcp (hu (hu I p0 0 (I p1 0)) p0 1 ((hu I p0 0 (I p1 0)) p1 1)) (p0 + 1) (va_cpy ((hu (hu I p0 0 (I p1 0)) p0 1 ((hu I p0 0 (I p1 0)) p1 1)) (p1 + 1)) ((hu (hu I p0 0 (I p1 0)) p0 1 ((hu I p0 0 (I p1 0)) p1 1)) (p0 + 1)) 0 0 7)) (p0 + 2)) 0 0 7)) (p0 + 3)) 0 0 7)) (p0 + 4)) 0 0 4)))
theorem X2_copyOf_hy : yX2_copyOf.cls = RX2 ∧ yX2_copyOf.cls ≠ "java/lang/invoke/MethodHandle" ∧ yX2_copyOf.cls ≠ "java/lang/invoke/VarHandle" ∧ (parseMethodDescriptor yX2_copyOf.desc).map (fun d => d.parameters.length) = some 1 := by decide +kernel
theorem X2_copyOf_k24 : Cond.fieldLink RX2 24 "HatPins$Standing" "minute" "I" ∈ wsX2_copyOf := by decide +kernel
theorem X2_copyOf_k28 : Cond.fieldLink RX2 28 "HatPins$Standing" "had" "I" ∈ wsX2_copyOf := by decide +kernel
theorem X2_copyOf_k9 : Cond.fieldLink RX2 9 "HatPins$Standing" "state" "[I" ∈ wsX2_copyOf := by decide +kernel
theorem X2_copyOf_k15 : Cond.fieldLink RX2 15 "HatPins$Standing" "due" "[I" ∈ wsX2_copyOf := by decide +kernel
theorem X2_copyOf_k18 : Cond.fieldLink RX2 18 "HatPins$Standing" "began" "[I" ∈ wsX2_copyOf := by decide +kernel
theorem X2_copyOf_k21 : Cond.fieldLink RX2 21 "HatPins$Standing" "pins" "[I" ∈ wsX2_copyOf := by decide +kernel
theorem X2_copyOf_ml38 : Cond.methodLink RX2 38 arraycopyName ∈ wsX2_copyOf := by decide +kernel
theorem X2_copyOf_mna : Cond.native arraycopyName ∈ wsX2_copyOf := by decide +kernel
theorem X2_copyOf_msa : Cond.static arraycopyName ∈ wsX2_copyOf := by decide +kernel
theorem X2_copyOf_mis : Cond.initialized "java/lang/System" ∈ wsX2_copyOf := by decide +kernel
theorem X2_copyOf_w2 : ∀ w ∈ wsX20, w ∈ wsX2_copyOf := by decide +kernel
set_option maxHeartbeats 4000000 in
set_option maxRecDepth 100000 in
theorem X2_copyOf_ok {sh : List hS} {r : Int32} {I I2 : hM} {p0 p1 : Nat} (hf0 : hq_X2 sh p0) (hf1 : hq_X2 sh p1) (h : X2_copyOf p0 p1 I = some (r, I2)) : hp_C yX2_copyOf wsX2_copyOf 1 0 0 sh I [.ref p0, .ref p1] none sh I2 := hp_start (cc := cX2_copyOf) (maxL := 2) (ret := none) [(0, .ref p0), (1, .ref p1)] (by decide) rfl (fun _ _ => rfl) (fun _ _ => Nat.le_of_ble_eq_true rfl) (fun p l e s m below meth c D E b z hX _ => by
  unfold X2_copyOf at h
  refine hj_aload_n hX rfl 0 rfl dX2_copyOf_0 ?_
  refine hj_aload_n hX rfl 1 rfl dX2_copyOf_1 ?_
  refine hj_geti hX (j := 0) hf1.1 rfl rfl X2_copyOf_w2 (Nat.le_of_ble_eq_true rfl) rfl X2_copyOf_k24 dX2_copyOf_2 ?_
  refine hj_puti hX (j := 0) hf0.1 rfl rfl X2_copyOf_w2 (Nat.le_of_ble_eq_true rfl) rfl X2_copyOf_k24 tyX2_ok nmX2 rfl (by decide +kernel) dX2_copyOf_5 ?_
  refine hj_aload_n hX rfl 0 rfl dX2_copyOf_8 ?_
  refine hj_aload_n hX rfl 1 rfl dX2_copyOf_9 ?_
  refine hj_geti hX (j := 1) hf1.1 rfl rfl X2_copyOf_w2 (Nat.le_of_ble_eq_true rfl) rfl X2_copyOf_k28 dX2_copyOf_10 ?_
  refine hj_puti hX (j := 1) hf0.1 rfl rfl X2_copyOf_w2 (Nat.le_of_ble_eq_true rfl) rfl X2_copyOf_k28 tyX2_ok nmX2 rfl (by decide +kernel) dX2_copyOf_13 ?_
  refine hj_aload_n hX rfl 1 rfl dX2_copyOf_16 ?_
  refine hj_getr hX (j := 2) hf1.1 rfl rfl X2_copyOf_w2 (Nat.le_of_ble_eq_true rfl) rfl X2_copyOf_k9 dX2_copyOf_17 ?_
  refine hj_iconst hX (v := (0 : Int32)) (by decide) dX2_copyOf_20 ?_
  refine hj_aload_n hX rfl 0 rfl dX2_copyOf_21 ?_
  refine hj_getr hX (j := 2) hf0.1 rfl rfl X2_copyOf_w2 (Nat.le_of_ble_eq_true rfl) rfl X2_copyOf_k9 dX2_copyOf_22 ?_
  refine hj_iconst hX (v := (0 : Int32)) (by decide) dX2_copyOf_25 ?_
  refine hj_bipush hX (v := (7 : Int32)) (by decide) dX2_copyOf_26 ?_
  refine hj_acopy0 hX (N := 7) X2_copyOf_ml38 X2_copyOf_mna X2_copyOf_msa X2_copyOf_mis hf1.2.1 hf0.2.1 (by decide) (by decide) (Nat.le_of_ble_eq_true rfl) (Nat.le_of_ble_eq_true rfl) (Nat.le_of_ble_eq_true rfl) (by decide) dX2_copyOf_28 ?_
  refine hj_aload_n hX rfl 1 rfl dX2_copyOf_31 ?_
  refine hj_getr hX (j := 3) hf1.1 rfl rfl X2_copyOf_w2 (Nat.le_of_ble_eq_true rfl) rfl X2_copyOf_k15 dX2_copyOf_32 ?_
  refine hj_iconst hX (v := (0 : Int32)) (by decide) dX2_copyOf_35 ?_
  refine hj_aload_n hX rfl 0 rfl dX2_copyOf_36 ?_
  refine hj_getr hX (j := 3) hf0.1 rfl rfl X2_copyOf_w2 (Nat.le_of_ble_eq_true rfl) rfl X2_copyOf_k15 dX2_copyOf_37 ?_
  refine hj_iconst hX (v := (0 : Int32)) (by decide) dX2_copyOf_40 ?_
  refine hj_bipush hX (v := (7 : Int32)) (by decide) dX2_copyOf_41 ?_
  refine hj_acopy0 hX (N := 7) X2_copyOf_ml38 X2_copyOf_mna X2_copyOf_msa X2_copyOf_mis hf1.2.2.1 hf0.2.2.1 (by decide) (by decide) (Nat.le_of_ble_eq_true rfl) (Nat.le_of_ble_eq_true rfl) (Nat.le_of_ble_eq_true rfl) (by decide) dX2_copyOf_43 ?_
  refine hj_aload_n hX rfl 1 rfl dX2_copyOf_46 ?_
  refine hj_getr hX (j := 4) hf1.1 rfl rfl X2_copyOf_w2 (Nat.le_of_ble_eq_true rfl) rfl X2_copyOf_k18 dX2_copyOf_47 ?_
  refine hj_iconst hX (v := (0 : Int32)) (by decide) dX2_copyOf_50 ?_
  refine hj_aload_n hX rfl 0 rfl dX2_copyOf_51 ?_
  refine hj_getr hX (j := 4) hf0.1 rfl rfl X2_copyOf_w2 (Nat.le_of_ble_eq_true rfl) rfl X2_copyOf_k18 dX2_copyOf_52 ?_
  refine hj_iconst hX (v := (0 : Int32)) (by decide) dX2_copyOf_55 ?_
  refine hj_bipush hX (v := (7 : Int32)) (by decide) dX2_copyOf_56 ?_
  refine hj_acopy0 hX (N := 7) X2_copyOf_ml38 X2_copyOf_mna X2_copyOf_msa X2_copyOf_mis hf1.2.2.2.1 hf0.2.2.2.1 (by decide) (by decide) (Nat.le_of_ble_eq_true rfl) (Nat.le_of_ble_eq_true rfl) (Nat.le_of_ble_eq_true rfl) (by decide) dX2_copyOf_58 ?_
  refine hj_aload_n hX rfl 1 rfl dX2_copyOf_61 ?_
  refine hj_getr hX (j := 5) hf1.1 rfl rfl X2_copyOf_w2 (Nat.le_of_ble_eq_true rfl) rfl X2_copyOf_k21 dX2_copyOf_62 ?_
  refine hj_iconst hX (v := (0 : Int32)) (by decide) dX2_copyOf_65 ?_
  refine hj_aload_n hX rfl 0 rfl dX2_copyOf_66 ?_
  refine hj_getr hX (j := 5) hf0.1 rfl rfl X2_copyOf_w2 (Nat.le_of_ble_eq_true rfl) rfl X2_copyOf_k21 dX2_copyOf_67 ?_
  refine hj_iconst hX (v := (0 : Int32)) (by decide) dX2_copyOf_70 ?_
  refine hj_iconst hX (v := (4 : Int32)) (by decide) dX2_copyOf_71 ?_
  refine hj_acopy0 hX (N := 4) X2_copyOf_ml38 X2_copyOf_mna X2_copyOf_msa X2_copyOf_mis hf1.2.2.2.2 hf0.2.2.2.2 (by decide) (by decide) (Nat.le_of_ble_eq_true rfl) (Nat.le_of_ble_eq_true rfl) (Nat.le_of_ble_eq_true rfl) (by decide) dX2_copyOf_72 ?_
  exact hj_vret hX dX2_copyOf_75 h)
def X1_put_b16 (p0 n0 p1 : Nat) (I : hM) : Option (Int32 × hM) := gd (hx (I p0 1) n0 && decide (¬ (I (p0 + 1) ((I p0 1)).toNatClampNeg) < 0)) (gd (hst (((I (p0 + 1) ((I p0 1)).toNatClampNeg)).toNatClampNeg)) (ob (X2_copyOf (((I (p0 + 1) ((I p0 1)).toNatClampNeg)).toNatClampNeg) p1 I) (fun u5 Ia6 => some (0, (hu Ia6 p0 1 ((Ia6 p0 1) + (1 : Int32)))))))
def X1_put (p0 n0 p1 : Nat) (I : hM) : Option (Int32 × hM) := if (I p0 1) < (nI n0) then (X1_put_b16 p0 n0 p1 I) else (ob (X1_dropOldest p0 n0 I) (fun u1 Ia2 => (X1_put_b16 p0 n0 p1 Ia2)))
theorem X1_put_hy : yX1_put.cls = RX1 ∧ yX1_put.cls ≠ "java/lang/invoke/MethodHandle" ∧ yX1_put.cls ≠ "java/lang/invoke/VarHandle" ∧ (parseMethodDescriptor yX1_put.desc).map (fun d => d.parameters.length) = some 1 := by decide +kernel
theorem X1_put_k22 : Cond.fieldLink RX1 22 "HatPins$Shelf" "held" "I" ∈ wsX1_put := by decide +kernel
theorem X1_put_k15 : Cond.fieldLink RX1 15 "HatPins$Shelf" "rows" "[LHatPins$Standing;" ∈ wsX1_put := by decide +kernel
theorem X1_put_w1 : ∀ w ∈ wsX10, w ∈ wsX1_put := by decide +kernel
set_option maxHeartbeats 4000000 in
set_option maxRecDepth 100000 in
theorem X1_put_b16_ok {p : Program} {l : Launch} {e : Env} {s : State} {m : MethodId} {args : Array Value} {below : List Frame} {meth : Method} {c : Code} {D : va_G} {E : Nat → ClassId} {b z : Nat} {sh : List hS} {r : Int32} {I2 : hM} {p0 n0 p1 : Nat} {I : hM} (hX : hp_X p s m args meth c yX1_put.cls cX1_put 2 wsX1_put D E none yX1_put.name) (hf0 : hq_X1 sh p0 n0) (hfR : hq_R sh) (hf1 : hq_X2 sh p1) (h : X1_put_b16 p0 n0 p1 I = some (r, I2)) : hp_J p l e ({ frames := 2, cells := 0, slots := 0, locals := 44 * 2 }) s m args below meth c (MQ below (hp_Q D E b z none sh I2) args s 0 0 (fun q : Nat => b ≤ q)) D E b z 2 sh 0 0 I 16 [(0, .ref p0), (1, .ref p1)] [] := by
  unfold X1_put_b16 at h
  refine hj_aload_n hX rfl 0 rfl dX1_put_16 ?_
  refine hj_getr hX (j := 0) hf0.1 rfl rfl X1_put_w1 (Nat.le_of_ble_eq_true rfl) rfl X1_put_k15 dX1_put_17 ?_
  refine hj_aload_n hX rfl 0 rfl dX1_put_20 ?_
  refine hj_geti hX (j := 1) hf0.1 rfl rfl X1_put_w1 (Nat.le_of_ble_eq_true rfl) rfl X1_put_k22 dX1_put_21 ?_
  refine hj_aald hX hf0.2 dX1_put_24 h (fun h => ?_)
  refine hj_aload_n hX rfl 1 rfl dX1_put_25 ?_
  obtain ⟨g4, h⟩ := gd_e h
  obtain ⟨u5, Ia6, hc7, h⟩ := ob_e h
  refine hj_callV hX (sh2 := sh) (I2 := Ia6) (r := none) (As := [.ref p1]) (rest := []) (st2 := []) (X2_copyOf_ok (hfR _ g4) hf1 hc7) gX1_put_X2_copyOf rfl X2_copyOf_hy ⟨(Nat.le_of_ble_eq_true rfl), (Nat.le_of_ble_eq_true rfl)⟩ rfl (hfR _ g4).1 rfl (Nat.le_of_ble_eq_true rfl) ⟨(Nat.le_of_ble_eq_true rfl), (Nat.le_of_ble_eq_true rfl)⟩ rfl rfl rfl dX1_put_26 ?_
  refine hj_aload_n hX rfl 0 rfl dX1_put_29 ?_
  refine hj_dup hX rfl dX1_put_30 ?_
  refine hj_geti hX (j := 1) hf0.1 rfl rfl X1_put_w1 (Nat.le_of_ble_eq_true rfl) rfl X1_put_k22 dX1_put_31 ?_
  refine hj_iconst hX (v := (1 : Int32)) (by decide) dX1_put_34 ?_
  refine hj_iadd hX dX1_put_35 ?_
  refine hj_puti hX (j := 1) hf0.1 rfl rfl X1_put_w1 (Nat.le_of_ble_eq_true rfl) rfl X1_put_k22 tyX1_ok nmX1 rfl (by decide +kernel) dX1_put_36 ?_
  exact hj_vret hX dX1_put_39 h
set_option maxHeartbeats 4000000 in
set_option maxRecDepth 100000 in
theorem X1_put_ok {sh : List hS} {r : Int32} {I I2 : hM} {p0 n0 p1 : Nat} (hf0 : hq_X1 sh p0 n0) (hfR : hq_R sh) (hf1 : hq_X2 sh p1) (h : X1_put p0 n0 p1 I = some (r, I2)) : hp_C yX1_put wsX1_put 2 0 0 sh I [.ref p0, .ref p1] none sh I2 := hp_start (cc := cX1_put) (maxL := 2) (ret := none) [(0, .ref p0), (1, .ref p1)] (by decide) rfl (fun _ _ => rfl) (fun _ _ => Nat.le_of_ble_eq_true rfl) (fun p l e s m below meth c D E b z hX _ => by
  unfold X1_put at h
  refine hj_aload_n hX rfl 0 rfl dX1_put_0 ?_
  refine hj_geti hX (j := 1) hf0.1 rfl rfl X1_put_w1 (Nat.le_of_ble_eq_true rfl) rfl X1_put_k22 dX1_put_1 ?_
  refine hj_aload_n hX rfl 0 rfl dX1_put_4 ?_
  refine hj_getr hX (j := 0) hf0.1 rfl rfl X1_put_w1 (Nat.le_of_ble_eq_true rfl) rfl X1_put_k15 dX1_put_5 ?_
  refine hj_alen3 hX hf0.2 dX1_put_8 ?_
  refine hj_icmp_lt hX (tgt := 16) (by decide) dX1_put_9 h (fun h => ?_) (fun h => ?_)
  · exact X1_put_b16_ok hX hf0 hfR hf1 h
  · refine hj_aload_n hX rfl 0 rfl dX1_put_12 ?_
    obtain ⟨u1, Ia2, hc3, h⟩ := ob_e h
    refine hj_callV hX (sh2 := sh) (I2 := Ia2) (r := none) (As := []) (rest := []) (st2 := []) (X1_dropOldest_ok hf0 hfR hc3) gX1_put_X1_dropOldest rfl X1_dropOldest_hy ⟨(Nat.le_of_ble_eq_true rfl), (Nat.le_of_ble_eq_true rfl)⟩ rfl hf0.1 rfl (Nat.le_of_ble_eq_true rfl) ⟨(Nat.le_of_ble_eq_true rfl), (Nat.le_of_ble_eq_true rfl)⟩ rfl rfl rfl dX1_put_13 ?_
    exact X1_put_b16_ok hX hf0 hfR hf1 h)
def X1_takeInto (p0 n0 p1 : Nat) (I : hM) : Option (Int32 × hM) := if (I p0 1) < (1 : Int32) then (gd (decide ((0 : Int32) = (0 : Int32)) || decide ((0 : Int32) = (1 : Int32))) (some ((0 : Int32), I))) else (if (I p0 1) ≤ (nI n0) then (gd (hx ((hu I p0 1 ((I p0 1) - (1 : Int32))) p0 1) n0 && decide (¬ ((hu I p0 1 ((I p0 1) - (1 : Int32))) (p0 + 1) (((hu I p0 1 ((I p0 1) - (1 : Int32))) p0 1)).toNatClampNeg) < 0)) (gd (hst ((((hu I p0 1 ((I p0 1) - (1 : Int32))) (p0 + 1) (((hu I p0 1 ((I p0 1) - (1 : Int32))) p0 1)).toNatClampNeg)).toNatClampNeg)) (ob (X2_copyOf p1 ((((hu I p0 1 ((I p0 1) - (1 : Int32))) (p0 + 1) (((hu I p0 1 ((I p0 1) - (1 : Int32))) p0 1)).toNatClampNeg)).toNatClampNeg) (hu I p0 1 ((I p0 1) - (1 : Int32)))) (fun u2 Ia3 => gd (decide ((1 : Int32) = (0 : Int32)) || decide ((1 : Int32) = (1 : Int32))) (some ((1 : Int32), Ia3)))))) else (gd (decide ((0 : Int32) = (0 : Int32)) || decide ((0 : Int32) = (1 : Int32))) (some ((0 : Int32), I))))
theorem X1_takeInto_hy : yX1_takeInto.cls = RX1 ∧ yX1_takeInto.cls ≠ "java/lang/invoke/MethodHandle" ∧ yX1_takeInto.cls ≠ "java/lang/invoke/VarHandle" ∧ (parseMethodDescriptor yX1_takeInto.desc).map (fun d => d.parameters.length) = some 1 := by decide +kernel
theorem X1_takeInto_k22 : Cond.fieldLink RX1 22 "HatPins$Shelf" "held" "I" ∈ wsX1_takeInto := by decide +kernel
theorem X1_takeInto_k15 : Cond.fieldLink RX1 15 "HatPins$Shelf" "rows" "[LHatPins$Standing;" ∈ wsX1_takeInto := by decide +kernel
theorem X1_takeInto_w1 : ∀ w ∈ wsX10, w ∈ wsX1_takeInto := by decide +kernel
set_option maxHeartbeats 4000000 in
set_option maxRecDepth 100000 in
theorem X1_takeInto_ok {sh : List hS} {r : Int32} {I I2 : hM} {p0 n0 p1 : Nat} (hf0 : hq_X1 sh p0 n0) (hfR : hq_R sh) (hf1 : hq_X2 sh p1) (h : X1_takeInto p0 n0 p1 I = some (r, I2)) : hp_C yX1_takeInto wsX1_takeInto 2 0 0 sh I [.ref p0, .ref p1] (some (.int r)) sh I2 := hp_start (cc := cX1_takeInto) (maxL := 2) (ret := (some .boolean)) [(0, .ref p0), (1, .ref p1)] (by decide) rfl (fun _ _ => rfl) (fun _ _ => Nat.le_of_ble_eq_true rfl) (fun p l e s m below meth c D E b z hX _ => by
  unfold X1_takeInto at h
  refine hj_aload_n hX rfl 0 rfl dX1_takeInto_0 ?_
  refine hj_geti hX (j := 1) hf0.1 rfl rfl X1_takeInto_w1 (Nat.le_of_ble_eq_true rfl) rfl X1_takeInto_k22 dX1_takeInto_1 ?_
  refine hj_iconst hX (v := (1 : Int32)) (by decide) dX1_takeInto_4 ?_
  refine hj_icmp_lt hX (tgt := 20) (by decide) dX1_takeInto_5 h (fun h => ?_) (fun h => ?_)
  · refine hj_iconst hX (v := (0 : Int32)) (by decide) dX1_takeInto_20 ?_
    exact hj_zret hX dX1_takeInto_21 h
  · refine hj_aload_n hX rfl 0 rfl dX1_takeInto_8 ?_
    refine hj_geti hX (j := 1) hf0.1 rfl rfl X1_takeInto_w1 (Nat.le_of_ble_eq_true rfl) rfl X1_takeInto_k22 dX1_takeInto_9 ?_
    refine hj_aload_n hX rfl 0 rfl dX1_takeInto_12 ?_
    refine hj_getr hX (j := 0) hf0.1 rfl rfl X1_takeInto_w1 (Nat.le_of_ble_eq_true rfl) rfl X1_takeInto_k15 dX1_takeInto_13 ?_
    refine hj_alen3 hX hf0.2 dX1_takeInto_16 ?_
    refine hj_icmp_le hX (tgt := 22) (by decide) dX1_takeInto_17 h (fun h => ?_) (fun h => ?_)
    · refine hj_aload_n hX rfl 0 rfl dX1_takeInto_22 ?_
      refine hj_dup hX rfl dX1_takeInto_23 ?_
      refine hj_geti hX (j := 1) hf0.1 rfl rfl X1_takeInto_w1 (Nat.le_of_ble_eq_true rfl) rfl X1_takeInto_k22 dX1_takeInto_24 ?_
      refine hj_iconst hX (v := (1 : Int32)) (by decide) dX1_takeInto_27 ?_
      refine hj_isub hX dX1_takeInto_28 ?_
      refine hj_puti hX (j := 1) hf0.1 rfl rfl X1_takeInto_w1 (Nat.le_of_ble_eq_true rfl) rfl X1_takeInto_k22 tyX1_ok nmX1 rfl (by decide +kernel) dX1_takeInto_29 ?_
      refine hj_aload_n hX rfl 1 rfl dX1_takeInto_32 ?_
      refine hj_aload_n hX rfl 0 rfl dX1_takeInto_33 ?_
      refine hj_getr hX (j := 0) hf0.1 rfl rfl X1_takeInto_w1 (Nat.le_of_ble_eq_true rfl) rfl X1_takeInto_k15 dX1_takeInto_34 ?_
      refine hj_aload_n hX rfl 0 rfl dX1_takeInto_37 ?_
      refine hj_geti hX (j := 1) hf0.1 rfl rfl X1_takeInto_w1 (Nat.le_of_ble_eq_true rfl) rfl X1_takeInto_k22 dX1_takeInto_38 ?_
      refine hj_aald hX hf0.2 dX1_takeInto_41 h (fun h => ?_)
      obtain ⟨g1, h⟩ := gd_e h
      obtain ⟨u2, Ia3, hc4, h⟩ := ob_e h
      refine hj_callV hX (sh2 := sh) (I2 := Ia3) (r := none) (As := [.ref ((((hu I p0 1 ((I p0 1) - (1 : Int32))) (p0 + 1) (((hu I p0 1 ((I p0 1) - (1 : Int32))) p0 1)).toNatClampNeg)).toNatClampNeg)]) (rest := []) (st2 := []) (X2_copyOf_ok hf1 (hfR _ g1) hc4) gX1_takeInto_X2_copyOf rfl X2_copyOf_hy ⟨(Nat.le_of_ble_eq_true rfl), (Nat.le_of_ble_eq_true rfl)⟩ rfl hf1.1 rfl (Nat.le_of_ble_eq_true rfl) ⟨(Nat.le_of_ble_eq_true rfl), (Nat.le_of_ble_eq_true rfl)⟩ rfl rfl rfl dX1_takeInto_42 ?_
      refine hj_iconst hX (v := (1 : Int32)) (by decide) dX1_takeInto_45 ?_
      exact hj_zret hX dX1_takeInto_46 h
    · refine hj_iconst hX (v := (0 : Int32)) (by decide) dX1_takeInto_20 ?_
      exact hj_zret hX dX1_takeInto_21 h)
def X2_start_b52 (p0 p1 : Nat) (k12 : Int32 → hM → Option (Int32 × hM)) (v2 : Int32) (t1 : Int32) (t2 : Int32) (I : hM) : Option (Int32 × hM) := gd (hx t1 7) (gd (hx v2 7) ((k12 (v2 + (1 : Int32)) (hu (hu I (p0 + 2) (t1).toNatClampNeg t2) (p0 + 3) (v2).toNatClampNeg (0 : Int32)))))
def X2_start_b66 (p0 p1 : Nat) (I : hM) : Option (Int32 × hM) := some (0, (hcp I (p0 + 4) (va_cpy (I (p1 + 9)) (I (p0 + 4)) 0 0 4)))
def X2_start_h12 (p0 p1 : Nat) (k12 : Int32 → hM → Option (Int32 × hM)) (v2 : Int32) (I : hM) : Option (Int32 × hM) := if (7 : Int32) ≤ v2 then (X2_start_b66 p0 p1 I) else (gd (hx v2 7) (gd (hx v2 7) (if ((hu I (p0 + 1) (v2).toNatClampNeg (0 : Int32)) (p1 + 2) (v2).toNatClampNeg) = (99 : Int32) then ((X2_start_b52 p0 p1 k12 v2 v2 (1000000 : Int32) (hu I (p0 + 1) (v2).toNatClampNeg (0 : Int32)))) else (gd (hx v2 7) ((X2_start_b52 p0 p1 k12 v2 v2 ((hu I (p0 + 1) (v2).toNatClampNeg (0 : Int32)) (p1 + 2) (v2).toNatClampNeg) (hu I (p0 + 1) (v2).toNatClampNeg (0 : Int32))))))))
def X2_start_l12 (p0 p1 : Nat) : Nat → Int32 → hM → Option (Int32 × hM)
  | 0 => fun _ _ => none
  | n + 1 => X2_start_h12 p0 p1  (X2_start_l12 p0 p1  n)
def X2_start (p0 p1 : Nat) (I : hM) : Option (Int32 × hM) := (X2_start_l12 p0 p1 hF (0 : Int32) (hu (hu I p0 0 (0 : Int32)) p0 1 (0 : Int32)))
theorem X2_start_hy : yX2_start.cls = RX2 ∧ yX2_start.cls ≠ "java/lang/invoke/MethodHandle" ∧ yX2_start.cls ≠ "java/lang/invoke/VarHandle" ∧ (parseMethodDescriptor yX2_start.desc).map (fun d => d.parameters.length) = some 1 := by decide +kernel
theorem X2_start_k24 : Cond.fieldLink RX2 24 "HatPins$Standing" "minute" "I" ∈ wsX2_start := by decide +kernel
theorem X2_start_k28 : Cond.fieldLink RX2 28 "HatPins$Standing" "had" "I" ∈ wsX2_start := by decide +kernel
theorem X2_start_k9 : Cond.fieldLink RX2 9 "HatPins$Standing" "state" "[I" ∈ wsX2_start := by decide +kernel
theorem X2_start_k15 : Cond.fieldLink RX2 15 "HatPins$Standing" "due" "[I" ∈ wsX2_start := by decide +kernel
theorem X2_start_k31 : Cond.fieldLink RX2 31 "HatPins$Evening" "begins" "[I" ∈ wsX2_start := by decide +kernel
theorem X2_start_k37 : Cond.fieldLink RX2 37 "HatPins$Evening" "pins" "[I" ∈ wsX2_start := by decide +kernel
theorem X2_start_k21 : Cond.fieldLink RX2 21 "HatPins$Standing" "pins" "[I" ∈ wsX2_start := by decide +kernel
theorem X2_start_k18 : Cond.fieldLink RX2 18 "HatPins$Standing" "began" "[I" ∈ wsX2_start := by decide +kernel
theorem X2_start_mc36 : Cond.constant RX2 36 (1000000) ∈ wsX2_start := by decide +kernel
theorem X2_start_ml38 : Cond.methodLink RX2 38 arraycopyName ∈ wsX2_start := by decide +kernel
theorem X2_start_mna : Cond.native arraycopyName ∈ wsX2_start := by decide +kernel
theorem X2_start_msa : Cond.static arraycopyName ∈ wsX2_start := by decide +kernel
theorem X2_start_mis : Cond.initialized "java/lang/System" ∈ wsX2_start := by decide +kernel
theorem X2_start_w0 : ∀ w ∈ wsX00, w ∈ wsX2_start := by decide +kernel
theorem X2_start_w2 : ∀ w ∈ wsX20, w ∈ wsX2_start := by decide +kernel
set_option maxHeartbeats 4000000 in
set_option maxRecDepth 100000 in
theorem X2_start_b52_ok {p : Program} {l : Launch} {e : Env} {s : State} {m : MethodId} {args : Array Value} {below : List Frame} {meth : Method} {c : Code} {D : va_G} {E : Nat → ClassId} {b z : Nat} {sh : List hS} {r : Int32} {I2 : hM} {p0 p1 : Nat} {k12 : Int32 → hM → Option (Int32 × hM)} {v2 : Int32} {t1 : Int32} {t2 : Int32} {I : hM} (hX : hp_X p s m args meth c yX2_start.cls cX2_start 3 wsX2_start D E none yX2_start.name) (hf0 : hq_X2 sh p0) (hf1 : hq_X0 sh p1) (hk12 : ∀ (v2 : Int32) (I : hM), k12 v2 I = some (r, I2) → hp_J p l e ({ frames := 1, cells := 0, slots := 0, locals := 44 * 1 }) s m args below meth c (MQ below (hp_Q D E b z none sh I2) args s 0 0 (fun q : Nat => b ≤ q)) D E b z 3 sh 0 0 I 12 [(0, .ref p0), (1, .ref p1), (2, .int v2)] []) (h : X2_start_b52 p0 p1 k12 v2 t1 t2 I = some (r, I2)) : hp_J p l e ({ frames := 1, cells := 0, slots := 0, locals := 44 * 1 }) s m args below meth c (MQ below (hp_Q D E b z none sh I2) args s 0 0 (fun q : Nat => b ≤ q)) D E b z 3 sh 0 0 I 52 [(0, .ref p0), (1, .ref p1), (2, .int v2)] [.int t2, .int t1, .ref (p0 + 2)] := by
  unfold X2_start_b52 at h
  refine hj_iast hX hf0.2.2.1 dX2_start_52 h (fun h => ?_)
  refine hj_aload_n hX rfl 0 rfl dX2_start_53 ?_
  refine hj_getr hX (j := 4) hf0.1 rfl rfl X2_start_w2 (Nat.le_of_ble_eq_true rfl) rfl X2_start_k18 dX2_start_54 ?_
  refine hj_iload_n hX rfl 2 rfl dX2_start_57 ?_
  refine hj_iconst hX (v := (0 : Int32)) (by decide) dX2_start_58 ?_
  refine hj_iast hX hf0.2.2.2.1 dX2_start_59 h (fun h => ?_)
  refine hj_iinc hX (k1 := 2) (v := (v2 + (1 : Int32))) rfl rfl (Nat.le_of_ble_eq_true rfl) (lv2 := [(2, .int (v2 + (1 : Int32))), (0, .ref p0), (1, .ref p1)]) rfl dX2_start_60 ?_
  refine hj_goto hX (tgt := 12) (by decide) dX2_start_63 ?_
  refine hj_lv hX [1, 2, 0] (lv2 := [(0, .ref p0), (1, .ref p1), (2, .int (v2 + (1 : Int32)))]) rfl ?_
  exact hk12 _ _ h
set_option maxHeartbeats 4000000 in
set_option maxRecDepth 100000 in
theorem X2_start_b66_ok {p : Program} {l : Launch} {e : Env} {s : State} {m : MethodId} {args : Array Value} {below : List Frame} {meth : Method} {c : Code} {D : va_G} {E : Nat → ClassId} {b z : Nat} {sh : List hS} {r : Int32} {I2 : hM} {p0 p1 : Nat} {I : hM} (hX : hp_X p s m args meth c yX2_start.cls cX2_start 3 wsX2_start D E none yX2_start.name) (hf0 : hq_X2 sh p0) (hf1 : hq_X0 sh p1) (h : X2_start_b66 p0 p1 I = some (r, I2)) : hp_J p l e ({ frames := 1, cells := 0, slots := 0, locals := 44 * 1 }) s m args below meth c (MQ below (hp_Q D E b z none sh I2) args s 0 0 (fun q : Nat => b ≤ q)) D E b z 3 sh 0 0 I 66 [(0, .ref p0), (1, .ref p1)] [] := by
  unfold X2_start_b66 at h
  refine hj_aload_n hX rfl 1 rfl dX2_start_66 ?_
  refine hj_getr hX (j := 11) hf1.1 rfl rfl X2_start_w0 (Nat.le_of_ble_eq_true rfl) rfl X2_start_k37 dX2_start_67 ?_
  refine hj_iconst hX (v := (0 : Int32)) (by decide) dX2_start_70 ?_
  refine hj_aload_n hX rfl 0 rfl dX2_start_71 ?_
  refine hj_getr hX (j := 5) hf0.1 rfl rfl X2_start_w2 (Nat.le_of_ble_eq_true rfl) rfl X2_start_k21 dX2_start_72 ?_
  refine hj_iconst hX (v := (0 : Int32)) (by decide) dX2_start_75 ?_
  refine hj_iconst hX (v := (4 : Int32)) (by decide) dX2_start_76 ?_
  refine hj_acopy0 hX (N := 4) X2_start_ml38 X2_start_mna X2_start_msa X2_start_mis hf1.2.2.2.2.2.2.2.2.2.1 hf0.2.2.2.2 (by decide) (by decide) (Nat.le_of_ble_eq_true rfl) (Nat.le_of_ble_eq_true rfl) (Nat.le_of_ble_eq_true rfl) (by decide) dX2_start_77 ?_
  exact hj_vret hX dX2_start_80 h
set_option maxHeartbeats 4000000 in
set_option maxRecDepth 100000 in
theorem X2_start_h12_ok {p : Program} {l : Launch} {e : Env} {s : State} {m : MethodId} {args : Array Value} {below : List Frame} {meth : Method} {c : Code} {D : va_G} {E : Nat → ClassId} {b z : Nat} {sh : List hS} {r : Int32} {I2 : hM} {p0 p1 : Nat} {k12 : Int32 → hM → Option (Int32 × hM)} {v2 : Int32} {I : hM} (hX : hp_X p s m args meth c yX2_start.cls cX2_start 3 wsX2_start D E none yX2_start.name) (hf0 : hq_X2 sh p0) (hf1 : hq_X0 sh p1) (hk12 : ∀ (v2 : Int32) (I : hM), k12 v2 I = some (r, I2) → hp_J p l e ({ frames := 1, cells := 0, slots := 0, locals := 44 * 1 }) s m args below meth c (MQ below (hp_Q D E b z none sh I2) args s 0 0 (fun q : Nat => b ≤ q)) D E b z 3 sh 0 0 I 12 [(0, .ref p0), (1, .ref p1), (2, .int v2)] []) (h : X2_start_h12 p0 p1 k12 v2 I = some (r, I2)) : hp_J p l e ({ frames := 1, cells := 0, slots := 0, locals := 44 * 1 }) s m args below meth c (MQ below (hp_Q D E b z none sh I2) args s 0 0 (fun q : Nat => b ≤ q)) D E b z 3 sh 0 0 I 12 [(0, .ref p0), (1, .ref p1), (2, .int v2)] [] := by
  unfold X2_start_h12 at h
  refine hj_iload_n hX rfl 2 rfl dX2_start_12 ?_
  refine hj_bipush hX (v := (7 : Int32)) (by decide) dX2_start_13 ?_
  refine hj_icmp_ge hX (tgt := 66) (by decide) dX2_start_15 h (fun h => ?_) (fun h => ?_)
  · refine hj_lv hX [0, 1] (lv2 := [(0, .ref p0), (1, .ref p1)]) rfl ?_
    exact X2_start_b66_ok hX hf0 hf1 h
  · refine hj_aload_n hX rfl 0 rfl dX2_start_18 ?_
    refine hj_getr hX (j := 2) hf0.1 rfl rfl X2_start_w2 (Nat.le_of_ble_eq_true rfl) rfl X2_start_k9 dX2_start_19 ?_
    refine hj_iload_n hX rfl 2 rfl dX2_start_22 ?_
    refine hj_iconst hX (v := (0 : Int32)) (by decide) dX2_start_23 ?_
    refine hj_iast hX hf0.2.1 dX2_start_24 h (fun h => ?_)
    refine hj_aload_n hX rfl 0 rfl dX2_start_25 ?_
    refine hj_getr hX (j := 3) hf0.1 rfl rfl X2_start_w2 (Nat.le_of_ble_eq_true rfl) rfl X2_start_k15 dX2_start_26 ?_
    refine hj_iload_n hX rfl 2 rfl dX2_start_29 ?_
    refine hj_aload_n hX rfl 1 rfl dX2_start_30 ?_
    refine hj_getr hX (j := 4) hf1.1 rfl rfl X2_start_w0 (Nat.le_of_ble_eq_true rfl) rfl X2_start_k31 dX2_start_31 ?_
    refine hj_iload_n hX rfl 2 rfl dX2_start_34 ?_
    refine hj_iald hX hf1.2.2.1 dX2_start_35 h (fun h => ?_)
    refine hj_bipush hX (v := (99 : Int32)) (by decide) dX2_start_36 ?_
    refine hj_icmp_ne hX (tgt := 46) (by decide) dX2_start_38 h (fun h => ?_) (fun h => ?_)
    · refine hj_aload_n hX rfl 1 rfl dX2_start_46 ?_
      refine hj_getr hX (j := 4) hf1.1 rfl rfl X2_start_w0 (Nat.le_of_ble_eq_true rfl) rfl X2_start_k31 dX2_start_47 ?_
      refine hj_iload_n hX rfl 2 rfl dX2_start_50 ?_
      refine hj_iald hX hf1.2.2.1 dX2_start_51 h (fun h => ?_)
      exact X2_start_b52_ok hX hf0 hf1 hk12 h
    · refine hj_ldc hX (v := 1000000) X2_start_mc36 dX2_start_41 ?_
      refine hj_goto hX (tgt := 52) (by decide) dX2_start_43 ?_
      exact X2_start_b52_ok hX hf0 hf1 hk12 h
set_option maxHeartbeats 4000000 in
set_option maxRecDepth 100000 in
theorem X2_start_l12_ok {p : Program} {l : Launch} {e : Env} {s : State} {m : MethodId} {args : Array Value} {below : List Frame} {meth : Method} {c : Code} {D : va_G} {E : Nat → ClassId} {b z : Nat} {sh : List hS} {r : Int32} {I2 : hM} {p0 p1 : Nat} (hX : hp_X p s m args meth c yX2_start.cls cX2_start 3 wsX2_start D E none yX2_start.name) (hf0 : hq_X2 sh p0) (hf1 : hq_X0 sh p1) : ∀ (n : Nat) (v2 : Int32) (I : hM), X2_start_l12 p0 p1 n v2 I = some (r, I2) → hp_J p l e ({ frames := 1, cells := 0, slots := 0, locals := 44 * 1 }) s m args below meth c (MQ below (hp_Q D E b z none sh I2) args s 0 0 (fun q : Nat => b ≤ q)) D E b z 3 sh 0 0 I 12 [(0, .ref p0), (1, .ref p1), (2, .int v2)] [] := by
  intro n
  induction n with
  | zero => exact fun _ _ h => nomatch h
  | succ n ih => exact fun _ _ h => X2_start_h12_ok hX hf0 hf1 ih h
set_option maxHeartbeats 4000000 in
set_option maxRecDepth 100000 in
theorem X2_start_ok {sh : List hS} {r : Int32} {I I2 : hM} {p0 p1 : Nat} (hf0 : hq_X2 sh p0) (hf1 : hq_X0 sh p1) (h : X2_start p0 p1 I = some (r, I2)) : hp_C yX2_start wsX2_start 1 0 0 sh I [.ref p0, .ref p1] none sh I2 := hp_start (cc := cX2_start) (maxL := 3) (ret := none) [(0, .ref p0), (1, .ref p1)] (by decide) rfl (fun _ _ => rfl) (fun _ _ => Nat.le_of_ble_eq_true rfl) (fun p l e s m below meth c D E b z hX _ => by
  unfold X2_start at h
  refine hj_aload_n hX rfl 0 rfl dX2_start_0 ?_
  refine hj_iconst hX (v := (0 : Int32)) (by decide) dX2_start_1 ?_
  refine hj_puti hX (j := 0) hf0.1 rfl rfl X2_start_w2 (Nat.le_of_ble_eq_true rfl) rfl X2_start_k24 tyX2_ok nmX2 rfl (by decide +kernel) dX2_start_2 ?_
  refine hj_aload_n hX rfl 0 rfl dX2_start_5 ?_
  refine hj_iconst hX (v := (0 : Int32)) (by decide) dX2_start_6 ?_
  refine hj_puti hX (j := 1) hf0.1 rfl rfl X2_start_w2 (Nat.le_of_ble_eq_true rfl) rfl X2_start_k28 tyX2_ok nmX2 rfl (by decide +kernel) dX2_start_7 ?_
  refine hj_iconst hX (v := (0 : Int32)) (by decide) dX2_start_10 ?_
  refine hj_istore_n hX rfl (Nat.le_of_ble_eq_true rfl) (lv2 := [(2, .int (0 : Int32)), (0, .ref p0), (1, .ref p1)]) rfl dX2_start_11 ?_
  refine hj_lv hX [1, 2, 0] (lv2 := [(0, .ref p0), (1, .ref p1), (2, .int (0 : Int32))]) rfl ?_
  exact X2_start_l12_ok hX hf0 hf1 hF _ _ h)
def X2_beginDue_h2 (p0 p1 : Nat) (k2 : Int32 → hM → Option (Int32 × hM)) (v2 : Int32) (I : hM) : Option (Int32 × hM) := if (I p1 0) ≤ v2 then (some (0, I)) else (gd (hx v2 7) (if (I (p0 + 1) (v2).toNatClampNeg) = 0 then (gd (hx v2 7) (if (I p0 0) < (I (p0 + 2) (v2).toNatClampNeg) then ((k2 (v2 + (1 : Int32)) I)) else (gd (hx v2 7) (gd (hx v2 7) ((k2 (v2 + (1 : Int32)) (hu (hu I (p0 + 1) (v2).toNatClampNeg (1 : Int32)) (p0 + 3) (v2).toNatClampNeg ((hu I (p0 + 1) (v2).toNatClampNeg (1 : Int32)) p0 0)))))))) else ((k2 (v2 + (1 : Int32)) I))))
def X2_beginDue_l2 (p0 p1 : Nat) : Nat → Int32 → hM → Option (Int32 × hM)
  | 0 => fun _ _ => none
  | n + 1 => X2_beginDue_h2 p0 p1  (X2_beginDue_l2 p0 p1  n)
def X2_beginDue (p0 p1 : Nat) (I : hM) : Option (Int32 × hM) := (X2_beginDue_l2 p0 p1 hF (0 : Int32) I)
theorem X2_beginDue_hy : yX2_beginDue.cls = RX2 ∧ yX2_beginDue.cls ≠ "java/lang/invoke/MethodHandle" ∧ yX2_beginDue.cls ≠ "java/lang/invoke/VarHandle" ∧ (parseMethodDescriptor yX2_beginDue.desc).map (fun d => d.parameters.length) = some 1 := by decide +kernel
theorem X2_beginDue_k55 : Cond.fieldLink RX2 55 "HatPins$Evening" "goings" "I" ∈ wsX2_beginDue := by decide +kernel
theorem X2_beginDue_k9 : Cond.fieldLink RX2 9 "HatPins$Standing" "state" "[I" ∈ wsX2_beginDue := by decide +kernel
theorem X2_beginDue_k15 : Cond.fieldLink RX2 15 "HatPins$Standing" "due" "[I" ∈ wsX2_beginDue := by decide +kernel
theorem X2_beginDue_k24 : Cond.fieldLink RX2 24 "HatPins$Standing" "minute" "I" ∈ wsX2_beginDue := by decide +kernel
theorem X2_beginDue_k18 : Cond.fieldLink RX2 18 "HatPins$Standing" "began" "[I" ∈ wsX2_beginDue := by decide +kernel
theorem X2_beginDue_w0 : ∀ w ∈ wsX00, w ∈ wsX2_beginDue := by decide +kernel
theorem X2_beginDue_w2 : ∀ w ∈ wsX20, w ∈ wsX2_beginDue := by decide +kernel
set_option maxHeartbeats 4000000 in
set_option maxRecDepth 100000 in
theorem X2_beginDue_h2_ok {p : Program} {l : Launch} {e : Env} {s : State} {m : MethodId} {args : Array Value} {below : List Frame} {meth : Method} {c : Code} {D : va_G} {E : Nat → ClassId} {b z : Nat} {sh : List hS} {r : Int32} {I2 : hM} {p0 p1 : Nat} {k2 : Int32 → hM → Option (Int32 × hM)} {v2 : Int32} {I : hM} (hX : hp_X p s m args meth c yX2_beginDue.cls cX2_beginDue 3 wsX2_beginDue D E none yX2_beginDue.name) (hf0 : hq_X2 sh p0) (hf1 : hq_X0 sh p1) (hk2 : ∀ (v2 : Int32) (I : hM), k2 v2 I = some (r, I2) → hp_J p l e ({ frames := 0, cells := 0, slots := 0, locals := 44 * 0 }) s m args below meth c (MQ below (hp_Q D E b z none sh I2) args s 0 0 (fun q : Nat => b ≤ q)) D E b z 3 sh 0 0 I 2 [(0, .ref p0), (1, .ref p1), (2, .int v2)] []) (h : X2_beginDue_h2 p0 p1 k2 v2 I = some (r, I2)) : hp_J p l e ({ frames := 0, cells := 0, slots := 0, locals := 44 * 0 }) s m args below meth c (MQ below (hp_Q D E b z none sh I2) args s 0 0 (fun q : Nat => b ≤ q)) D E b z 3 sh 0 0 I 2 [(0, .ref p0), (1, .ref p1), (2, .int v2)] [] := by
  unfold X2_beginDue_h2 at h
  refine hj_iload_n hX rfl 2 rfl dX2_beginDue_2 ?_
  refine hj_aload_n hX rfl 1 rfl dX2_beginDue_3 ?_
  refine hj_geti hX (j := 0) hf1.1 rfl rfl X2_beginDue_w0 (Nat.le_of_ble_eq_true rfl) rfl X2_beginDue_k55 dX2_beginDue_4 ?_
  refine hj_icmp_ge hX (tgt := 55) (by decide) dX2_beginDue_7 h (fun h => ?_) (fun h => ?_)
  · exact hj_vret hX dX2_beginDue_55 h
  · refine hj_aload_n hX rfl 0 rfl dX2_beginDue_10 ?_
    refine hj_getr hX (j := 2) hf0.1 rfl rfl X2_beginDue_w2 (Nat.le_of_ble_eq_true rfl) rfl X2_beginDue_k9 dX2_beginDue_11 ?_
    refine hj_iload_n hX rfl 2 rfl dX2_beginDue_14 ?_
    refine hj_iald hX hf0.2.1 dX2_beginDue_15 h (fun h => ?_)
    refine hj_if_ne hX (tgt := 49) (by decide) dX2_beginDue_16 h (fun h => ?_) (fun h => ?_)
    · refine hj_iinc hX (k1 := 2) (v := (v2 + (1 : Int32))) rfl rfl (Nat.le_of_ble_eq_true rfl) (lv2 := [(2, .int (v2 + (1 : Int32))), (0, .ref p0), (1, .ref p1)]) rfl dX2_beginDue_49 ?_
      refine hj_goto hX (tgt := 2) (by decide) dX2_beginDue_52 ?_
      refine hj_lv hX [1, 2, 0] (lv2 := [(0, .ref p0), (1, .ref p1), (2, .int (v2 + (1 : Int32)))]) rfl ?_
      exact hk2 _ _ h
    · refine hj_aload_n hX rfl 0 rfl dX2_beginDue_19 ?_
      refine hj_getr hX (j := 3) hf0.1 rfl rfl X2_beginDue_w2 (Nat.le_of_ble_eq_true rfl) rfl X2_beginDue_k15 dX2_beginDue_20 ?_
      refine hj_iload_n hX rfl 2 rfl dX2_beginDue_23 ?_
      refine hj_iald hX hf0.2.2.1 dX2_beginDue_24 h (fun h => ?_)
      refine hj_aload_n hX rfl 0 rfl dX2_beginDue_25 ?_
      refine hj_geti hX (j := 0) hf0.1 rfl rfl X2_beginDue_w2 (Nat.le_of_ble_eq_true rfl) rfl X2_beginDue_k24 dX2_beginDue_26 ?_
      refine hj_icmp_gt hX (tgt := 49) (by decide) dX2_beginDue_29 h (fun h => ?_) (fun h => ?_)
      · refine hj_iinc hX (k1 := 2) (v := (v2 + (1 : Int32))) rfl rfl (Nat.le_of_ble_eq_true rfl) (lv2 := [(2, .int (v2 + (1 : Int32))), (0, .ref p0), (1, .ref p1)]) rfl dX2_beginDue_49 ?_
        refine hj_goto hX (tgt := 2) (by decide) dX2_beginDue_52 ?_
        refine hj_lv hX [1, 2, 0] (lv2 := [(0, .ref p0), (1, .ref p1), (2, .int (v2 + (1 : Int32)))]) rfl ?_
        exact hk2 _ _ h
      · refine hj_aload_n hX rfl 0 rfl dX2_beginDue_32 ?_
        refine hj_getr hX (j := 2) hf0.1 rfl rfl X2_beginDue_w2 (Nat.le_of_ble_eq_true rfl) rfl X2_beginDue_k9 dX2_beginDue_33 ?_
        refine hj_iload_n hX rfl 2 rfl dX2_beginDue_36 ?_
        refine hj_iconst hX (v := (1 : Int32)) (by decide) dX2_beginDue_37 ?_
        refine hj_iast hX hf0.2.1 dX2_beginDue_38 h (fun h => ?_)
        refine hj_aload_n hX rfl 0 rfl dX2_beginDue_39 ?_
        refine hj_getr hX (j := 4) hf0.1 rfl rfl X2_beginDue_w2 (Nat.le_of_ble_eq_true rfl) rfl X2_beginDue_k18 dX2_beginDue_40 ?_
        refine hj_iload_n hX rfl 2 rfl dX2_beginDue_43 ?_
        refine hj_aload_n hX rfl 0 rfl dX2_beginDue_44 ?_
        refine hj_geti hX (j := 0) hf0.1 rfl rfl X2_beginDue_w2 (Nat.le_of_ble_eq_true rfl) rfl X2_beginDue_k24 dX2_beginDue_45 ?_
        refine hj_iast hX hf0.2.2.2.1 dX2_beginDue_48 h (fun h => ?_)
        refine hj_iinc hX (k1 := 2) (v := (v2 + (1 : Int32))) rfl rfl (Nat.le_of_ble_eq_true rfl) (lv2 := [(2, .int (v2 + (1 : Int32))), (0, .ref p0), (1, .ref p1)]) rfl dX2_beginDue_49 ?_
        refine hj_goto hX (tgt := 2) (by decide) dX2_beginDue_52 ?_
        refine hj_lv hX [1, 2, 0] (lv2 := [(0, .ref p0), (1, .ref p1), (2, .int (v2 + (1 : Int32)))]) rfl ?_
        exact hk2 _ _ h
set_option maxHeartbeats 4000000 in
set_option maxRecDepth 100000 in
theorem X2_beginDue_l2_ok {p : Program} {l : Launch} {e : Env} {s : State} {m : MethodId} {args : Array Value} {below : List Frame} {meth : Method} {c : Code} {D : va_G} {E : Nat → ClassId} {b z : Nat} {sh : List hS} {r : Int32} {I2 : hM} {p0 p1 : Nat} (hX : hp_X p s m args meth c yX2_beginDue.cls cX2_beginDue 3 wsX2_beginDue D E none yX2_beginDue.name) (hf0 : hq_X2 sh p0) (hf1 : hq_X0 sh p1) : ∀ (n : Nat) (v2 : Int32) (I : hM), X2_beginDue_l2 p0 p1 n v2 I = some (r, I2) → hp_J p l e ({ frames := 0, cells := 0, slots := 0, locals := 44 * 0 }) s m args below meth c (MQ below (hp_Q D E b z none sh I2) args s 0 0 (fun q : Nat => b ≤ q)) D E b z 3 sh 0 0 I 2 [(0, .ref p0), (1, .ref p1), (2, .int v2)] [] := by
  intro n
  induction n with
  | zero => exact fun _ _ h => nomatch h
  | succ n ih => exact fun _ _ h => X2_beginDue_h2_ok hX hf0 hf1 ih h
set_option maxHeartbeats 4000000 in
set_option maxRecDepth 100000 in
theorem X2_beginDue_ok {sh : List hS} {r : Int32} {I I2 : hM} {p0 p1 : Nat} (hf0 : hq_X2 sh p0) (hf1 : hq_X0 sh p1) (h : X2_beginDue p0 p1 I = some (r, I2)) : hp_C yX2_beginDue wsX2_beginDue 0 0 0 sh I [.ref p0, .ref p1] none sh I2 := hp_start (cc := cX2_beginDue) (maxL := 3) (ret := none) [(0, .ref p0), (1, .ref p1)] (by decide) rfl (fun _ _ => rfl) (fun _ _ => Nat.le_of_ble_eq_true rfl) (fun p l e s m below meth c D E b z hX _ => by
  unfold X2_beginDue at h
  refine hj_iconst hX (v := (0 : Int32)) (by decide) dX2_beginDue_0 ?_
  refine hj_istore_n hX rfl (Nat.le_of_ble_eq_true rfl) (lv2 := [(2, .int (0 : Int32)), (0, .ref p0), (1, .ref p1)]) rfl dX2_beginDue_1 ?_
  refine hj_lv hX [1, 2, 0] (lv2 := [(0, .ref p0), (1, .ref p1), (2, .int (0 : Int32))]) rfl ?_
  exact X2_beginDue_l2_ok hX hf0 hf1 hF _ _ h)
def X4_worth (v0 : Int32) (v1 : Int32) (v2 : Int32) (v3 : Int32) (I : hM) : Option (Int32 × hM) := if v0 = (1 : Int32) then (gd (decide (¬ (2 : Int32) = 0)) (some ((hmax (v1 - (v2 * (v3 / (2 : Int32)))) (-20 : Int32)), I))) else (if v0 = (2 : Int32) then (some ((hmax (hmin (v1 + (v2 * v3)) (40 : Int32)) (-20 : Int32)), I)) else (if v0 = (3 : Int32) then (some ((hmax (hmax (v1 - (v2 * v3)) (0 : Int32)) (-20 : Int32)), I)) else (some ((hmax (v1 - (v2 * v3)) (-20 : Int32)), I))))
theorem X4_worth_hy : yX4_worth.cls = RX4 ∧ yX4_worth.cls ≠ "java/lang/invoke/MethodHandle" ∧ yX4_worth.cls ≠ "java/lang/invoke/VarHandle" ∧ (parseMethodDescriptor yX4_worth.desc).map (fun d => d.parameters.length) = some 4 := by decide +kernel
theorem X4_worth_ml177 : Cond.methodLink RX4 177 Lib.Math.max.name ∈ wsX4_worth := by decide +kernel
theorem X4_worth_msmax : Cond.static Lib.Math.max.name ∈ wsX4_worth := by decide +kernel
theorem X4_worth_mim : Cond.initialized "java/lang/Math" ∈ wsX4_worth := by decide +kernel
theorem X4_worth_mcmax : Cond.code Lib.Math.max.name Lib.Math.max.code 2 (some .int) ∈ wsX4_worth := by decide +kernel
theorem X4_worth_ml246 : Cond.methodLink RX4 246 Lib.Math.min.name ∈ wsX4_worth := by decide +kernel
theorem X4_worth_msmin : Cond.static Lib.Math.min.name ∈ wsX4_worth := by decide +kernel
theorem X4_worth_mcmin : Cond.code Lib.Math.min.name Lib.Math.min.code 2 (some .int) ∈ wsX4_worth := by decide +kernel
set_option maxHeartbeats 4000000 in
set_option maxRecDepth 100000 in
theorem X4_worth_ok {sh : List hS} {r : Int32} {I I2 : hM} {v0 : Int32} {v1 : Int32} {v2 : Int32} {v3 : Int32} (h : X4_worth v0 v1 v2 v3 I = some (r, I2)) : hp_C yX4_worth wsX4_worth 1 0 0 sh I [.int v0, .int v1, .int v2, .int v3] (some (.int r)) sh I2 := hp_start (cc := cX4_worth) (maxL := 5) (ret := (some .int)) [(0, .int v0), (1, .int v1), (2, .int v2), (3, .int v3)] (by decide) rfl (fun _ _ => rfl) (fun _ _ => Nat.le_of_ble_eq_true rfl) (fun p l e s m below meth c D E b z hX _ => by
  unfold X4_worth at h
  refine hj_iload_n hX rfl 0 rfl dX4_worth_0 ?_
  refine hp_ite h (fun c1 h => ?_) (fun c1 h => ?_)
  · refine hj_tabIn hX (tgt := 28) (off := 27) (kx := 1) c1 (by decide) (by decide) (by decide) (by decide) dX4_worth_1 ?_
    refine hj_iload_n hX rfl 1 rfl dX4_worth_28 ?_
    refine hj_iload_n hX rfl 2 rfl dX4_worth_29 ?_
    refine hj_iload_n hX rfl 3 rfl dX4_worth_30 ?_
    refine hj_iconst hX (v := (2 : Int32)) (by decide) dX4_worth_31 ?_
    refine hj_idiv hX dX4_worth_32 h (fun h => ?_)
    refine hj_imul hX dX4_worth_33 ?_
    refine hj_isub hX dX4_worth_34 ?_
    refine hj_istore hX (Nat.le_of_ble_eq_true rfl) (lv2 := [(4, .int (v1 - (v2 * (v3 / (2 : Int32))))), (0, .int v0), (1, .int v1), (2, .int v2), (3, .int v3)]) rfl dX4_worth_35 ?_
    refine hj_goto hX (tgt := 76) (by decide) dX4_worth_37 ?_
    refine hj_iload hX 0 rfl dX4_worth_76 ?_
    refine hj_bipush hX (v := (-20 : Int32)) (by decide) dX4_worth_78 ?_
    refine hj_mmax hX X4_worth_ml177 X4_worth_msmax X4_worth_mim X4_worth_mcmax (Nat.le_of_ble_eq_true rfl) (Nat.le_of_ble_eq_true rfl) ⟨(Nat.le_of_ble_eq_true rfl), (Nat.le_of_ble_eq_true rfl)⟩ dX4_worth_80 ?_
    exact hj_iret hX dX4_worth_83 h
  · refine hp_ite h (fun c2 h => ?_) (fun c2 h => ?_)
    · refine hj_tabIn hX (tgt := 40) (off := 39) (kx := 2) c2 (by decide) (by decide) (by decide) (by decide) dX4_worth_1 ?_
      refine hj_iload_n hX rfl 1 rfl dX4_worth_40 ?_
      refine hj_iload_n hX rfl 2 rfl dX4_worth_41 ?_
      refine hj_iload_n hX rfl 3 rfl dX4_worth_42 ?_
      refine hj_imul hX dX4_worth_43 ?_
      refine hj_iadd hX dX4_worth_44 ?_
      refine hj_bipush hX (v := (40 : Int32)) (by decide) dX4_worth_45 ?_
      refine hj_mmin hX X4_worth_ml246 X4_worth_msmin X4_worth_mim X4_worth_mcmin (Nat.le_of_ble_eq_true rfl) (Nat.le_of_ble_eq_true rfl) ⟨(Nat.le_of_ble_eq_true rfl), (Nat.le_of_ble_eq_true rfl)⟩ dX4_worth_47 ?_
      refine hj_istore hX (Nat.le_of_ble_eq_true rfl) (lv2 := [(4, .int (hmin (v1 + (v2 * v3)) (40 : Int32))), (0, .int v0), (1, .int v1), (2, .int v2), (3, .int v3)]) rfl dX4_worth_50 ?_
      refine hj_goto hX (tgt := 76) (by decide) dX4_worth_52 ?_
      refine hj_iload hX 0 rfl dX4_worth_76 ?_
      refine hj_bipush hX (v := (-20 : Int32)) (by decide) dX4_worth_78 ?_
      refine hj_mmax hX X4_worth_ml177 X4_worth_msmax X4_worth_mim X4_worth_mcmax (Nat.le_of_ble_eq_true rfl) (Nat.le_of_ble_eq_true rfl) ⟨(Nat.le_of_ble_eq_true rfl), (Nat.le_of_ble_eq_true rfl)⟩ dX4_worth_80 ?_
      exact hj_iret hX dX4_worth_83 h
    · refine hp_ite h (fun c3 h => ?_) (fun c3 h => ?_)
      · refine hj_tabIn hX (tgt := 55) (off := 54) (kx := 3) c3 (by decide) (by decide) (by decide) (by decide) dX4_worth_1 ?_
        refine hj_iload_n hX rfl 1 rfl dX4_worth_55 ?_
        refine hj_iload_n hX rfl 2 rfl dX4_worth_56 ?_
        refine hj_iload_n hX rfl 3 rfl dX4_worth_57 ?_
        refine hj_imul hX dX4_worth_58 ?_
        refine hj_isub hX dX4_worth_59 ?_
        refine hj_iconst hX (v := (0 : Int32)) (by decide) dX4_worth_60 ?_
        refine hj_mmax hX X4_worth_ml177 X4_worth_msmax X4_worth_mim X4_worth_mcmax (Nat.le_of_ble_eq_true rfl) (Nat.le_of_ble_eq_true rfl) ⟨(Nat.le_of_ble_eq_true rfl), (Nat.le_of_ble_eq_true rfl)⟩ dX4_worth_61 ?_
        refine hj_istore hX (Nat.le_of_ble_eq_true rfl) (lv2 := [(4, .int (hmax (v1 - (v2 * v3)) (0 : Int32))), (0, .int v0), (1, .int v1), (2, .int v2), (3, .int v3)]) rfl dX4_worth_64 ?_
        refine hj_goto hX (tgt := 76) (by decide) dX4_worth_66 ?_
        refine hj_iload hX 0 rfl dX4_worth_76 ?_
        refine hj_bipush hX (v := (-20 : Int32)) (by decide) dX4_worth_78 ?_
        refine hj_mmax hX X4_worth_ml177 X4_worth_msmax X4_worth_mim X4_worth_mcmax (Nat.le_of_ble_eq_true rfl) (Nat.le_of_ble_eq_true rfl) ⟨(Nat.le_of_ble_eq_true rfl), (Nat.le_of_ble_eq_true rfl)⟩ dX4_worth_80 ?_
        exact hj_iret hX dX4_worth_83 h
      · have e0 := lv_neT (a := 1) c1 (by decide)
        have e1 := lv_neT (a := 2) c2 (by decide)
        have e2 := lv_neT (a := 3) c3 (by decide)
        refine hj_tabOut hX (tgt := 69) (by omega) (by decide) dX4_worth_1 ?_
        refine hj_iload_n hX rfl 1 rfl dX4_worth_69 ?_
        refine hj_iload_n hX rfl 2 rfl dX4_worth_70 ?_
        refine hj_iload_n hX rfl 3 rfl dX4_worth_71 ?_
        refine hj_imul hX dX4_worth_72 ?_
        refine hj_isub hX dX4_worth_73 ?_
        refine hj_istore hX (Nat.le_of_ble_eq_true rfl) (lv2 := [(4, .int (v1 - (v2 * v3))), (0, .int v0), (1, .int v1), (2, .int v2), (3, .int v3)]) rfl dX4_worth_74 ?_
        refine hj_iload hX 0 rfl dX4_worth_76 ?_
        refine hj_bipush hX (v := (-20 : Int32)) (by decide) dX4_worth_78 ?_
        refine hj_mmax hX X4_worth_ml177 X4_worth_msmax X4_worth_mim X4_worth_mcmax (Nat.le_of_ble_eq_true rfl) (Nat.le_of_ble_eq_true rfl) ⟨(Nat.le_of_ble_eq_true rfl), (Nat.le_of_ble_eq_true rfl)⟩ dX4_worth_80 ?_
        exact hj_iret hX dX4_worth_83 h)
def X2_worthOf (p0 p1 : Nat) (v2 : Int32) (I : hM) : Option (Int32 × hM) := gd (hx v2 7) (gd (hx v2 7) (gd (hx v2 7) (gd (hx v2 7) (ob (X4_worth (I (p1 + 1) (v2).toNatClampNeg) (I (p1 + 3) (v2).toNatClampNeg) (I (p1 + 4) (v2).toNatClampNeg) ((I p0 0) - (I (p0 + 3) (v2).toNatClampNeg)) I) (fun u1 Ia2 => some (u1, Ia2))))))
theorem X2_worthOf_hy : yX2_worthOf.cls = RX2 ∧ yX2_worthOf.cls ≠ "java/lang/invoke/MethodHandle" ∧ yX2_worthOf.cls ≠ "java/lang/invoke/VarHandle" ∧ (parseMethodDescriptor yX2_worthOf.desc).map (fun d => d.parameters.length) = some 2 := by decide +kernel
theorem X2_worthOf_k62 : Cond.fieldLink RX2 62 "HatPins$Evening" "kind" "[I" ∈ wsX2_worthOf := by decide +kernel
theorem X2_worthOf_k65 : Cond.fieldLink RX2 65 "HatPins$Evening" "interest" "[I" ∈ wsX2_worthOf := by decide +kernel
theorem X2_worthOf_k68 : Cond.fieldLink RX2 68 "HatPins$Evening" "wane" "[I" ∈ wsX2_worthOf := by decide +kernel
theorem X2_worthOf_k24 : Cond.fieldLink RX2 24 "HatPins$Standing" "minute" "I" ∈ wsX2_worthOf := by decide +kernel
theorem X2_worthOf_k18 : Cond.fieldLink RX2 18 "HatPins$Standing" "began" "[I" ∈ wsX2_worthOf := by decide +kernel
theorem X2_worthOf_mstX4_worth : Cond.static yX4_worth ∈ wsX2_worthOf := by decide +kernel
theorem X2_worthOf_minX4_worth : Cond.initialized yX4_worth.cls ∈ wsX2_worthOf := by decide +kernel
theorem X2_worthOf_w0 : ∀ w ∈ wsX00, w ∈ wsX2_worthOf := by decide +kernel
theorem X2_worthOf_w2 : ∀ w ∈ wsX20, w ∈ wsX2_worthOf := by decide +kernel
set_option maxHeartbeats 4000000 in
set_option maxRecDepth 100000 in
theorem X2_worthOf_ok {sh : List hS} {r : Int32} {I I2 : hM} {p0 p1 : Nat} {v2 : Int32} (hf0 : hq_X2 sh p0) (hf1 : hq_X0 sh p1) (h : X2_worthOf p0 p1 v2 I = some (r, I2)) : hp_C yX2_worthOf wsX2_worthOf 2 0 0 sh I [.ref p0, .ref p1, .int v2] (some (.int r)) sh I2 := hp_start (cc := cX2_worthOf) (maxL := 3) (ret := (some .int)) [(0, .ref p0), (1, .ref p1), (2, .int v2)] (by decide) rfl (fun _ _ => rfl) (fun _ _ => Nat.le_of_ble_eq_true rfl) (fun p l e s m below meth c D E b z hX _ => by
  unfold X2_worthOf at h
  refine hj_aload_n hX rfl 1 rfl dX2_worthOf_0 ?_
  refine hj_getr hX (j := 3) hf1.1 rfl rfl X2_worthOf_w0 (Nat.le_of_ble_eq_true rfl) rfl X2_worthOf_k62 dX2_worthOf_1 ?_
  refine hj_iload_n hX rfl 2 rfl dX2_worthOf_4 ?_
  refine hj_iald hX hf1.2.1 dX2_worthOf_5 h (fun h => ?_)
  refine hj_aload_n hX rfl 1 rfl dX2_worthOf_6 ?_
  refine hj_getr hX (j := 5) hf1.1 rfl rfl X2_worthOf_w0 (Nat.le_of_ble_eq_true rfl) rfl X2_worthOf_k65 dX2_worthOf_7 ?_
  refine hj_iload_n hX rfl 2 rfl dX2_worthOf_10 ?_
  refine hj_iald hX hf1.2.2.2.1 dX2_worthOf_11 h (fun h => ?_)
  refine hj_aload_n hX rfl 1 rfl dX2_worthOf_12 ?_
  refine hj_getr hX (j := 6) hf1.1 rfl rfl X2_worthOf_w0 (Nat.le_of_ble_eq_true rfl) rfl X2_worthOf_k68 dX2_worthOf_13 ?_
  refine hj_iload_n hX rfl 2 rfl dX2_worthOf_16 ?_
  refine hj_iald hX hf1.2.2.2.2.1 dX2_worthOf_17 h (fun h => ?_)
  refine hj_aload_n hX rfl 0 rfl dX2_worthOf_18 ?_
  refine hj_geti hX (j := 0) hf0.1 rfl rfl X2_worthOf_w2 (Nat.le_of_ble_eq_true rfl) rfl X2_worthOf_k24 dX2_worthOf_19 ?_
  refine hj_aload_n hX rfl 0 rfl dX2_worthOf_22 ?_
  refine hj_getr hX (j := 4) hf0.1 rfl rfl X2_worthOf_w2 (Nat.le_of_ble_eq_true rfl) rfl X2_worthOf_k18 dX2_worthOf_23 ?_
  refine hj_iload_n hX rfl 2 rfl dX2_worthOf_26 ?_
  refine hj_iald hX hf0.2.2.2.1 dX2_worthOf_27 h (fun h => ?_)
  refine hj_isub hX dX2_worthOf_28 ?_
  obtain ⟨u1, Ia2, hc3, h⟩ := ob_e h
  refine hj_callSN hX (sh2 := sh) (I2 := Ia2) (r := (some (.int u1))) (As := [.int (I (p1 + 1) (v2).toNatClampNeg), .int (I (p1 + 3) (v2).toNatClampNeg), .int (I (p1 + 4) (v2).toNatClampNeg), .int ((I p0 0) - (I (p0 + 3) (v2).toNatClampNeg))]) (rest := []) (st2 := [.int u1]) (X4_worth_ok hc3) gX2_worthOf_X4_worth_n71 rfl X2_worthOf_mstX4_worth X2_worthOf_minX4_worth (fun q => q.2.2.2.2.2.1) X4_worth_hy.2 ⟨(Nat.le_of_ble_eq_true rfl), (Nat.le_of_ble_eq_true rfl)⟩ rfl (Nat.le_of_ble_eq_true rfl) ⟨(Nat.le_of_ble_eq_true rfl), (Nat.le_of_ble_eq_true rfl)⟩ rfl rfl rfl dX2_worthOf_29 ?_
  exact hj_iret hX dX2_worthOf_32 h)
def X2_worthOfAll_h4 (p0 p1 : Nat) (k4 : Int32 → Int32 → hM → Option (Int32 × hM)) (v2 : Int32) (v3 : Int32) (I : hM) : Option (Int32 × hM) := if (I p1 0) ≤ v3 then (some (v2, I)) else (gd (hx v3 7) (if (I (p0 + 1) (v3).toNatClampNeg) = (1 : Int32) then (ob (X2_worthOf p0 p1 v3 I) (fun u1 Ia2 => (k4 (v2 + u1) (v3 + (1 : Int32)) Ia2))) else ((k4 v2 (v3 + (1 : Int32)) I))))
def X2_worthOfAll_l4 (p0 p1 : Nat) : Nat → Int32 → Int32 → hM → Option (Int32 × hM)
  | 0 => fun _ _ _ => none
  | n + 1 => X2_worthOfAll_h4 p0 p1  (X2_worthOfAll_l4 p0 p1  n)
def X2_worthOfAll (p0 p1 : Nat) (I : hM) : Option (Int32 × hM) := (X2_worthOfAll_l4 p0 p1 hF (0 : Int32) (0 : Int32) I)
theorem X2_worthOfAll_hy : yX2_worthOfAll.cls = RX2 ∧ yX2_worthOfAll.cls ≠ "java/lang/invoke/MethodHandle" ∧ yX2_worthOfAll.cls ≠ "java/lang/invoke/VarHandle" ∧ (parseMethodDescriptor yX2_worthOfAll.desc).map (fun d => d.parameters.length) = some 1 := by decide +kernel
theorem X2_worthOfAll_k55 : Cond.fieldLink RX2 55 "HatPins$Evening" "goings" "I" ∈ wsX2_worthOfAll := by decide +kernel
theorem X2_worthOfAll_k9 : Cond.fieldLink RX2 9 "HatPins$Standing" "state" "[I" ∈ wsX2_worthOfAll := by decide +kernel
theorem X2_worthOfAll_w0 : ∀ w ∈ wsX00, w ∈ wsX2_worthOfAll := by decide +kernel
theorem X2_worthOfAll_w2 : ∀ w ∈ wsX20, w ∈ wsX2_worthOfAll := by decide +kernel
set_option maxHeartbeats 4000000 in
set_option maxRecDepth 100000 in
theorem X2_worthOfAll_h4_ok {p : Program} {l : Launch} {e : Env} {s : State} {m : MethodId} {args : Array Value} {below : List Frame} {meth : Method} {c : Code} {D : va_G} {E : Nat → ClassId} {b z : Nat} {sh : List hS} {r : Int32} {I2 : hM} {p0 p1 : Nat} {k4 : Int32 → Int32 → hM → Option (Int32 × hM)} {v2 : Int32} {v3 : Int32} {I : hM} (hX : hp_X p s m args meth c yX2_worthOfAll.cls cX2_worthOfAll 4 wsX2_worthOfAll D E (some .int) yX2_worthOfAll.name) (hf0 : hq_X2 sh p0) (hf1 : hq_X0 sh p1) (hk4 : ∀ (v2 : Int32) (v3 : Int32) (I : hM), k4 v2 v3 I = some (r, I2) → hp_J p l e ({ frames := 3, cells := 0, slots := 0, locals := 44 * 3 }) s m args below meth c (MQ below (hp_Q D E b z (some (.int r)) sh I2) args s 0 0 (fun q : Nat => b ≤ q)) D E b z 4 sh 0 0 I 4 [(0, .ref p0), (1, .ref p1), (2, .int v2), (3, .int v3)] []) (h : X2_worthOfAll_h4 p0 p1 k4 v2 v3 I = some (r, I2)) : hp_J p l e ({ frames := 3, cells := 0, slots := 0, locals := 44 * 3 }) s m args below meth c (MQ below (hp_Q D E b z (some (.int r)) sh I2) args s 0 0 (fun q : Nat => b ≤ q)) D E b z 4 sh 0 0 I 4 [(0, .ref p0), (1, .ref p1), (2, .int v2), (3, .int v3)] [] := by
  unfold X2_worthOfAll_h4 at h
  refine hj_iload_n hX rfl 3 rfl dX2_worthOfAll_4 ?_
  refine hj_aload_n hX rfl 1 rfl dX2_worthOfAll_5 ?_
  refine hj_geti hX (j := 0) hf1.1 rfl rfl X2_worthOfAll_w0 (Nat.le_of_ble_eq_true rfl) rfl X2_worthOfAll_k55 dX2_worthOfAll_6 ?_
  refine hj_icmp_ge hX (tgt := 37) (by decide) dX2_worthOfAll_9 h (fun h => ?_) (fun h => ?_)
  · refine hj_iload_n hX rfl 2 rfl dX2_worthOfAll_37 ?_
    exact hj_iret hX dX2_worthOfAll_38 h
  · refine hj_aload_n hX rfl 0 rfl dX2_worthOfAll_12 ?_
    refine hj_getr hX (j := 2) hf0.1 rfl rfl X2_worthOfAll_w2 (Nat.le_of_ble_eq_true rfl) rfl X2_worthOfAll_k9 dX2_worthOfAll_13 ?_
    refine hj_iload_n hX rfl 3 rfl dX2_worthOfAll_16 ?_
    refine hj_iald hX hf0.2.1 dX2_worthOfAll_17 h (fun h => ?_)
    refine hj_iconst hX (v := (1 : Int32)) (by decide) dX2_worthOfAll_18 ?_
    refine hj_icmp_ne hX (tgt := 31) (by decide) dX2_worthOfAll_19 h (fun h => ?_) (fun h => ?_)
    · refine hj_iinc hX (k1 := 3) (v := (v3 + (1 : Int32))) rfl rfl (Nat.le_of_ble_eq_true rfl) (lv2 := [(3, .int (v3 + (1 : Int32))), (0, .ref p0), (1, .ref p1), (2, .int v2)]) rfl dX2_worthOfAll_31 ?_
      refine hj_goto hX (tgt := 4) (by decide) dX2_worthOfAll_34 ?_
      refine hj_lv hX [1, 2, 3, 0] (lv2 := [(0, .ref p0), (1, .ref p1), (2, .int v2), (3, .int (v3 + (1 : Int32)))]) rfl ?_
      exact hk4 _ _ _ h
    · refine hj_iload_n hX rfl 2 rfl dX2_worthOfAll_22 ?_
      refine hj_aload_n hX rfl 0 rfl dX2_worthOfAll_23 ?_
      refine hj_aload_n hX rfl 1 rfl dX2_worthOfAll_24 ?_
      refine hj_iload_n hX rfl 3 rfl dX2_worthOfAll_25 ?_
      obtain ⟨u1, Ia2, hc3, h⟩ := ob_e h
      refine hj_callV hX (sh2 := sh) (I2 := Ia2) (r := (some (.int u1))) (As := [.ref p1, .int v3]) (rest := [.int v2]) (st2 := [.int u1, .int v2]) (X2_worthOf_ok hf0 hf1 hc3) gX2_worthOfAll_X2_worthOf rfl X2_worthOf_hy ⟨(Nat.le_of_ble_eq_true rfl), (Nat.le_of_ble_eq_true rfl)⟩ rfl hf0.1 rfl (Nat.le_of_ble_eq_true rfl) ⟨(Nat.le_of_ble_eq_true rfl), (Nat.le_of_ble_eq_true rfl)⟩ rfl rfl rfl dX2_worthOfAll_26 ?_
      refine hj_iadd hX dX2_worthOfAll_29 ?_
      refine hj_istore_n hX rfl (Nat.le_of_ble_eq_true rfl) (lv2 := [(2, .int (v2 + u1)), (0, .ref p0), (1, .ref p1), (3, .int v3)]) rfl dX2_worthOfAll_30 ?_
      refine hj_iinc hX (k1 := 3) (v := (v3 + (1 : Int32))) rfl rfl (Nat.le_of_ble_eq_true rfl) (lv2 := [(3, .int (v3 + (1 : Int32))), (2, .int (v2 + u1)), (0, .ref p0), (1, .ref p1)]) rfl dX2_worthOfAll_31 ?_
      refine hj_goto hX (tgt := 4) (by decide) dX2_worthOfAll_34 ?_
      refine hj_lv hX [2, 3, 1, 0] (lv2 := [(0, .ref p0), (1, .ref p1), (2, .int (v2 + u1)), (3, .int (v3 + (1 : Int32)))]) rfl ?_
      exact hk4 _ _ _ h
set_option maxHeartbeats 4000000 in
set_option maxRecDepth 100000 in
theorem X2_worthOfAll_l4_ok {p : Program} {l : Launch} {e : Env} {s : State} {m : MethodId} {args : Array Value} {below : List Frame} {meth : Method} {c : Code} {D : va_G} {E : Nat → ClassId} {b z : Nat} {sh : List hS} {r : Int32} {I2 : hM} {p0 p1 : Nat} (hX : hp_X p s m args meth c yX2_worthOfAll.cls cX2_worthOfAll 4 wsX2_worthOfAll D E (some .int) yX2_worthOfAll.name) (hf0 : hq_X2 sh p0) (hf1 : hq_X0 sh p1) : ∀ (n : Nat) (v2 : Int32) (v3 : Int32) (I : hM), X2_worthOfAll_l4 p0 p1 n v2 v3 I = some (r, I2) → hp_J p l e ({ frames := 3, cells := 0, slots := 0, locals := 44 * 3 }) s m args below meth c (MQ below (hp_Q D E b z (some (.int r)) sh I2) args s 0 0 (fun q : Nat => b ≤ q)) D E b z 4 sh 0 0 I 4 [(0, .ref p0), (1, .ref p1), (2, .int v2), (3, .int v3)] [] := by
  intro n
  induction n with
  | zero => exact fun _ _ _ h => nomatch h
  | succ n ih => exact fun _ _ _ h => X2_worthOfAll_h4_ok hX hf0 hf1 ih h
set_option maxHeartbeats 4000000 in
set_option maxRecDepth 100000 in
theorem X2_worthOfAll_ok {sh : List hS} {r : Int32} {I I2 : hM} {p0 p1 : Nat} (hf0 : hq_X2 sh p0) (hf1 : hq_X0 sh p1) (h : X2_worthOfAll p0 p1 I = some (r, I2)) : hp_C yX2_worthOfAll wsX2_worthOfAll 3 0 0 sh I [.ref p0, .ref p1] (some (.int r)) sh I2 := hp_start (cc := cX2_worthOfAll) (maxL := 4) (ret := (some .int)) [(0, .ref p0), (1, .ref p1)] (by decide) rfl (fun _ _ => rfl) (fun _ _ => Nat.le_of_ble_eq_true rfl) (fun p l e s m below meth c D E b z hX _ => by
  unfold X2_worthOfAll at h
  refine hj_iconst hX (v := (0 : Int32)) (by decide) dX2_worthOfAll_0 ?_
  refine hj_istore_n hX rfl (Nat.le_of_ble_eq_true rfl) (lv2 := [(2, .int (0 : Int32)), (0, .ref p0), (1, .ref p1)]) rfl dX2_worthOfAll_1 ?_
  refine hj_iconst hX (v := (0 : Int32)) (by decide) dX2_worthOfAll_2 ?_
  refine hj_istore_n hX rfl (Nat.le_of_ble_eq_true rfl) (lv2 := [(3, .int (0 : Int32)), (2, .int (0 : Int32)), (0, .ref p0), (1, .ref p1)]) rfl dX2_worthOfAll_3 ?_
  refine hj_lv hX [2, 3, 1, 0] (lv2 := [(0, .ref p0), (1, .ref p1), (2, .int (0 : Int32)), (3, .int (0 : Int32))]) rfl ?_
  exact X2_worthOfAll_l4_ok hX hf0 hf1 hF _ _ _ h)
def X2_finish_h10 (p0 p1 : Nat) (k10 : Int32 → Int32 → hM → Option (Int32 × hM)) (v2 : Int32) (v4 : Int32) (I : hM) : Option (Int32 × hM) := if (I p1 1) ≤ v4 then (some (0, I)) else (gd (hx v4 6) (gd (hx v4 6) (if (I (p1 + 6) (v4).toNatClampNeg) = v2 then (gd (hx (I (p1 + 7) (v4).toNatClampNeg) 7) (if (I (p0 + 1) ((I (p1 + 7) (v4).toNatClampNeg)).toNatClampNeg) = 0 then (gd (hx (I (p1 + 7) (v4).toNatClampNeg) 7) (gd (hx v4 6) (gd (hx (I (p1 + 7) (v4).toNatClampNeg) 7) ((k10 v2 (v4 + (1 : Int32)) (hu I (p0 + 2) ((I (p1 + 7) (v4).toNatClampNeg)).toNatClampNeg (hmin (I (p0 + 2) ((I (p1 + 7) (v4).toNatClampNeg)).toNatClampNeg) ((I p0 0) + (I (p1 + 8) (v4).toNatClampNeg))))))))) else ((k10 v2 (v4 + (1 : Int32)) I)))) else ((k10 v2 (v4 + (1 : Int32)) I)))))
def X2_finish_l10 (p0 p1 : Nat) : Nat → Int32 → Int32 → hM → Option (Int32 × hM)
  | 0 => fun _ _ _ => none
  | n + 1 => X2_finish_h10 p0 p1  (X2_finish_l10 p0 p1  n)
def X2_finish (p0 p1 : Nat) (v2 : Int32) (v3 : Int32) (I : hM) : Option (Int32 × hM) := gd (hx v2 7) ((X2_finish_l10 p0 p1 hF v2 (0 : Int32) (hu I (p0 + 1) (v2).toNatClampNeg v3)))
theorem X2_finish_hy : yX2_finish.cls = RX2 ∧ yX2_finish.cls ≠ "java/lang/invoke/MethodHandle" ∧ yX2_finish.cls ≠ "java/lang/invoke/VarHandle" ∧ (parseMethodDescriptor yX2_finish.desc).map (fun d => d.parameters.length) = some 3 := by decide +kernel
theorem X2_finish_k9 : Cond.fieldLink RX2 9 "HatPins$Standing" "state" "[I" ∈ wsX2_finish := by decide +kernel
theorem X2_finish_k82 : Cond.fieldLink RX2 82 "HatPins$Evening" "followings" "I" ∈ wsX2_finish := by decide +kernel
theorem X2_finish_k85 : Cond.fieldLink RX2 85 "HatPins$Evening" "follower" "[I" ∈ wsX2_finish := by decide +kernel
theorem X2_finish_k88 : Cond.fieldLink RX2 88 "HatPins$Evening" "leader" "[I" ∈ wsX2_finish := by decide +kernel
theorem X2_finish_k15 : Cond.fieldLink RX2 15 "HatPins$Standing" "due" "[I" ∈ wsX2_finish := by decide +kernel
theorem X2_finish_k24 : Cond.fieldLink RX2 24 "HatPins$Standing" "minute" "I" ∈ wsX2_finish := by decide +kernel
theorem X2_finish_k91 : Cond.fieldLink RX2 91 "HatPins$Evening" "gap" "[I" ∈ wsX2_finish := by decide +kernel
theorem X2_finish_ml94 : Cond.methodLink RX2 94 Lib.Math.min.name ∈ wsX2_finish := by decide +kernel
theorem X2_finish_msmin : Cond.static Lib.Math.min.name ∈ wsX2_finish := by decide +kernel
theorem X2_finish_mim : Cond.initialized "java/lang/Math" ∈ wsX2_finish := by decide +kernel
theorem X2_finish_mcmin : Cond.code Lib.Math.min.name Lib.Math.min.code 2 (some .int) ∈ wsX2_finish := by decide +kernel
theorem X2_finish_w0 : ∀ w ∈ wsX00, w ∈ wsX2_finish := by decide +kernel
theorem X2_finish_w2 : ∀ w ∈ wsX20, w ∈ wsX2_finish := by decide +kernel
set_option maxHeartbeats 4000000 in
set_option maxRecDepth 100000 in
theorem X2_finish_h10_ok {p : Program} {l : Launch} {e : Env} {s : State} {m : MethodId} {args : Array Value} {below : List Frame} {meth : Method} {c : Code} {D : va_G} {E : Nat → ClassId} {b z : Nat} {sh : List hS} {r : Int32} {I2 : hM} {p0 p1 : Nat} {k10 : Int32 → Int32 → hM → Option (Int32 × hM)} {v2 : Int32} {v4 : Int32} {I : hM} (hX : hp_X p s m args meth c yX2_finish.cls cX2_finish 6 wsX2_finish D E none yX2_finish.name) (hf0 : hq_X2 sh p0) (hf1 : hq_X0 sh p1) (hk10 : ∀ (v2 : Int32) (v4 : Int32) (I : hM), k10 v2 v4 I = some (r, I2) → hp_J p l e ({ frames := 1, cells := 0, slots := 0, locals := 44 * 1 }) s m args below meth c (MQ below (hp_Q D E b z none sh I2) args s 0 0 (fun q : Nat => b ≤ q)) D E b z 6 sh 0 0 I 10 [(0, .ref p0), (1, .ref p1), (2, .int v2), (4, .int v4)] []) (h : X2_finish_h10 p0 p1 k10 v2 v4 I = some (r, I2)) : hp_J p l e ({ frames := 1, cells := 0, slots := 0, locals := 44 * 1 }) s m args below meth c (MQ below (hp_Q D E b z none sh I2) args s 0 0 (fun q : Nat => b ≤ q)) D E b z 6 sh 0 0 I 10 [(0, .ref p0), (1, .ref p1), (2, .int v2), (4, .int v4)] [] := by
  unfold X2_finish_h10 at h
  refine hj_iload hX 3 rfl dX2_finish_10 ?_
  refine hj_aload_n hX rfl 1 rfl dX2_finish_12 ?_
  refine hj_geti hX (j := 1) hf1.1 rfl rfl X2_finish_w0 (Nat.le_of_ble_eq_true rfl) rfl X2_finish_k82 dX2_finish_13 ?_
  refine hj_icmp_ge hX (tgt := 84) (by decide) dX2_finish_16 h (fun h => ?_) (fun h => ?_)
  · exact hj_vret hX dX2_finish_84 h
  · refine hj_aload_n hX rfl 1 rfl dX2_finish_19 ?_
    refine hj_getr hX (j := 9) hf1.1 rfl rfl X2_finish_w0 (Nat.le_of_ble_eq_true rfl) rfl X2_finish_k85 dX2_finish_20 ?_
    refine hj_iload hX 3 rfl dX2_finish_23 ?_
    refine hj_iald hX hf1.2.2.2.2.2.2.2.1 dX2_finish_25 h (fun h => ?_)
    refine hj_istore hX (Nat.le_of_ble_eq_true rfl) (lv2 := [(5, .int (I (p1 + 7) (v4).toNatClampNeg)), (0, .ref p0), (1, .ref p1), (2, .int v2), (4, .int v4)]) rfl dX2_finish_26 ?_
    refine hj_aload_n hX rfl 2 rfl dX2_finish_28 ?_
    refine hj_getr hX (j := 8) hf1.1 rfl rfl X2_finish_w0 (Nat.le_of_ble_eq_true rfl) rfl X2_finish_k88 dX2_finish_29 ?_
    refine hj_iload hX 4 rfl dX2_finish_32 ?_
    refine hj_iald hX hf1.2.2.2.2.2.2.1 dX2_finish_34 h (fun h => ?_)
    refine hj_iload_n hX rfl 3 rfl dX2_finish_35 ?_
    refine hj_icmp_ne hX (tgt := 78) (by decide) dX2_finish_36 h (fun h => ?_) (fun h => ?_)
    · refine hj_iinc hX (k1 := 4) (v := (v4 + (1 : Int32))) rfl rfl (Nat.le_of_ble_eq_true rfl) (lv2 := [(4, .int (v4 + (1 : Int32))), (5, .int (I (p1 + 7) (v4).toNatClampNeg)), (0, .ref p0), (1, .ref p1), (2, .int v2)]) rfl dX2_finish_78 ?_
      refine hj_goto hX (tgt := 10) (by decide) dX2_finish_81 ?_
      refine hj_lv hX [2, 3, 4, 0] (lv2 := [(0, .ref p0), (1, .ref p1), (2, .int v2), (4, .int (v4 + (1 : Int32)))]) rfl ?_
      exact hk10 _ _ _ h
    · refine hj_aload_n hX rfl 1 rfl dX2_finish_39 ?_
      refine hj_getr hX (j := 2) hf0.1 rfl rfl X2_finish_w2 (Nat.le_of_ble_eq_true rfl) rfl X2_finish_k9 dX2_finish_40 ?_
      refine hj_iload hX 0 rfl dX2_finish_43 ?_
      refine hj_iald hX hf0.2.1 dX2_finish_45 h (fun h => ?_)
      refine hj_if_ne hX (tgt := 78) (by decide) dX2_finish_46 h (fun h => ?_) (fun h => ?_)
      · refine hj_iinc hX (k1 := 4) (v := (v4 + (1 : Int32))) rfl rfl (Nat.le_of_ble_eq_true rfl) (lv2 := [(4, .int (v4 + (1 : Int32))), (5, .int (I (p1 + 7) (v4).toNatClampNeg)), (0, .ref p0), (1, .ref p1), (2, .int v2)]) rfl dX2_finish_78 ?_
        refine hj_goto hX (tgt := 10) (by decide) dX2_finish_81 ?_
        refine hj_lv hX [2, 3, 4, 0] (lv2 := [(0, .ref p0), (1, .ref p1), (2, .int v2), (4, .int (v4 + (1 : Int32)))]) rfl ?_
        exact hk10 _ _ _ h
      · refine hj_aload_n hX rfl 1 rfl dX2_finish_49 ?_
        refine hj_getr hX (j := 3) hf0.1 rfl rfl X2_finish_w2 (Nat.le_of_ble_eq_true rfl) rfl X2_finish_k15 dX2_finish_50 ?_
        refine hj_iload hX 0 rfl dX2_finish_53 ?_
        refine hj_aload_n hX rfl 1 rfl dX2_finish_55 ?_
        refine hj_getr hX (j := 3) hf0.1 rfl rfl X2_finish_w2 (Nat.le_of_ble_eq_true rfl) rfl X2_finish_k15 dX2_finish_56 ?_
        refine hj_iload hX 0 rfl dX2_finish_59 ?_
        refine hj_iald hX hf0.2.2.1 dX2_finish_61 h (fun h => ?_)
        refine hj_aload_n hX rfl 1 rfl dX2_finish_62 ?_
        refine hj_geti hX (j := 0) hf0.1 rfl rfl X2_finish_w2 (Nat.le_of_ble_eq_true rfl) rfl X2_finish_k24 dX2_finish_63 ?_
        refine hj_aload_n hX rfl 2 rfl dX2_finish_66 ?_
        refine hj_getr hX (j := 10) hf1.1 rfl rfl X2_finish_w0 (Nat.le_of_ble_eq_true rfl) rfl X2_finish_k91 dX2_finish_67 ?_
        refine hj_iload hX 4 rfl dX2_finish_70 ?_
        refine hj_iald hX hf1.2.2.2.2.2.2.2.2.1 dX2_finish_72 h (fun h => ?_)
        refine hj_iadd hX dX2_finish_73 ?_
        refine hj_mmin hX X2_finish_ml94 X2_finish_msmin X2_finish_mim X2_finish_mcmin (Nat.le_of_ble_eq_true rfl) (Nat.le_of_ble_eq_true rfl) ⟨(Nat.le_of_ble_eq_true rfl), (Nat.le_of_ble_eq_true rfl)⟩ dX2_finish_74 ?_
        refine hj_iast hX hf0.2.2.1 dX2_finish_77 h (fun h => ?_)
        refine hj_iinc hX (k1 := 4) (v := (v4 + (1 : Int32))) rfl rfl (Nat.le_of_ble_eq_true rfl) (lv2 := [(4, .int (v4 + (1 : Int32))), (5, .int (I (p1 + 7) (v4).toNatClampNeg)), (0, .ref p0), (1, .ref p1), (2, .int v2)]) rfl dX2_finish_78 ?_
        refine hj_goto hX (tgt := 10) (by decide) dX2_finish_81 ?_
        refine hj_lv hX [2, 3, 4, 0] (lv2 := [(0, .ref p0), (1, .ref p1), (2, .int v2), (4, .int (v4 + (1 : Int32)))]) rfl ?_
        exact hk10 _ _ _ h
set_option maxHeartbeats 4000000 in
set_option maxRecDepth 100000 in
theorem X2_finish_l10_ok {p : Program} {l : Launch} {e : Env} {s : State} {m : MethodId} {args : Array Value} {below : List Frame} {meth : Method} {c : Code} {D : va_G} {E : Nat → ClassId} {b z : Nat} {sh : List hS} {r : Int32} {I2 : hM} {p0 p1 : Nat} (hX : hp_X p s m args meth c yX2_finish.cls cX2_finish 6 wsX2_finish D E none yX2_finish.name) (hf0 : hq_X2 sh p0) (hf1 : hq_X0 sh p1) : ∀ (n : Nat) (v2 : Int32) (v4 : Int32) (I : hM), X2_finish_l10 p0 p1 n v2 v4 I = some (r, I2) → hp_J p l e ({ frames := 1, cells := 0, slots := 0, locals := 44 * 1 }) s m args below meth c (MQ below (hp_Q D E b z none sh I2) args s 0 0 (fun q : Nat => b ≤ q)) D E b z 6 sh 0 0 I 10 [(0, .ref p0), (1, .ref p1), (2, .int v2), (4, .int v4)] [] := by
  intro n
  induction n with
  | zero => exact fun _ _ _ h => nomatch h
  | succ n ih => exact fun _ _ _ h => X2_finish_h10_ok hX hf0 hf1 ih h
set_option maxHeartbeats 4000000 in
set_option maxRecDepth 100000 in
theorem X2_finish_ok {sh : List hS} {r : Int32} {I I2 : hM} {p0 p1 : Nat} {v2 : Int32} {v3 : Int32} (hf0 : hq_X2 sh p0) (hf1 : hq_X0 sh p1) (h : X2_finish p0 p1 v2 v3 I = some (r, I2)) : hp_C yX2_finish wsX2_finish 1 0 0 sh I [.ref p0, .ref p1, .int v2, .int v3] none sh I2 := hp_start (cc := cX2_finish) (maxL := 6) (ret := none) [(0, .ref p0), (1, .ref p1), (2, .int v2), (3, .int v3)] (by decide) rfl (fun _ _ => rfl) (fun _ _ => Nat.le_of_ble_eq_true rfl) (fun p l e s m below meth c D E b z hX _ => by
  unfold X2_finish at h
  refine hj_aload_n hX rfl 0 rfl dX2_finish_0 ?_
  refine hj_getr hX (j := 2) hf0.1 rfl rfl X2_finish_w2 (Nat.le_of_ble_eq_true rfl) rfl X2_finish_k9 dX2_finish_1 ?_
  refine hj_iload_n hX rfl 2 rfl dX2_finish_4 ?_
  refine hj_iload_n hX rfl 3 rfl dX2_finish_5 ?_
  refine hj_iast hX hf0.2.1 dX2_finish_6 h (fun h => ?_)
  refine hj_iconst hX (v := (0 : Int32)) (by decide) dX2_finish_7 ?_
  refine hj_istore hX (Nat.le_of_ble_eq_true rfl) (lv2 := [(4, .int (0 : Int32)), (0, .ref p0), (1, .ref p1), (2, .int v2), (3, .int v3)]) rfl dX2_finish_8 ?_
  refine hj_lv hX [1, 2, 3, 0] (lv2 := [(0, .ref p0), (1, .ref p1), (2, .int v2), (4, .int (0 : Int32))]) rfl ?_
  exact X2_finish_l10_ok hX hf0 hf1 hF _ _ _ h)
def X2_endMinute_h12 (p0 p1 : Nat) (k12 : Int32 → hM → Option (Int32 × hM)) (v2 : Int32) (I : hM) : Option (Int32 × hM) := if (I p1 0) ≤ v2 then (some (0, I)) else (gd (hx v2 7) (if (I (p0 + 1) (v2).toNatClampNeg) = (1 : Int32) then (gd (hx v2 7) (gd (hx v2 7) (if ((I p0 0) - (I (p0 + 3) (v2).toNatClampNeg)) < (I (p1 + 5) (v2).toNatClampNeg) then ((k12 (v2 + (1 : Int32)) I)) else (ob (X2_finish p0 p1 v2 (2 : Int32) I) (fun u1 Ia2 => (k12 (v2 + (1 : Int32)) Ia2)))))) else ((k12 (v2 + (1 : Int32)) I))))
def X2_endMinute_l12 (p0 p1 : Nat) : Nat → Int32 → hM → Option (Int32 × hM)
  | 0 => fun _ _ => none
  | n + 1 => X2_endMinute_h12 p0 p1  (X2_endMinute_l12 p0 p1  n)
def X2_endMinute (p0 p1 : Nat) (I : hM) : Option (Int32 × hM) := (X2_endMinute_l12 p0 p1 hF (0 : Int32) (hu I p0 0 ((I p0 0) + (1 : Int32))))
theorem X2_endMinute_hy : yX2_endMinute.cls = RX2 ∧ yX2_endMinute.cls ≠ "java/lang/invoke/MethodHandle" ∧ yX2_endMinute.cls ≠ "java/lang/invoke/VarHandle" ∧ (parseMethodDescriptor yX2_endMinute.desc).map (fun d => d.parameters.length) = some 1 := by decide +kernel
theorem X2_endMinute_k24 : Cond.fieldLink RX2 24 "HatPins$Standing" "minute" "I" ∈ wsX2_endMinute := by decide +kernel
theorem X2_endMinute_k55 : Cond.fieldLink RX2 55 "HatPins$Evening" "goings" "I" ∈ wsX2_endMinute := by decide +kernel
theorem X2_endMinute_k9 : Cond.fieldLink RX2 9 "HatPins$Standing" "state" "[I" ∈ wsX2_endMinute := by decide +kernel
theorem X2_endMinute_k18 : Cond.fieldLink RX2 18 "HatPins$Standing" "began" "[I" ∈ wsX2_endMinute := by decide +kernel
theorem X2_endMinute_k75 : Cond.fieldLink RX2 75 "HatPins$Evening" "minutes" "[I" ∈ wsX2_endMinute := by decide +kernel
theorem X2_endMinute_w0 : ∀ w ∈ wsX00, w ∈ wsX2_endMinute := by decide +kernel
theorem X2_endMinute_w2 : ∀ w ∈ wsX20, w ∈ wsX2_endMinute := by decide +kernel
set_option maxHeartbeats 4000000 in
set_option maxRecDepth 100000 in
theorem X2_endMinute_h12_ok {p : Program} {l : Launch} {e : Env} {s : State} {m : MethodId} {args : Array Value} {below : List Frame} {meth : Method} {c : Code} {D : va_G} {E : Nat → ClassId} {b z : Nat} {sh : List hS} {r : Int32} {I2 : hM} {p0 p1 : Nat} {k12 : Int32 → hM → Option (Int32 × hM)} {v2 : Int32} {I : hM} (hX : hp_X p s m args meth c yX2_endMinute.cls cX2_endMinute 3 wsX2_endMinute D E none yX2_endMinute.name) (hf0 : hq_X2 sh p0) (hf1 : hq_X0 sh p1) (hk12 : ∀ (v2 : Int32) (I : hM), k12 v2 I = some (r, I2) → hp_J p l e ({ frames := 2, cells := 0, slots := 0, locals := 44 * 2 }) s m args below meth c (MQ below (hp_Q D E b z none sh I2) args s 0 0 (fun q : Nat => b ≤ q)) D E b z 3 sh 0 0 I 12 [(0, .ref p0), (1, .ref p1), (2, .int v2)] []) (h : X2_endMinute_h12 p0 p1 k12 v2 I = some (r, I2)) : hp_J p l e ({ frames := 2, cells := 0, slots := 0, locals := 44 * 2 }) s m args below meth c (MQ below (hp_Q D E b z none sh I2) args s 0 0 (fun q : Nat => b ≤ q)) D E b z 3 sh 0 0 I 12 [(0, .ref p0), (1, .ref p1), (2, .int v2)] [] := by
  unfold X2_endMinute_h12 at h
  refine hj_iload_n hX rfl 2 rfl dX2_endMinute_12 ?_
  refine hj_aload_n hX rfl 1 rfl dX2_endMinute_13 ?_
  refine hj_geti hX (j := 0) hf1.1 rfl rfl X2_endMinute_w0 (Nat.le_of_ble_eq_true rfl) rfl X2_endMinute_k55 dX2_endMinute_14 ?_
  refine hj_icmp_ge hX (tgt := 63) (by decide) dX2_endMinute_17 h (fun h => ?_) (fun h => ?_)
  · exact hj_vret hX dX2_endMinute_63 h
  · refine hj_aload_n hX rfl 0 rfl dX2_endMinute_20 ?_
    refine hj_getr hX (j := 2) hf0.1 rfl rfl X2_endMinute_w2 (Nat.le_of_ble_eq_true rfl) rfl X2_endMinute_k9 dX2_endMinute_21 ?_
    refine hj_iload_n hX rfl 2 rfl dX2_endMinute_24 ?_
    refine hj_iald hX hf0.2.1 dX2_endMinute_25 h (fun h => ?_)
    refine hj_iconst hX (v := (1 : Int32)) (by decide) dX2_endMinute_26 ?_
    refine hj_icmp_ne hX (tgt := 57) (by decide) dX2_endMinute_27 h (fun h => ?_) (fun h => ?_)
    · refine hj_iinc hX (k1 := 2) (v := (v2 + (1 : Int32))) rfl rfl (Nat.le_of_ble_eq_true rfl) (lv2 := [(2, .int (v2 + (1 : Int32))), (0, .ref p0), (1, .ref p1)]) rfl dX2_endMinute_57 ?_
      refine hj_goto hX (tgt := 12) (by decide) dX2_endMinute_60 ?_
      refine hj_lv hX [1, 2, 0] (lv2 := [(0, .ref p0), (1, .ref p1), (2, .int (v2 + (1 : Int32)))]) rfl ?_
      exact hk12 _ _ h
    · refine hj_aload_n hX rfl 0 rfl dX2_endMinute_30 ?_
      refine hj_geti hX (j := 0) hf0.1 rfl rfl X2_endMinute_w2 (Nat.le_of_ble_eq_true rfl) rfl X2_endMinute_k24 dX2_endMinute_31 ?_
      refine hj_aload_n hX rfl 0 rfl dX2_endMinute_34 ?_
      refine hj_getr hX (j := 4) hf0.1 rfl rfl X2_endMinute_w2 (Nat.le_of_ble_eq_true rfl) rfl X2_endMinute_k18 dX2_endMinute_35 ?_
      refine hj_iload_n hX rfl 2 rfl dX2_endMinute_38 ?_
      refine hj_iald hX hf0.2.2.2.1 dX2_endMinute_39 h (fun h => ?_)
      refine hj_isub hX dX2_endMinute_40 ?_
      refine hj_aload_n hX rfl 1 rfl dX2_endMinute_41 ?_
      refine hj_getr hX (j := 7) hf1.1 rfl rfl X2_endMinute_w0 (Nat.le_of_ble_eq_true rfl) rfl X2_endMinute_k75 dX2_endMinute_42 ?_
      refine hj_iload_n hX rfl 2 rfl dX2_endMinute_45 ?_
      refine hj_iald hX hf1.2.2.2.2.2.1 dX2_endMinute_46 h (fun h => ?_)
      refine hj_icmp_lt hX (tgt := 57) (by decide) dX2_endMinute_47 h (fun h => ?_) (fun h => ?_)
      · refine hj_iinc hX (k1 := 2) (v := (v2 + (1 : Int32))) rfl rfl (Nat.le_of_ble_eq_true rfl) (lv2 := [(2, .int (v2 + (1 : Int32))), (0, .ref p0), (1, .ref p1)]) rfl dX2_endMinute_57 ?_
        refine hj_goto hX (tgt := 12) (by decide) dX2_endMinute_60 ?_
        refine hj_lv hX [1, 2, 0] (lv2 := [(0, .ref p0), (1, .ref p1), (2, .int (v2 + (1 : Int32)))]) rfl ?_
        exact hk12 _ _ h
      · refine hj_aload_n hX rfl 0 rfl dX2_endMinute_50 ?_
        refine hj_aload_n hX rfl 1 rfl dX2_endMinute_51 ?_
        refine hj_iload_n hX rfl 2 rfl dX2_endMinute_52 ?_
        refine hj_iconst hX (v := (2 : Int32)) (by decide) dX2_endMinute_53 ?_
        obtain ⟨u1, Ia2, hc3, h⟩ := ob_e h
        refine hj_callV hX (sh2 := sh) (I2 := Ia2) (r := none) (As := [.ref p1, .int v2, .int (2 : Int32)]) (rest := []) (st2 := []) (X2_finish_ok hf0 hf1 hc3) gX2_endMinute_X2_finish rfl X2_finish_hy ⟨(Nat.le_of_ble_eq_true rfl), (Nat.le_of_ble_eq_true rfl)⟩ rfl hf0.1 rfl (Nat.le_of_ble_eq_true rfl) ⟨(Nat.le_of_ble_eq_true rfl), (Nat.le_of_ble_eq_true rfl)⟩ rfl rfl rfl dX2_endMinute_54 ?_
        refine hj_iinc hX (k1 := 2) (v := (v2 + (1 : Int32))) rfl rfl (Nat.le_of_ble_eq_true rfl) (lv2 := [(2, .int (v2 + (1 : Int32))), (0, .ref p0), (1, .ref p1)]) rfl dX2_endMinute_57 ?_
        refine hj_goto hX (tgt := 12) (by decide) dX2_endMinute_60 ?_
        refine hj_lv hX [1, 2, 0] (lv2 := [(0, .ref p0), (1, .ref p1), (2, .int (v2 + (1 : Int32)))]) rfl ?_
        exact hk12 _ _ h
set_option maxHeartbeats 4000000 in
set_option maxRecDepth 100000 in
theorem X2_endMinute_l12_ok {p : Program} {l : Launch} {e : Env} {s : State} {m : MethodId} {args : Array Value} {below : List Frame} {meth : Method} {c : Code} {D : va_G} {E : Nat → ClassId} {b z : Nat} {sh : List hS} {r : Int32} {I2 : hM} {p0 p1 : Nat} (hX : hp_X p s m args meth c yX2_endMinute.cls cX2_endMinute 3 wsX2_endMinute D E none yX2_endMinute.name) (hf0 : hq_X2 sh p0) (hf1 : hq_X0 sh p1) : ∀ (n : Nat) (v2 : Int32) (I : hM), X2_endMinute_l12 p0 p1 n v2 I = some (r, I2) → hp_J p l e ({ frames := 2, cells := 0, slots := 0, locals := 44 * 2 }) s m args below meth c (MQ below (hp_Q D E b z none sh I2) args s 0 0 (fun q : Nat => b ≤ q)) D E b z 3 sh 0 0 I 12 [(0, .ref p0), (1, .ref p1), (2, .int v2)] [] := by
  intro n
  induction n with
  | zero => exact fun _ _ h => nomatch h
  | succ n ih => exact fun _ _ h => X2_endMinute_h12_ok hX hf0 hf1 ih h
set_option maxHeartbeats 4000000 in
set_option maxRecDepth 100000 in
theorem X2_endMinute_ok {sh : List hS} {r : Int32} {I I2 : hM} {p0 p1 : Nat} (hf0 : hq_X2 sh p0) (hf1 : hq_X0 sh p1) (h : X2_endMinute p0 p1 I = some (r, I2)) : hp_C yX2_endMinute wsX2_endMinute 2 0 0 sh I [.ref p0, .ref p1] none sh I2 := hp_start (cc := cX2_endMinute) (maxL := 3) (ret := none) [(0, .ref p0), (1, .ref p1)] (by decide) rfl (fun _ _ => rfl) (fun _ _ => Nat.le_of_ble_eq_true rfl) (fun p l e s m below meth c D E b z hX _ => by
  unfold X2_endMinute at h
  refine hj_aload_n hX rfl 0 rfl dX2_endMinute_0 ?_
  refine hj_dup hX rfl dX2_endMinute_1 ?_
  refine hj_geti hX (j := 0) hf0.1 rfl rfl X2_endMinute_w2 (Nat.le_of_ble_eq_true rfl) rfl X2_endMinute_k24 dX2_endMinute_2 ?_
  refine hj_iconst hX (v := (1 : Int32)) (by decide) dX2_endMinute_5 ?_
  refine hj_iadd hX dX2_endMinute_6 ?_
  refine hj_puti hX (j := 0) hf0.1 rfl rfl X2_endMinute_w2 (Nat.le_of_ble_eq_true rfl) rfl X2_endMinute_k24 tyX2_ok nmX2 rfl (by decide +kernel) dX2_endMinute_7 ?_
  refine hj_iconst hX (v := (0 : Int32)) (by decide) dX2_endMinute_10 ?_
  refine hj_istore_n hX rfl (Nat.le_of_ble_eq_true rfl) (lv2 := [(2, .int (0 : Int32)), (0, .ref p0), (1, .ref p1)]) rfl dX2_endMinute_11 ?_
  refine hj_lv hX [1, 2, 0] (lv2 := [(0, .ref p0), (1, .ref p1), (2, .int (0 : Int32))]) rfl ?_
  exact X2_endMinute_l12_ok hX hf0 hf1 hF _ _ h)
def X2_goBy_h2 (p0 p1 : Nat) (k2 : Int32 → Int32 → hM → Option (Int32 × hM)) (v2 : Int32) (v3 : Int32) (I : hM) : Option (Int32 × hM) := if v2 ≤ v3 then (some (0, I)) else (ob (X2_beginDue p0 p1 I) (fun u1 Ia2 => ob (X2_worthOfAll p0 p1 Ia2) (fun u4 Ia5 => ob (X2_endMinute p0 p1 (hu Ia5 p0 1 ((Ia2 p0 1) + u4))) (fun u7 Ia8 => (k2 v2 (v3 + (1 : Int32)) Ia8)))))
def X2_goBy_l2 (p0 p1 : Nat) : Nat → Int32 → Int32 → hM → Option (Int32 × hM)
  | 0 => fun _ _ _ => none
  | n + 1 => X2_goBy_h2 p0 p1  (X2_goBy_l2 p0 p1  n)
def X2_goBy (p0 p1 : Nat) (v2 : Int32) (I : hM) : Option (Int32 × hM) := (X2_goBy_l2 p0 p1 hF v2 (0 : Int32) I)
theorem X2_goBy_hy : yX2_goBy.cls = RX2 ∧ yX2_goBy.cls ≠ "java/lang/invoke/MethodHandle" ∧ yX2_goBy.cls ≠ "java/lang/invoke/VarHandle" ∧ (parseMethodDescriptor yX2_goBy.desc).map (fun d => d.parameters.length) = some 2 := by decide +kernel
theorem X2_goBy_k28 : Cond.fieldLink RX2 28 "HatPins$Standing" "had" "I" ∈ wsX2_goBy := by decide +kernel
theorem X2_goBy_w2 : ∀ w ∈ wsX20, w ∈ wsX2_goBy := by decide +kernel
set_option maxHeartbeats 4000000 in
set_option maxRecDepth 100000 in
theorem X2_goBy_h2_ok {p : Program} {l : Launch} {e : Env} {s : State} {m : MethodId} {args : Array Value} {below : List Frame} {meth : Method} {c : Code} {D : va_G} {E : Nat → ClassId} {b z : Nat} {sh : List hS} {r : Int32} {I2 : hM} {p0 p1 : Nat} {k2 : Int32 → Int32 → hM → Option (Int32 × hM)} {v2 : Int32} {v3 : Int32} {I : hM} (hX : hp_X p s m args meth c yX2_goBy.cls cX2_goBy 4 wsX2_goBy D E none yX2_goBy.name) (hf0 : hq_X2 sh p0) (hf1 : hq_X0 sh p1) (hk2 : ∀ (v2 : Int32) (v3 : Int32) (I : hM), k2 v2 v3 I = some (r, I2) → hp_J p l e ({ frames := 4, cells := 0, slots := 0, locals := 44 * 4 }) s m args below meth c (MQ below (hp_Q D E b z none sh I2) args s 0 0 (fun q : Nat => b ≤ q)) D E b z 4 sh 0 0 I 2 [(0, .ref p0), (1, .ref p1), (2, .int v2), (3, .int v3)] []) (h : X2_goBy_h2 p0 p1 k2 v2 v3 I = some (r, I2)) : hp_J p l e ({ frames := 4, cells := 0, slots := 0, locals := 44 * 4 }) s m args below meth c (MQ below (hp_Q D E b z none sh I2) args s 0 0 (fun q : Nat => b ≤ q)) D E b z 4 sh 0 0 I 2 [(0, .ref p0), (1, .ref p1), (2, .int v2), (3, .int v3)] [] := by
  unfold X2_goBy_h2 at h
  refine hj_iload_n hX rfl 3 rfl dX2_goBy_2 ?_
  refine hj_iload_n hX rfl 2 rfl dX2_goBy_3 ?_
  refine hj_icmp_ge hX (tgt := 37) (by decide) dX2_goBy_4 h (fun h => ?_) (fun h => ?_)
  · exact hj_vret hX dX2_goBy_37 h
  · refine hj_aload_n hX rfl 0 rfl dX2_goBy_7 ?_
    refine hj_aload_n hX rfl 1 rfl dX2_goBy_8 ?_
    obtain ⟨u1, Ia2, hc3, h⟩ := ob_e h
    refine hj_callV hX (sh2 := sh) (I2 := Ia2) (r := none) (As := [.ref p1]) (rest := []) (st2 := []) (X2_beginDue_ok hf0 hf1 hc3) gX2_goBy_X2_beginDue rfl X2_beginDue_hy ⟨(Nat.le_of_ble_eq_true rfl), (Nat.le_of_ble_eq_true rfl)⟩ rfl hf0.1 rfl (Nat.le_of_ble_eq_true rfl) ⟨(Nat.le_of_ble_eq_true rfl), (Nat.le_of_ble_eq_true rfl)⟩ rfl rfl rfl dX2_goBy_9 ?_
    refine hj_aload_n hX rfl 0 rfl dX2_goBy_12 ?_
    refine hj_dup hX rfl dX2_goBy_13 ?_
    refine hj_geti hX (j := 1) hf0.1 rfl rfl X2_goBy_w2 (Nat.le_of_ble_eq_true rfl) rfl X2_goBy_k28 dX2_goBy_14 ?_
    refine hj_aload_n hX rfl 0 rfl dX2_goBy_17 ?_
    refine hj_aload_n hX rfl 1 rfl dX2_goBy_18 ?_
    obtain ⟨u4, Ia5, hc6, h⟩ := ob_e h
    refine hj_callV hX (sh2 := sh) (I2 := Ia5) (r := (some (.int u4))) (As := [.ref p1]) (rest := [.int (Ia2 p0 1), .ref p0]) (st2 := [.int u4, .int (Ia2 p0 1), .ref p0]) (X2_worthOfAll_ok hf0 hf1 hc6) gX2_goBy_X2_worthOfAll rfl X2_worthOfAll_hy ⟨(Nat.le_of_ble_eq_true rfl), (Nat.le_of_ble_eq_true rfl)⟩ rfl hf0.1 rfl (Nat.le_of_ble_eq_true rfl) ⟨(Nat.le_of_ble_eq_true rfl), (Nat.le_of_ble_eq_true rfl)⟩ rfl rfl rfl dX2_goBy_19 ?_
    refine hj_iadd hX dX2_goBy_22 ?_
    refine hj_puti hX (j := 1) hf0.1 rfl rfl X2_goBy_w2 (Nat.le_of_ble_eq_true rfl) rfl X2_goBy_k28 tyX2_ok nmX2 rfl (by decide +kernel) dX2_goBy_23 ?_
    refine hj_aload_n hX rfl 0 rfl dX2_goBy_26 ?_
    refine hj_aload_n hX rfl 1 rfl dX2_goBy_27 ?_
    obtain ⟨u7, Ia8, hc9, h⟩ := ob_e h
    refine hj_callV hX (sh2 := sh) (I2 := Ia8) (r := none) (As := [.ref p1]) (rest := []) (st2 := []) (X2_endMinute_ok hf0 hf1 hc9) gX2_goBy_X2_endMinute rfl X2_endMinute_hy ⟨(Nat.le_of_ble_eq_true rfl), (Nat.le_of_ble_eq_true rfl)⟩ rfl hf0.1 rfl (Nat.le_of_ble_eq_true rfl) ⟨(Nat.le_of_ble_eq_true rfl), (Nat.le_of_ble_eq_true rfl)⟩ rfl rfl rfl dX2_goBy_28 ?_
    refine hj_iinc hX (k1 := 3) (v := (v3 + (1 : Int32))) rfl rfl (Nat.le_of_ble_eq_true rfl) (lv2 := [(3, .int (v3 + (1 : Int32))), (0, .ref p0), (1, .ref p1), (2, .int v2)]) rfl dX2_goBy_31 ?_
    refine hj_goto hX (tgt := 2) (by decide) dX2_goBy_34 ?_
    refine hj_lv hX [1, 2, 3, 0] (lv2 := [(0, .ref p0), (1, .ref p1), (2, .int v2), (3, .int (v3 + (1 : Int32)))]) rfl ?_
    exact hk2 _ _ _ h
set_option maxHeartbeats 4000000 in
set_option maxRecDepth 100000 in
theorem X2_goBy_l2_ok {p : Program} {l : Launch} {e : Env} {s : State} {m : MethodId} {args : Array Value} {below : List Frame} {meth : Method} {c : Code} {D : va_G} {E : Nat → ClassId} {b z : Nat} {sh : List hS} {r : Int32} {I2 : hM} {p0 p1 : Nat} (hX : hp_X p s m args meth c yX2_goBy.cls cX2_goBy 4 wsX2_goBy D E none yX2_goBy.name) (hf0 : hq_X2 sh p0) (hf1 : hq_X0 sh p1) : ∀ (n : Nat) (v2 : Int32) (v3 : Int32) (I : hM), X2_goBy_l2 p0 p1 n v2 v3 I = some (r, I2) → hp_J p l e ({ frames := 4, cells := 0, slots := 0, locals := 44 * 4 }) s m args below meth c (MQ below (hp_Q D E b z none sh I2) args s 0 0 (fun q : Nat => b ≤ q)) D E b z 4 sh 0 0 I 2 [(0, .ref p0), (1, .ref p1), (2, .int v2), (3, .int v3)] [] := by
  intro n
  induction n with
  | zero => exact fun _ _ _ h => nomatch h
  | succ n ih => exact fun _ _ _ h => X2_goBy_h2_ok hX hf0 hf1 ih h
set_option maxHeartbeats 4000000 in
set_option maxRecDepth 100000 in
theorem X2_goBy_ok {sh : List hS} {r : Int32} {I I2 : hM} {p0 p1 : Nat} {v2 : Int32} (hf0 : hq_X2 sh p0) (hf1 : hq_X0 sh p1) (h : X2_goBy p0 p1 v2 I = some (r, I2)) : hp_C yX2_goBy wsX2_goBy 4 0 0 sh I [.ref p0, .ref p1, .int v2] none sh I2 := hp_start (cc := cX2_goBy) (maxL := 4) (ret := none) [(0, .ref p0), (1, .ref p1), (2, .int v2)] (by decide) rfl (fun _ _ => rfl) (fun _ _ => Nat.le_of_ble_eq_true rfl) (fun p l e s m below meth c D E b z hX _ => by
  unfold X2_goBy at h
  refine hj_iconst hX (v := (0 : Int32)) (by decide) dX2_goBy_0 ?_
  refine hj_istore_n hX rfl (Nat.le_of_ble_eq_true rfl) (lv2 := [(3, .int (0 : Int32)), (0, .ref p0), (1, .ref p1), (2, .int v2)]) rfl dX2_goBy_1 ?_
  refine hj_lv hX [1, 2, 3, 0] (lv2 := [(0, .ref p0), (1, .ref p1), (2, .int v2), (3, .int (0 : Int32))]) rfl ?_
  exact X2_goBy_l2_ok hX hf0 hf1 hF _ _ _ h)
def X2_canPin_b24 (p0 p1 : Nat) (v2 : Int32) (v3 : Int32) (t0 : Int32) (I : hM) : Option (Int32 × hM) := gd (hx v2 4) (if (I (p0 + 4) (v2).toNatClampNeg) ≤ 0 then (gd (decide ((0 : Int32) = (0 : Int32)) || decide ((0 : Int32) = (1 : Int32))) (some ((0 : Int32), I))) else (gd (hx v3 7) (if (I (p0 + 1) (v3).toNatClampNeg) = (1 : Int32) then (if t0 = 0 then (gd (decide ((0 : Int32) = (0 : Int32)) || decide ((0 : Int32) = (1 : Int32))) (some ((0 : Int32), I))) else (gd (decide ((1 : Int32) = (0 : Int32)) || decide ((1 : Int32) = (1 : Int32))) (some ((1 : Int32), I)))) else (gd (decide ((0 : Int32) = (0 : Int32)) || decide ((0 : Int32) = (1 : Int32))) (some ((0 : Int32), I))))))
def X2_canPin (p0 p1 : Nat) (v2 : Int32) (v3 : Int32) (I : hM) : Option (Int32 × hM) := gd (hx v2 4) (gd (hx v3 7) (if (((I (p1 + 10) (v2).toNatClampNeg) >>> ((I (p1 + 1) (v3).toNatClampNeg) &&& 31)) &&& (1 : Int32)) = (1 : Int32) then ((X2_canPin_b24 p0 p1 v2 v3 (1 : Int32) I)) else ((X2_canPin_b24 p0 p1 v2 v3 (0 : Int32) I))))
theorem X2_canPin_hy : yX2_canPin.cls = RX2 ∧ yX2_canPin.cls ≠ "java/lang/invoke/MethodHandle" ∧ yX2_canPin.cls ≠ "java/lang/invoke/VarHandle" ∧ (parseMethodDescriptor yX2_canPin.desc).map (fun d => d.parameters.length) = some 3 := by decide +kernel
theorem X2_canPin_k100 : Cond.fieldLink RX2 100 "HatPins$Evening" "reach" "[I" ∈ wsX2_canPin := by decide +kernel
theorem X2_canPin_k62 : Cond.fieldLink RX2 62 "HatPins$Evening" "kind" "[I" ∈ wsX2_canPin := by decide +kernel
theorem X2_canPin_k21 : Cond.fieldLink RX2 21 "HatPins$Standing" "pins" "[I" ∈ wsX2_canPin := by decide +kernel
theorem X2_canPin_k9 : Cond.fieldLink RX2 9 "HatPins$Standing" "state" "[I" ∈ wsX2_canPin := by decide +kernel
theorem X2_canPin_w0 : ∀ w ∈ wsX00, w ∈ wsX2_canPin := by decide +kernel
theorem X2_canPin_w2 : ∀ w ∈ wsX20, w ∈ wsX2_canPin := by decide +kernel
set_option maxHeartbeats 4000000 in
set_option maxRecDepth 100000 in
theorem X2_canPin_b24_ok {p : Program} {l : Launch} {e : Env} {s : State} {m : MethodId} {args : Array Value} {below : List Frame} {meth : Method} {c : Code} {D : va_G} {E : Nat → ClassId} {b z : Nat} {sh : List hS} {r : Int32} {I2 : hM} {p0 p1 : Nat} {v2 : Int32} {v3 : Int32} {t0 : Int32} {I : hM} (hX : hp_X p s m args meth c yX2_canPin.cls cX2_canPin 5 wsX2_canPin D E (some .boolean) yX2_canPin.name) (hf0 : hq_X2 sh p0) (hf1 : hq_X0 sh p1) (h : X2_canPin_b24 p0 p1 v2 v3 t0 I = some (r, I2)) : hp_J p l e ({ frames := 0, cells := 0, slots := 0, locals := 44 * 0 }) s m args below meth c (MQ below (hp_Q D E b z (some (.int r)) sh I2) args s 0 0 (fun q : Nat => b ≤ q)) D E b z 5 sh 0 0 I 24 [(0, .ref p0), (2, .int v2), (3, .int v3)] [.int t0] := by
  unfold X2_canPin_b24 at h
  refine hj_istore hX (Nat.le_of_ble_eq_true rfl) (lv2 := [(4, .int t0), (0, .ref p0), (2, .int v2), (3, .int v3)]) rfl dX2_canPin_24 ?_
  refine hj_aload_n hX rfl 1 rfl dX2_canPin_26 ?_
  refine hj_getr hX (j := 5) hf0.1 rfl rfl X2_canPin_w2 (Nat.le_of_ble_eq_true rfl) rfl X2_canPin_k21 dX2_canPin_27 ?_
  refine hj_iload_n hX rfl 2 rfl dX2_canPin_30 ?_
  refine hj_iald hX hf0.2.2.2.2 dX2_canPin_31 h (fun h => ?_)
  refine hj_if_le hX (tgt := 54) (by decide) dX2_canPin_32 h (fun h => ?_) (fun h => ?_)
  · refine hj_iconst hX (v := (0 : Int32)) (by decide) dX2_canPin_54 ?_
    exact hj_zret hX dX2_canPin_55 h
  · refine hj_aload_n hX rfl 1 rfl dX2_canPin_35 ?_
    refine hj_getr hX (j := 2) hf0.1 rfl rfl X2_canPin_w2 (Nat.le_of_ble_eq_true rfl) rfl X2_canPin_k9 dX2_canPin_36 ?_
    refine hj_iload_n hX rfl 3 rfl dX2_canPin_39 ?_
    refine hj_iald hX hf0.2.1 dX2_canPin_40 h (fun h => ?_)
    refine hj_iconst hX (v := (1 : Int32)) (by decide) dX2_canPin_41 ?_
    refine hj_icmp_ne hX (tgt := 54) (by decide) dX2_canPin_42 h (fun h => ?_) (fun h => ?_)
    · refine hj_iconst hX (v := (0 : Int32)) (by decide) dX2_canPin_54 ?_
      exact hj_zret hX dX2_canPin_55 h
    · refine hj_iload hX 0 rfl dX2_canPin_45 ?_
      refine hj_if_eq hX (tgt := 54) (by decide) dX2_canPin_47 h (fun h => ?_) (fun h => ?_)
      · refine hj_iconst hX (v := (0 : Int32)) (by decide) dX2_canPin_54 ?_
        exact hj_zret hX dX2_canPin_55 h
      · refine hj_iconst hX (v := (1 : Int32)) (by decide) dX2_canPin_50 ?_
        refine hj_goto hX (tgt := 55) (by decide) dX2_canPin_51 ?_
        exact hj_zret hX dX2_canPin_55 h
set_option maxHeartbeats 4000000 in
set_option maxRecDepth 100000 in
theorem X2_canPin_ok {sh : List hS} {r : Int32} {I I2 : hM} {p0 p1 : Nat} {v2 : Int32} {v3 : Int32} (hf0 : hq_X2 sh p0) (hf1 : hq_X0 sh p1) (h : X2_canPin p0 p1 v2 v3 I = some (r, I2)) : hp_C yX2_canPin wsX2_canPin 0 0 0 sh I [.ref p0, .ref p1, .int v2, .int v3] (some (.int r)) sh I2 := hp_start (cc := cX2_canPin) (maxL := 5) (ret := (some .boolean)) [(0, .ref p0), (1, .ref p1), (2, .int v2), (3, .int v3)] (by decide) rfl (fun _ _ => rfl) (fun _ _ => Nat.le_of_ble_eq_true rfl) (fun p l e s m below meth c D E b z hX _ => by
  unfold X2_canPin at h
  refine hj_aload_n hX rfl 1 rfl dX2_canPin_0 ?_
  refine hj_getr hX (j := 12) hf1.1 rfl rfl X2_canPin_w0 (Nat.le_of_ble_eq_true rfl) rfl X2_canPin_k100 dX2_canPin_1 ?_
  refine hj_iload_n hX rfl 2 rfl dX2_canPin_4 ?_
  refine hj_iald hX hf1.2.2.2.2.2.2.2.2.2.2 dX2_canPin_5 h (fun h => ?_)
  refine hj_aload_n hX rfl 1 rfl dX2_canPin_6 ?_
  refine hj_getr hX (j := 3) hf1.1 rfl rfl X2_canPin_w0 (Nat.le_of_ble_eq_true rfl) rfl X2_canPin_k62 dX2_canPin_7 ?_
  refine hj_iload_n hX rfl 3 rfl dX2_canPin_10 ?_
  refine hj_iald hX hf1.2.1 dX2_canPin_11 h (fun h => ?_)
  refine hj_ishr hX dX2_canPin_12 ?_
  refine hj_iconst hX (v := (1 : Int32)) (by decide) dX2_canPin_13 ?_
  refine hj_iand hX dX2_canPin_14 ?_
  refine hj_iconst hX (v := (1 : Int32)) (by decide) dX2_canPin_15 ?_
  refine hj_icmp_ne hX (tgt := 23) (by decide) dX2_canPin_16 h (fun h => ?_) (fun h => ?_)
  · refine hj_iconst hX (v := (0 : Int32)) (by decide) dX2_canPin_23 ?_
    refine hj_lv hX [0, 2, 3] (lv2 := [(0, .ref p0), (2, .int v2), (3, .int v3)]) rfl ?_
    exact X2_canPin_b24_ok hX hf0 hf1 h
  · refine hj_iconst hX (v := (1 : Int32)) (by decide) dX2_canPin_19 ?_
    refine hj_goto hX (tgt := 24) (by decide) dX2_canPin_20 ?_
    refine hj_lv hX [0, 2, 3] (lv2 := [(0, .ref p0), (2, .int v2), (3, .int v3)]) rfl ?_
    exact X2_canPin_b24_ok hX hf0 hf1 h)
def X2_pinBy (p0 p1 : Nat) (v2 : Int32) (v3 : Int32) (I : hM) : Option (Int32 × hM) := gd (hx v2 4) (gd (hx v2 4) (ob (X2_finish p0 p1 v3 (3 : Int32) (hu I (p0 + 4) (v2).toNatClampNeg ((I (p0 + 4) (v2).toNatClampNeg) - (1 : Int32)))) (fun u1 Ia2 => some (0, Ia2))))
theorem X2_pinBy_hy : yX2_pinBy.cls = RX2 ∧ yX2_pinBy.cls ≠ "java/lang/invoke/MethodHandle" ∧ yX2_pinBy.cls ≠ "java/lang/invoke/VarHandle" ∧ (parseMethodDescriptor yX2_pinBy.desc).map (fun d => d.parameters.length) = some 3 := by decide +kernel
theorem X2_pinBy_k21 : Cond.fieldLink RX2 21 "HatPins$Standing" "pins" "[I" ∈ wsX2_pinBy := by decide +kernel
theorem X2_pinBy_w2 : ∀ w ∈ wsX20, w ∈ wsX2_pinBy := by decide +kernel
set_option maxHeartbeats 4000000 in
set_option maxRecDepth 100000 in
theorem X2_pinBy_ok {sh : List hS} {r : Int32} {I I2 : hM} {p0 p1 : Nat} {v2 : Int32} {v3 : Int32} (hf0 : hq_X2 sh p0) (hf1 : hq_X0 sh p1) (h : X2_pinBy p0 p1 v2 v3 I = some (r, I2)) : hp_C yX2_pinBy wsX2_pinBy 2 0 0 sh I [.ref p0, .ref p1, .int v2, .int v3] none sh I2 := hp_start (cc := cX2_pinBy) (maxL := 4) (ret := none) [(0, .ref p0), (1, .ref p1), (2, .int v2), (3, .int v3)] (by decide) rfl (fun _ _ => rfl) (fun _ _ => Nat.le_of_ble_eq_true rfl) (fun p l e s m below meth c D E b z hX _ => by
  unfold X2_pinBy at h
  refine hj_aload_n hX rfl 0 rfl dX2_pinBy_0 ?_
  refine hj_getr hX (j := 5) hf0.1 rfl rfl X2_pinBy_w2 (Nat.le_of_ble_eq_true rfl) rfl X2_pinBy_k21 dX2_pinBy_1 ?_
  refine hj_iload_n hX rfl 2 rfl dX2_pinBy_4 ?_
  refine hj_dup2 hX rfl rfl dX2_pinBy_5 ?_
  refine hj_iald hX hf0.2.2.2.2 dX2_pinBy_6 h (fun h => ?_)
  refine hj_iconst hX (v := (1 : Int32)) (by decide) dX2_pinBy_7 ?_
  refine hj_isub hX dX2_pinBy_8 ?_
  refine hj_iast hX hf0.2.2.2.2 dX2_pinBy_9 h (fun h => ?_)
  refine hj_aload_n hX rfl 0 rfl dX2_pinBy_10 ?_
  refine hj_aload_n hX rfl 1 rfl dX2_pinBy_11 ?_
  refine hj_iload_n hX rfl 3 rfl dX2_pinBy_12 ?_
  refine hj_iconst hX (v := (3 : Int32)) (by decide) dX2_pinBy_13 ?_
  obtain ⟨u1, Ia2, hc3, h⟩ := ob_e h
  refine hj_callV hX (sh2 := sh) (I2 := Ia2) (r := none) (As := [.ref p1, .int v3, .int (3 : Int32)]) (rest := []) (st2 := []) (X2_finish_ok hf0 hf1 hc3) gX2_pinBy_X2_finish rfl X2_finish_hy ⟨(Nat.le_of_ble_eq_true rfl), (Nat.le_of_ble_eq_true rfl)⟩ rfl hf0.1 rfl (Nat.le_of_ble_eq_true rfl) ⟨(Nat.le_of_ble_eq_true rfl), (Nat.le_of_ble_eq_true rfl)⟩ rfl rfl rfl dX2_pinBy_14 ?_
  exact hj_vret hX dX2_pinBy_17 h)
def X2_lendPin (p0 : Nat) (v1 : Int32) (v2 : Int32) (I : hM) : Option (Int32 × hM) := gd (hx v1 4) (gd (hx v1 4) (gd (hx v2 4) (gd (hx v2 4) (some (0, (hu (hu I (p0 + 4) (v1).toNatClampNeg ((I (p0 + 4) (v1).toNatClampNeg) - (1 : Int32))) (p0 + 4) (v2).toNatClampNeg (((hu I (p0 + 4) (v1).toNatClampNeg ((I (p0 + 4) (v1).toNatClampNeg) - (1 : Int32))) (p0 + 4) (v2).toNatClampNeg) + (1 : Int32))))))))
theorem X2_lendPin_hy : yX2_lendPin.cls = RX2 ∧ yX2_lendPin.cls ≠ "java/lang/invoke/MethodHandle" ∧ yX2_lendPin.cls ≠ "java/lang/invoke/VarHandle" ∧ (parseMethodDescriptor yX2_lendPin.desc).map (fun d => d.parameters.length) = some 2 := by decide +kernel
theorem X2_lendPin_k21 : Cond.fieldLink RX2 21 "HatPins$Standing" "pins" "[I" ∈ wsX2_lendPin := by decide +kernel
theorem X2_lendPin_w2 : ∀ w ∈ wsX20, w ∈ wsX2_lendPin := by decide +kernel
set_option maxHeartbeats 4000000 in
set_option maxRecDepth 100000 in
theorem X2_lendPin_ok {sh : List hS} {r : Int32} {I I2 : hM} {p0 : Nat} {v1 : Int32} {v2 : Int32} (hf0 : hq_X2 sh p0) (h : X2_lendPin p0 v1 v2 I = some (r, I2)) : hp_C yX2_lendPin wsX2_lendPin 0 0 0 sh I [.ref p0, .int v1, .int v2] none sh I2 := hp_start (cc := cX2_lendPin) (maxL := 3) (ret := none) [(0, .ref p0), (1, .int v1), (2, .int v2)] (by decide) rfl (fun _ _ => rfl) (fun _ _ => Nat.le_of_ble_eq_true rfl) (fun p l e s m below meth c D E b z hX _ => by
  unfold X2_lendPin at h
  refine hj_aload_n hX rfl 0 rfl dX2_lendPin_0 ?_
  refine hj_getr hX (j := 5) hf0.1 rfl rfl X2_lendPin_w2 (Nat.le_of_ble_eq_true rfl) rfl X2_lendPin_k21 dX2_lendPin_1 ?_
  refine hj_iload_n hX rfl 1 rfl dX2_lendPin_4 ?_
  refine hj_dup2 hX rfl rfl dX2_lendPin_5 ?_
  refine hj_iald hX hf0.2.2.2.2 dX2_lendPin_6 h (fun h => ?_)
  refine hj_iconst hX (v := (1 : Int32)) (by decide) dX2_lendPin_7 ?_
  refine hj_isub hX dX2_lendPin_8 ?_
  refine hj_iast hX hf0.2.2.2.2 dX2_lendPin_9 h (fun h => ?_)
  refine hj_aload_n hX rfl 0 rfl dX2_lendPin_10 ?_
  refine hj_getr hX (j := 5) hf0.1 rfl rfl X2_lendPin_w2 (Nat.le_of_ble_eq_true rfl) rfl X2_lendPin_k21 dX2_lendPin_11 ?_
  refine hj_iload_n hX rfl 2 rfl dX2_lendPin_14 ?_
  refine hj_dup2 hX rfl rfl dX2_lendPin_15 ?_
  refine hj_iald hX hf0.2.2.2.2 dX2_lendPin_16 h (fun h => ?_)
  refine hj_iconst hX (v := (1 : Int32)) (by decide) dX2_lendPin_17 ?_
  refine hj_iadd hX dX2_lendPin_18 ?_
  refine hj_iast hX hf0.2.2.2.2 dX2_lendPin_19 h (fun h => ?_)
  exact hj_vret hX dX2_lendPin_20 h)
def X2_pinnableBy_h5 (p0 p1 : Nat) (k5 : Int32 → Int32 → Int32 → hM → Option (Int32 × hM)) (v2 : Int32) (v3 : Int32) (v4 : Int32) (I : hM) : Option (Int32 × hM) := if (I p1 0) ≤ v4 then (some (v3, I)) else (ob (X2_canPin p0 p1 v2 v4 I) (fun u1 Ia2 => if u1 = 0 then ((k5 v2 v3 (v4 + (1 : Int32)) Ia2)) else ((k5 v2 (v3 ||| ((1 : Int32) <<< (v4 &&& 31))) (v4 + (1 : Int32)) Ia2))))
def X2_pinnableBy_l5 (p0 p1 : Nat) : Nat → Int32 → Int32 → Int32 → hM → Option (Int32 × hM)
  | 0 => fun _ _ _ _ => none
  | n + 1 => X2_pinnableBy_h5 p0 p1  (X2_pinnableBy_l5 p0 p1  n)
def X2_pinnableBy (p0 p1 : Nat) (v2 : Int32) (I : hM) : Option (Int32 × hM) := (X2_pinnableBy_l5 p0 p1 hF v2 (0 : Int32) (0 : Int32) I)
theorem X2_pinnableBy_hy : yX2_pinnableBy.cls = RX2 ∧ yX2_pinnableBy.cls ≠ "java/lang/invoke/MethodHandle" ∧ yX2_pinnableBy.cls ≠ "java/lang/invoke/VarHandle" ∧ (parseMethodDescriptor yX2_pinnableBy.desc).map (fun d => d.parameters.length) = some 2 := by decide +kernel
theorem X2_pinnableBy_k55 : Cond.fieldLink RX2 55 "HatPins$Evening" "goings" "I" ∈ wsX2_pinnableBy := by decide +kernel
theorem X2_pinnableBy_w0 : ∀ w ∈ wsX00, w ∈ wsX2_pinnableBy := by decide +kernel
set_option maxHeartbeats 4000000 in
set_option maxRecDepth 100000 in
theorem X2_pinnableBy_h5_ok {p : Program} {l : Launch} {e : Env} {s : State} {m : MethodId} {args : Array Value} {below : List Frame} {meth : Method} {c : Code} {D : va_G} {E : Nat → ClassId} {b z : Nat} {sh : List hS} {r : Int32} {I2 : hM} {p0 p1 : Nat} {k5 : Int32 → Int32 → Int32 → hM → Option (Int32 × hM)} {v2 : Int32} {v3 : Int32} {v4 : Int32} {I : hM} (hX : hp_X p s m args meth c yX2_pinnableBy.cls cX2_pinnableBy 5 wsX2_pinnableBy D E (some .int) yX2_pinnableBy.name) (hf0 : hq_X2 sh p0) (hf1 : hq_X0 sh p1) (hk5 : ∀ (v2 : Int32) (v3 : Int32) (v4 : Int32) (I : hM), k5 v2 v3 v4 I = some (r, I2) → hp_J p l e ({ frames := 1, cells := 0, slots := 0, locals := 44 * 1 }) s m args below meth c (MQ below (hp_Q D E b z (some (.int r)) sh I2) args s 0 0 (fun q : Nat => b ≤ q)) D E b z 5 sh 0 0 I 5 [(0, .ref p0), (1, .ref p1), (2, .int v2), (3, .int v3), (4, .int v4)] []) (h : X2_pinnableBy_h5 p0 p1 k5 v2 v3 v4 I = some (r, I2)) : hp_J p l e ({ frames := 1, cells := 0, slots := 0, locals := 44 * 1 }) s m args below meth c (MQ below (hp_Q D E b z (some (.int r)) sh I2) args s 0 0 (fun q : Nat => b ≤ q)) D E b z 5 sh 0 0 I 5 [(0, .ref p0), (1, .ref p1), (2, .int v2), (3, .int v3), (4, .int v4)] [] := by
  unfold X2_pinnableBy_h5 at h
  refine hj_iload hX 4 rfl dX2_pinnableBy_5 ?_
  refine hj_aload_n hX rfl 1 rfl dX2_pinnableBy_7 ?_
  refine hj_geti hX (j := 0) hf1.1 rfl rfl X2_pinnableBy_w0 (Nat.le_of_ble_eq_true rfl) rfl X2_pinnableBy_k55 dX2_pinnableBy_8 ?_
  refine hj_icmp_ge hX (tgt := 38) (by decide) dX2_pinnableBy_11 h (fun h => ?_) (fun h => ?_)
  · refine hj_iload_n hX rfl 3 rfl dX2_pinnableBy_38 ?_
    exact hj_iret hX dX2_pinnableBy_39 h
  · refine hj_aload_n hX rfl 0 rfl dX2_pinnableBy_14 ?_
    refine hj_aload_n hX rfl 1 rfl dX2_pinnableBy_15 ?_
    refine hj_iload_n hX rfl 2 rfl dX2_pinnableBy_16 ?_
    refine hj_iload hX 4 rfl dX2_pinnableBy_17 ?_
    obtain ⟨u1, Ia2, hc3, h⟩ := ob_e h
    refine hj_callV hX (sh2 := sh) (I2 := Ia2) (r := (some (.int u1))) (As := [.ref p1, .int v2, .int v4]) (rest := []) (st2 := [.int u1]) (X2_canPin_ok hf0 hf1 hc3) gX2_pinnableBy_X2_canPin rfl X2_canPin_hy ⟨(Nat.le_of_ble_eq_true rfl), (Nat.le_of_ble_eq_true rfl)⟩ rfl hf0.1 rfl (Nat.le_of_ble_eq_true rfl) ⟨(Nat.le_of_ble_eq_true rfl), (Nat.le_of_ble_eq_true rfl)⟩ rfl rfl rfl dX2_pinnableBy_19 ?_
    refine hj_if_eq hX (tgt := 32) (by decide) dX2_pinnableBy_22 h (fun h => ?_) (fun h => ?_)
    · refine hj_iinc hX (k1 := 4) (v := (v4 + (1 : Int32))) rfl rfl (Nat.le_of_ble_eq_true rfl) (lv2 := [(4, .int (v4 + (1 : Int32))), (0, .ref p0), (1, .ref p1), (2, .int v2), (3, .int v3)]) rfl dX2_pinnableBy_32 ?_
      refine hj_goto hX (tgt := 5) (by decide) dX2_pinnableBy_35 ?_
      refine hj_lv hX [1, 2, 3, 4, 0] (lv2 := [(0, .ref p0), (1, .ref p1), (2, .int v2), (3, .int v3), (4, .int (v4 + (1 : Int32)))]) rfl ?_
      exact hk5 _ _ _ _ h
    · refine hj_iload_n hX rfl 3 rfl dX2_pinnableBy_25 ?_
      refine hj_iconst hX (v := (1 : Int32)) (by decide) dX2_pinnableBy_26 ?_
      refine hj_iload hX 4 rfl dX2_pinnableBy_27 ?_
      refine hj_ishl hX dX2_pinnableBy_29 ?_
      refine hj_ior hX dX2_pinnableBy_30 ?_
      refine hj_istore_n hX rfl (Nat.le_of_ble_eq_true rfl) (lv2 := [(3, .int (v3 ||| ((1 : Int32) <<< (v4 &&& 31)))), (0, .ref p0), (1, .ref p1), (2, .int v2), (4, .int v4)]) rfl dX2_pinnableBy_31 ?_
      refine hj_iinc hX (k1 := 4) (v := (v4 + (1 : Int32))) rfl rfl (Nat.le_of_ble_eq_true rfl) (lv2 := [(4, .int (v4 + (1 : Int32))), (3, .int (v3 ||| ((1 : Int32) <<< (v4 &&& 31)))), (0, .ref p0), (1, .ref p1), (2, .int v2)]) rfl dX2_pinnableBy_32 ?_
      refine hj_goto hX (tgt := 5) (by decide) dX2_pinnableBy_35 ?_
      refine hj_lv hX [2, 3, 4, 1, 0] (lv2 := [(0, .ref p0), (1, .ref p1), (2, .int v2), (3, .int (v3 ||| ((1 : Int32) <<< (v4 &&& 31)))), (4, .int (v4 + (1 : Int32)))]) rfl ?_
      exact hk5 _ _ _ _ h
set_option maxHeartbeats 4000000 in
set_option maxRecDepth 100000 in
theorem X2_pinnableBy_l5_ok {p : Program} {l : Launch} {e : Env} {s : State} {m : MethodId} {args : Array Value} {below : List Frame} {meth : Method} {c : Code} {D : va_G} {E : Nat → ClassId} {b z : Nat} {sh : List hS} {r : Int32} {I2 : hM} {p0 p1 : Nat} (hX : hp_X p s m args meth c yX2_pinnableBy.cls cX2_pinnableBy 5 wsX2_pinnableBy D E (some .int) yX2_pinnableBy.name) (hf0 : hq_X2 sh p0) (hf1 : hq_X0 sh p1) : ∀ (n : Nat) (v2 : Int32) (v3 : Int32) (v4 : Int32) (I : hM), X2_pinnableBy_l5 p0 p1 n v2 v3 v4 I = some (r, I2) → hp_J p l e ({ frames := 1, cells := 0, slots := 0, locals := 44 * 1 }) s m args below meth c (MQ below (hp_Q D E b z (some (.int r)) sh I2) args s 0 0 (fun q : Nat => b ≤ q)) D E b z 5 sh 0 0 I 5 [(0, .ref p0), (1, .ref p1), (2, .int v2), (3, .int v3), (4, .int v4)] [] := by
  intro n
  induction n with
  | zero => exact fun _ _ _ _ h => nomatch h
  | succ n ih => exact fun _ _ _ _ h => X2_pinnableBy_h5_ok hX hf0 hf1 ih h
set_option maxHeartbeats 4000000 in
set_option maxRecDepth 100000 in
theorem X2_pinnableBy_ok {sh : List hS} {r : Int32} {I I2 : hM} {p0 p1 : Nat} {v2 : Int32} (hf0 : hq_X2 sh p0) (hf1 : hq_X0 sh p1) (h : X2_pinnableBy p0 p1 v2 I = some (r, I2)) : hp_C yX2_pinnableBy wsX2_pinnableBy 1 0 0 sh I [.ref p0, .ref p1, .int v2] (some (.int r)) sh I2 := hp_start (cc := cX2_pinnableBy) (maxL := 5) (ret := (some .int)) [(0, .ref p0), (1, .ref p1), (2, .int v2)] (by decide) rfl (fun _ _ => rfl) (fun _ _ => Nat.le_of_ble_eq_true rfl) (fun p l e s m below meth c D E b z hX _ => by
  unfold X2_pinnableBy at h
  refine hj_iconst hX (v := (0 : Int32)) (by decide) dX2_pinnableBy_0 ?_
  refine hj_istore_n hX rfl (Nat.le_of_ble_eq_true rfl) (lv2 := [(3, .int (0 : Int32)), (0, .ref p0), (1, .ref p1), (2, .int v2)]) rfl dX2_pinnableBy_1 ?_
  refine hj_iconst hX (v := (0 : Int32)) (by decide) dX2_pinnableBy_2 ?_
  refine hj_istore hX (Nat.le_of_ble_eq_true rfl) (lv2 := [(4, .int (0 : Int32)), (3, .int (0 : Int32)), (0, .ref p0), (1, .ref p1), (2, .int v2)]) rfl dX2_pinnableBy_3 ?_
  refine hj_lv hX [2, 3, 4, 1, 0] (lv2 := [(0, .ref p0), (1, .ref p1), (2, .int v2), (3, .int (0 : Int32)), (4, .int (0 : Int32))]) rfl ?_
  exact X2_pinnableBy_l5_ok hX hf0 hf1 hF _ _ _ _ h)
def X2_onBits_h4 (p0 p1 : Nat) (k4 : Int32 → Int32 → hM → Option (Int32 × hM)) (v2 : Int32) (v3 : Int32) (I : hM) : Option (Int32 × hM) := if (I p1 0) ≤ v3 then (some (v2, I)) else (gd (hx v3 7) (if (I (p0 + 1) (v3).toNatClampNeg) = (1 : Int32) then ((k4 (v2 ||| ((1 : Int32) <<< (v3 &&& 31))) (v3 + (1 : Int32)) I)) else ((k4 v2 (v3 + (1 : Int32)) I))))
def X2_onBits_l4 (p0 p1 : Nat) : Nat → Int32 → Int32 → hM → Option (Int32 × hM)
  | 0 => fun _ _ _ => none
  | n + 1 => X2_onBits_h4 p0 p1  (X2_onBits_l4 p0 p1  n)
def X2_onBits (p0 p1 : Nat) (I : hM) : Option (Int32 × hM) := (X2_onBits_l4 p0 p1 hF (0 : Int32) (0 : Int32) I)
theorem X2_onBits_hy : yX2_onBits.cls = RX2 ∧ yX2_onBits.cls ≠ "java/lang/invoke/MethodHandle" ∧ yX2_onBits.cls ≠ "java/lang/invoke/VarHandle" ∧ (parseMethodDescriptor yX2_onBits.desc).map (fun d => d.parameters.length) = some 1 := by decide +kernel
theorem X2_onBits_k55 : Cond.fieldLink RX2 55 "HatPins$Evening" "goings" "I" ∈ wsX2_onBits := by decide +kernel
theorem X2_onBits_k9 : Cond.fieldLink RX2 9 "HatPins$Standing" "state" "[I" ∈ wsX2_onBits := by decide +kernel
theorem X2_onBits_w0 : ∀ w ∈ wsX00, w ∈ wsX2_onBits := by decide +kernel
theorem X2_onBits_w2 : ∀ w ∈ wsX20, w ∈ wsX2_onBits := by decide +kernel
set_option maxHeartbeats 4000000 in
set_option maxRecDepth 100000 in
theorem X2_onBits_h4_ok {p : Program} {l : Launch} {e : Env} {s : State} {m : MethodId} {args : Array Value} {below : List Frame} {meth : Method} {c : Code} {D : va_G} {E : Nat → ClassId} {b z : Nat} {sh : List hS} {r : Int32} {I2 : hM} {p0 p1 : Nat} {k4 : Int32 → Int32 → hM → Option (Int32 × hM)} {v2 : Int32} {v3 : Int32} {I : hM} (hX : hp_X p s m args meth c yX2_onBits.cls cX2_onBits 4 wsX2_onBits D E (some .int) yX2_onBits.name) (hf0 : hq_X2 sh p0) (hf1 : hq_X0 sh p1) (hk4 : ∀ (v2 : Int32) (v3 : Int32) (I : hM), k4 v2 v3 I = some (r, I2) → hp_J p l e ({ frames := 0, cells := 0, slots := 0, locals := 44 * 0 }) s m args below meth c (MQ below (hp_Q D E b z (some (.int r)) sh I2) args s 0 0 (fun q : Nat => b ≤ q)) D E b z 4 sh 0 0 I 4 [(0, .ref p0), (1, .ref p1), (2, .int v2), (3, .int v3)] []) (h : X2_onBits_h4 p0 p1 k4 v2 v3 I = some (r, I2)) : hp_J p l e ({ frames := 0, cells := 0, slots := 0, locals := 44 * 0 }) s m args below meth c (MQ below (hp_Q D E b z (some (.int r)) sh I2) args s 0 0 (fun q : Nat => b ≤ q)) D E b z 4 sh 0 0 I 4 [(0, .ref p0), (1, .ref p1), (2, .int v2), (3, .int v3)] [] := by
  unfold X2_onBits_h4 at h
  refine hj_iload_n hX rfl 3 rfl dX2_onBits_4 ?_
  refine hj_aload_n hX rfl 1 rfl dX2_onBits_5 ?_
  refine hj_geti hX (j := 0) hf1.1 rfl rfl X2_onBits_w0 (Nat.le_of_ble_eq_true rfl) rfl X2_onBits_k55 dX2_onBits_6 ?_
  refine hj_icmp_ge hX (tgt := 34) (by decide) dX2_onBits_9 h (fun h => ?_) (fun h => ?_)
  · refine hj_iload_n hX rfl 2 rfl dX2_onBits_34 ?_
    exact hj_iret hX dX2_onBits_35 h
  · refine hj_aload_n hX rfl 0 rfl dX2_onBits_12 ?_
    refine hj_getr hX (j := 2) hf0.1 rfl rfl X2_onBits_w2 (Nat.le_of_ble_eq_true rfl) rfl X2_onBits_k9 dX2_onBits_13 ?_
    refine hj_iload_n hX rfl 3 rfl dX2_onBits_16 ?_
    refine hj_iald hX hf0.2.1 dX2_onBits_17 h (fun h => ?_)
    refine hj_iconst hX (v := (1 : Int32)) (by decide) dX2_onBits_18 ?_
    refine hj_icmp_ne hX (tgt := 28) (by decide) dX2_onBits_19 h (fun h => ?_) (fun h => ?_)
    · refine hj_iinc hX (k1 := 3) (v := (v3 + (1 : Int32))) rfl rfl (Nat.le_of_ble_eq_true rfl) (lv2 := [(3, .int (v3 + (1 : Int32))), (0, .ref p0), (1, .ref p1), (2, .int v2)]) rfl dX2_onBits_28 ?_
      refine hj_goto hX (tgt := 4) (by decide) dX2_onBits_31 ?_
      refine hj_lv hX [1, 2, 3, 0] (lv2 := [(0, .ref p0), (1, .ref p1), (2, .int v2), (3, .int (v3 + (1 : Int32)))]) rfl ?_
      exact hk4 _ _ _ h
    · refine hj_iload_n hX rfl 2 rfl dX2_onBits_22 ?_
      refine hj_iconst hX (v := (1 : Int32)) (by decide) dX2_onBits_23 ?_
      refine hj_iload_n hX rfl 3 rfl dX2_onBits_24 ?_
      refine hj_ishl hX dX2_onBits_25 ?_
      refine hj_ior hX dX2_onBits_26 ?_
      refine hj_istore_n hX rfl (Nat.le_of_ble_eq_true rfl) (lv2 := [(2, .int (v2 ||| ((1 : Int32) <<< (v3 &&& 31)))), (0, .ref p0), (1, .ref p1), (3, .int v3)]) rfl dX2_onBits_27 ?_
      refine hj_iinc hX (k1 := 3) (v := (v3 + (1 : Int32))) rfl rfl (Nat.le_of_ble_eq_true rfl) (lv2 := [(3, .int (v3 + (1 : Int32))), (2, .int (v2 ||| ((1 : Int32) <<< (v3 &&& 31)))), (0, .ref p0), (1, .ref p1)]) rfl dX2_onBits_28 ?_
      refine hj_goto hX (tgt := 4) (by decide) dX2_onBits_31 ?_
      refine hj_lv hX [2, 3, 1, 0] (lv2 := [(0, .ref p0), (1, .ref p1), (2, .int (v2 ||| ((1 : Int32) <<< (v3 &&& 31)))), (3, .int (v3 + (1 : Int32)))]) rfl ?_
      exact hk4 _ _ _ h
set_option maxHeartbeats 4000000 in
set_option maxRecDepth 100000 in
theorem X2_onBits_l4_ok {p : Program} {l : Launch} {e : Env} {s : State} {m : MethodId} {args : Array Value} {below : List Frame} {meth : Method} {c : Code} {D : va_G} {E : Nat → ClassId} {b z : Nat} {sh : List hS} {r : Int32} {I2 : hM} {p0 p1 : Nat} (hX : hp_X p s m args meth c yX2_onBits.cls cX2_onBits 4 wsX2_onBits D E (some .int) yX2_onBits.name) (hf0 : hq_X2 sh p0) (hf1 : hq_X0 sh p1) : ∀ (n : Nat) (v2 : Int32) (v3 : Int32) (I : hM), X2_onBits_l4 p0 p1 n v2 v3 I = some (r, I2) → hp_J p l e ({ frames := 0, cells := 0, slots := 0, locals := 44 * 0 }) s m args below meth c (MQ below (hp_Q D E b z (some (.int r)) sh I2) args s 0 0 (fun q : Nat => b ≤ q)) D E b z 4 sh 0 0 I 4 [(0, .ref p0), (1, .ref p1), (2, .int v2), (3, .int v3)] [] := by
  intro n
  induction n with
  | zero => exact fun _ _ _ h => nomatch h
  | succ n ih => exact fun _ _ _ h => X2_onBits_h4_ok hX hf0 hf1 ih h
set_option maxHeartbeats 4000000 in
set_option maxRecDepth 100000 in
theorem X2_onBits_ok {sh : List hS} {r : Int32} {I I2 : hM} {p0 p1 : Nat} (hf0 : hq_X2 sh p0) (hf1 : hq_X0 sh p1) (h : X2_onBits p0 p1 I = some (r, I2)) : hp_C yX2_onBits wsX2_onBits 0 0 0 sh I [.ref p0, .ref p1] (some (.int r)) sh I2 := hp_start (cc := cX2_onBits) (maxL := 4) (ret := (some .int)) [(0, .ref p0), (1, .ref p1)] (by decide) rfl (fun _ _ => rfl) (fun _ _ => Nat.le_of_ble_eq_true rfl) (fun p l e s m below meth c D E b z hX _ => by
  unfold X2_onBits at h
  refine hj_iconst hX (v := (0 : Int32)) (by decide) dX2_onBits_0 ?_
  refine hj_istore_n hX rfl (Nat.le_of_ble_eq_true rfl) (lv2 := [(2, .int (0 : Int32)), (0, .ref p0), (1, .ref p1)]) rfl dX2_onBits_1 ?_
  refine hj_iconst hX (v := (0 : Int32)) (by decide) dX2_onBits_2 ?_
  refine hj_istore_n hX rfl (Nat.le_of_ble_eq_true rfl) (lv2 := [(3, .int (0 : Int32)), (2, .int (0 : Int32)), (0, .ref p0), (1, .ref p1)]) rfl dX2_onBits_3 ?_
  refine hj_lv hX [2, 3, 1, 0] (lv2 := [(0, .ref p0), (1, .ref p1), (2, .int (0 : Int32)), (3, .int (0 : Int32))]) rfl ?_
  exact X2_onBits_l4_ok hX hf0 hf1 hF _ _ _ h)
def X2_soonBits_h4 (p0 p1 : Nat) (k4 : Int32 → Int32 → hM → Option (Int32 × hM)) (v2 : Int32) (v3 : Int32) (I : hM) : Option (Int32 × hM) := if (I p1 0) ≤ v3 then (some (v2, I)) else (gd (hx v3 7) (if (I (p0 + 1) (v3).toNatClampNeg) = 0 then (gd (hx v3 7) (if ((I p0 0) + (9 : Int32)) ≤ (I (p0 + 2) (v3).toNatClampNeg) then ((k4 v2 (v3 + (1 : Int32)) I)) else ((k4 (v2 ||| ((1 : Int32) <<< (v3 &&& 31))) (v3 + (1 : Int32)) I)))) else ((k4 v2 (v3 + (1 : Int32)) I))))
def X2_soonBits_l4 (p0 p1 : Nat) : Nat → Int32 → Int32 → hM → Option (Int32 × hM)
  | 0 => fun _ _ _ => none
  | n + 1 => X2_soonBits_h4 p0 p1  (X2_soonBits_l4 p0 p1  n)
def X2_soonBits (p0 p1 : Nat) (I : hM) : Option (Int32 × hM) := (X2_soonBits_l4 p0 p1 hF (0 : Int32) (0 : Int32) I)
theorem X2_soonBits_hy : yX2_soonBits.cls = RX2 ∧ yX2_soonBits.cls ≠ "java/lang/invoke/MethodHandle" ∧ yX2_soonBits.cls ≠ "java/lang/invoke/VarHandle" ∧ (parseMethodDescriptor yX2_soonBits.desc).map (fun d => d.parameters.length) = some 1 := by decide +kernel
theorem X2_soonBits_k55 : Cond.fieldLink RX2 55 "HatPins$Evening" "goings" "I" ∈ wsX2_soonBits := by decide +kernel
theorem X2_soonBits_k9 : Cond.fieldLink RX2 9 "HatPins$Standing" "state" "[I" ∈ wsX2_soonBits := by decide +kernel
theorem X2_soonBits_k15 : Cond.fieldLink RX2 15 "HatPins$Standing" "due" "[I" ∈ wsX2_soonBits := by decide +kernel
theorem X2_soonBits_k24 : Cond.fieldLink RX2 24 "HatPins$Standing" "minute" "I" ∈ wsX2_soonBits := by decide +kernel
theorem X2_soonBits_w0 : ∀ w ∈ wsX00, w ∈ wsX2_soonBits := by decide +kernel
theorem X2_soonBits_w2 : ∀ w ∈ wsX20, w ∈ wsX2_soonBits := by decide +kernel
set_option maxHeartbeats 4000000 in
set_option maxRecDepth 100000 in
theorem X2_soonBits_h4_ok {p : Program} {l : Launch} {e : Env} {s : State} {m : MethodId} {args : Array Value} {below : List Frame} {meth : Method} {c : Code} {D : va_G} {E : Nat → ClassId} {b z : Nat} {sh : List hS} {r : Int32} {I2 : hM} {p0 p1 : Nat} {k4 : Int32 → Int32 → hM → Option (Int32 × hM)} {v2 : Int32} {v3 : Int32} {I : hM} (hX : hp_X p s m args meth c yX2_soonBits.cls cX2_soonBits 4 wsX2_soonBits D E (some .int) yX2_soonBits.name) (hf0 : hq_X2 sh p0) (hf1 : hq_X0 sh p1) (hk4 : ∀ (v2 : Int32) (v3 : Int32) (I : hM), k4 v2 v3 I = some (r, I2) → hp_J p l e ({ frames := 0, cells := 0, slots := 0, locals := 44 * 0 }) s m args below meth c (MQ below (hp_Q D E b z (some (.int r)) sh I2) args s 0 0 (fun q : Nat => b ≤ q)) D E b z 4 sh 0 0 I 4 [(0, .ref p0), (1, .ref p1), (2, .int v2), (3, .int v3)] []) (h : X2_soonBits_h4 p0 p1 k4 v2 v3 I = some (r, I2)) : hp_J p l e ({ frames := 0, cells := 0, slots := 0, locals := 44 * 0 }) s m args below meth c (MQ below (hp_Q D E b z (some (.int r)) sh I2) args s 0 0 (fun q : Nat => b ≤ q)) D E b z 4 sh 0 0 I 4 [(0, .ref p0), (1, .ref p1), (2, .int v2), (3, .int v3)] [] := by
  unfold X2_soonBits_h4 at h
  refine hj_iload_n hX rfl 3 rfl dX2_soonBits_4 ?_
  refine hj_aload_n hX rfl 1 rfl dX2_soonBits_5 ?_
  refine hj_geti hX (j := 0) hf1.1 rfl rfl X2_soonBits_w0 (Nat.le_of_ble_eq_true rfl) rfl X2_soonBits_k55 dX2_soonBits_6 ?_
  refine hj_icmp_ge hX (tgt := 49) (by decide) dX2_soonBits_9 h (fun h => ?_) (fun h => ?_)
  · refine hj_iload_n hX rfl 2 rfl dX2_soonBits_49 ?_
    exact hj_iret hX dX2_soonBits_50 h
  · refine hj_aload_n hX rfl 0 rfl dX2_soonBits_12 ?_
    refine hj_getr hX (j := 2) hf0.1 rfl rfl X2_soonBits_w2 (Nat.le_of_ble_eq_true rfl) rfl X2_soonBits_k9 dX2_soonBits_13 ?_
    refine hj_iload_n hX rfl 3 rfl dX2_soonBits_16 ?_
    refine hj_iald hX hf0.2.1 dX2_soonBits_17 h (fun h => ?_)
    refine hj_if_ne hX (tgt := 43) (by decide) dX2_soonBits_18 h (fun h => ?_) (fun h => ?_)
    · refine hj_iinc hX (k1 := 3) (v := (v3 + (1 : Int32))) rfl rfl (Nat.le_of_ble_eq_true rfl) (lv2 := [(3, .int (v3 + (1 : Int32))), (0, .ref p0), (1, .ref p1), (2, .int v2)]) rfl dX2_soonBits_43 ?_
      refine hj_goto hX (tgt := 4) (by decide) dX2_soonBits_46 ?_
      refine hj_lv hX [1, 2, 3, 0] (lv2 := [(0, .ref p0), (1, .ref p1), (2, .int v2), (3, .int (v3 + (1 : Int32)))]) rfl ?_
      exact hk4 _ _ _ h
    · refine hj_aload_n hX rfl 0 rfl dX2_soonBits_21 ?_
      refine hj_getr hX (j := 3) hf0.1 rfl rfl X2_soonBits_w2 (Nat.le_of_ble_eq_true rfl) rfl X2_soonBits_k15 dX2_soonBits_22 ?_
      refine hj_iload_n hX rfl 3 rfl dX2_soonBits_25 ?_
      refine hj_iald hX hf0.2.2.1 dX2_soonBits_26 h (fun h => ?_)
      refine hj_aload_n hX rfl 0 rfl dX2_soonBits_27 ?_
      refine hj_geti hX (j := 0) hf0.1 rfl rfl X2_soonBits_w2 (Nat.le_of_ble_eq_true rfl) rfl X2_soonBits_k24 dX2_soonBits_28 ?_
      refine hj_bipush hX (v := (9 : Int32)) (by decide) dX2_soonBits_31 ?_
      refine hj_iadd hX dX2_soonBits_33 ?_
      refine hj_icmp_ge hX (tgt := 43) (by decide) dX2_soonBits_34 h (fun h => ?_) (fun h => ?_)
      · refine hj_iinc hX (k1 := 3) (v := (v3 + (1 : Int32))) rfl rfl (Nat.le_of_ble_eq_true rfl) (lv2 := [(3, .int (v3 + (1 : Int32))), (0, .ref p0), (1, .ref p1), (2, .int v2)]) rfl dX2_soonBits_43 ?_
        refine hj_goto hX (tgt := 4) (by decide) dX2_soonBits_46 ?_
        refine hj_lv hX [1, 2, 3, 0] (lv2 := [(0, .ref p0), (1, .ref p1), (2, .int v2), (3, .int (v3 + (1 : Int32)))]) rfl ?_
        exact hk4 _ _ _ h
      · refine hj_iload_n hX rfl 2 rfl dX2_soonBits_37 ?_
        refine hj_iconst hX (v := (1 : Int32)) (by decide) dX2_soonBits_38 ?_
        refine hj_iload_n hX rfl 3 rfl dX2_soonBits_39 ?_
        refine hj_ishl hX dX2_soonBits_40 ?_
        refine hj_ior hX dX2_soonBits_41 ?_
        refine hj_istore_n hX rfl (Nat.le_of_ble_eq_true rfl) (lv2 := [(2, .int (v2 ||| ((1 : Int32) <<< (v3 &&& 31)))), (0, .ref p0), (1, .ref p1), (3, .int v3)]) rfl dX2_soonBits_42 ?_
        refine hj_iinc hX (k1 := 3) (v := (v3 + (1 : Int32))) rfl rfl (Nat.le_of_ble_eq_true rfl) (lv2 := [(3, .int (v3 + (1 : Int32))), (2, .int (v2 ||| ((1 : Int32) <<< (v3 &&& 31)))), (0, .ref p0), (1, .ref p1)]) rfl dX2_soonBits_43 ?_
        refine hj_goto hX (tgt := 4) (by decide) dX2_soonBits_46 ?_
        refine hj_lv hX [2, 3, 1, 0] (lv2 := [(0, .ref p0), (1, .ref p1), (2, .int (v2 ||| ((1 : Int32) <<< (v3 &&& 31)))), (3, .int (v3 + (1 : Int32)))]) rfl ?_
        exact hk4 _ _ _ h
set_option maxHeartbeats 4000000 in
set_option maxRecDepth 100000 in
theorem X2_soonBits_l4_ok {p : Program} {l : Launch} {e : Env} {s : State} {m : MethodId} {args : Array Value} {below : List Frame} {meth : Method} {c : Code} {D : va_G} {E : Nat → ClassId} {b z : Nat} {sh : List hS} {r : Int32} {I2 : hM} {p0 p1 : Nat} (hX : hp_X p s m args meth c yX2_soonBits.cls cX2_soonBits 4 wsX2_soonBits D E (some .int) yX2_soonBits.name) (hf0 : hq_X2 sh p0) (hf1 : hq_X0 sh p1) : ∀ (n : Nat) (v2 : Int32) (v3 : Int32) (I : hM), X2_soonBits_l4 p0 p1 n v2 v3 I = some (r, I2) → hp_J p l e ({ frames := 0, cells := 0, slots := 0, locals := 44 * 0 }) s m args below meth c (MQ below (hp_Q D E b z (some (.int r)) sh I2) args s 0 0 (fun q : Nat => b ≤ q)) D E b z 4 sh 0 0 I 4 [(0, .ref p0), (1, .ref p1), (2, .int v2), (3, .int v3)] [] := by
  intro n
  induction n with
  | zero => exact fun _ _ _ h => nomatch h
  | succ n ih => exact fun _ _ _ h => X2_soonBits_h4_ok hX hf0 hf1 ih h
set_option maxHeartbeats 4000000 in
set_option maxRecDepth 100000 in
theorem X2_soonBits_ok {sh : List hS} {r : Int32} {I I2 : hM} {p0 p1 : Nat} (hf0 : hq_X2 sh p0) (hf1 : hq_X0 sh p1) (h : X2_soonBits p0 p1 I = some (r, I2)) : hp_C yX2_soonBits wsX2_soonBits 0 0 0 sh I [.ref p0, .ref p1] (some (.int r)) sh I2 := hp_start (cc := cX2_soonBits) (maxL := 4) (ret := (some .int)) [(0, .ref p0), (1, .ref p1)] (by decide) rfl (fun _ _ => rfl) (fun _ _ => Nat.le_of_ble_eq_true rfl) (fun p l e s m below meth c D E b z hX _ => by
  unfold X2_soonBits at h
  refine hj_iconst hX (v := (0 : Int32)) (by decide) dX2_soonBits_0 ?_
  refine hj_istore_n hX rfl (Nat.le_of_ble_eq_true rfl) (lv2 := [(2, .int (0 : Int32)), (0, .ref p0), (1, .ref p1)]) rfl dX2_soonBits_1 ?_
  refine hj_iconst hX (v := (0 : Int32)) (by decide) dX2_soonBits_2 ?_
  refine hj_istore_n hX rfl (Nat.le_of_ble_eq_true rfl) (lv2 := [(3, .int (0 : Int32)), (2, .int (0 : Int32)), (0, .ref p0), (1, .ref p1)]) rfl dX2_soonBits_3 ?_
  refine hj_lv hX [2, 3, 1, 0] (lv2 := [(0, .ref p0), (1, .ref p1), (2, .int (0 : Int32)), (3, .int (0 : Int32))]) rfl ?_
  exact X2_soonBits_l4_ok hX hf0 hf1 hF _ _ _ h)
def X2_whenOf (p0 : Nat) (v1 : Int32) (I : hM) : Option (Int32 × hM) := gd (hx v1 7) (if (I (p0 + 1) (v1).toNatClampNeg) = 0 then (gd (hx v1 7) (if (I (p0 + 2) (v1).toNatClampNeg) = (1000000 : Int32) then (some ((-4 : Int32), I)) else (gd (hx v1 7) (some ((I (p0 + 2) (v1).toNatClampNeg), I))))) else (gd (hx v1 7) (some ((I (p0 + 3) (v1).toNatClampNeg), I))))
theorem X2_whenOf_hy : yX2_whenOf.cls = RX2 ∧ yX2_whenOf.cls ≠ "java/lang/invoke/MethodHandle" ∧ yX2_whenOf.cls ≠ "java/lang/invoke/VarHandle" ∧ (parseMethodDescriptor yX2_whenOf.desc).map (fun d => d.parameters.length) = some 1 := by decide +kernel
theorem X2_whenOf_k9 : Cond.fieldLink RX2 9 "HatPins$Standing" "state" "[I" ∈ wsX2_whenOf := by decide +kernel
theorem X2_whenOf_k15 : Cond.fieldLink RX2 15 "HatPins$Standing" "due" "[I" ∈ wsX2_whenOf := by decide +kernel
theorem X2_whenOf_k18 : Cond.fieldLink RX2 18 "HatPins$Standing" "began" "[I" ∈ wsX2_whenOf := by decide +kernel
theorem X2_whenOf_mc36 : Cond.constant RX2 36 (1000000) ∈ wsX2_whenOf := by decide +kernel
theorem X2_whenOf_w2 : ∀ w ∈ wsX20, w ∈ wsX2_whenOf := by decide +kernel
set_option maxHeartbeats 4000000 in
set_option maxRecDepth 100000 in
theorem X2_whenOf_ok {sh : List hS} {r : Int32} {I I2 : hM} {p0 : Nat} {v1 : Int32} (hf0 : hq_X2 sh p0) (h : X2_whenOf p0 v1 I = some (r, I2)) : hp_C yX2_whenOf wsX2_whenOf 0 0 0 sh I [.ref p0, .int v1] (some (.int r)) sh I2 := hp_start (cc := cX2_whenOf) (maxL := 2) (ret := (some .int)) [(0, .ref p0), (1, .int v1)] (by decide) rfl (fun _ _ => rfl) (fun _ _ => Nat.le_of_ble_eq_true rfl) (fun p l e s m below meth c D E b z hX _ => by
  unfold X2_whenOf at h
  refine hj_aload_n hX rfl 0 rfl dX2_whenOf_0 ?_
  refine hj_getr hX (j := 2) hf0.1 rfl rfl X2_whenOf_w2 (Nat.le_of_ble_eq_true rfl) rfl X2_whenOf_k9 dX2_whenOf_1 ?_
  refine hj_iload_n hX rfl 1 rfl dX2_whenOf_4 ?_
  refine hj_iald hX hf0.2.1 dX2_whenOf_5 h (fun h => ?_)
  refine hj_if_eq hX (tgt := 16) (by decide) dX2_whenOf_6 h (fun h => ?_) (fun h => ?_)
  · refine hj_aload_n hX rfl 0 rfl dX2_whenOf_16 ?_
    refine hj_getr hX (j := 3) hf0.1 rfl rfl X2_whenOf_w2 (Nat.le_of_ble_eq_true rfl) rfl X2_whenOf_k15 dX2_whenOf_17 ?_
    refine hj_iload_n hX rfl 1 rfl dX2_whenOf_20 ?_
    refine hj_iald hX hf0.2.2.1 dX2_whenOf_21 h (fun h => ?_)
    refine hj_ldc hX (v := 1000000) X2_whenOf_mc36 dX2_whenOf_22 ?_
    refine hj_icmp_ne hX (tgt := 32) (by decide) dX2_whenOf_24 h (fun h => ?_) (fun h => ?_)
    · refine hj_aload_n hX rfl 0 rfl dX2_whenOf_32 ?_
      refine hj_getr hX (j := 3) hf0.1 rfl rfl X2_whenOf_w2 (Nat.le_of_ble_eq_true rfl) rfl X2_whenOf_k15 dX2_whenOf_33 ?_
      refine hj_iload_n hX rfl 1 rfl dX2_whenOf_36 ?_
      refine hj_iald hX hf0.2.2.1 dX2_whenOf_37 h (fun h => ?_)
      exact hj_iret hX dX2_whenOf_38 h
    · refine hj_bipush hX (v := (-4 : Int32)) (by decide) dX2_whenOf_27 ?_
      refine hj_goto hX (tgt := 38) (by decide) dX2_whenOf_29 ?_
      exact hj_iret hX dX2_whenOf_38 h
  · refine hj_aload_n hX rfl 0 rfl dX2_whenOf_9 ?_
    refine hj_getr hX (j := 4) hf0.1 rfl rfl X2_whenOf_w2 (Nat.le_of_ble_eq_true rfl) rfl X2_whenOf_k18 dX2_whenOf_10 ?_
    refine hj_iload_n hX rfl 1 rfl dX2_whenOf_13 ?_
    refine hj_iald hX hf0.2.2.2.1 dX2_whenOf_14 h (fun h => ?_)
    exact hj_iret hX dX2_whenOf_15 h)
def X2_howMany_h5 (p0 p1 : Nat) (k5 : Int32 → Int32 → Int32 → hM → Option (Int32 × hM)) (v2 : Int32) (v3 : Int32) (v4 : Int32) (I : hM) : Option (Int32 × hM) := if (I p1 0) ≤ v4 then (some (v3, I)) else (gd (hx v4 7) (if (I (p0 + 1) (v4).toNatClampNeg) = v2 then ((k5 v2 (v3 + (1 : Int32)) (v4 + (1 : Int32)) I)) else ((k5 v2 v3 (v4 + (1 : Int32)) I))))
def X2_howMany_l5 (p0 p1 : Nat) : Nat → Int32 → Int32 → Int32 → hM → Option (Int32 × hM)
  | 0 => fun _ _ _ _ => none
  | n + 1 => X2_howMany_h5 p0 p1  (X2_howMany_l5 p0 p1  n)
def X2_howMany (p0 p1 : Nat) (v2 : Int32) (I : hM) : Option (Int32 × hM) := (X2_howMany_l5 p0 p1 hF v2 (0 : Int32) (0 : Int32) I)
theorem X2_howMany_hy : yX2_howMany.cls = RX2 ∧ yX2_howMany.cls ≠ "java/lang/invoke/MethodHandle" ∧ yX2_howMany.cls ≠ "java/lang/invoke/VarHandle" ∧ (parseMethodDescriptor yX2_howMany.desc).map (fun d => d.parameters.length) = some 2 := by decide +kernel
theorem X2_howMany_k55 : Cond.fieldLink RX2 55 "HatPins$Evening" "goings" "I" ∈ wsX2_howMany := by decide +kernel
theorem X2_howMany_k9 : Cond.fieldLink RX2 9 "HatPins$Standing" "state" "[I" ∈ wsX2_howMany := by decide +kernel
theorem X2_howMany_w0 : ∀ w ∈ wsX00, w ∈ wsX2_howMany := by decide +kernel
theorem X2_howMany_w2 : ∀ w ∈ wsX20, w ∈ wsX2_howMany := by decide +kernel
set_option maxHeartbeats 4000000 in
set_option maxRecDepth 100000 in
theorem X2_howMany_h5_ok {p : Program} {l : Launch} {e : Env} {s : State} {m : MethodId} {args : Array Value} {below : List Frame} {meth : Method} {c : Code} {D : va_G} {E : Nat → ClassId} {b z : Nat} {sh : List hS} {r : Int32} {I2 : hM} {p0 p1 : Nat} {k5 : Int32 → Int32 → Int32 → hM → Option (Int32 × hM)} {v2 : Int32} {v3 : Int32} {v4 : Int32} {I : hM} (hX : hp_X p s m args meth c yX2_howMany.cls cX2_howMany 5 wsX2_howMany D E (some .int) yX2_howMany.name) (hf0 : hq_X2 sh p0) (hf1 : hq_X0 sh p1) (hk5 : ∀ (v2 : Int32) (v3 : Int32) (v4 : Int32) (I : hM), k5 v2 v3 v4 I = some (r, I2) → hp_J p l e ({ frames := 0, cells := 0, slots := 0, locals := 44 * 0 }) s m args below meth c (MQ below (hp_Q D E b z (some (.int r)) sh I2) args s 0 0 (fun q : Nat => b ≤ q)) D E b z 5 sh 0 0 I 5 [(0, .ref p0), (1, .ref p1), (2, .int v2), (3, .int v3), (4, .int v4)] []) (h : X2_howMany_h5 p0 p1 k5 v2 v3 v4 I = some (r, I2)) : hp_J p l e ({ frames := 0, cells := 0, slots := 0, locals := 44 * 0 }) s m args below meth c (MQ below (hp_Q D E b z (some (.int r)) sh I2) args s 0 0 (fun q : Nat => b ≤ q)) D E b z 5 sh 0 0 I 5 [(0, .ref p0), (1, .ref p1), (2, .int v2), (3, .int v3), (4, .int v4)] [] := by
  unfold X2_howMany_h5 at h
  refine hj_iload hX 4 rfl dX2_howMany_5 ?_
  refine hj_aload_n hX rfl 1 rfl dX2_howMany_7 ?_
  refine hj_geti hX (j := 0) hf1.1 rfl rfl X2_howMany_w0 (Nat.le_of_ble_eq_true rfl) rfl X2_howMany_k55 dX2_howMany_8 ?_
  refine hj_icmp_ge hX (tgt := 34) (by decide) dX2_howMany_11 h (fun h => ?_) (fun h => ?_)
  · refine hj_iload_n hX rfl 3 rfl dX2_howMany_34 ?_
    exact hj_iret hX dX2_howMany_35 h
  · refine hj_aload_n hX rfl 0 rfl dX2_howMany_14 ?_
    refine hj_getr hX (j := 2) hf0.1 rfl rfl X2_howMany_w2 (Nat.le_of_ble_eq_true rfl) rfl X2_howMany_k9 dX2_howMany_15 ?_
    refine hj_iload hX 4 rfl dX2_howMany_18 ?_
    refine hj_iald hX hf0.2.1 dX2_howMany_20 h (fun h => ?_)
    refine hj_iload_n hX rfl 2 rfl dX2_howMany_21 ?_
    refine hj_icmp_ne hX (tgt := 28) (by decide) dX2_howMany_22 h (fun h => ?_) (fun h => ?_)
    · refine hj_iinc hX (k1 := 4) (v := (v4 + (1 : Int32))) rfl rfl (Nat.le_of_ble_eq_true rfl) (lv2 := [(4, .int (v4 + (1 : Int32))), (0, .ref p0), (1, .ref p1), (2, .int v2), (3, .int v3)]) rfl dX2_howMany_28 ?_
      refine hj_goto hX (tgt := 5) (by decide) dX2_howMany_31 ?_
      refine hj_lv hX [1, 2, 3, 4, 0] (lv2 := [(0, .ref p0), (1, .ref p1), (2, .int v2), (3, .int v3), (4, .int (v4 + (1 : Int32)))]) rfl ?_
      exact hk5 _ _ _ _ h
    · refine hj_iinc hX (k1 := 3) (v := (v3 + (1 : Int32))) rfl rfl (Nat.le_of_ble_eq_true rfl) (lv2 := [(3, .int (v3 + (1 : Int32))), (0, .ref p0), (1, .ref p1), (2, .int v2), (4, .int v4)]) rfl dX2_howMany_25 ?_
      refine hj_iinc hX (k1 := 4) (v := (v4 + (1 : Int32))) rfl rfl (Nat.le_of_ble_eq_true rfl) (lv2 := [(4, .int (v4 + (1 : Int32))), (3, .int (v3 + (1 : Int32))), (0, .ref p0), (1, .ref p1), (2, .int v2)]) rfl dX2_howMany_28 ?_
      refine hj_goto hX (tgt := 5) (by decide) dX2_howMany_31 ?_
      refine hj_lv hX [2, 3, 4, 1, 0] (lv2 := [(0, .ref p0), (1, .ref p1), (2, .int v2), (3, .int (v3 + (1 : Int32))), (4, .int (v4 + (1 : Int32)))]) rfl ?_
      exact hk5 _ _ _ _ h
set_option maxHeartbeats 4000000 in
set_option maxRecDepth 100000 in
theorem X2_howMany_l5_ok {p : Program} {l : Launch} {e : Env} {s : State} {m : MethodId} {args : Array Value} {below : List Frame} {meth : Method} {c : Code} {D : va_G} {E : Nat → ClassId} {b z : Nat} {sh : List hS} {r : Int32} {I2 : hM} {p0 p1 : Nat} (hX : hp_X p s m args meth c yX2_howMany.cls cX2_howMany 5 wsX2_howMany D E (some .int) yX2_howMany.name) (hf0 : hq_X2 sh p0) (hf1 : hq_X0 sh p1) : ∀ (n : Nat) (v2 : Int32) (v3 : Int32) (v4 : Int32) (I : hM), X2_howMany_l5 p0 p1 n v2 v3 v4 I = some (r, I2) → hp_J p l e ({ frames := 0, cells := 0, slots := 0, locals := 44 * 0 }) s m args below meth c (MQ below (hp_Q D E b z (some (.int r)) sh I2) args s 0 0 (fun q : Nat => b ≤ q)) D E b z 5 sh 0 0 I 5 [(0, .ref p0), (1, .ref p1), (2, .int v2), (3, .int v3), (4, .int v4)] [] := by
  intro n
  induction n with
  | zero => exact fun _ _ _ _ h => nomatch h
  | succ n ih => exact fun _ _ _ _ h => X2_howMany_h5_ok hX hf0 hf1 ih h
set_option maxHeartbeats 4000000 in
set_option maxRecDepth 100000 in
theorem X2_howMany_ok {sh : List hS} {r : Int32} {I I2 : hM} {p0 p1 : Nat} {v2 : Int32} (hf0 : hq_X2 sh p0) (hf1 : hq_X0 sh p1) (h : X2_howMany p0 p1 v2 I = some (r, I2)) : hp_C yX2_howMany wsX2_howMany 0 0 0 sh I [.ref p0, .ref p1, .int v2] (some (.int r)) sh I2 := hp_start (cc := cX2_howMany) (maxL := 5) (ret := (some .int)) [(0, .ref p0), (1, .ref p1), (2, .int v2)] (by decide) rfl (fun _ _ => rfl) (fun _ _ => Nat.le_of_ble_eq_true rfl) (fun p l e s m below meth c D E b z hX _ => by
  unfold X2_howMany at h
  refine hj_iconst hX (v := (0 : Int32)) (by decide) dX2_howMany_0 ?_
  refine hj_istore_n hX rfl (Nat.le_of_ble_eq_true rfl) (lv2 := [(3, .int (0 : Int32)), (0, .ref p0), (1, .ref p1), (2, .int v2)]) rfl dX2_howMany_1 ?_
  refine hj_iconst hX (v := (0 : Int32)) (by decide) dX2_howMany_2 ?_
  refine hj_istore hX (Nat.le_of_ble_eq_true rfl) (lv2 := [(4, .int (0 : Int32)), (3, .int (0 : Int32)), (0, .ref p0), (1, .ref p1), (2, .int v2)]) rfl dX2_howMany_3 ?_
  refine hj_lv hX [2, 3, 4, 1, 0] (lv2 := [(0, .ref p0), (1, .ref p1), (2, .int v2), (3, .int (0 : Int32)), (4, .int (0 : Int32))]) rfl ?_
  exact X2_howMany_l5_ok hX hf0 hf1 hF _ _ _ _ h)
def X2_pinsOfAll_h4 (p0 p1 : Nat) (k4 : Int32 → Int32 → hM → Option (Int32 × hM)) (v2 : Int32) (v3 : Int32) (I : hM) : Option (Int32 × hM) := if (I p1 2) ≤ v3 then (some (v2, I)) else (gd (hx v3 4) ((k4 (v2 + (I (p0 + 4) (v3).toNatClampNeg)) (v3 + (1 : Int32)) I)))
def X2_pinsOfAll_l4 (p0 p1 : Nat) : Nat → Int32 → Int32 → hM → Option (Int32 × hM)
  | 0 => fun _ _ _ => none
  | n + 1 => X2_pinsOfAll_h4 p0 p1  (X2_pinsOfAll_l4 p0 p1  n)
def X2_pinsOfAll (p0 p1 : Nat) (I : hM) : Option (Int32 × hM) := (X2_pinsOfAll_l4 p0 p1 hF (0 : Int32) (0 : Int32) I)
theorem X2_pinsOfAll_hy : yX2_pinsOfAll.cls = RX2 ∧ yX2_pinsOfAll.cls ≠ "java/lang/invoke/MethodHandle" ∧ yX2_pinsOfAll.cls ≠ "java/lang/invoke/VarHandle" ∧ (parseMethodDescriptor yX2_pinsOfAll.desc).map (fun d => d.parameters.length) = some 1 := by decide +kernel
theorem X2_pinsOfAll_k107 : Cond.fieldLink RX2 107 "HatPins$Evening" "ladies" "I" ∈ wsX2_pinsOfAll := by decide +kernel
theorem X2_pinsOfAll_k21 : Cond.fieldLink RX2 21 "HatPins$Standing" "pins" "[I" ∈ wsX2_pinsOfAll := by decide +kernel
theorem X2_pinsOfAll_w0 : ∀ w ∈ wsX00, w ∈ wsX2_pinsOfAll := by decide +kernel
theorem X2_pinsOfAll_w2 : ∀ w ∈ wsX20, w ∈ wsX2_pinsOfAll := by decide +kernel
set_option maxHeartbeats 4000000 in
set_option maxRecDepth 100000 in
theorem X2_pinsOfAll_h4_ok {p : Program} {l : Launch} {e : Env} {s : State} {m : MethodId} {args : Array Value} {below : List Frame} {meth : Method} {c : Code} {D : va_G} {E : Nat → ClassId} {b z : Nat} {sh : List hS} {r : Int32} {I2 : hM} {p0 p1 : Nat} {k4 : Int32 → Int32 → hM → Option (Int32 × hM)} {v2 : Int32} {v3 : Int32} {I : hM} (hX : hp_X p s m args meth c yX2_pinsOfAll.cls cX2_pinsOfAll 4 wsX2_pinsOfAll D E (some .int) yX2_pinsOfAll.name) (hf0 : hq_X2 sh p0) (hf1 : hq_X0 sh p1) (hk4 : ∀ (v2 : Int32) (v3 : Int32) (I : hM), k4 v2 v3 I = some (r, I2) → hp_J p l e ({ frames := 0, cells := 0, slots := 0, locals := 44 * 0 }) s m args below meth c (MQ below (hp_Q D E b z (some (.int r)) sh I2) args s 0 0 (fun q : Nat => b ≤ q)) D E b z 4 sh 0 0 I 4 [(0, .ref p0), (1, .ref p1), (2, .int v2), (3, .int v3)] []) (h : X2_pinsOfAll_h4 p0 p1 k4 v2 v3 I = some (r, I2)) : hp_J p l e ({ frames := 0, cells := 0, slots := 0, locals := 44 * 0 }) s m args below meth c (MQ below (hp_Q D E b z (some (.int r)) sh I2) args s 0 0 (fun q : Nat => b ≤ q)) D E b z 4 sh 0 0 I 4 [(0, .ref p0), (1, .ref p1), (2, .int v2), (3, .int v3)] [] := by
  unfold X2_pinsOfAll_h4 at h
  refine hj_iload_n hX rfl 3 rfl dX2_pinsOfAll_4 ?_
  refine hj_aload_n hX rfl 1 rfl dX2_pinsOfAll_5 ?_
  refine hj_geti hX (j := 2) hf1.1 rfl rfl X2_pinsOfAll_w0 (Nat.le_of_ble_eq_true rfl) rfl X2_pinsOfAll_k107 dX2_pinsOfAll_6 ?_
  refine hj_icmp_ge hX (tgt := 27) (by decide) dX2_pinsOfAll_9 h (fun h => ?_) (fun h => ?_)
  · refine hj_iload_n hX rfl 2 rfl dX2_pinsOfAll_27 ?_
    exact hj_iret hX dX2_pinsOfAll_28 h
  · refine hj_iload_n hX rfl 2 rfl dX2_pinsOfAll_12 ?_
    refine hj_aload_n hX rfl 0 rfl dX2_pinsOfAll_13 ?_
    refine hj_getr hX (j := 5) hf0.1 rfl rfl X2_pinsOfAll_w2 (Nat.le_of_ble_eq_true rfl) rfl X2_pinsOfAll_k21 dX2_pinsOfAll_14 ?_
    refine hj_iload_n hX rfl 3 rfl dX2_pinsOfAll_17 ?_
    refine hj_iald hX hf0.2.2.2.2 dX2_pinsOfAll_18 h (fun h => ?_)
    refine hj_iadd hX dX2_pinsOfAll_19 ?_
    refine hj_istore_n hX rfl (Nat.le_of_ble_eq_true rfl) (lv2 := [(2, .int (v2 + (I (p0 + 4) (v3).toNatClampNeg))), (0, .ref p0), (1, .ref p1), (3, .int v3)]) rfl dX2_pinsOfAll_20 ?_
    refine hj_iinc hX (k1 := 3) (v := (v3 + (1 : Int32))) rfl rfl (Nat.le_of_ble_eq_true rfl) (lv2 := [(3, .int (v3 + (1 : Int32))), (2, .int (v2 + (I (p0 + 4) (v3).toNatClampNeg))), (0, .ref p0), (1, .ref p1)]) rfl dX2_pinsOfAll_21 ?_
    refine hj_goto hX (tgt := 4) (by decide) dX2_pinsOfAll_24 ?_
    refine hj_lv hX [2, 3, 1, 0] (lv2 := [(0, .ref p0), (1, .ref p1), (2, .int (v2 + (I (p0 + 4) (v3).toNatClampNeg))), (3, .int (v3 + (1 : Int32)))]) rfl ?_
    exact hk4 _ _ _ h
set_option maxHeartbeats 4000000 in
set_option maxRecDepth 100000 in
theorem X2_pinsOfAll_l4_ok {p : Program} {l : Launch} {e : Env} {s : State} {m : MethodId} {args : Array Value} {below : List Frame} {meth : Method} {c : Code} {D : va_G} {E : Nat → ClassId} {b z : Nat} {sh : List hS} {r : Int32} {I2 : hM} {p0 p1 : Nat} (hX : hp_X p s m args meth c yX2_pinsOfAll.cls cX2_pinsOfAll 4 wsX2_pinsOfAll D E (some .int) yX2_pinsOfAll.name) (hf0 : hq_X2 sh p0) (hf1 : hq_X0 sh p1) : ∀ (n : Nat) (v2 : Int32) (v3 : Int32) (I : hM), X2_pinsOfAll_l4 p0 p1 n v2 v3 I = some (r, I2) → hp_J p l e ({ frames := 0, cells := 0, slots := 0, locals := 44 * 0 }) s m args below meth c (MQ below (hp_Q D E b z (some (.int r)) sh I2) args s 0 0 (fun q : Nat => b ≤ q)) D E b z 4 sh 0 0 I 4 [(0, .ref p0), (1, .ref p1), (2, .int v2), (3, .int v3)] [] := by
  intro n
  induction n with
  | zero => exact fun _ _ _ h => nomatch h
  | succ n ih => exact fun _ _ _ h => X2_pinsOfAll_h4_ok hX hf0 hf1 ih h
set_option maxHeartbeats 4000000 in
set_option maxRecDepth 100000 in
theorem X2_pinsOfAll_ok {sh : List hS} {r : Int32} {I I2 : hM} {p0 p1 : Nat} (hf0 : hq_X2 sh p0) (hf1 : hq_X0 sh p1) (h : X2_pinsOfAll p0 p1 I = some (r, I2)) : hp_C yX2_pinsOfAll wsX2_pinsOfAll 0 0 0 sh I [.ref p0, .ref p1] (some (.int r)) sh I2 := hp_start (cc := cX2_pinsOfAll) (maxL := 4) (ret := (some .int)) [(0, .ref p0), (1, .ref p1)] (by decide) rfl (fun _ _ => rfl) (fun _ _ => Nat.le_of_ble_eq_true rfl) (fun p l e s m below meth c D E b z hX _ => by
  unfold X2_pinsOfAll at h
  refine hj_iconst hX (v := (0 : Int32)) (by decide) dX2_pinsOfAll_0 ?_
  refine hj_istore_n hX rfl (Nat.le_of_ble_eq_true rfl) (lv2 := [(2, .int (0 : Int32)), (0, .ref p0), (1, .ref p1)]) rfl dX2_pinsOfAll_1 ?_
  refine hj_iconst hX (v := (0 : Int32)) (by decide) dX2_pinsOfAll_2 ?_
  refine hj_istore_n hX rfl (Nat.le_of_ble_eq_true rfl) (lv2 := [(3, .int (0 : Int32)), (2, .int (0 : Int32)), (0, .ref p0), (1, .ref p1)]) rfl dX2_pinsOfAll_3 ?_
  refine hj_lv hX [2, 3, 1, 0] (lv2 := [(0, .ref p0), (1, .ref p1), (2, .int (0 : Int32)), (3, .int (0 : Int32))]) rfl ?_
  exact X2_pinsOfAll_l4_ok hX hf0 hf1 hF _ _ _ h)
