def hpS : List hS := [(0, 4, [some (some 1), some (some 4), some (some 15), some (some 26), some (some 31), some (some 36), some (some 78), some (some 90), some (some 91), none]), (0, 3, [some (some 2), none, some (some 3), none]), (1, 200, []), (1, 5, []), (0, 0, [none, none, none, some (some 5), some (some 6), some (some 7), some (some 8), some (some 9), some (some 10), some (some 11), some (some 12), some (some 13), some (some 14)]), (1, 7, []), (1, 7, []), (1, 7, []), (1, 7, []), (1, 7, []), (1, 6, []), (1, 6, []), (1, 6, []), (1, 4, []), (1, 4, []), (0, 0, [none, none, none, some (some 16), some (some 17), some (some 18), some (some 19), some (some 20), some (some 21), some (some 22), some (some 23), some (some 24), some (some 25)]), (1, 7, []), (1, 7, []), (1, 7, []), (1, 7, []), (1, 7, []), (1, 6, []), (1, 6, []), (1, 6, []), (1, 4, []), (1, 4, []), (0, 2, [none, none, some (some 27), some (some 28), some (some 29), some (some 30)]), (1, 7, []), (1, 7, []), (1, 7, []), (1, 4, []), (0, 2, [none, none, some (some 32), some (some 33), some (some 34), some (some 35)]), (1, 7, []), (1, 7, []), (1, 7, []), (1, 4, []), (0, 1, [some (some 37), none]), (3, 8, []), (0, 2, [none, none, some (some 39), some (some 40), some (some 41), some (some 42)]), (1, 7, []), (1, 7, []), (1, 7, []), (1, 4, []), (0, 2, [none, none, some (some 44), some (some 45), some (some 46), some (some 47)]), (1, 7, []), (1, 7, []), (1, 7, []), (1, 4, []), (0, 2, [none, none, some (some 49), some (some 50), some (some 51), some (some 52)]), (1, 7, []), (1, 7, []), (1, 7, []), (1, 4, []), (0, 2, [none, none, some (some 54), some (some 55), some (some 56), some (some 57)]), (1, 7, []), (1, 7, []), (1, 7, []), (1, 4, []), (0, 2, [none, none, some (some 59), some (some 60), some (some 61), some (some 62)]), (1, 7, []), (1, 7, []), (1, 7, []), (1, 4, []), (0, 2, [none, none, some (some 64), some (some 65), some (some 66), some (some 67)]), (1, 7, []), (1, 7, []), (1, 7, []), (1, 4, []), (0, 2, [none, none, some (some 69), some (some 70), some (some 71), some (some 72)]), (1, 7, []), (1, 7, []), (1, 7, []), (1, 4, []), (0, 2, [none, none, some (some 74), some (some 75), some (some 76), some (some 77)]), (1, 7, []), (1, 7, []), (1, 7, []), (1, 4, []), (0, 1, [some (some 79), none]), (3, 2, []), (0, 2, [none, none, some (some 81), some (some 82), some (some 83), some (some 84)]), (1, 7, []), (1, 7, []), (1, 7, []), (1, 4, []), (0, 2, [none, none, some (some 86), some (some 87), some (some 88), some (some 89)]), (1, 7, []), (1, 7, []), (1, 7, []), (1, 4, []), (1, 8, []), (1, 8, []), (0, 5, [none, some (some 93), some (some 94), some (some 95), some (some 96), some (some 97), none, some (some 98), some (some 99), some (some 100), none, some (some 101), some (some 102), none, some (some 103), some (some 104), some (some 105), some (some 106), some (some 107), none, some (some 108), some (some 109), some (some 110), none, some (some 111), some (some 112), some (some 113), none, none, none, some (some 114), none, none, none, none, some (some 115), some (some 116), none, none]), (1, 7, []), (1, 7, []), (1, 7, []), (1, 7, []), (1, 7, []), (1, 6, []), (1, 6, []), (1, 6, []), (1, 4, []), (1, 4, []), (1, 7, []), (1, 7, []), (1, 7, []), (1, 7, []), (1, 7, []), (1, 6, []), (1, 6, []), (1, 6, []), (1, 4, []), (1, 4, []), (1, 240, []), (2, 200, []), (1, 8, []), (1, 8, [])]
def hpT (n : Nat) : List hS := (hpS.drop 1).take (n - 1)
def hpC : List hS := hpS.take 92
def hZ0 : hM := fun _ _ => 0
theorem hq_X4_of {sh : List hS} (h : ∀ k, k < 92 → sh[k]? = hpS[k]?) : hq_X4 sh := by
  have e : ∀ k c, k < 92 → hpS[k]? = some c → sh[k]? = some c := fun k c h1 h2 => by rw [h k h1]; exact h2
  refine ⟨e _ _ (by decide) rfl, ⟨e _ _ (by decide) rfl, e _ _ (by decide) rfl, e _ _ (by decide) rfl⟩, ?_, ?_, ?_, ?_, ⟨e _ _ (by decide) rfl, e _ _ (by decide) rfl⟩, ⟨e _ _ (by decide) rfl, e _ _ (by decide) rfl⟩, e _ _ (by decide) rfl, e _ _ (by decide) rfl, ?_⟩
  · exact ⟨e _ _ (by decide) rfl, e _ _ (by decide) rfl, e _ _ (by decide) rfl, e _ _ (by decide) rfl, e _ _ (by decide) rfl, e _ _ (by decide) rfl, e _ _ (by decide) rfl, e _ _ (by decide) rfl, e _ _ (by decide) rfl, e _ _ (by decide) rfl, e _ _ (by decide) rfl⟩
  · exact ⟨e _ _ (by decide) rfl, e _ _ (by decide) rfl, e _ _ (by decide) rfl, e _ _ (by decide) rfl, e _ _ (by decide) rfl, e _ _ (by decide) rfl, e _ _ (by decide) rfl, e _ _ (by decide) rfl, e _ _ (by decide) rfl, e _ _ (by decide) rfl, e _ _ (by decide) rfl⟩
  · exact ⟨e _ _ (by decide) rfl, e _ _ (by decide) rfl, e _ _ (by decide) rfl, e _ _ (by decide) rfl, e _ _ (by decide) rfl⟩
  · exact ⟨e _ _ (by decide) rfl, e _ _ (by decide) rfl, e _ _ (by decide) rfl, e _ _ (by decide) rfl, e _ _ (by decide) rfl⟩
  · intro k hk
    have hk := of_decide_eq_true hk
    simp only [List.mem_cons, List.not_mem_nil, or_false] at hk
    rcases hk with rfl | rfl | rfl | rfl | rfl | rfl | rfl | rfl | rfl | rfl <;> exact ⟨e _ _ (by decide) rfl, e _ _ (by decide) rfl, e _ _ (by decide) rfl, e _ _ (by decide) rfl, e _ _ (by decide) rfl⟩
theorem hq_X5_of {sh : List hS} (h : ∀ k, k < 117 → sh[k]? = hpS[k]?) : hq_X5 sh := by
  have e : ∀ k c, k < 117 → hpS[k]? = some c → sh[k]? = some c := fun k c h1 h2 => by rw [h k h1]; exact h2
  exact ⟨e _ _ (by decide) rfl, e _ _ (by decide) rfl, e _ _ (by decide) rfl, e _ _ (by decide) rfl, e _ _ (by decide) rfl, e _ _ (by decide) rfl, e _ _ (by decide) rfl, e _ _ (by decide) rfl, e _ _ (by decide) rfl, e _ _ (by decide) rfl, e _ _ (by decide) rfl, e _ _ (by decide) rfl, e _ _ (by decide) rfl, e _ _ (by decide) rfl, e _ _ (by decide) rfl, e _ _ (by decide) rfl, e _ _ (by decide) rfl, e _ _ (by decide) rfl, e _ _ (by decide) rfl, e _ _ (by decide) rfl, e _ _ (by decide) rfl, e _ _ (by decide) rfl, e _ _ (by decide) rfl, e _ _ (by decide) rfl, e _ _ (by decide) rfl⟩
def hW1 : hM := (hu (hu (hu (hu (hu (hu (hu (hu (hn hZ0 37) 37 0 (nI 38)) 37 1 (nI 43)) 37 2 (nI 48)) 37 3 (nI 53)) 37 4 (nI 58)) 37 5 (nI 63)) 37 6 (nI 68)) 37 7 (nI 73))
def hW2 : hM := (hu (hu (hn hW1 79) 79 0 (nI 80)) 79 1 (nI 85))
theorem hW1_0 (k : Nat) (h : 37 < k) : hW1 k = fun _ => 0 := by
  unfold hW1
  rw [hu_ne _ _ _ _ _ (by omega), hu_ne _ _ _ _ _ (by omega), hu_ne _ _ _ _ _ (by omega), hu_ne _ _ _ _ _ (by omega), hu_ne _ _ _ _ _ (by omega), hu_ne _ _ _ _ _ (by omega), hu_ne _ _ _ _ _ (by omega), hu_ne _ _ _ _ _ (by omega), hn_ne _ _ _ (by omega)]
  rfl
theorem hW2_0 (k : Nat) (h : 79 < k) : hW2 k = fun _ => 0 := by
  unfold hW2
  rw [hu_ne _ _ _ _ _ (by omega), hu_ne _ _ _ _ _ (by omega), hn_ne _ _ _ (by omega)]
  exact hW1_0 k (by omega)
theorem hc_cast {y : MethodName} {ws : List Cond} {d mc ms : Nat} {sh sh1 shA shB : List hS} {I J J2 : hM} {as as2 : List Value} {r : Option Value} (h : hp_C y ws d mc ms sh I as r sh1 J) (h1 : sh = shA) (h2 : as = as2) (h3 : sh1 = shB) (h4 : J = J2) : hp_C y ws d mc ms shA I as2 r shB J2 := by
  subst h1
  subst h2
  subst h3
  subst h4
  exact h
theorem hfs_of {N : Nat} {ty : Nat → FieldType} {fs : List (Option (Option Nat))} (h : ∀ j, j < N → (defaultValue (ty j) = .int 0 ∧ fs[j]? = some none) ∨ (defaultValue (ty j) = .null ∧ fs[j]? = some (some none))) : ∀ (b j : Nat), j < N → defaultValue (ty j) = vp_V (fs.mapIdx (fun _ q => hp_f b 0 q)) j := by
  intro b j hj
  unfold vp_V
  rw [List.getD_eq_getElem?_getD, List.getElem?_mapIdx]
  rcases h j hj with ⟨h1, h2⟩ | ⟨h1, h2⟩ <;> rw [h1, h2] <;> rfl
theorem hfs_X0 : ∀ (b : Nat) (j : Nat), j < 13 → defaultValue (tyX0 j) = vp_V (([none, none, none, some none, some none, some none, some none, some none, some none, some none, some none, some none, some none] : List (Option (Option Nat))).mapIdx (fun _ q => hp_f b 0 q)) j := hfs_of (by decide +kernel)
theorem hfs_X1 : ∀ (b : Nat) (j : Nat), j < 2 → defaultValue (tyX1 j) = vp_V (([some none, none] : List (Option (Option Nat))).mapIdx (fun _ q => hp_f b 0 q)) j := hfs_of (by decide +kernel)
theorem hfs_X3 : ∀ (b : Nat) (j : Nat), j < 4 → defaultValue (tyX3 j) = vp_V (([some none, none, some none, none] : List (Option (Option Nat))).mapIdx (fun _ q => hp_f b 0 q)) j := hfs_of (by decide +kernel)
theorem hfs_X4 : ∀ (b : Nat) (j : Nat), j < 10 → defaultValue (tyX4 j) = vp_V (([some none, some none, some none, some none, some none, some none, some none, some none, some none, none] : List (Option (Option Nat))).mapIdx (fun _ q => hp_f b 0 q)) j := hfs_of (by decide +kernel)
theorem hfs_X5 : ∀ (b : Nat) (j : Nat), j < 39 → defaultValue (tyX5 j) = vp_V (([none, some none, some none, some none, some none, some none, none, some none, some none, some none, none, some none, some none, none, some none, some none, some none, some none, some none, none, some none, some none, some none, none, some none, some none, some none, none, none, none, some none, none, none, none, none, some none, some none, none, none] : List (Option (Option Nat))).mapIdx (fun _ q => hp_f b 0 q)) j := hfs_of (by decide +kernel)
theorem X4_init_mo1 : Cond.methodLink RX4 1 Lib.objectInit ∈ wsX4_init := by decide +kernel
theorem X4_init_mo2 : Cond.instanceMethod Lib.objectInit ∈ wsX4_init := by decide +kernel
theorem X4_init_mo3 : Cond.code Lib.objectInit ⟨#[0xb1]⟩ 1 none ∈ wsX4_init := by decide +kernel
theorem X4_init_mar : Cond.arrayClass .int ∈ wsX4_init := by decide +kernel
theorem X4_init_hy : yX4_init.cls = RX4 ∧ yX4_init.cls ≠ "java/lang/invoke/MethodHandle" ∧ yX4_init.cls ≠ "java/lang/invoke/VarHandle" ∧ (parseMethodDescriptor yX4_init.desc).map (fun d => d.parameters.length) = some 0 := by decide +kernel
theorem X4_init_mcl3 : Cond.classLink RX4 7 RX3 ∈ wsX4_init := by decide +kernel
theorem X4_init_mit3 : Cond.instantiable RX3 4 ∈ wsX4_init := by decide +kernel
theorem X4_init_min3 : Cond.initialized RX3 ∈ wsX4_init := by decide +kernel
theorem X4_init_mic3 : Cond.initialized yX3_init.cls ∈ wsX4_init := by decide +kernel
theorem X4_init_mim3 : Cond.instanceMethod yX3_init ∈ wsX4_init := by decide +kernel
theorem X4_init_mf0 : Cond.fieldLink RX4 10 "HatPins" "text" "LHatPins$Text;" ∈ wsX4_init := by decide +kernel
theorem X4_init_mcl0 : Cond.classLink RX4 16 RX0 ∈ wsX4_init := by decide +kernel
theorem X4_init_mit0 : Cond.instantiable RX0 13 ∈ wsX4_init := by decide +kernel
theorem X4_init_min0 : Cond.initialized RX0 ∈ wsX4_init := by decide +kernel
theorem X4_init_w0 : ∀ w ∈ wsX00, w ∈ wsX4_init := by decide +kernel
theorem X4_init_mic0 : Cond.initialized yX0_init.cls ∈ wsX4_init := by decide +kernel
theorem X4_init_mim0 : Cond.instanceMethod yX0_init ∈ wsX4_init := by decide +kernel
theorem X4_init_mf1 : Cond.fieldLink RX4 19 "HatPins" "laid" "LHatPins$Evening;" ∈ wsX4_init := by decide +kernel
theorem X4_init_mf2 : Cond.fieldLink RX4 23 "HatPins" "draft" "LHatPins$Evening;" ∈ wsX4_init := by decide +kernel
theorem X4_init_mcl2 : Cond.classLink RX4 26 RX2 ∈ wsX4_init := by decide +kernel
theorem X4_init_mit2 : Cond.instantiable RX2 6 ∈ wsX4_init := by decide +kernel
theorem X4_init_min2 : Cond.initialized RX2 ∈ wsX4_init := by decide +kernel
theorem X4_init_w2 : ∀ w ∈ wsX20, w ∈ wsX4_init := by decide +kernel
theorem X4_init_mic2 : Cond.initialized yX2_init.cls ∈ wsX4_init := by decide +kernel
theorem X4_init_mim2 : Cond.instanceMethod yX2_init ∈ wsX4_init := by decide +kernel
theorem X4_init_mf3 : Cond.fieldLink RX4 29 "HatPins" "now" "LHatPins$Standing;" ∈ wsX4_init := by decide +kernel
theorem X4_init_mf4 : Cond.fieldLink RX4 33 "HatPins" "trial" "LHatPins$Standing;" ∈ wsX4_init := by decide +kernel
theorem X4_init_mcl1 : Cond.classLink RX4 36 RX1 ∈ wsX4_init := by decide +kernel
theorem X4_init_mit1 : Cond.instantiable RX1 2 ∈ wsX4_init := by decide +kernel
theorem X4_init_min1 : Cond.initialized RX1 ∈ wsX4_init := by decide +kernel
theorem X4_init_w1 : ∀ w ∈ wsX10, w ∈ wsX4_init := by decide +kernel
theorem X4_init_mic1 : Cond.initialized yX1_init.cls ∈ wsX4_init := by decide +kernel
theorem X4_init_mim1 : Cond.instanceMethod yX1_init ∈ wsX4_init := by decide +kernel
theorem X4_init_ml1 : Cond.methodLink RX4 38 yX1_init ∈ wsX4_init := by decide +kernel
theorem X4_init_mf5 : Cond.fieldLink RX4 41 "HatPins" "undoable" "LHatPins$Shelf;" ∈ wsX4_init := by decide +kernel
theorem X4_init_mf6 : Cond.fieldLink RX4 45 "HatPins" "saved" "LHatPins$Shelf;" ∈ wsX4_init := by decide +kernel
theorem X4_init_mf7 : Cond.fieldLink RX4 48 "HatPins" "notedMinute" "[I" ∈ wsX4_init := by decide +kernel
theorem X4_init_mf8 : Cond.fieldLink RX4 52 "HatPins" "notedWorth" "[I" ∈ wsX4_init := by decide +kernel
def X4_init_b131 (I : hM) : Option (Int32 × hM) := ob (X3_readInto 1 4 I) (fun u4 Ia5 => ob (X2_start 26 4 (hu Ia5 1 1 (0 : Int32))) (fun u7 Ia8 => some (0, Ia8)))
def X4_init_h102 (k102 : Int32 → hM → Option (Int32 × hM)) (v1 : Int32) (I : hM) : Option (Int32 × hM) := if (nI 104) ≤ v1 then (X4_init_b131 I) else (gd (hx v1 104) (ob (X3_append 1 (hch (v1).toNatClampNeg) I) (fun u1 Ia2 => (k102 (v1 + (1 : Int32)) Ia2))))
def X4_init_l102 : Nat → Int32 → hM → Option (Int32 × hM)
  | 0 => fun _ _ => none
  | n + 1 => X4_init_h102   (X4_init_l102   n)
def X4_init_b100 (I : hM) : Option (Int32 × hM) := (X4_init_l102 hF (0 : Int32) I)
theorem X4_init_k10 : Cond.fieldLink RX4 10 "HatPins" "text" "LHatPins$Text;" ∈ wsX4_init := by decide +kernel
theorem X4_init_k19 : Cond.fieldLink RX4 19 "HatPins" "laid" "LHatPins$Evening;" ∈ wsX4_init := by decide +kernel
theorem X4_init_k75 : Cond.fieldLink RX4 75 "HatPins$Text" "length" "I" ∈ wsX4_init := by decide +kernel
theorem X4_init_k29 : Cond.fieldLink RX4 29 "HatPins" "now" "LHatPins$Standing;" ∈ wsX4_init := by decide +kernel
theorem X4_init_w3 : ∀ w ∈ wsX30, w ∈ wsX4_init := by decide +kernel
theorem X4_init_w4 : ∀ w ∈ wsX40, w ∈ wsX4_init := by decide +kernel
set_option maxHeartbeats 4000000 in
set_option maxRecDepth 100000 in
theorem X4_init_b131_ok {p : Program} {l : Launch} {e : Env} {s : State} {m : MethodId} {args : Array Value} {below : List Frame} {meth : Method} {c : Code} {D : va_G} {E : Nat → ClassId} {b z : Nat} {sh : List hS} {r : Int32} {I2 : hM} {I : hM} (hX : hp_X p s m args meth c yX4_init.cls cX4_init 2 wsX4_init D E none yX4_init.name) (hf0 : hq_X4 sh) (hKs : hp_Ks b z s) (h : X4_init_b131 I = some (r, I2)) : hp_J p l e ({ frames := 5, cells := 91, slots := 759, locals := 44 * 5 }) s m args below meth c (MQ below (hp_Q D E b z none sh I2) args s 91 759 (fun q : Nat => b ≤ q)) D E b z 2 sh 91 759 I 131 [(0, .ref 0)] [] := by
  unfold X4_init_b131 at h
  refine hj_aload_n hX rfl 0 rfl dX4_init_131 ?_
  refine hj_getr hX (j := 0) hf0.1 rfl rfl X4_init_w4 (Nat.le_of_ble_eq_true rfl) rfl X4_init_k10 dX4_init_132 ?_
  refine hj_aload_n hX rfl 0 rfl dX4_init_135 ?_
  refine hj_getr hX (j := 1) hf0.1 rfl rfl X4_init_w4 (Nat.le_of_ble_eq_true rfl) rfl X4_init_k19 dX4_init_136 ?_
  obtain ⟨u4, Ia5, hc6, h⟩ := ob_e h
  refine hj_callV hX (sh2 := sh) (I2 := Ia5) (r := (some (.int u4))) (As := [.ref 4]) (rest := []) (st2 := [.int u4]) (X3_readInto_ok hf0.2.1 hf0.2.2.1 hc6) gX4_init_X3_readInto rfl X3_readInto_hy ⟨(Nat.le_of_ble_eq_true rfl), (Nat.le_of_ble_eq_true rfl)⟩ rfl hf0.2.1.1 rfl (Nat.le_of_ble_eq_true rfl) ⟨(Nat.le_of_ble_eq_true rfl), (Nat.le_of_ble_eq_true rfl)⟩ rfl rfl rfl dX4_init_139 ?_
  refine hj_pop hX rfl dX4_init_142 ?_
  refine hj_aload_n hX rfl 0 rfl dX4_init_143 ?_
  refine hj_getr hX (j := 0) hf0.1 rfl rfl X4_init_w4 (Nat.le_of_ble_eq_true rfl) rfl X4_init_k10 dX4_init_144 ?_
  refine hj_iconst hX (v := (0 : Int32)) (by decide) dX4_init_147 ?_
  refine hj_puti hX (j := 1) hf0.2.1.1 rfl rfl X4_init_w3 (Nat.le_of_ble_eq_true rfl) rfl X4_init_k75 tyX3_ok nmX3 rfl (by decide +kernel) dX4_init_148 ?_
  refine hj_aload_n hX rfl 0 rfl dX4_init_151 ?_
  refine hj_getr hX (j := 3) hf0.1 rfl rfl X4_init_w4 (Nat.le_of_ble_eq_true rfl) rfl X4_init_k29 dX4_init_152 ?_
  refine hj_aload_n hX rfl 0 rfl dX4_init_155 ?_
  refine hj_getr hX (j := 1) hf0.1 rfl rfl X4_init_w4 (Nat.le_of_ble_eq_true rfl) rfl X4_init_k19 dX4_init_156 ?_
  obtain ⟨u7, Ia8, hc9, h⟩ := ob_e h
  refine hj_callV hX (sh2 := sh) (I2 := Ia8) (r := none) (As := [.ref 4]) (rest := []) (st2 := []) (X2_start_ok hf0.2.2.2.2.1 hf0.2.2.1 hc9) gX4_init_X2_start rfl X2_start_hy ⟨(Nat.le_of_ble_eq_true rfl), (Nat.le_of_ble_eq_true rfl)⟩ rfl hf0.2.2.2.2.1.1 rfl (Nat.le_of_ble_eq_true rfl) ⟨(Nat.le_of_ble_eq_true rfl), (Nat.le_of_ble_eq_true rfl)⟩ rfl rfl rfl dX4_init_159 ?_
  exact hj_vret hX dX4_init_162 h
set_option maxHeartbeats 4000000 in
set_option maxRecDepth 100000 in
theorem X4_init_h102_ok {p : Program} {l : Launch} {e : Env} {s : State} {m : MethodId} {args : Array Value} {below : List Frame} {meth : Method} {c : Code} {D : va_G} {E : Nat → ClassId} {b z : Nat} {sh : List hS} {r : Int32} {I2 : hM} {k102 : Int32 → hM → Option (Int32 × hM)} {v1 : Int32} {I : hM} (hX : hp_X p s m args meth c yX4_init.cls cX4_init 2 wsX4_init D E none yX4_init.name) (hf0 : hq_X4 sh) (hKs : hp_Ks b z s) (hk102 : ∀ (v1 : Int32) (I : hM), k102 v1 I = some (r, I2) → hp_J p l e ({ frames := 5, cells := 91, slots := 759, locals := 44 * 5 }) s m args below meth c (MQ below (hp_Q D E b z none sh I2) args s 91 759 (fun q : Nat => b ≤ q)) D E b z 2 sh 91 759 I 102 [(0, .ref 0), (1, .int v1)] []) (h : X4_init_h102 k102 v1 I = some (r, I2)) : hp_J p l e ({ frames := 5, cells := 91, slots := 759, locals := 44 * 5 }) s m args below meth c (MQ below (hp_Q D E b z none sh I2) args s 91 759 (fun q : Nat => b ≤ q)) D E b z 2 sh 91 759 I 102 [(0, .ref 0), (1, .int v1)] [] := by
  unfold X4_init_h102 at h
  refine hj_iload_n hX rfl 1 rfl dX4_init_102 ?_
  refine hj_ldcS hX hKs.1 dX4_init_103 ?_
  refine hj_strlen hX hKs ⟨(Nat.le_of_ble_eq_true rfl), (Nat.le_of_ble_eq_true rfl)⟩ ⟨(Nat.le_of_ble_eq_true rfl), (Nat.le_of_ble_eq_true rfl)⟩ (Nat.le_of_ble_eq_true rfl) dX4_init_105 ?_
  refine hj_icmp_ge hX (tgt := 131) (by decide) dX4_init_108 h (fun h => ?_) (fun h => ?_)
  · refine hj_lv hX [0] (lv2 := [(0, .ref 0)]) rfl ?_
    exact X4_init_b131_ok hX hf0 hKs h
  · refine hj_aload_n hX rfl 0 rfl dX4_init_111 ?_
    refine hj_getr hX (j := 0) hf0.1 rfl rfl X4_init_w4 (Nat.le_of_ble_eq_true rfl) rfl X4_init_k10 dX4_init_112 ?_
    refine hj_ldcS hX hKs.1 dX4_init_115 ?_
    refine hj_iload_n hX rfl 1 rfl dX4_init_117 ?_
    refine hj_charAt hX hKs ⟨(Nat.le_of_ble_eq_true rfl), (Nat.le_of_ble_eq_true rfl)⟩ ⟨(Nat.le_of_ble_eq_true rfl), (Nat.le_of_ble_eq_true rfl)⟩ (Nat.le_of_ble_eq_true rfl) dX4_init_118 h (fun h => ?_)
    obtain ⟨u1, Ia2, hc3, h⟩ := ob_e h
    refine hj_callV hX (sh2 := sh) (I2 := Ia2) (r := (some (.int u1))) (As := [.int (hch (v1).toNatClampNeg)]) (rest := []) (st2 := [.int u1]) (X3_append_ok hf0.2.1 hc3) gX4_init_X3_append rfl X3_append_hy ⟨(Nat.le_of_ble_eq_true rfl), (Nat.le_of_ble_eq_true rfl)⟩ rfl hf0.2.1.1 rfl (Nat.le_of_ble_eq_true rfl) ⟨(Nat.le_of_ble_eq_true rfl), (Nat.le_of_ble_eq_true rfl)⟩ rfl rfl rfl dX4_init_121 ?_
    refine hj_pop hX rfl dX4_init_124 ?_
    refine hj_iinc hX (k1 := 1) (v := (v1 + (1 : Int32))) rfl rfl (Nat.le_of_ble_eq_true rfl) (lv2 := [(1, .int (v1 + (1 : Int32))), (0, .ref 0)]) rfl dX4_init_125 ?_
    refine hj_goto hX (tgt := 102) (by decide) dX4_init_128 ?_
    refine hj_lv hX [1, 0] (lv2 := [(0, .ref 0), (1, .int (v1 + (1 : Int32)))]) rfl ?_
    exact hk102 _ _ h
set_option maxHeartbeats 4000000 in
set_option maxRecDepth 100000 in
theorem X4_init_l102_ok {p : Program} {l : Launch} {e : Env} {s : State} {m : MethodId} {args : Array Value} {below : List Frame} {meth : Method} {c : Code} {D : va_G} {E : Nat → ClassId} {b z : Nat} {sh : List hS} {r : Int32} {I2 : hM} (hX : hp_X p s m args meth c yX4_init.cls cX4_init 2 wsX4_init D E none yX4_init.name) (hf0 : hq_X4 sh) (hKs : hp_Ks b z s) : ∀ (n : Nat) (v1 : Int32) (I : hM), X4_init_l102 n v1 I = some (r, I2) → hp_J p l e ({ frames := 5, cells := 91, slots := 759, locals := 44 * 5 }) s m args below meth c (MQ below (hp_Q D E b z none sh I2) args s 91 759 (fun q : Nat => b ≤ q)) D E b z 2 sh 91 759 I 102 [(0, .ref 0), (1, .int v1)] [] := by
  intro n
  induction n with
  | zero => exact fun _ _ h => nomatch h
  | succ n ih => exact fun _ _ h => X4_init_h102_ok hX hf0 hKs ih h
set_option maxHeartbeats 4000000 in
set_option maxRecDepth 100000 in
theorem X4_init_b100_ok {p : Program} {l : Launch} {e : Env} {s : State} {m : MethodId} {args : Array Value} {below : List Frame} {meth : Method} {c : Code} {D : va_G} {E : Nat → ClassId} {b z : Nat} {sh : List hS} {r : Int32} {I2 : hM} {I : hM} (hX : hp_X p s m args meth c yX4_init.cls cX4_init 2 wsX4_init D E none yX4_init.name) (hf0 : hq_X4 sh) (hKs : hp_Ks b z s) (h : X4_init_b100 I = some (r, I2)) : hp_J p l e ({ frames := 5, cells := 91, slots := 759, locals := 44 * 5 }) s m args below meth c (MQ below (hp_Q D E b z none sh I2) args s 91 759 (fun q : Nat => b ≤ q)) D E b z 2 sh 91 759 I 100 [(0, .ref 0)] [] := by
  unfold X4_init_b100 at h
  refine hj_iconst hX (v := (0 : Int32)) (by decide) dX4_init_100 ?_
  refine hj_istore_n hX rfl (Nat.le_of_ble_eq_true rfl) (lv2 := [(1, .int (0 : Int32)), (0, .ref 0)]) rfl dX4_init_101 ?_
  refine hj_lv hX [1, 0] (lv2 := [(0, .ref 0), (1, .int (0 : Int32))]) rfl ?_
  exact X4_init_l102_ok hX hf0 hKs hF _ _ h
set_option maxHeartbeats 4000000 in
set_option maxRecDepth 100000 in
theorem X4_init_ok {r : Int32} {I2 : hM} (h : X4_init_b100 hW2 = some (r, I2)) : hp_Cx hp_Ks yX4_init wsX4_init 5 91 759 [(0, 4, [some none, some none, some none, some none, some none, some none, some none, some none, some none, none])] hZ0 [.ref 0] none hpC I2 := hp_start (cc := cX4_init) (maxL := 2) (ret := none) [(0, .ref 0)] (by decide) rfl (fun _ _ => rfl) (fun _ _ => Nat.le_of_ble_eq_true rfl) (fun p l e s m below meth c D E b z hX hKs => by
  refine hj_eqs (sh2 := (0, 4, [some none, some none, some none, some none, some none, some none, some none, some none, some none, none]) :: hpT 1) (I2 := hZ0) (st2 := []) rfl rfl rfl ?_
  refine hj_aload_n hX rfl 0 rfl dX4_init_0 ?_
  refine hj_objInit hX X4_init_mo1 X4_init_mo2 X4_init_mo3 (Nat.le_of_ble_eq_true rfl) (Nat.le_of_ble_eq_true rfl) dX4_init_1 ?_
  refine hj_aload_n hX rfl 0 rfl dX4_init_4 ?_
  refine hj_new hX (sh := ((0, 4, [some none, some none, some none, some none, some none, some none, some none, some none, some none, none]) :: hpT 1)) (ci := 3) tyX3 tyX3_ok X4_init_w3 X4_init_mcl3 X4_init_mit3 X4_init_min3 rfl _ hfs_X3 ⟨(Nat.le_of_ble_eq_true rfl), (Nat.le_of_ble_eq_true rfl)⟩ dX4_init_5 ?_
  refine hj_eqs (sh2 := ((0, 4, [some none, some none, some none, some none, some none, some none, some none, some none, some none, none]) :: hpT 1) ++ [(0, 3, [some none, none, some none, none])]) (I2 := hZ0) (st2 := [.ref 1, .ref 0]) rfl (hz_id rfl) (by decide +kernel) ?_
  refine hj_dup hX rfl dX4_init_8 ?_
  refine hj_callIN hX (rt := none) (host := RX4) (o := 1) (sh2 := (0, 4, [some none, some none, some none, some none, some none, some none, some none, some none, some none, none]) :: hpT 4) (I2 := hZ0) (r := none) (As := []) (st2 := [.ref 1, .ref 0]) (by exact (hc_cast (X3_init_ok (A := ((0, 4, [some none, some none, some none, some none, some none, some none, some none, some none, some none, none]) :: hpT 1)) (I := hZ0) (fun k hk => rfl)) rfl (by decide +kernel) (by decide +kernel) rfl)) gX4_init_X3_init_n9 rfl X4_init_mic3 X4_init_mim3 rfl (fun q => q.2.1) X3_init_hy.2 ⟨(Nat.le_of_ble_eq_true rfl), (Nat.le_of_ble_eq_true rfl)⟩ rfl (Nat.le_of_ble_eq_true rfl) ⟨(Nat.le_of_ble_eq_true rfl), (Nat.le_of_ble_eq_true rfl)⟩ (by decide +kernel) rfl rfl dX4_init_9 ?_
  refine hj_putr hX (sh := (0, 4, [some none, some none, some none, some none, some none, some none, some none, some none, some none, none]) :: hpT 4) (q := 1) (o := 0) (fs := [some none, some none, some none, some none, some none, some none, some none, some none, some none, none]) (j := 0) rfl (Nat.le_of_ble_eq_true rfl) rfl X4_init_w4 (Nat.le_of_ble_eq_true rfl) rfl X4_init_mf0 tyX4_ok nmX4 rfl rfl rfl (ty := .object "HatPins$Text") (by decide +kernel) (fun _ => rfl) (fun _ => rfl) dX4_init_12 ?_
  refine hj_eqs (sh2 := (0, 4, [some (some 1), some none, some none, some none, some none, some none, some none, some none, some none, none]) :: hpT 4) (I2 := hZ0) (st2 := []) rfl rfl rfl ?_
  refine hj_aload_n hX rfl 0 rfl dX4_init_15 ?_
  refine hj_new hX (sh := ((0, 4, [some (some 1), some none, some none, some none, some none, some none, some none, some none, some none, none]) :: hpT 4)) (ci := 0) tyX0 tyX0_ok X4_init_w0 X4_init_mcl0 X4_init_mit0 X4_init_min0 rfl _ hfs_X0 ⟨(Nat.le_of_ble_eq_true rfl), (Nat.le_of_ble_eq_true rfl)⟩ dX4_init_16 ?_
  refine hj_eqs (sh2 := ((0, 4, [some (some 1), some none, some none, some none, some none, some none, some none, some none, some none, none]) :: hpT 4) ++ [(0, 0, [none, none, none, some none, some none, some none, some none, some none, some none, some none, some none, some none, some none])]) (I2 := hZ0) (st2 := [.ref 4, .ref 0]) rfl (hz_id rfl) (by decide +kernel) ?_
  refine hj_dup hX rfl dX4_init_19 ?_
  refine hj_callIN hX (rt := none) (host := RX4) (o := 4) (sh2 := (0, 4, [some (some 1), some none, some none, some none, some none, some none, some none, some none, some none, none]) :: hpT 15) (I2 := hZ0) (r := none) (As := []) (st2 := [.ref 4, .ref 0]) (by exact (hc_cast (X0_init_ok (A := ((0, 4, [some (some 1), some none, some none, some none, some none, some none, some none, some none, some none, none]) :: hpT 4)) (I := hZ0) (fun k hk => rfl)) rfl (by decide +kernel) (by decide +kernel) rfl)) gX4_init_X0_init_n18 rfl X4_init_mic0 X4_init_mim0 rfl (fun q => q.2.2.1) X0_init_hy.2 ⟨(Nat.le_of_ble_eq_true rfl), (Nat.le_of_ble_eq_true rfl)⟩ rfl (Nat.le_of_ble_eq_true rfl) ⟨(Nat.le_of_ble_eq_true rfl), (Nat.le_of_ble_eq_true rfl)⟩ (by decide +kernel) rfl rfl dX4_init_20 ?_
  refine hj_putr hX (sh := (0, 4, [some (some 1), some none, some none, some none, some none, some none, some none, some none, some none, none]) :: hpT 15) (q := 4) (o := 0) (fs := [some (some 1), some none, some none, some none, some none, some none, some none, some none, some none, none]) (j := 1) rfl (Nat.le_of_ble_eq_true rfl) rfl X4_init_w4 (Nat.le_of_ble_eq_true rfl) rfl X4_init_mf1 tyX4_ok nmX4 rfl rfl rfl (ty := .object "HatPins$Evening") (by decide +kernel) (fun _ => rfl) (fun _ => rfl) dX4_init_23 ?_
  refine hj_eqs (sh2 := (0, 4, [some (some 1), some (some 4), some none, some none, some none, some none, some none, some none, some none, none]) :: hpT 15) (I2 := hZ0) (st2 := []) rfl rfl rfl ?_
  refine hj_aload_n hX rfl 0 rfl dX4_init_26 ?_
  refine hj_new hX (sh := ((0, 4, [some (some 1), some (some 4), some none, some none, some none, some none, some none, some none, some none, none]) :: hpT 15)) (ci := 0) tyX0 tyX0_ok X4_init_w0 X4_init_mcl0 X4_init_mit0 X4_init_min0 rfl _ hfs_X0 ⟨(Nat.le_of_ble_eq_true rfl), (Nat.le_of_ble_eq_true rfl)⟩ dX4_init_27 ?_
  refine hj_eqs (sh2 := ((0, 4, [some (some 1), some (some 4), some none, some none, some none, some none, some none, some none, some none, none]) :: hpT 15) ++ [(0, 0, [none, none, none, some none, some none, some none, some none, some none, some none, some none, some none, some none, some none])]) (I2 := hZ0) (st2 := [.ref 15, .ref 0]) rfl (hz_id rfl) (by decide +kernel) ?_
  refine hj_dup hX rfl dX4_init_30 ?_
  refine hj_callIN hX (rt := none) (host := RX4) (o := 15) (sh2 := (0, 4, [some (some 1), some (some 4), some none, some none, some none, some none, some none, some none, some none, none]) :: hpT 26) (I2 := hZ0) (r := none) (As := []) (st2 := [.ref 15, .ref 0]) (by exact (hc_cast (X0_init_ok (A := ((0, 4, [some (some 1), some (some 4), some none, some none, some none, some none, some none, some none, some none, none]) :: hpT 15)) (I := hZ0) (fun k hk => rfl)) rfl (by decide +kernel) (by decide +kernel) rfl)) gX4_init_X0_init_n18 rfl X4_init_mic0 X4_init_mim0 rfl (fun q => q.2.2.1) X0_init_hy.2 ⟨(Nat.le_of_ble_eq_true rfl), (Nat.le_of_ble_eq_true rfl)⟩ rfl (Nat.le_of_ble_eq_true rfl) ⟨(Nat.le_of_ble_eq_true rfl), (Nat.le_of_ble_eq_true rfl)⟩ (by decide +kernel) rfl rfl dX4_init_31 ?_
  refine hj_putr hX (sh := (0, 4, [some (some 1), some (some 4), some none, some none, some none, some none, some none, some none, some none, none]) :: hpT 26) (q := 15) (o := 0) (fs := [some (some 1), some (some 4), some none, some none, some none, some none, some none, some none, some none, none]) (j := 2) rfl (Nat.le_of_ble_eq_true rfl) rfl X4_init_w4 (Nat.le_of_ble_eq_true rfl) rfl X4_init_mf2 tyX4_ok nmX4 rfl rfl rfl (ty := .object "HatPins$Evening") (by decide +kernel) (fun _ => rfl) (fun _ => rfl) dX4_init_34 ?_
  refine hj_eqs (sh2 := (0, 4, [some (some 1), some (some 4), some (some 15), some none, some none, some none, some none, some none, some none, none]) :: hpT 26) (I2 := hZ0) (st2 := []) rfl rfl rfl ?_
  refine hj_aload_n hX rfl 0 rfl dX4_init_37 ?_
  refine hj_new hX (sh := ((0, 4, [some (some 1), some (some 4), some (some 15), some none, some none, some none, some none, some none, some none, none]) :: hpT 26)) (ci := 2) tyX2 tyX2_ok X4_init_w2 X4_init_mcl2 X4_init_mit2 X4_init_min2 rfl _ hfs_X2 ⟨(Nat.le_of_ble_eq_true rfl), (Nat.le_of_ble_eq_true rfl)⟩ dX4_init_38 ?_
  refine hj_eqs (sh2 := ((0, 4, [some (some 1), some (some 4), some (some 15), some none, some none, some none, some none, some none, some none, none]) :: hpT 26) ++ [(0, 2, [none, none, some none, some none, some none, some none])]) (I2 := hZ0) (st2 := [.ref 26, .ref 0]) rfl (hz_id rfl) (by decide +kernel) ?_
  refine hj_dup hX rfl dX4_init_41 ?_
  refine hj_callIN hX (rt := none) (host := RX4) (o := 26) (sh2 := (0, 4, [some (some 1), some (some 4), some (some 15), some none, some none, some none, some none, some none, some none, none]) :: hpT 31) (I2 := hZ0) (r := none) (As := []) (st2 := [.ref 26, .ref 0]) (by exact (hc_cast (X2_init_ok (A := ((0, 4, [some (some 1), some (some 4), some (some 15), some none, some none, some none, some none, some none, some none, none]) :: hpT 26)) (I := hZ0) (fun k hk => rfl)) rfl (by decide +kernel) (by decide +kernel) rfl)) gX4_init_X2_init_n28 rfl X4_init_mic2 X4_init_mim2 rfl (fun q => q.2.2.2.1) X2_init_hy.2 ⟨(Nat.le_of_ble_eq_true rfl), (Nat.le_of_ble_eq_true rfl)⟩ rfl (Nat.le_of_ble_eq_true rfl) ⟨(Nat.le_of_ble_eq_true rfl), (Nat.le_of_ble_eq_true rfl)⟩ (by decide +kernel) rfl rfl dX4_init_42 ?_
  refine hj_putr hX (sh := (0, 4, [some (some 1), some (some 4), some (some 15), some none, some none, some none, some none, some none, some none, none]) :: hpT 31) (q := 26) (o := 0) (fs := [some (some 1), some (some 4), some (some 15), some none, some none, some none, some none, some none, some none, none]) (j := 3) rfl (Nat.le_of_ble_eq_true rfl) rfl X4_init_w4 (Nat.le_of_ble_eq_true rfl) rfl X4_init_mf3 tyX4_ok nmX4 rfl rfl rfl (ty := .object "HatPins$Standing") (by decide +kernel) (fun _ => rfl) (fun _ => rfl) dX4_init_45 ?_
  refine hj_eqs (sh2 := (0, 4, [some (some 1), some (some 4), some (some 15), some (some 26), some none, some none, some none, some none, some none, none]) :: hpT 31) (I2 := hZ0) (st2 := []) rfl rfl rfl ?_
  refine hj_aload_n hX rfl 0 rfl dX4_init_48 ?_
  refine hj_new hX (sh := ((0, 4, [some (some 1), some (some 4), some (some 15), some (some 26), some none, some none, some none, some none, some none, none]) :: hpT 31)) (ci := 2) tyX2 tyX2_ok X4_init_w2 X4_init_mcl2 X4_init_mit2 X4_init_min2 rfl _ hfs_X2 ⟨(Nat.le_of_ble_eq_true rfl), (Nat.le_of_ble_eq_true rfl)⟩ dX4_init_49 ?_
  refine hj_eqs (sh2 := ((0, 4, [some (some 1), some (some 4), some (some 15), some (some 26), some none, some none, some none, some none, some none, none]) :: hpT 31) ++ [(0, 2, [none, none, some none, some none, some none, some none])]) (I2 := hZ0) (st2 := [.ref 31, .ref 0]) rfl (hz_id rfl) (by decide +kernel) ?_
  refine hj_dup hX rfl dX4_init_52 ?_
  refine hj_callIN hX (rt := none) (host := RX4) (o := 31) (sh2 := (0, 4, [some (some 1), some (some 4), some (some 15), some (some 26), some none, some none, some none, some none, some none, none]) :: hpT 36) (I2 := hZ0) (r := none) (As := []) (st2 := [.ref 31, .ref 0]) (by exact (hc_cast (X2_init_ok (A := ((0, 4, [some (some 1), some (some 4), some (some 15), some (some 26), some none, some none, some none, some none, some none, none]) :: hpT 31)) (I := hZ0) (fun k hk => rfl)) rfl (by decide +kernel) (by decide +kernel) rfl)) gX4_init_X2_init_n28 rfl X4_init_mic2 X4_init_mim2 rfl (fun q => q.2.2.2.1) X2_init_hy.2 ⟨(Nat.le_of_ble_eq_true rfl), (Nat.le_of_ble_eq_true rfl)⟩ rfl (Nat.le_of_ble_eq_true rfl) ⟨(Nat.le_of_ble_eq_true rfl), (Nat.le_of_ble_eq_true rfl)⟩ (by decide +kernel) rfl rfl dX4_init_53 ?_
  refine hj_putr hX (sh := (0, 4, [some (some 1), some (some 4), some (some 15), some (some 26), some none, some none, some none, some none, some none, none]) :: hpT 36) (q := 31) (o := 0) (fs := [some (some 1), some (some 4), some (some 15), some (some 26), some none, some none, some none, some none, some none, none]) (j := 4) rfl (Nat.le_of_ble_eq_true rfl) rfl X4_init_w4 (Nat.le_of_ble_eq_true rfl) rfl X4_init_mf4 tyX4_ok nmX4 rfl rfl rfl (ty := .object "HatPins$Standing") (by decide +kernel) (fun _ => rfl) (fun _ => rfl) dX4_init_56 ?_
  refine hj_eqs (sh2 := (0, 4, [some (some 1), some (some 4), some (some 15), some (some 26), some (some 31), some none, some none, some none, some none, none]) :: hpT 36) (I2 := hZ0) (st2 := []) rfl rfl rfl ?_
  refine hj_aload_n hX rfl 0 rfl dX4_init_59 ?_
  refine hj_new hX (sh := ((0, 4, [some (some 1), some (some 4), some (some 15), some (some 26), some (some 31), some none, some none, some none, some none, none]) :: hpT 36)) (ci := 1) tyX1 tyX1_ok X4_init_w1 X4_init_mcl1 X4_init_mit1 X4_init_min1 rfl _ hfs_X1 ⟨(Nat.le_of_ble_eq_true rfl), (Nat.le_of_ble_eq_true rfl)⟩ dX4_init_60 ?_
  refine hj_eqs (sh2 := ((0, 4, [some (some 1), some (some 4), some (some 15), some (some 26), some (some 31), some none, some none, some none, some none, none]) :: hpT 36) ++ [(0, 1, [some none, none])]) (I2 := hZ0) (st2 := [.ref 36, .ref 0]) rfl (hz_id rfl) (by decide +kernel) ?_
  refine hj_dup hX rfl dX4_init_63 ?_
  refine hj_bipush hX (v := 8) (by decide) dX4_init_64 ?_
  refine hj_callI hX (rt := none) (o := 36) (sh2 := (0, 4, [some (some 1), some (some 4), some (some 15), some (some 26), some (some 31), some none, some none, some none, some none, none]) :: hpT 78) (I2 := hW1) (r := none) (As := [.int 8]) (st2 := [.ref 36, .ref 0]) (hc_cast (X1_init8_ok (A := ((0, 4, [some (some 1), some (some 4), some (some 15), some (some 26), some (some 31), some none, some none, some none, some none, none]) :: hpT 36)) (I := hZ0) (by decide +kernel) (fun k hk => rfl)) rfl (by decide +kernel) (by decide +kernel) (by have hL : (((0, 4, [some (some 1), some (some 4), some (some 15), some (some 26), some (some 31), some none, some none, some none, some none, none]) :: hpT 36)).length = 36 := (by decide +kernel); rw [hL]; rfl)) gX4_init_X1_init rfl X4_init_mic1 X4_init_ml1 X4_init_mim1 rfl X1_init_hy.2 ⟨(Nat.le_of_ble_eq_true rfl), (Nat.le_of_ble_eq_true rfl)⟩ rfl (Nat.le_of_ble_eq_true rfl) ⟨(Nat.le_of_ble_eq_true rfl), (Nat.le_of_ble_eq_true rfl)⟩ (by decide +kernel) rfl rfl dX4_init_66 ?_
  refine hj_putr hX (sh := (0, 4, [some (some 1), some (some 4), some (some 15), some (some 26), some (some 31), some none, some none, some none, some none, none]) :: hpT 78) (q := 36) (o := 0) (fs := [some (some 1), some (some 4), some (some 15), some (some 26), some (some 31), some none, some none, some none, some none, none]) (j := 5) rfl (Nat.le_of_ble_eq_true rfl) rfl X4_init_w4 (Nat.le_of_ble_eq_true rfl) rfl X4_init_mf5 tyX4_ok nmX4 rfl rfl rfl (ty := .object "HatPins$Shelf") (by decide +kernel) (fun _ => rfl) (fun _ => rfl) dX4_init_69 ?_
  refine hj_eqs (sh2 := (0, 4, [some (some 1), some (some 4), some (some 15), some (some 26), some (some 31), some (some 36), some none, some none, some none, none]) :: hpT 78) (I2 := hW1) (st2 := []) rfl rfl rfl ?_
  refine hj_aload_n hX rfl 0 rfl dX4_init_72 ?_
  refine hj_new hX (sh := ((0, 4, [some (some 1), some (some 4), some (some 15), some (some 26), some (some 31), some (some 36), some none, some none, some none, none]) :: hpT 78)) (ci := 1) tyX1 tyX1_ok X4_init_w1 X4_init_mcl1 X4_init_mit1 X4_init_min1 rfl _ hfs_X1 ⟨(Nat.le_of_ble_eq_true rfl), (Nat.le_of_ble_eq_true rfl)⟩ dX4_init_73 ?_
  refine hj_eqs (sh2 := ((0, 4, [some (some 1), some (some 4), some (some 15), some (some 26), some (some 31), some (some 36), some none, some none, some none, none]) :: hpT 78) ++ [(0, 1, [some none, none])]) (I2 := hW1) (st2 := [.ref 78, .ref 0]) rfl (hz_id (hW1_0 _ (by decide +kernel))) (by decide +kernel) ?_
  refine hj_dup hX rfl dX4_init_76 ?_
  refine hj_iconst hX (v := 2) (by decide) dX4_init_77 ?_
  refine hj_callI hX (rt := none) (o := 78) (sh2 := (0, 4, [some (some 1), some (some 4), some (some 15), some (some 26), some (some 31), some (some 36), some none, some none, some none, none]) :: hpT 90) (I2 := hW2) (r := none) (As := [.int 2]) (st2 := [.ref 78, .ref 0]) (hc_cast (X1_init2_ok (A := ((0, 4, [some (some 1), some (some 4), some (some 15), some (some 26), some (some 31), some (some 36), some none, some none, some none, none]) :: hpT 78)) (I := hW1) (by decide +kernel) (fun k hk => hW1_0 k (Nat.lt_of_le_of_lt (by decide +kernel) hk))) rfl (by decide +kernel) (by decide +kernel) (by have hL : (((0, 4, [some (some 1), some (some 4), some (some 15), some (some 26), some (some 31), some (some 36), some none, some none, some none, none]) :: hpT 78)).length = 78 := (by decide +kernel); rw [hL]; rfl)) gX4_init_X1_init rfl X4_init_mic1 X4_init_ml1 X4_init_mim1 rfl X1_init_hy.2 ⟨(Nat.le_of_ble_eq_true rfl), (Nat.le_of_ble_eq_true rfl)⟩ rfl (Nat.le_of_ble_eq_true rfl) ⟨(Nat.le_of_ble_eq_true rfl), (Nat.le_of_ble_eq_true rfl)⟩ (by decide +kernel) rfl rfl dX4_init_78 ?_
  refine hj_putr hX (sh := (0, 4, [some (some 1), some (some 4), some (some 15), some (some 26), some (some 31), some (some 36), some none, some none, some none, none]) :: hpT 90) (q := 78) (o := 0) (fs := [some (some 1), some (some 4), some (some 15), some (some 26), some (some 31), some (some 36), some none, some none, some none, none]) (j := 6) rfl (Nat.le_of_ble_eq_true rfl) rfl X4_init_w4 (Nat.le_of_ble_eq_true rfl) rfl X4_init_mf6 tyX4_ok nmX4 rfl rfl rfl (ty := .object "HatPins$Shelf") (by decide +kernel) (fun _ => rfl) (fun _ => rfl) dX4_init_81 ?_
  refine hj_eqs (sh2 := (0, 4, [some (some 1), some (some 4), some (some 15), some (some 26), some (some 31), some (some 36), some (some 78), some none, some none, none]) :: hpT 90) (I2 := hW2) (st2 := []) rfl rfl rfl ?_
  refine hj_aload_n hX rfl 0 rfl dX4_init_84 ?_
  refine hj_bipush hX (v := 8) (by decide) dX4_init_85 ?_
  refine hj_newi hX (sh := ((0, 4, [some (some 1), some (some 4), some (some 15), some (some 26), some (some 31), some (some 36), some (some 78), some none, some none, none]) :: hpT 90)) (N := 8) X4_init_mar (by decide) (by decide) (by decide) ⟨(Nat.le_of_ble_eq_true rfl), (Nat.le_of_ble_eq_true rfl)⟩ dX4_init_87 ?_
  refine hj_eqs (sh2 := (0, 4, [some (some 1), some (some 4), some (some 15), some (some 26), some (some 31), some (some 36), some (some 78), some none, some none, none]) :: hpT 91) (I2 := hW2) (st2 := [.ref 90, .ref 0]) (by decide +kernel) (hz_id (hW2_0 _ (by decide +kernel))) (by decide +kernel) ?_
  refine hj_putr hX (sh := (0, 4, [some (some 1), some (some 4), some (some 15), some (some 26), some (some 31), some (some 36), some (some 78), some none, some none, none]) :: hpT 91) (q := 90) (o := 0) (fs := [some (some 1), some (some 4), some (some 15), some (some 26), some (some 31), some (some 36), some (some 78), some none, some none, none]) (j := 7) rfl (Nat.le_of_ble_eq_true rfl) rfl X4_init_w4 (Nat.le_of_ble_eq_true rfl) rfl X4_init_mf7 tyX4_ok nmX4 rfl rfl rfl (ty := .array .int) (by decide +kernel) (fun _ => rfl) (fun _ => rfl) dX4_init_89 ?_
  refine hj_eqs (sh2 := (0, 4, [some (some 1), some (some 4), some (some 15), some (some 26), some (some 31), some (some 36), some (some 78), some (some 90), some none, none]) :: hpT 91) (I2 := hW2) (st2 := []) rfl rfl rfl ?_
  refine hj_aload_n hX rfl 0 rfl dX4_init_92 ?_
  refine hj_bipush hX (v := 8) (by decide) dX4_init_93 ?_
  refine hj_newi hX (sh := ((0, 4, [some (some 1), some (some 4), some (some 15), some (some 26), some (some 31), some (some 36), some (some 78), some (some 90), some none, none]) :: hpT 91)) (N := 8) X4_init_mar (by decide) (by decide) (by decide) ⟨(Nat.le_of_ble_eq_true rfl), (Nat.le_of_ble_eq_true rfl)⟩ dX4_init_95 ?_
  refine hj_eqs (sh2 := (0, 4, [some (some 1), some (some 4), some (some 15), some (some 26), some (some 31), some (some 36), some (some 78), some (some 90), some none, none]) :: hpT 92) (I2 := hW2) (st2 := [.ref 91, .ref 0]) (by decide +kernel) (hz_id (hW2_0 _ (by decide +kernel))) (by decide +kernel) ?_
  refine hj_putr hX (sh := (0, 4, [some (some 1), some (some 4), some (some 15), some (some 26), some (some 31), some (some 36), some (some 78), some (some 90), some none, none]) :: hpT 92) (q := 91) (o := 0) (fs := [some (some 1), some (some 4), some (some 15), some (some 26), some (some 31), some (some 36), some (some 78), some (some 90), some none, none]) (j := 8) rfl (Nat.le_of_ble_eq_true rfl) rfl X4_init_w4 (Nat.le_of_ble_eq_true rfl) rfl X4_init_mf8 tyX4_ok nmX4 rfl rfl rfl (ty := .array .int) (by decide +kernel) (fun _ => rfl) (fun _ => rfl) dX4_init_97 ?_
  refine hj_eqs (sh2 := (0, 4, [some (some 1), some (some 4), some (some 15), some (some 26), some (some 31), some (some 36), some (some 78), some (some 90), some (some 91), none]) :: hpT 92) (I2 := hW2) (st2 := []) rfl rfl rfl ?_
  refine hj_eqs (sh2 := hpC) (I2 := hW2) (st2 := []) (by decide +kernel) rfl rfl ?_
  exact X4_init_b100_ok hX (hq_X4_of (fun k hk => by unfold hpC; rw [List.getElem?_take, if_pos hk])) hKs h)
