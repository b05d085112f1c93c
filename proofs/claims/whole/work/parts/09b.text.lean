def hBy : List Int32 := [103, 48, 44, 48, 44, 57, 44, 49, 44, 50, 48, 59, 103, 49, 44, 51, 44, 54, 44, 50, 44, 49, 53, 59, 103, 50, 44, 57, 57, 44, 50, 44, 49, 44, 49, 50, 59, 103, 51, 44, 49, 48, 44, 53, 44, 49, 44, 51, 48, 59, 103, 48, 44, 57, 57, 44, 49, 52, 44, 51, 44, 49, 48, 59, 102, 48, 44, 50, 44, 50, 59, 102, 49, 44, 52, 44, 53, 59, 102, 50, 44, 52, 44, 49, 59, 108, 50, 44, 48, 44, 49, 59, 108, 49, 44, 50, 44, 51, 59, 108, 51, 44, 48, 59]
def hch (k : Nat) : Int32 := hBy.getD k 0
def hp_Kj (b q v : Nat) (U : State) : Prop := vk_S 1 [104] [hBy] (fun _ => q) (fun _ => v) (fun a : Nat => b ≤ a) U U.heap ∧ va_Z "java/lang/String" "COMPACT_STRINGS" "Z" (.int 1) (fun a : Nat => b ≤ a) U U.heap ∧ va_Zq "jdk/internal/util/Preconditions" "SIOOBE_FORMATTER" "Ljava/util/function/BiFunction;" (fun a : Nat => b ≤ a) U U.heap
theorem hp_Kj.go {b q v : Nat} {u U : State} (hv : u.vm.Alike U.vm) (hh : U.heap = u.heap) (h : hp_Kj b q v u) : hp_Kj b q v U := by
  obtain ⟨h1, h2, h3⟩ := h
  unfold hp_Kj
  rw [hh]
  exact ⟨h1.moved hv, h2.moved hv, h3.moved hv⟩
def hp_Ks (b z : Nat) (U : State) : Prop := vk_R RX4 55 "g0,0,9,1,20;g1,3,6,2,15;g2,99,2,1,12;g3,10,5,1,30;g0,99,14,3,10;f0,2,2;f1,4,5;f2,4,1;l2,0,1;l1,2,3;l3,0;" z U ∧ ∃ v, hp_Kj b z v U
theorem hp_Ks.same {b z : Nat} (U U2 : State) (hh : U.heap = U2.heap) (hv : U.vm = U2.vm) (h : hp_Ks b z U) : hp_Ks b z U2 := by
  obtain ⟨h1, v, h2⟩ := h
  exact ⟨vk_R.same hv.symm h1, v, h2.go (by rw [hv]; exact Vm.Alike.refl _) hh.symm⟩
theorem hp_Kj.blind {b q v : Nat} {as : List Value} : FrameBlind (va_Pc as (hp_Kj b q v)) := fun a U g mk h => ⟨h.1, h.2.go (u := U) (U := U.calling g mk a) (Vm.Alike.refl U.vm) rfl⟩
theorem hch_ok : ∀ k, k < 104 → (((hch k) &&& 255).toUInt32 % 65536).toInt32 = hch k := by decide +kernel
theorem hch_nar2 : ∀ k, k < 104 → narrow .char (.int (hch k)) = .int (hch k) := by decide +kernel
theorem hch_nar (k : Nat) (h : k < 104) : narrow .char (.int ((((hch k) &&& 255).toUInt32 % 65536).toInt32)) = .int ((((hch k) &&& 255).toUInt32 % 65536).toInt32) := by
  rw [hch_ok k h]
  exact hch_nar2 k h
section HJT
variable {p : Program} {l : Launch} {e : Env} {R : Room} {s : State} {m : MethodId} {args : Array Value} {below : List Frame} {meth : Method} {c : Code} {H : Heap} {locs : List Loc} {cells slots : Nat} {Q : State → Prop}
theorem hj_cSv {pc : Nat} {ls : Array Slot} {rest : List Value} {post : Unit → Prop} {a : Array Value} {st0 : List Value} (hr : CallRun p l e R s m args below meth c H locs cells slots 0 0 (F0 m pc ls st0) rest (va_Sv post a) (fun _ => False))
    (kk : W p l e R s m args below meth c H locs cells slots Q (F0 m (pc + 3) ls rest)) : W p l e R s m args below meth c H locs cells slots Q (F0 m pc ls st0) := by
  intro T hT X
  obtain ⟨v, st₀, t, T', L, h0, X', hL, e1, ⟨hv, hp, hh⟩, st⟩ := hr T hT X
  cases hv
  obtain ⟨t2, a1, b1⟩ := kk T' (by rw [e1, hh, h0]) (Stand.forget X' (fun q h => (hL q h).elim))
  exact ⟨t2, st t2 a1, b1⟩
end HJT
set_option maxHeartbeats 4000000 in
set_option maxRecDepth 100000 in
theorem hj0_coder (l : Launch) (b q v : Nat) : Met l yJ0_coder_7d493 wsJ0_coder_7d493 ({ frames := 0, cells := 0, slots := 0, locals := 0 }) (va_Pc [.ref q] (hp_Kj b q v)) (vp_Si (fun r => r = 0)) 0 0 (fun _ => False) := by
  refine Met.ofW (cc := cJ0_coder_7d493) (maxL := 1) (ret := (some .byte)) (by decide) rfl ?_
  intro p e s m args below meth c s₁ B hml hv
  obtain ⟨rfl, hS0, hC, hF⟩ := hv
  have hx := B.exec
  have hb := B.bytes
  have hr := B.returns
  have hts := atoms_spec (ws := wsJ0_coder_7d493) B.pre
  have hown : s.vm.findClass RJ0 = some m.cls := findClass_of_methodNamed B.named
  have hlocks := B.notSynchronized
  have hS : va_S (fun a : Nat => b ≤ a) s.heap s.heap [] := va_S.rf
  have hl := lv_entry ([.ref q]) (n := 1) (Nat.le_of_ble_eq_true rfl)
  rw [lg_entry_eq]
  generalize (lg_sl ([.ref q]) ++ List.replicate (1 - (lg_sl ([.ref q])).length) Slot.unset).toArray = ls at hl ⊢
  have hl : lv_has ls 1 [(0, .ref q)] := hl
  refine va_gets hx hb hC hS hown (hts (.fieldLink RJ0 38 "java/lang/String" "COMPACT_STRINGS" "Z") (by decide +kernel)) (fun x h => h) dJ0_coder_7d493_0 ?_
  refine lv_if_eq (tgt := 13) hx hb dJ0_coder_7d493_3 (by decide) (fun c => absurd c (by decide)) (fun _ => ?_)
  refine lv_aload_n hx hb dJ0_coder_7d493_6 rfl (lv_at hl 0 rfl) ?_
  refine vk_getf hx hb (hS0.1 0 (by decide)).2.1 hS hown (hts (.fieldLink RJ0 15 "java/lang/String" "coder" "B") (by decide +kernel)) (fun x h => h) dJ0_coder_7d493_7 ?_
  refine lv_goto hx hb (tgt := 14) dJ0_coder_7d493_10 (by decide) ?_
  exact W.zret (v := 0) (ty := .byte) hx hb hr rfl (fun t ht _ => ⟨0, rfl, rfl, ht⟩) (fun _ h => by cases h) dJ0_coder_7d493_14
set_option maxHeartbeats 4000000 in
set_option maxRecDepth 100000 in
theorem hj0_isLatin1 (l : Launch) (b q v : Nat) : Met l yJ0_isLatin1_aae02 wsJ0_isLatin1_aae02 ({ frames := 0, cells := 0, slots := 0, locals := 0 }) (va_Pc [.ref q] (hp_Kj b q v)) (vp_Si (fun r => r = 1)) 0 0 (fun _ => False) := by
  refine Met.ofW (cc := cJ0_isLatin1_aae02) (maxL := 1) (ret := (some .boolean)) (by decide) rfl ?_
  intro p e s m args below meth c s₁ B hml hv
  obtain ⟨rfl, hS0, hC, hF⟩ := hv
  have hx := B.exec
  have hb := B.bytes
  have hr := B.returns
  have hts := atoms_spec (ws := wsJ0_isLatin1_aae02) B.pre
  have hown : s.vm.findClass RJ0 = some m.cls := findClass_of_methodNamed B.named
  have hlocks := B.notSynchronized
  have hS : va_S (fun a : Nat => b ≤ a) s.heap s.heap [] := va_S.rf
  have hl := lv_entry ([.ref q]) (n := 1) (Nat.le_of_ble_eq_true rfl)
  rw [lg_entry_eq]
  generalize (lg_sl ([.ref q]) ++ List.replicate (1 - (lg_sl ([.ref q])).length) Slot.unset).toArray = ls at hl ⊢
  have hl : lv_has ls 1 [(0, .ref q)] := hl
  refine va_gets hx hb hC hS hown (hts (.fieldLink RJ0 38 "java/lang/String" "COMPACT_STRINGS" "Z") (by decide +kernel)) (fun x h => h) dJ0_isLatin1_aae02_0 ?_
  refine lv_if_eq (tgt := 17) hx hb dJ0_isLatin1_aae02_3 (by decide) (fun c => absurd c (by decide)) (fun _ => ?_)
  refine lv_aload_n hx hb dJ0_isLatin1_aae02_6 rfl (lv_at hl 0 rfl) ?_
  refine vk_getf hx hb (hS0.1 0 (by decide)).2.1 hS hown (hts (.fieldLink RJ0 15 "java/lang/String" "coder" "B") (by decide +kernel)) (fun x h => h) dJ0_isLatin1_aae02_7 ?_
  refine lv_if_ne (tgt := 17) hx hb dJ0_isLatin1_aae02_10 (by decide) (fun c => absurd rfl c) (fun _ => ?_)
  refine lv_iconst (v := 1) hx hb dJ0_isLatin1_aae02_13 (by decide) ?_
  refine lv_goto hx hb (tgt := 18) dJ0_isLatin1_aae02_14 (by decide) ?_
  exact W.zret (v := 1) (ty := .boolean) hx hb hr rfl (fun t ht _ => ⟨1, rfl, rfl, ht⟩) (fun _ h => by cases h) dJ0_isLatin1_aae02_18
set_option maxHeartbeats 4000000 in
set_option maxRecDepth 100000 in
theorem hj0_length (l : Launch) (b q v : Nat) : Met l yJ0_length_8abf5 wsJ0_length_8abf5 ({ frames := 1, cells := 0, slots := 0, locals := 40 }) (va_Pc [.ref q] (hp_Kj b q v)) (vp_Si (fun r => r = nI 104)) 0 0 (fun _ => False) := by
  refine Met.ofW (cc := cJ0_length_8abf5) (maxL := 1) (ret := (some .int)) (by decide) rfl ?_
  intro p e s m args below meth c s₁ B hml hv
  obtain ⟨rfl, hS0, hC, hF⟩ := hv
  have hx := B.exec
  have hb := B.bytes
  have hr := B.returns
  have hts := atoms_spec (ws := wsJ0_length_8abf5) B.pre
  have hown : s.vm.findClass RJ0 = some m.cls := findClass_of_methodNamed B.named
  have hlocks := B.notSynchronized
  have hS : va_S (fun a : Nat => b ≤ a) s.heap s.heap [] := va_S.rf
  have hl := lv_entry ([.ref q]) (n := 1) (Nat.le_of_ble_eq_true rfl)
  rw [lg_entry_eq]
  generalize (lg_sl ([.ref q]) ++ List.replicate (1 - (lg_sl ([.ref q])).length) Slot.unset).toArray = ls at hl ⊢
  have hl : lv_has ls 1 [(0, .ref q)] := hl
  refine lv_aload_n hx hb dJ0_length_8abf5_0 rfl (lv_at hl 0 rfl) ?_
  refine vk_getf hx hb (hS0.1 0 (by decide)).2.2.1 hS hown (hts (.fieldLink RJ0 9 "java/lang/String" "value" "[B") (by decide +kernel)) (fun x h => h) dJ0_length_8abf5_1 ?_
  refine va_tlen hx hb (hS0.1 0 (by decide)).2.2.2 hS (v := nI 104) rfl dJ0_length_8abf5_4 ?_
  refine lv_aload_n hx hb dJ0_length_8abf5_5 rfl (lv_at hl 0 rfl) ?_
  refine vp_callSi (W.runV (As := []) (rest := [.int (nI 104)]) ⟨hx, hb, hml, hown, hts⟩ (hj0_coder l b q v) (cwV 0 hts gJ0_length_8abf5_J0_coder_7d493 rfl rfl rfl (by decide +kernel) ⟨(Nat.le_of_ble_eq_true rfl), (Nat.le_of_ble_eq_true rfl)⟩) ⟨hp_Kj.blind, vk_recv hS0 (i := 0) (by decide) hS, fun U hU hW => ⟨rfl, hp_Kj.go hW.alike hU ⟨hS0, hC, hF⟩⟩⟩ rfl rfl hl.1 rfl (lv_room (Nat.le_of_ble_eq_true rfl)) dJ0_length_8abf5_6 ⟨(Nat.le_of_ble_eq_true rfl), (Nat.le_of_ble_eq_true rfl)⟩) (fun r hr1 => ?_)
  subst hr1
  refine lv_ishr hx hb dJ0_length_8abf5_9 ?_
  exact W.iret (v := nI 104 >>> ((0 : Int32) &&& 31)) hx hb hr (fun t ht _ => ⟨_, rfl, by decide +kernel, ht⟩) (fun _ h => by cases h) dJ0_length_8abf5_10
set_option maxHeartbeats 4000000 in
set_option maxRecDepth 100000 in
theorem hj3_check (l : Launch) (b q v : Nat) (t : Nat) (i : Int32) (hi : vp_in i 104) : Met l yJ3_checkIndex_8e157 wsJ3_checkIndex_8e157 ({ frames := 0, cells := 0, slots := 0, locals := 0 }) (va_Pc [.int i, .int (nI 104), .ref t] (hp_Kj b q v)) (vp_Si (fun r => r = i)) 0 0 (fun _ => False) := by
  refine Met.ofW (cc := cJ3_checkIndex_8e157) (maxL := 3) (ret := (some .int)) (by decide) rfl ?_
  intro p e s m args below meth c s₁ B hml hv
  obtain ⟨rfl, hS0, hC, hF⟩ := hv
  have hx := B.exec
  have hb := B.bytes
  have hr := B.returns
  have hlocks := B.notSynchronized
  have hl := lv_entry ([.int i, .int (nI 104), .ref t]) (n := 3) (Nat.le_of_ble_eq_true rfl)
  rw [lg_entry_eq]
  generalize (lg_sl ([.int i, .int (nI 104), .ref t]) ++ List.replicate (3 - (lg_sl ([.int i, .int (nI 104), .ref t])).length) Slot.unset).toArray = ls at hl ⊢
  have hl : lv_has ls 3 [(0, .int i), (1, .int (nI 104)), (2, .ref t)] := hl
  have h0 : ¬ i < 0 := fun z => hi (Or.inl z)
  have h1 : i < nI 104 := by
    have h2 : i.toNatClampNeg < 104 := Nat.not_le.mp fun z => hi (Or.inr z)
    have h3 : (0 : Int) ≤ i.toInt := by
      have := Int32.not_lt.mp h0
      simpa using Int32.le_iff_toInt_le.mp this
    rw [Int32.lt_iff_toInt_lt, nI_toInt (by decide)]
    have h4 : i.toNatClampNeg = i.toInt.toNat := rfl
    omega
  refine lv_iload_n hx hb dJ3_checkIndex_8e157_0 rfl (lv_at hl 0 rfl) ?_
  refine lv_if_lt (tgt := 9) hx hb dJ3_checkIndex_8e157_1 (by decide) (fun z => absurd z h0) (fun _ => ?_)
  refine lv_iload_n hx hb dJ3_checkIndex_8e157_4 rfl (lv_at hl 0 rfl) ?_
  refine lv_iload_n hx hb dJ3_checkIndex_8e157_5 rfl (lv_at hl 1 rfl) ?_
  refine lv_icmp_lt (tgt := 16) hx hb dJ3_checkIndex_8e157_6 (by decide) (fun _ => ?_) (fun z => absurd h1 z)
  refine lv_iload_n hx hb dJ3_checkIndex_8e157_16 rfl (lv_at hl 0 rfl) ?_
  exact W.iret (v := i) hx hb hr (fun t ht _ => ⟨_, rfl, rfl, ht⟩) (fun _ h => by cases h) dJ3_checkIndex_8e157_17
set_option maxHeartbeats 4000000 in
set_option maxRecDepth 100000 in
theorem hj3_checkN (l : Launch) (b q v : Nat) (i : Int32) (hi : vp_in i 104) : Met l yJ3_checkIndex_8e157 wsJ3_checkIndex_8e157 ({ frames := 0, cells := 0, slots := 0, locals := 0 }) (va_Pc [.int i, .int (nI 104), .null] (hp_Kj b q v)) (vp_Si (fun r => r = i)) 0 0 (fun _ => False) := by
  refine Met.ofW (cc := cJ3_checkIndex_8e157) (maxL := 3) (ret := (some .int)) (by decide) rfl ?_
  intro p e s m args below meth c s₁ B hml hv
  obtain ⟨rfl, hS0, hC, hF⟩ := hv
  have hx := B.exec
  have hb := B.bytes
  have hr := B.returns
  have hlocks := B.notSynchronized
  have hl := lv_entry ([.int i, .int (nI 104), .null]) (n := 3) (Nat.le_of_ble_eq_true rfl)
  rw [lg_entry_eq]
  generalize (lg_sl ([.int i, .int (nI 104), .null]) ++ List.replicate (3 - (lg_sl ([.int i, .int (nI 104), .null])).length) Slot.unset).toArray = ls at hl ⊢
  have hl : lv_has ls 3 [(0, .int i), (1, .int (nI 104)), (2, .null)] := hl
  have h0 : ¬ i < 0 := fun z => hi (Or.inl z)
  have h1 : i < nI 104 := by
    have h2 : i.toNatClampNeg < 104 := Nat.not_le.mp fun z => hi (Or.inr z)
    have h3 : (0 : Int) ≤ i.toInt := by
      have := Int32.not_lt.mp h0
      simpa using Int32.le_iff_toInt_le.mp this
    rw [Int32.lt_iff_toInt_lt, nI_toInt (by decide)]
    have h4 : i.toNatClampNeg = i.toInt.toNat := rfl
    omega
  refine lv_iload_n hx hb dJ3_checkIndex_8e157_0 rfl (lv_at hl 0 rfl) ?_
  refine lv_if_lt (tgt := 9) hx hb dJ3_checkIndex_8e157_1 (by decide) (fun z => absurd z h0) (fun _ => ?_)
  refine lv_iload_n hx hb dJ3_checkIndex_8e157_4 rfl (lv_at hl 0 rfl) ?_
  refine lv_iload_n hx hb dJ3_checkIndex_8e157_5 rfl (lv_at hl 1 rfl) ?_
  refine lv_icmp_lt (tgt := 16) hx hb dJ3_checkIndex_8e157_6 (by decide) (fun _ => ?_) (fun z => absurd h1 z)
  refine lv_iload_n hx hb dJ3_checkIndex_8e157_16 rfl (lv_at hl 0 rfl) ?_
  exact W.iret (v := i) hx hb hr (fun t ht _ => ⟨_, rfl, rfl, ht⟩) (fun _ h => by cases h) dJ3_checkIndex_8e157_17
set_option maxHeartbeats 4000000 in
set_option maxRecDepth 100000 in
theorem hj0_check (l : Launch) (b q v : Nat) (i : Int32) (hi : vp_in i 104) : Met l yJ0_checkIndex_df160 wsJ0_checkIndex_df160 ({ frames := 1, cells := 0, slots := 0, locals := 40 }) (va_Pc [.int i, .int (nI 104)] (hp_Kj b q v)) (va_Sv (fun _ => True)) 0 0 (fun _ => False) := by
  refine Met.ofW (cc := cJ0_checkIndex_df160) (maxL := 2) (ret := none) (by decide) rfl ?_
  intro p e s m args below meth c s₁ B hml hv
  obtain ⟨rfl, hS0, hC, hF⟩ := hv
  have hx := B.exec
  have hb := B.bytes
  have hr := B.returns
  have hts := atoms_spec (ws := wsJ0_checkIndex_df160) B.pre
  have hown : s.vm.findClass RJ0 = some m.cls := findClass_of_methodNamed B.named
  have hlocks := B.notSynchronized
  have hS : va_S (fun a : Nat => b ≤ a) s.heap s.heap [] := va_S.rf
  have hl := lv_entry ([.int i, .int (nI 104)]) (n := 2) (Nat.le_of_ble_eq_true rfl)
  rw [lg_entry_eq]
  generalize (lg_sl ([.int i, .int (nI 104)]) ++ List.replicate (2 - (lg_sl ([.int i, .int (nI 104)])).length) Slot.unset).toArray = ls at hl ⊢
  have hl : lv_has ls 2 [(0, .int i), (1, .int (nI 104))] := hl
  refine lv_iload_n hx hb dJ0_checkIndex_df160_0 rfl (lv_at hl 0 rfl) ?_
  refine lv_iload_n hx hb dJ0_checkIndex_df160_1 rfl (lv_at hl 1 rfl) ?_
  have fin : ∀ w : Value, True := fun _ => trivial
  rcases hF with hF | ⟨tF, hF⟩
  · refine va_gets hx hb hF hS hown (hts (.fieldLink RJ0 1053 "jdk/internal/util/Preconditions" "SIOOBE_FORMATTER" "Ljava/util/function/BiFunction;") (by decide +kernel)) (fun x h => h) dJ0_checkIndex_df160_2 ?_
    refine vp_callSi (W.runS (As := [.int i, .int (nI 104), .null]) (rest := []) ⟨hx, hb, hml, hown, hts⟩ (hj3_checkN l b q v i hi) (va_cwS 3 hts gJ0_checkIndex_df160_J3_checkIndex_8e157 rfl rfl rfl (by decide +kernel) ⟨(Nat.le_of_ble_eq_true rfl), (Nat.le_of_ble_eq_true rfl)⟩) ⟨hp_Kj.blind, fun U hU hW => ⟨rfl, hp_Kj.go hW.alike hU ⟨hS0, hC, Or.inl hF⟩⟩⟩ rfl rfl hl.1 rfl (lv_room (Nat.le_of_ble_eq_true rfl)) dJ0_checkIndex_df160_5 ⟨(Nat.le_of_ble_eq_true rfl), (Nat.le_of_ble_eq_true rfl)⟩) (fun r hr1 => ?_)
    refine lv_pop hx hb dJ0_checkIndex_df160_8 rfl ?_
    exact W.vret hx hb hr (fun t ht _ => ⟨rfl, trivial, ht⟩) (fun _ h => by cases h) dJ0_checkIndex_df160_9
  · refine va_gets hx hb hF hS hown (hts (.fieldLink RJ0 1053 "jdk/internal/util/Preconditions" "SIOOBE_FORMATTER" "Ljava/util/function/BiFunction;") (by decide +kernel)) (fun x h => h) dJ0_checkIndex_df160_2 ?_
    refine vp_callSi (W.runS (As := [.int i, .int (nI 104), .ref tF]) (rest := []) ⟨hx, hb, hml, hown, hts⟩ (hj3_check l b q v tF i hi) (va_cwS 3 hts gJ0_checkIndex_df160_J3_checkIndex_8e157 rfl rfl rfl (by decide +kernel) ⟨(Nat.le_of_ble_eq_true rfl), (Nat.le_of_ble_eq_true rfl)⟩) ⟨hp_Kj.blind, fun U hU hW => ⟨rfl, hp_Kj.go hW.alike hU ⟨hS0, hC, Or.inr ⟨tF, hF⟩⟩⟩⟩ rfl rfl hl.1 rfl (lv_room (Nat.le_of_ble_eq_true rfl)) dJ0_checkIndex_df160_5 ⟨(Nat.le_of_ble_eq_true rfl), (Nat.le_of_ble_eq_true rfl)⟩) (fun r hr1 => ?_)
    refine lv_pop hx hb dJ0_checkIndex_df160_8 rfl ?_
    exact W.vret hx hb hr (fun t ht _ => ⟨rfl, trivial, ht⟩) (fun _ h => by cases h) dJ0_checkIndex_df160_9
set_option maxHeartbeats 4000000 in
set_option maxRecDepth 100000 in
theorem hj1_charAt (l : Launch) (b q v : Nat) (i : Int32) (hi : vp_in i 104) : Met l yJ1_charAt_3b067 wsJ1_charAt_3b067 ({ frames := 2, cells := 0, slots := 0, locals := 80 }) (va_Pc [.ref v, .int i] (hp_Kj b q v)) (vp_Si (fun r => r = hch i.toNatClampNeg)) 0 0 (fun _ => False) := by
  refine Met.ofW (cc := cJ1_charAt_3b067) (maxL := 2) (ret := (some .char)) (by decide) rfl ?_
  intro p e s m args below meth c s₁ B hml hv
  obtain ⟨rfl, hS0, hC, hF⟩ := hv
  have hx := B.exec
  have hb := B.bytes
  have hr := B.returns
  have hts := atoms_spec (ws := wsJ1_charAt_3b067) B.pre
  have hown : s.vm.findClass RJ1 = some m.cls := findClass_of_methodNamed B.named
  have hlocks := B.notSynchronized
  have hS : va_S (fun a : Nat => b ≤ a) s.heap s.heap [] := va_S.rf
  have hl := lv_entry ([.ref v, .int i]) (n := 2) (Nat.le_of_ble_eq_true rfl)
  rw [lg_entry_eq]
  generalize (lg_sl ([.ref v, .int i]) ++ List.replicate (2 - (lg_sl ([.ref v, .int i])).length) Slot.unset).toArray = ls at hl ⊢
  have hl : lv_has ls 2 [(0, .ref v), (1, .int i)] := hl
  refine lv_iload_n hx hb dJ1_charAt_3b067_0 rfl (lv_at hl 1 rfl) ?_
  refine lv_aload_n hx hb dJ1_charAt_3b067_1 rfl (lv_at hl 0 rfl) ?_
  refine va_tlen hx hb (hS0.1 0 (by decide)).2.2.2 hS (v := nI 104) rfl dJ1_charAt_3b067_2 ?_
  refine hj_cSv (W.runS (As := [.int i, .int (nI 104)]) (rest := []) ⟨hx, hb, hml, hown, hts⟩ (hj0_check l b q v i hi) (va_cwS 2 hts gJ1_charAt_3b067_J0_checkIndex_df160 rfl rfl rfl (by decide +kernel) ⟨(Nat.le_of_ble_eq_true rfl), (Nat.le_of_ble_eq_true rfl)⟩) ⟨hp_Kj.blind, fun U hU hW => ⟨rfl, hp_Kj.go hW.alike hU ⟨hS0, hC, hF⟩⟩⟩ rfl rfl hl.1 rfl (lv_room (Nat.le_of_ble_eq_true rfl)) dJ1_charAt_3b067_3 ⟨(Nat.le_of_ble_eq_true rfl), (Nat.le_of_ble_eq_true rfl)⟩) ?_
  refine lv_aload_n hx hb dJ1_charAt_3b067_6 rfl (lv_at hl 0 rfl) ?_
  refine lv_iload_n hx hb dJ1_charAt_3b067_7 rfl (lv_at hl 1 rfl) ?_
  refine va_tb hx hb (hS0.1 0 (by decide)).2.2.2 hS hi (v := .int (hch i.toNatClampNeg)) rfl dJ1_charAt_3b067_8 ?_
  refine lv_sipush (v := 255) hx hb dJ1_charAt_3b067_9 (by decide) ?_
  refine lv_iand hx hb dJ1_charAt_3b067_12 ?_
  refine lv_i2c hx hb dJ1_charAt_3b067_13 rfl ?_
  have hlt : i.toNatClampNeg < 104 := Nat.not_le.mp fun z => hi (Or.inr z)
  have hE : (((hch i.toNatClampNeg) &&& 255).toUInt32 % 65536).toInt32 = hch i.toNatClampNeg := hch_ok _ hlt
  exact W.zret (ty := .char) hx hb hr (hch_nar _ hlt) (fun t ht _ => ⟨_, rfl, hE, ht⟩) (fun _ h => by cases h) dJ1_charAt_3b067_14
set_option maxHeartbeats 4000000 in
set_option maxRecDepth 100000 in
theorem hj0_charAt (l : Launch) (b q v : Nat) (i : Int32) (hi : vp_in i 104) : Met l yJ0_charAt_5068e wsJ0_charAt_5068e ({ frames := 3, cells := 0, slots := 0, locals := 120 }) (va_Pc [.ref q, .int i] (hp_Kj b q v)) (vp_Si (fun r => r = hch i.toNatClampNeg)) 0 0 (fun _ => False) := by
  refine Met.ofW (cc := cJ0_charAt_5068e) (maxL := 2) (ret := (some .char)) (by decide) rfl ?_
  intro p e s m args below meth c s₁ B hml hv
  obtain ⟨rfl, hS0, hC, hF⟩ := hv
  have hx := B.exec
  have hb := B.bytes
  have hr := B.returns
  have hts := atoms_spec (ws := wsJ0_charAt_5068e) B.pre
  have hown : s.vm.findClass RJ0 = some m.cls := findClass_of_methodNamed B.named
  have hlocks := B.notSynchronized
  have hS : va_S (fun a : Nat => b ≤ a) s.heap s.heap [] := va_S.rf
  have hl := lv_entry ([.ref q, .int i]) (n := 2) (Nat.le_of_ble_eq_true rfl)
  rw [lg_entry_eq]
  generalize (lg_sl ([.ref q, .int i]) ++ List.replicate (2 - (lg_sl ([.ref q, .int i])).length) Slot.unset).toArray = ls at hl ⊢
  have hl : lv_has ls 2 [(0, .ref q), (1, .int i)] := hl
  refine lv_aload_n hx hb dJ0_charAt_5068e_0 rfl (lv_at hl 0 rfl) ?_
  refine vp_callSi (W.runV (As := []) (rest := []) ⟨hx, hb, hml, hown, hts⟩ (hj0_isLatin1 l b q v) (cwV 0 hts gJ0_charAt_5068e_J0_isLatin1_aae02 rfl rfl rfl (by decide +kernel) ⟨(Nat.le_of_ble_eq_true rfl), (Nat.le_of_ble_eq_true rfl)⟩) ⟨hp_Kj.blind, vk_recv hS0 (i := 0) (by decide) hS, fun U hU hW => ⟨rfl, hp_Kj.go hW.alike hU ⟨hS0, hC, hF⟩⟩⟩ rfl rfl hl.1 rfl (lv_room (Nat.le_of_ble_eq_true rfl)) dJ0_charAt_5068e_1 ⟨(Nat.le_of_ble_eq_true rfl), (Nat.le_of_ble_eq_true rfl)⟩) (fun r hr1 => ?_)
  subst hr1
  refine lv_if_eq (tgt := 16) hx hb dJ0_charAt_5068e_4 (by decide) (fun z => absurd z (by decide)) (fun _ => ?_)
  refine lv_aload_n hx hb dJ0_charAt_5068e_7 rfl (lv_at hl 0 rfl) ?_
  refine vk_getf hx hb (hS0.1 0 (by decide)).2.2.1 hS hown (hts (.fieldLink RJ0 9 "java/lang/String" "value" "[B") (by decide +kernel)) (fun x h => h) dJ0_charAt_5068e_8 ?_
  refine lv_iload_n hx hb dJ0_charAt_5068e_11 rfl (lv_at hl 1 rfl) ?_
  refine vp_callSi (W.runS (As := [.ref v, .int i]) (rest := []) ⟨hx, hb, hml, hown, hts⟩ (hj1_charAt l b q v i hi) (va_cwS 2 hts gJ0_charAt_5068e_J1_charAt_3b067 rfl rfl rfl (by decide +kernel) ⟨(Nat.le_of_ble_eq_true rfl), (Nat.le_of_ble_eq_true rfl)⟩) ⟨hp_Kj.blind, fun U hU hW => ⟨rfl, hp_Kj.go hW.alike hU ⟨hS0, hC, hF⟩⟩⟩ rfl rfl hl.1 rfl (lv_room (Nat.le_of_ble_eq_true rfl)) dJ0_charAt_5068e_12 ⟨(Nat.le_of_ble_eq_true rfl), (Nat.le_of_ble_eq_true rfl)⟩) (fun r hr1 => ?_)
  subst hr1
  have hlt : i.toNatClampNeg < 104 := Nat.not_le.mp fun z => hi (Or.inr z)
  exact W.zret (ty := .char) hx hb hr (hch_nar2 _ hlt) (fun t ht _ => ⟨_, rfl, rfl, ht⟩) (fun _ h => by cases h) dJ0_charAt_5068e_15
section HJU
variable {p : Program} {l : Launch} {e : Env} {R : Room} {s : State} {m : MethodId} {args : Array Value} {below : List Frame} {meth : Method} {c : Code} {Q : State → Prop} {D : va_G} {E : Nat → ClassId} {b z nL : Nat} {nm : String} {cc : ByteArray} {ret : Option FieldType} {sh : List hS} {cells slots : Nat} {I : hM} {pc : Nat} {lv : List (Nat × Value)} {rest : List Value}
theorem hj_ldcS (hX : hp_X p s m args meth c yX4_init.cls cc nL wsX4_init D E ret nm) {tx : String} {index : Nat} (hR : vk_R RX4 index tx z s) (hd : decode cc pc = .ok (.ldc index, 2)) (k : hp_J p l e R s m args below meth c Q D E b z nL sh cells slots I (pc + 2) lv (.null :: rest)) : hp_J p l e R s m args below meth c Q D E b z nL sh cells slots I pc lv rest := fun hz H locs ls hP hS hl =>
  va_ldcS hX.1 hX.2.1 hX.2.2.2.1 hR hd (k hz H locs ls hP hS hl)
theorem hp_vkS {v : Nat} {H : Heap} {locs : List Loc} (hK : hp_Kj b z v s) (hS : va_S (fun q : Nat => b ≤ q) s.heap H locs) (U : State) (hU : U.heap = H) (hW : s.WarmedH U.vm) : hp_Kj b z v U := by
  obtain ⟨h1, h2, h3⟩ := hK
  refine ⟨?_, ?_, ?_⟩
  · rw [hU]
    exact (h1.kept hS.2.1).moved hW.alike
  · rw [hU]
    exact (h2.kept hS.2.1).moved hW.alike
  · rw [hU]
    exact (h3.kept hS.2.1).moved hW.alike
theorem hj_strlen (hX : hp_X p s m args meth c yX4_init.cls cc nL wsX4_init D E ret nm) (hK : hp_Ks b z s) (hR : 1 + 1 ≤ R.frames ∧ 8 + (1 + 11) + 40 ≤ R.locals) (hf : cells ≤ R.cells ∧ slots ≤ R.slots) (hst : (rest.map fun v => v.category).sum ≤ 8) (hd : decode cc pc = .ok (.invokevirtual 57, 3)) (k : hp_J p l e R s m args below meth c Q D E b z nL sh cells slots I (pc + 3) lv (.int (nI 104) :: rest)) : hp_J p l e R s m args below meth c Q D E b z nL sh cells slots I pc lv (.null :: rest) := by
  intro hz H locs ls hP hS hl
  obtain ⟨hR0, v, hj⟩ := hK
  refine vp_callSi (W.runV (As := []) (rest := rest.map (hp_v b z)) ⟨hX.1, hX.2.1, hX.2.2.1, hX.2.2.2.1, hX.2.2.2.2.1⟩ (hj0_length l b z v) (cwV 0 hX.2.2.2.2.1 gX4_init_J0_length_8abf5 rfl rfl rfl (by decide +kernel) hR) ⟨hp_Kj.blind, vk_recv hj.1 (i := 0) (by decide) hS, fun U hU hW => ⟨rfl, hp_vkS hj hS U hU hW⟩⟩ rfl rfl hl.1 rfl (lv_room (by rw [hp_v_cats]; exact hst)) hd ⟨hf.1, hf.2⟩) (fun r hr1 => ?_)
  subst hr1
  exact k hz H locs ls hP hS hl
theorem hj_charAt (hX : hp_X p s m args meth c yX4_init.cls cc nL wsX4_init D E ret nm) {i : Int32} {A : Option (Int32 × hM)} {rr : Int32 × hM} (hK : hp_Ks b z s) (hR : 3 + 1 ≤ R.frames ∧ 8 + (2 + 11) + 120 ≤ R.locals) (hf : cells ≤ R.cells ∧ slots ≤ R.slots) (hst : (rest.map fun v => v.category).sum ≤ 8) (hd : decode cc pc = .ok (.invokevirtual 63, 3)) (h : gd (hx i 104) A = some rr) (k : A = some rr → hp_J p l e R s m args below meth c Q D E b z nL sh cells slots I (pc + 3) lv (.int (hch i.toNatClampNeg) :: rest)) : hp_J p l e R s m args below meth c Q D E b z nL sh cells slots I pc lv (.int i :: .null :: rest) := by
  intro hz H locs ls hP hS hl
  obtain ⟨hR0, v, hj⟩ := hK
  refine vp_callSi (W.runV (As := [.int i]) (rest := rest.map (hp_v b z)) ⟨hX.1, hX.2.1, hX.2.2.1, hX.2.2.2.1, hX.2.2.2.2.1⟩ (hj0_charAt l b z v i (hx_in (gd_e h).1)) (cwV 1 hX.2.2.2.2.1 gX4_init_J0_charAt_5068e rfl rfl rfl (by decide +kernel) hR) ⟨hp_Kj.blind, vk_recv hj.1 (i := 0) (by decide) hS, fun U hU hW => ⟨rfl, hp_vkS hj hS U hU hW⟩⟩ rfl rfl hl.1 rfl (lv_room (by rw [hp_v_cats]; exact hst)) hd ⟨hf.1, hf.2⟩) (fun r hr1 => ?_)
  subst hr1
  exact k (gd_e h).2 hz H locs ls hP hS hl
end HJU
