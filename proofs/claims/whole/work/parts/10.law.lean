def R_law : String := "HatPinsLaw"
def lw_P (b : Addr) (xs : List Int32) (args : Array Value) (s : State) : Prop := args = #[.ref b] ∧ s.IntsAt b xs ∧ xs.length ≤ 320 ∧ (Jvm.Cond.and given_1 narrow_1).before args s = true
def lw_Q (_ : Array Value) (s : State) (o : Outcome) (t : State) : Prop := o = .returned (some (.int 1)) ∧ Framed s o t [] 600000 7302250
def lw_Z (below : List Frame) (a : Array Value) (s : State) : State → Prop := fun t => ∃ o, t.status = .running ∧ Ended t below o ∧ lw_Q a s o t
theorem lw_ret {p : Program} {l : Launch} {e : Env} {s : State} {m : MethodId} {below : List Frame} {meth : Method} {c : Code} {b : Nat} (hx : p.tables.exec = Jvm.exec) (hb : c.code = code) (hr : meth.sig.returnType = ret) (hlocks : meth.locks = false) {pc : Nat} {H : Heap} {ls : Array Slot} (hdg : decode code pc = .ok (.ireturn, 1)) : W p l e room_1 s m #[Value.ref b] below meth c H [] 600000 7302250 (lw_Z below #[Value.ref b] s) (F0 m pc ls [.int 1]) := by
  intro T hT X
  obtain ⟨fs, hret, hrun, hended, hW, hframe⟩ := X.leave (v := some (.int 1)) (hlocks := hlocks) (fun h => by rw [hr] at h; cases h)
  have hmeth' : T.vm.method? m = some meth := X.method'
  refine ⟨T.setFrames fs, ?_, .returned (some (.int 1)), hrun, hended, rfl, ⟨_, rfl⟩, hW, hframe⟩
  jvm_step X.here [X.here.top, hx, hb, hdg, hmeth', hr, ret, narrow_b1]
  (try refine ⟨rfl, ?_⟩); (try refine ⟨rfl, ?_⟩)
  first | (intro acts; rw [hret _ acts rfl rfl rfl]) | rw [hret _ _ rfl rfl rfl]
  exact Steps.refl _
def lw_At (p : Program) (s : State) (m : MethodId) (meth : Method) (c : Code) (b L : Nat) (xs : Nat → Int32) : Prop :=
  p.tables.exec = Jvm.exec ∧ c.code = code ∧ meth.sig.returnType = ret ∧ c.maxLocals = 4 ∧ s.vm.findClass R_law = some m.cls ∧ (∀ w ∈ lw_tbl, w.before #[Value.ref b] s = true) ∧ va_X b L xs s s.heap ∧ b < s.heap.size ∧ meth.locks = false ∧ (Jvm.Cond.and given_1 narrow_1).before #[Value.ref b] s = true

theorem hj_lawret {p : Program} {l : Launch} {e : Env} {s : State} {m : MethodId} {below : List Frame} {meth : Method} {c : Code} {D : va_G} {E : Nat → ClassId} {b z : Nat} {nm : String} {sh : List hS} {cells slots : Nat} {I I2 : hM} {pc : Nat} {lv : List (Nat × Value)} {v r : Int32} (hX : hp_X p s m #[Value.ref z] meth c RL cL_law 4 wsL_law D E ret nm) (hd : decode cL_law pc = .ok (.ireturn, 1)) (h : (some (v, I) : Option (Int32 × hM)) = some (r, I2)) (hr1 : r = 1) (hc : cells ≤ 600000) (hs : slots ≤ 7302250) (hb : s.heap.size ≤ b) : hp_J p l e room_1 s m #[Value.ref z] below meth c (lw_Z below #[Value.ref z] s) D E b z 4 sh cells slots I pc lv [.int v] := by
  cases h
  subst hr1
  intro hz H locs ls hP hS hl
  refine va_forget (fun q hq => Nat.le_trans hb (hS.2.2 q hq)) ?_
  refine W.widen hc hs ?_
  exact lw_ret hX.1 hX.2.1 hX.2.2.2.2.2.2.2.1 hX.2.2.2.2.2.2.1 hd
def law_h18 (xs : Nat → Int32) (L : Nat) (k18 : Int32 → hM → Option (Int32 × hM)) (v3 : Int32) (I : hM) : Option (Int32 × hM) := if ((nI L) - (5 : Int32)) < v3 then (some ((1 : Int32), I)) else (gd (hx v3 L) (if ((xs (v3).toNatClampNeg) &&& (31 : Int32)) = (0 : Int32) then (gd (hx (v3 + (1 : Int32)) L) (ob (X4_write (xs ((v3 + (1 : Int32))).toNatClampNeg) I) (fun u1 Ia2 => gd (hx (v3 + (1 : Int32)) L) (ob (X5_write (xs ((v3 + (1 : Int32))).toNatClampNeg) Ia2) (fun u4 Ia5 => if u1 = u4 then ((k18 (v3 + (5 : Int32)) Ia5)) else (some ((0 : Int32), Ia5))))))) else (if ((xs (v3).toNatClampNeg) &&& (31 : Int32)) = (1 : Int32) then (ob (X4_wipe I) (fun u8 Ia9 => ob (X5_wipe Ia9) (fun u11 Ia12 => if u8 = u11 then ((k18 (v3 + (5 : Int32)) Ia12)) else (some ((0 : Int32), Ia12))))) else (if ((xs (v3).toNatClampNeg) &&& (31 : Int32)) = (2 : Int32) then (ob (X4_fault I) (fun u15 Ia16 => ob (X5_fault Ia16) (fun u18 Ia19 => if u15 = u18 then ((k18 (v3 + (5 : Int32)) Ia19)) else (some ((0 : Int32), Ia19))))) else (if ((xs (v3).toNatClampNeg) &&& (31 : Int32)) = (3 : Int32) then (ob (X4_lay I) (fun u22 Ia23 => ob (X5_lay Ia23) (fun u25 Ia26 => if u22 = u25 then ((k18 (v3 + (5 : Int32)) Ia26)) else (some ((0 : Int32), Ia26))))) else (if ((xs (v3).toNatClampNeg) &&& (31 : Int32)) = (4 : Int32) then (gd (hx (v3 + (1 : Int32)) L) (gd (hx (v3 + (2 : Int32)) L) (ob (X4_going (xs ((v3 + (1 : Int32))).toNatClampNeg) (xs ((v3 + (2 : Int32))).toNatClampNeg) I) (fun u29 Ia30 => gd (hx (v3 + (1 : Int32)) L) (gd (hx (v3 + (2 : Int32)) L) (ob (X5_going (xs ((v3 + (1 : Int32))).toNatClampNeg) (xs ((v3 + (2 : Int32))).toNatClampNeg) Ia30) (fun u32 Ia33 => if u29 = u32 then ((k18 (v3 + (5 : Int32)) Ia33)) else (some ((0 : Int32), Ia33))))))))) else (if ((xs (v3).toNatClampNeg) &&& (31 : Int32)) = (5 : Int32) then (gd (hx (v3 + (1 : Int32)) L) (gd (hx (v3 + (2 : Int32)) L) (ob (X4_lady (xs ((v3 + (1 : Int32))).toNatClampNeg) (xs ((v3 + (2 : Int32))).toNatClampNeg) I) (fun u36 Ia37 => gd (hx (v3 + (1 : Int32)) L) (gd (hx (v3 + (2 : Int32)) L) (ob (X5_lady (xs ((v3 + (1 : Int32))).toNatClampNeg) (xs ((v3 + (2 : Int32))).toNatClampNeg) Ia37) (fun u39 Ia40 => if u36 = u39 then ((k18 (v3 + (5 : Int32)) Ia40)) else (some ((0 : Int32), Ia40))))))))) else (if ((xs (v3).toNatClampNeg) &&& (31 : Int32)) = (6 : Int32) then (gd (hx (v3 + (1 : Int32)) L) (ob (X4_pass (xs ((v3 + (1 : Int32))).toNatClampNeg) I) (fun u43 Ia44 => gd (hx (v3 + (1 : Int32)) L) (ob (X5_pass (xs ((v3 + (1 : Int32))).toNatClampNeg) Ia44) (fun u46 Ia47 => if u43 = u46 then ((k18 (v3 + (5 : Int32)) Ia47)) else (some ((0 : Int32), Ia47))))))) else (if ((xs (v3).toNatClampNeg) &&& (31 : Int32)) = (7 : Int32) then (gd (hx (v3 + (1 : Int32)) L) (gd (hx (v3 + (2 : Int32)) L) (ob (X4_pin (xs ((v3 + (1 : Int32))).toNatClampNeg) (xs ((v3 + (2 : Int32))).toNatClampNeg) I) (fun u50 Ia51 => gd (hx (v3 + (1 : Int32)) L) (gd (hx (v3 + (2 : Int32)) L) (ob (X5_pin (xs ((v3 + (1 : Int32))).toNatClampNeg) (xs ((v3 + (2 : Int32))).toNatClampNeg) Ia51) (fun u53 Ia54 => if u50 = u53 then ((k18 (v3 + (5 : Int32)) Ia54)) else (some ((0 : Int32), Ia54))))))))) else (if ((xs (v3).toNatClampNeg) &&& (31 : Int32)) = (8 : Int32) then (gd (hx (v3 + (1 : Int32)) L) (gd (hx (v3 + (2 : Int32)) L) (ob (X4_lend (xs ((v3 + (1 : Int32))).toNatClampNeg) (xs ((v3 + (2 : Int32))).toNatClampNeg) I) (fun u57 Ia58 => gd (hx (v3 + (1 : Int32)) L) (gd (hx (v3 + (2 : Int32)) L) (ob (X5_lend (xs ((v3 + (1 : Int32))).toNatClampNeg) (xs ((v3 + (2 : Int32))).toNatClampNeg) Ia58) (fun u60 Ia61 => if u57 = u60 then ((k18 (v3 + (5 : Int32)) Ia61)) else (some ((0 : Int32), Ia61))))))))) else (if ((xs (v3).toNatClampNeg) &&& (31 : Int32)) = (9 : Int32) then (ob (X4_undo I) (fun u64 Ia65 => ob (X5_undo Ia65) (fun u67 Ia68 => if u64 = u67 then ((k18 (v3 + (5 : Int32)) Ia68)) else (some ((0 : Int32), Ia68))))) else (if ((xs (v3).toNatClampNeg) &&& (31 : Int32)) = (10 : Int32) then (gd (hx (v3 + (1 : Int32)) L) (gd (hx (v3 + (2 : Int32)) L) (ob (X4_behind (xs ((v3 + (1 : Int32))).toNatClampNeg) (xs ((v3 + (2 : Int32))).toNatClampNeg) I) (fun u71 Ia72 => gd (hx (v3 + (1 : Int32)) L) (gd (hx (v3 + (2 : Int32)) L) (ob (X5_behind (xs ((v3 + (1 : Int32))).toNatClampNeg) (xs ((v3 + (2 : Int32))).toNatClampNeg) Ia72) (fun u74 Ia75 => if u71 = u74 then ((k18 (v3 + (5 : Int32)) Ia75)) else (some ((0 : Int32), Ia75))))))))) else (if ((xs (v3).toNatClampNeg) &&& (31 : Int32)) = (11 : Int32) then (ob (X4_dull I) (fun u78 Ia79 => ob (X5_dull Ia79) (fun u81 Ia82 => if u78 = u81 then ((k18 (v3 + (5 : Int32)) Ia82)) else (some ((0 : Int32), Ia82))))) else (if ((xs (v3).toNatClampNeg) &&& (31 : Int32)) = (12 : Int32) then (ob (X4_quiet I) (fun u85 Ia86 => ob (X5_quiet Ia86) (fun u88 Ia89 => if u85 = u88 then ((k18 (v3 + (5 : Int32)) Ia89)) else (some ((0 : Int32), Ia89))))) else (if ((xs (v3).toNatClampNeg) &&& (31 : Int32)) = (13 : Int32) then (gd (hx (v3 + (1 : Int32)) L) (gd (hx (v3 + (2 : Int32)) L) (ob (X4_stop (xs ((v3 + (1 : Int32))).toNatClampNeg) (xs ((v3 + (2 : Int32))).toNatClampNeg) I) (fun u92 Ia93 => gd (hx (v3 + (1 : Int32)) L) (gd (hx (v3 + (2 : Int32)) L) (ob (X5_stop (xs ((v3 + (1 : Int32))).toNatClampNeg) (xs ((v3 + (2 : Int32))).toNatClampNeg) Ia93) (fun u95 Ia96 => if u92 = u95 then ((k18 (v3 + (5 : Int32)) Ia96)) else (some ((0 : Int32), Ia96))))))))) else (if ((xs (v3).toNatClampNeg) &&& (31 : Int32)) = (14 : Int32) then (gd (hx (v3 + (1 : Int32)) L) (ob (X4_best (xs ((v3 + (1 : Int32))).toNatClampNeg) I) (fun u99 Ia100 => gd (hx (v3 + (1 : Int32)) L) (ob (X5_best (xs ((v3 + (1 : Int32))).toNatClampNeg) Ia100) (fun u102 Ia103 => if u99 = u102 then ((k18 (v3 + (5 : Int32)) Ia103)) else (some ((0 : Int32), Ia103))))))) else (if ((xs (v3).toNatClampNeg) &&& (31 : Int32)) = (15 : Int32) then (gd (hx (v3 + (1 : Int32)) L) (ob (X4_both (xs ((v3 + (1 : Int32))).toNatClampNeg) I) (fun u106 Ia107 => gd (hx (v3 + (1 : Int32)) L) (ob (X5_both (xs ((v3 + (1 : Int32))).toNatClampNeg) Ia107) (fun u109 Ia110 => if u106 = u109 then ((k18 (v3 + (5 : Int32)) Ia110)) else (some ((0 : Int32), Ia110))))))) else (if ((xs (v3).toNatClampNeg) &&& (31 : Int32)) = (16 : Int32) then (gd (hx (v3 + (1 : Int32)) L) (ob (X4_never (xs ((v3 + (1 : Int32))).toNatClampNeg) I) (fun u113 Ia114 => gd (hx (v3 + (1 : Int32)) L) (ob (X5_never (xs ((v3 + (1 : Int32))).toNatClampNeg) Ia114) (fun u116 Ia117 => if u113 = u116 then ((k18 (v3 + (5 : Int32)) Ia117)) else (some ((0 : Int32), Ia117))))))) else (if ((xs (v3).toNatClampNeg) &&& (31 : Int32)) = (17 : Int32) then (gd (hx (v3 + (1 : Int32)) L) (gd (hx (v3 + (2 : Int32)) L) (ob (X4_note (xs ((v3 + (1 : Int32))).toNatClampNeg) (xs ((v3 + (2 : Int32))).toNatClampNeg) I) (fun u120 Ia121 => gd (hx (v3 + (1 : Int32)) L) (gd (hx (v3 + (2 : Int32)) L) (ob (X5_note (xs ((v3 + (1 : Int32))).toNatClampNeg) (xs ((v3 + (2 : Int32))).toNatClampNeg) Ia121) (fun u123 Ia124 => if u120 = u123 then ((k18 (v3 + (5 : Int32)) Ia124)) else (some ((0 : Int32), Ia124))))))))) else (if ((xs (v3).toNatClampNeg) &&& (31 : Int32)) = (18 : Int32) then (ob (X4_forget I) (fun u127 Ia128 => ob (X5_forget Ia128) (fun u130 Ia131 => if u127 = u130 then ((k18 (v3 + (5 : Int32)) Ia131)) else (some ((0 : Int32), Ia131))))) else (if ((xs (v3).toNatClampNeg) &&& (31 : Int32)) = (19 : Int32) then (gd (hx (v3 + (1 : Int32)) L) (ob (X4_waning (xs ((v3 + (1 : Int32))).toNatClampNeg) I) (fun u134 Ia135 => gd (hx (v3 + (1 : Int32)) L) (ob (X5_waning (xs ((v3 + (1 : Int32))).toNatClampNeg) Ia135) (fun u137 Ia138 => if u134 = u137 then ((k18 (v3 + (5 : Int32)) Ia138)) else (some ((0 : Int32), Ia138))))))) else (if ((xs (v3).toNatClampNeg) &&& (31 : Int32)) = (20 : Int32) then (gd (hx (v3 + (1 : Int32)) L) (ob (X4_kinds (xs ((v3 + (1 : Int32))).toNatClampNeg) I) (fun u141 Ia142 => gd (hx (v3 + (1 : Int32)) L) (ob (X5_kinds (xs ((v3 + (1 : Int32))).toNatClampNeg) Ia142) (fun u144 Ia145 => if u141 = u144 then ((k18 (v3 + (5 : Int32)) Ia145)) else (some ((0 : Int32), Ia145))))))) else (if ((xs (v3).toNatClampNeg) &&& (31 : Int32)) = (21 : Int32) then (gd (hx (v3 + (1 : Int32)) L) (gd (hx (v3 + (2 : Int32)) L) (gd (hx (v3 + (3 : Int32)) L) (gd (hx (v3 + (4 : Int32)) L) (ob (X4_late (xs ((v3 + (1 : Int32))).toNatClampNeg) (xs ((v3 + (2 : Int32))).toNatClampNeg) (xs ((v3 + (3 : Int32))).toNatClampNeg) (xs ((v3 + (4 : Int32))).toNatClampNeg) I) (fun u148 Ia149 => gd (hx (v3 + (1 : Int32)) L) (gd (hx (v3 + (2 : Int32)) L) (gd (hx (v3 + (3 : Int32)) L) (gd (hx (v3 + (4 : Int32)) L) (ob (X5_late (xs ((v3 + (1 : Int32))).toNatClampNeg) (xs ((v3 + (2 : Int32))).toNatClampNeg) (xs ((v3 + (3 : Int32))).toNatClampNeg) (xs ((v3 + (4 : Int32))).toNatClampNeg) Ia149) (fun u151 Ia152 => if u148 = u151 then ((k18 (v3 + (5 : Int32)) Ia152)) else (some ((0 : Int32), Ia152))))))))))))) else (if ((xs (v3).toNatClampNeg) &&& (31 : Int32)) = (22 : Int32) then (gd (hx (v3 + (1 : Int32)) L) (gd (hx (v3 + (2 : Int32)) L) (gd (hx (v3 + (3 : Int32)) L) (ob (X4_season (xs ((v3 + (1 : Int32))).toNatClampNeg) (xs ((v3 + (2 : Int32))).toNatClampNeg) (xs ((v3 + (3 : Int32))).toNatClampNeg) I) (fun u155 Ia156 => gd (hx (v3 + (1 : Int32)) L) (gd (hx (v3 + (2 : Int32)) L) (gd (hx (v3 + (3 : Int32)) L) (ob (X5_season (xs ((v3 + (1 : Int32))).toNatClampNeg) (xs ((v3 + (2 : Int32))).toNatClampNeg) (xs ((v3 + (3 : Int32))).toNatClampNeg) Ia156) (fun u158 Ia159 => if u155 = u158 then ((k18 (v3 + (5 : Int32)) Ia159)) else (some ((0 : Int32), Ia159))))))))))) else (if ((xs (v3).toNatClampNeg) &&& (31 : Int32)) = (23 : Int32) then (ob (X4_keep I) (fun u162 Ia163 => ob (X5_keep Ia163) (fun u165 Ia166 => if u162 = u165 then ((k18 (v3 + (5 : Int32)) Ia166)) else (some ((0 : Int32), Ia166))))) else (if ((xs (v3).toNatClampNeg) &&& (31 : Int32)) = (24 : Int32) then (ob (X4_back I) (fun u169 Ia170 => ob (X5_back Ia170) (fun u172 Ia173 => if u169 = u172 then ((k18 (v3 + (5 : Int32)) Ia173)) else (some ((0 : Int32), Ia173))))) else (if ((xs (v3).toNatClampNeg) &&& (31 : Int32)) = (25 : Int32) then (gd (hx (v3 + (1 : Int32)) L) (ob (X4_count (xs ((v3 + (1 : Int32))).toNatClampNeg) I) (fun u176 Ia177 => gd (hx (v3 + (1 : Int32)) L) (ob (X5_count (xs ((v3 + (1 : Int32))).toNatClampNeg) Ia177) (fun u179 Ia180 => if u176 = u179 then ((k18 (v3 + (5 : Int32)) Ia180)) else (some ((0 : Int32), Ia180))))))) else ((k18 (v3 + (5 : Int32)) I)))))))))))))))))))))))))))))
def law_l18 (xs : Nat → Int32) (L : Nat) : Nat → Int32 → hM → Option (Int32 × hM)
  | 0 => fun _ _ => none
  | n + 1 => law_h18 xs L  (law_l18 xs L  n)
def law_b16 (xs : Nat → Int32) (L : Nat) (I : hM) : Option (Int32 × hM) := (law_l18 xs L hF (0 : Int32) I)
set_option maxHeartbeats 4000000 in
set_option maxRecDepth 100000 in
theorem law_h18_ok {p : Program} {l : Launch} {e : Env} {s : State} {m : MethodId} {below : List Frame} {meth : Method} {c : Code} {D : va_G} {E : Nat → ClassId} {b z : Nat} {sh : List hS} {r : Int32} {I2 : hM} {xs : Nat → Int32} {L : Nat} {k18 : Int32 → hM → Option (Int32 × hM)} {v3 : Int32} {I : hM} (hX : hp_X p s m #[Value.ref z] meth c RL cL_law 4 wsL_law D E ret meth.name) (hf4 : hq_X4 sh) (hf5 : hq_X5 sh) (hXs : va_X z L xs s s.heap) (hz1 : z < s.heap.size) (hz2 : z < b) (hb0 : s.heap.size ≤ b) (hr1 : r = 1) (hk18 : ∀ (v3 : Int32) (I : hM), k18 v3 I = some (r, I2) → hp_J p l e room_1 s m #[Value.ref z] below meth c (lw_Z below #[Value.ref z] s) D E b z 4 sh 117 1386 I 18 [(0, .null), (1, .ref 0), (2, .ref 92), (3, .int v3)] []) (h : law_h18 xs L k18 v3 I = some (r, I2)) : hp_J p l e room_1 s m #[Value.ref z] below meth c (lw_Z below #[Value.ref z] s) D E b z 4 sh 117 1386 I 18 [(0, .null), (1, .ref 0), (2, .ref 92), (3, .int v3)] [] := by
  unfold law_h18 at h
  refine hj_iload_n hX rfl 3 rfl dL_law_18 ?_
  refine hj_zload_n hX rfl 0 rfl dL_law_19 ?_
  refine hj_slen hX hXs hz1 hz2 dL_law_20 ?_
  refine hj_iconst hX (v := (5 : Int32)) (by decide) dL_law_21 ?_
  refine hj_isub hX dL_law_22 ?_
  refine hj_icmp_gt hX (tgt := 786) (by decide) dL_law_23 h (fun h => ?_) (fun h => ?_)
  · refine hj_iconst hX (v := (1 : Int32)) (by decide) dL_law_786 ?_
    exact hj_lawret hX dL_law_787 h hr1 (by omega) (by omega) hb0
  · refine hj_zload_n hX rfl 0 rfl dL_law_26 ?_
    refine hj_iload_n hX rfl 3 rfl dL_law_27 ?_
    refine hj_sld hX hXs hz1 hz2 dL_law_28 h (fun h => ?_)
    refine hj_bipush hX (v := (31 : Int32)) (by decide) dL_law_29 ?_
    refine hj_iand hX dL_law_31 ?_
    refine hp_ite h (fun c7 h => ?_) (fun c7 h => ?_)
    · refine hj_tabIn hX (tgt := 152) (off := 120) (kx := 0) c7 (by decide) (by decide) (by decide) (by decide) dL_law_32 ?_
      refine hj_aload_n hX rfl 1 rfl dL_law_152 ?_
      refine hj_zload_n hX rfl 0 rfl dL_law_153 ?_
      refine hj_iload_n hX rfl 3 rfl dL_law_154 ?_
      refine hj_iconst hX (v := (1 : Int32)) (by decide) dL_law_155 ?_
      refine hj_iadd hX dL_law_156 ?_
      refine hj_sld hX hXs hz1 hz2 dL_law_157 h (fun h => ?_)
      obtain ⟨u1, Ia2, hc3, h⟩ := ob_e h
      refine hj_callV hX (sh2 := sh) (I2 := Ia2) (r := (some (.int u1))) (As := [.int (xs ((v3 + (1 : Int32))).toNatClampNeg)]) (rest := []) (st2 := [.int u1]) (X4_write_ok hf4 hc3) gL_law_X4_write rfl X4_write_hy ⟨(Nat.le_of_ble_eq_true rfl), (Nat.le_of_ble_eq_true rfl)⟩ rfl hf4.1 rfl (Nat.le_of_ble_eq_true rfl) ⟨(Nat.le_of_ble_eq_true rfl), (Nat.le_of_ble_eq_true rfl)⟩ rfl rfl rfl dL_law_158 ?_
      refine hj_aload_n hX rfl 2 rfl dL_law_161 ?_
      refine hj_zload_n hX rfl 0 rfl dL_law_162 ?_
      refine hj_iload_n hX rfl 3 rfl dL_law_163 ?_
      refine hj_iconst hX (v := (1 : Int32)) (by decide) dL_law_164 ?_
      refine hj_iadd hX dL_law_165 ?_
      refine hj_sld hX hXs hz1 hz2 dL_law_166 h (fun h => ?_)
      obtain ⟨u4, Ia5, hc6, h⟩ := ob_e h
      refine hj_callV hX (sh2 := sh) (I2 := Ia5) (r := (some (.int u4))) (As := [.int (xs ((v3 + (1 : Int32))).toNatClampNeg)]) (rest := [.int u1]) (st2 := [.int u4, .int u1]) (X5_write_ok hf5 hc6) gL_law_X5_write rfl X5_write_hy ⟨(Nat.le_of_ble_eq_true rfl), (Nat.le_of_ble_eq_true rfl)⟩ rfl hf5.1 rfl (Nat.le_of_ble_eq_true rfl) ⟨(Nat.le_of_ble_eq_true rfl), (Nat.le_of_ble_eq_true rfl)⟩ rfl rfl rfl dL_law_167 ?_
      refine hj_icmp_eq hX (tgt := 780) (by decide) dL_law_170 h (fun h => ?_) (fun h => ?_)
      · refine hj_iinc hX (k1 := 3) (v := (v3 + (5 : Int32))) rfl rfl (Nat.le_of_ble_eq_true rfl) (lv2 := [(3, .int (v3 + (5 : Int32))), (0, .null), (1, .ref 0), (2, .ref 92)]) rfl dL_law_780 ?_
        refine hj_goto hX (tgt := 18) (by decide) dL_law_783 ?_
        refine hj_lv hX [1, 2, 3, 0] (lv2 := [(0, .null), (1, .ref 0), (2, .ref 92), (3, .int (v3 + (5 : Int32)))]) rfl ?_
        exact hk18 _ _ h
      · refine hj_iconst hX (v := (0 : Int32)) (by decide) dL_law_173 ?_
        exact hj_lawret hX dL_law_174 h hr1 (by omega) (by omega) hb0
    · refine hp_ite h (fun c14 h => ?_) (fun c14 h => ?_)
      · refine hj_tabIn hX (tgt := 175) (off := 143) (kx := 1) c14 (by decide) (by decide) (by decide) (by decide) dL_law_32 ?_
        refine hj_aload_n hX rfl 1 rfl dL_law_175 ?_
        obtain ⟨u8, Ia9, hc10, h⟩ := ob_e h
        refine hj_callV hX (sh2 := sh) (I2 := Ia9) (r := (some (.int u8))) (As := []) (rest := []) (st2 := [.int u8]) (X4_wipe_ok hf4 hc10) gL_law_X4_wipe rfl X4_wipe_hy ⟨(Nat.le_of_ble_eq_true rfl), (Nat.le_of_ble_eq_true rfl)⟩ rfl hf4.1 rfl (Nat.le_of_ble_eq_true rfl) ⟨(Nat.le_of_ble_eq_true rfl), (Nat.le_of_ble_eq_true rfl)⟩ rfl rfl rfl dL_law_176 ?_
        refine hj_aload_n hX rfl 2 rfl dL_law_179 ?_
        obtain ⟨u11, Ia12, hc13, h⟩ := ob_e h
        refine hj_callV hX (sh2 := sh) (I2 := Ia12) (r := (some (.int u11))) (As := []) (rest := [.int u8]) (st2 := [.int u11, .int u8]) (X5_wipe_ok hf5 hc13) gL_law_X5_wipe rfl X5_wipe_hy ⟨(Nat.le_of_ble_eq_true rfl), (Nat.le_of_ble_eq_true rfl)⟩ rfl hf5.1 rfl (Nat.le_of_ble_eq_true rfl) ⟨(Nat.le_of_ble_eq_true rfl), (Nat.le_of_ble_eq_true rfl)⟩ rfl rfl rfl dL_law_180 ?_
        refine hj_icmp_eq hX (tgt := 780) (by decide) dL_law_183 h (fun h => ?_) (fun h => ?_)
        · refine hj_iinc hX (k1 := 3) (v := (v3 + (5 : Int32))) rfl rfl (Nat.le_of_ble_eq_true rfl) (lv2 := [(3, .int (v3 + (5 : Int32))), (0, .null), (1, .ref 0), (2, .ref 92)]) rfl dL_law_780 ?_
          refine hj_goto hX (tgt := 18) (by decide) dL_law_783 ?_
          refine hj_lv hX [1, 2, 3, 0] (lv2 := [(0, .null), (1, .ref 0), (2, .ref 92), (3, .int (v3 + (5 : Int32)))]) rfl ?_
          exact hk18 _ _ h
        · refine hj_iconst hX (v := (0 : Int32)) (by decide) dL_law_186 ?_
          exact hj_lawret hX dL_law_187 h hr1 (by omega) (by omega) hb0
      · refine hp_ite h (fun c21 h => ?_) (fun c21 h => ?_)
        · refine hj_tabIn hX (tgt := 188) (off := 156) (kx := 2) c21 (by decide) (by decide) (by decide) (by decide) dL_law_32 ?_
          refine hj_aload_n hX rfl 1 rfl dL_law_188 ?_
          obtain ⟨u15, Ia16, hc17, h⟩ := ob_e h
          refine hj_callV hX (sh2 := sh) (I2 := Ia16) (r := (some (.int u15))) (As := []) (rest := []) (st2 := [.int u15]) (X4_fault_ok hf4 hc17) gL_law_X4_fault rfl X4_fault_hy ⟨(Nat.le_of_ble_eq_true rfl), (Nat.le_of_ble_eq_true rfl)⟩ rfl hf4.1 rfl (Nat.le_of_ble_eq_true rfl) ⟨(Nat.le_of_ble_eq_true rfl), (Nat.le_of_ble_eq_true rfl)⟩ rfl rfl rfl dL_law_189 ?_
          refine hj_aload_n hX rfl 2 rfl dL_law_192 ?_
          obtain ⟨u18, Ia19, hc20, h⟩ := ob_e h
          refine hj_callV hX (sh2 := sh) (I2 := Ia19) (r := (some (.int u18))) (As := []) (rest := [.int u15]) (st2 := [.int u18, .int u15]) (X5_fault_ok hf5 hc20) gL_law_X5_fault rfl X5_fault_hy ⟨(Nat.le_of_ble_eq_true rfl), (Nat.le_of_ble_eq_true rfl)⟩ rfl hf5.1 rfl (Nat.le_of_ble_eq_true rfl) ⟨(Nat.le_of_ble_eq_true rfl), (Nat.le_of_ble_eq_true rfl)⟩ rfl rfl rfl dL_law_193 ?_
          refine hj_icmp_eq hX (tgt := 780) (by decide) dL_law_196 h (fun h => ?_) (fun h => ?_)
          · refine hj_iinc hX (k1 := 3) (v := (v3 + (5 : Int32))) rfl rfl (Nat.le_of_ble_eq_true rfl) (lv2 := [(3, .int (v3 + (5 : Int32))), (0, .null), (1, .ref 0), (2, .ref 92)]) rfl dL_law_780 ?_
            refine hj_goto hX (tgt := 18) (by decide) dL_law_783 ?_
            refine hj_lv hX [1, 2, 3, 0] (lv2 := [(0, .null), (1, .ref 0), (2, .ref 92), (3, .int (v3 + (5 : Int32)))]) rfl ?_
            exact hk18 _ _ h
          · refine hj_iconst hX (v := (0 : Int32)) (by decide) dL_law_199 ?_
            exact hj_lawret hX dL_law_200 h hr1 (by omega) (by omega) hb0
        · refine hp_ite h (fun c28 h => ?_) (fun c28 h => ?_)
          · refine hj_tabIn hX (tgt := 201) (off := 169) (kx := 3) c28 (by decide) (by decide) (by decide) (by decide) dL_law_32 ?_
            refine hj_aload_n hX rfl 1 rfl dL_law_201 ?_
            obtain ⟨u22, Ia23, hc24, h⟩ := ob_e h
            refine hj_callV hX (sh2 := sh) (I2 := Ia23) (r := (some (.int u22))) (As := []) (rest := []) (st2 := [.int u22]) (X4_lay_ok hf4 hc24) gL_law_X4_lay rfl X4_lay_hy ⟨(Nat.le_of_ble_eq_true rfl), (Nat.le_of_ble_eq_true rfl)⟩ rfl hf4.1 rfl (Nat.le_of_ble_eq_true rfl) ⟨(Nat.le_of_ble_eq_true rfl), (Nat.le_of_ble_eq_true rfl)⟩ rfl rfl rfl dL_law_202 ?_
            refine hj_aload_n hX rfl 2 rfl dL_law_205 ?_
            obtain ⟨u25, Ia26, hc27, h⟩ := ob_e h
            refine hj_callV hX (sh2 := sh) (I2 := Ia26) (r := (some (.int u25))) (As := []) (rest := [.int u22]) (st2 := [.int u25, .int u22]) (X5_lay_ok hf5 hc27) gL_law_X5_lay rfl X5_lay_hy ⟨(Nat.le_of_ble_eq_true rfl), (Nat.le_of_ble_eq_true rfl)⟩ rfl hf5.1 rfl (Nat.le_of_ble_eq_true rfl) ⟨(Nat.le_of_ble_eq_true rfl), (Nat.le_of_ble_eq_true rfl)⟩ rfl rfl rfl dL_law_206 ?_
            refine hj_icmp_eq hX (tgt := 780) (by decide) dL_law_209 h (fun h => ?_) (fun h => ?_)
            · refine hj_iinc hX (k1 := 3) (v := (v3 + (5 : Int32))) rfl rfl (Nat.le_of_ble_eq_true rfl) (lv2 := [(3, .int (v3 + (5 : Int32))), (0, .null), (1, .ref 0), (2, .ref 92)]) rfl dL_law_780 ?_
              refine hj_goto hX (tgt := 18) (by decide) dL_law_783 ?_
              refine hj_lv hX [1, 2, 3, 0] (lv2 := [(0, .null), (1, .ref 0), (2, .ref 92), (3, .int (v3 + (5 : Int32)))]) rfl ?_
              exact hk18 _ _ h
            · refine hj_iconst hX (v := (0 : Int32)) (by decide) dL_law_212 ?_
              exact hj_lawret hX dL_law_213 h hr1 (by omega) (by omega) hb0
          · refine hp_ite h (fun c35 h => ?_) (fun c35 h => ?_)
            · refine hj_tabIn hX (tgt := 214) (off := 182) (kx := 4) c35 (by decide) (by decide) (by decide) (by decide) dL_law_32 ?_
              refine hj_aload_n hX rfl 1 rfl dL_law_214 ?_
              refine hj_zload_n hX rfl 0 rfl dL_law_215 ?_
              refine hj_iload_n hX rfl 3 rfl dL_law_216 ?_
              refine hj_iconst hX (v := (1 : Int32)) (by decide) dL_law_217 ?_
              refine hj_iadd hX dL_law_218 ?_
              refine hj_sld hX hXs hz1 hz2 dL_law_219 h (fun h => ?_)
              refine hj_zload_n hX rfl 0 rfl dL_law_220 ?_
              refine hj_iload_n hX rfl 3 rfl dL_law_221 ?_
              refine hj_iconst hX (v := (2 : Int32)) (by decide) dL_law_222 ?_
              refine hj_iadd hX dL_law_223 ?_
              refine hj_sld hX hXs hz1 hz2 dL_law_224 h (fun h => ?_)
              obtain ⟨u29, Ia30, hc31, h⟩ := ob_e h
              refine hj_callV hX (sh2 := sh) (I2 := Ia30) (r := (some (.int u29))) (As := [.int (xs ((v3 + (1 : Int32))).toNatClampNeg), .int (xs ((v3 + (2 : Int32))).toNatClampNeg)]) (rest := []) (st2 := [.int u29]) (X4_going_ok hf4 hc31) gL_law_X4_going rfl X4_going_hy ⟨(Nat.le_of_ble_eq_true rfl), (Nat.le_of_ble_eq_true rfl)⟩ rfl hf4.1 rfl (Nat.le_of_ble_eq_true rfl) ⟨(Nat.le_of_ble_eq_true rfl), (Nat.le_of_ble_eq_true rfl)⟩ rfl rfl rfl dL_law_225 ?_
              refine hj_aload_n hX rfl 2 rfl dL_law_228 ?_
              refine hj_zload_n hX rfl 0 rfl dL_law_229 ?_
              refine hj_iload_n hX rfl 3 rfl dL_law_230 ?_
              refine hj_iconst hX (v := (1 : Int32)) (by decide) dL_law_231 ?_
              refine hj_iadd hX dL_law_232 ?_
              refine hj_sld hX hXs hz1 hz2 dL_law_233 h (fun h => ?_)
              refine hj_zload_n hX rfl 0 rfl dL_law_234 ?_
              refine hj_iload_n hX rfl 3 rfl dL_law_235 ?_
              refine hj_iconst hX (v := (2 : Int32)) (by decide) dL_law_236 ?_
              refine hj_iadd hX dL_law_237 ?_
              refine hj_sld hX hXs hz1 hz2 dL_law_238 h (fun h => ?_)
              obtain ⟨u32, Ia33, hc34, h⟩ := ob_e h
              refine hj_callV hX (sh2 := sh) (I2 := Ia33) (r := (some (.int u32))) (As := [.int (xs ((v3 + (1 : Int32))).toNatClampNeg), .int (xs ((v3 + (2 : Int32))).toNatClampNeg)]) (rest := [.int u29]) (st2 := [.int u32, .int u29]) (X5_going_ok hf5 hc34) gL_law_X5_going rfl X5_going_hy ⟨(Nat.le_of_ble_eq_true rfl), (Nat.le_of_ble_eq_true rfl)⟩ rfl hf5.1 rfl (Nat.le_of_ble_eq_true rfl) ⟨(Nat.le_of_ble_eq_true rfl), (Nat.le_of_ble_eq_true rfl)⟩ rfl rfl rfl dL_law_239 ?_
              refine hj_icmp_eq hX (tgt := 780) (by decide) dL_law_242 h (fun h => ?_) (fun h => ?_)
              · refine hj_iinc hX (k1 := 3) (v := (v3 + (5 : Int32))) rfl rfl (Nat.le_of_ble_eq_true rfl) (lv2 := [(3, .int (v3 + (5 : Int32))), (0, .null), (1, .ref 0), (2, .ref 92)]) rfl dL_law_780 ?_
                refine hj_goto hX (tgt := 18) (by decide) dL_law_783 ?_
                refine hj_lv hX [1, 2, 3, 0] (lv2 := [(0, .null), (1, .ref 0), (2, .ref 92), (3, .int (v3 + (5 : Int32)))]) rfl ?_
                exact hk18 _ _ h
              · refine hj_iconst hX (v := (0 : Int32)) (by decide) dL_law_245 ?_
                exact hj_lawret hX dL_law_246 h hr1 (by omega) (by omega) hb0
            · refine hp_ite h (fun c42 h => ?_) (fun c42 h => ?_)
              · refine hj_tabIn hX (tgt := 247) (off := 215) (kx := 5) c42 (by decide) (by decide) (by decide) (by decide) dL_law_32 ?_
                refine hj_aload_n hX rfl 1 rfl dL_law_247 ?_
                refine hj_zload_n hX rfl 0 rfl dL_law_248 ?_
                refine hj_iload_n hX rfl 3 rfl dL_law_249 ?_
                refine hj_iconst hX (v := (1 : Int32)) (by decide) dL_law_250 ?_
                refine hj_iadd hX dL_law_251 ?_
                refine hj_sld hX hXs hz1 hz2 dL_law_252 h (fun h => ?_)
                refine hj_zload_n hX rfl 0 rfl dL_law_253 ?_
                refine hj_iload_n hX rfl 3 rfl dL_law_254 ?_
                refine hj_iconst hX (v := (2 : Int32)) (by decide) dL_law_255 ?_
                refine hj_iadd hX dL_law_256 ?_
                refine hj_sld hX hXs hz1 hz2 dL_law_257 h (fun h => ?_)
                obtain ⟨u36, Ia37, hc38, h⟩ := ob_e h
                refine hj_callV hX (sh2 := sh) (I2 := Ia37) (r := (some (.int u36))) (As := [.int (xs ((v3 + (1 : Int32))).toNatClampNeg), .int (xs ((v3 + (2 : Int32))).toNatClampNeg)]) (rest := []) (st2 := [.int u36]) (X4_lady_ok hf4 hc38) gL_law_X4_lady rfl X4_lady_hy ⟨(Nat.le_of_ble_eq_true rfl), (Nat.le_of_ble_eq_true rfl)⟩ rfl hf4.1 rfl (Nat.le_of_ble_eq_true rfl) ⟨(Nat.le_of_ble_eq_true rfl), (Nat.le_of_ble_eq_true rfl)⟩ rfl rfl rfl dL_law_258 ?_
                refine hj_aload_n hX rfl 2 rfl dL_law_261 ?_
                refine hj_zload_n hX rfl 0 rfl dL_law_262 ?_
                refine hj_iload_n hX rfl 3 rfl dL_law_263 ?_
                refine hj_iconst hX (v := (1 : Int32)) (by decide) dL_law_264 ?_
                refine hj_iadd hX dL_law_265 ?_
                refine hj_sld hX hXs hz1 hz2 dL_law_266 h (fun h => ?_)
                refine hj_zload_n hX rfl 0 rfl dL_law_267 ?_
                refine hj_iload_n hX rfl 3 rfl dL_law_268 ?_
                refine hj_iconst hX (v := (2 : Int32)) (by decide) dL_law_269 ?_
                refine hj_iadd hX dL_law_270 ?_
                refine hj_sld hX hXs hz1 hz2 dL_law_271 h (fun h => ?_)
                obtain ⟨u39, Ia40, hc41, h⟩ := ob_e h
                refine hj_callV hX (sh2 := sh) (I2 := Ia40) (r := (some (.int u39))) (As := [.int (xs ((v3 + (1 : Int32))).toNatClampNeg), .int (xs ((v3 + (2 : Int32))).toNatClampNeg)]) (rest := [.int u36]) (st2 := [.int u39, .int u36]) (X5_lady_ok hf5 hc41) gL_law_X5_lady rfl X5_lady_hy ⟨(Nat.le_of_ble_eq_true rfl), (Nat.le_of_ble_eq_true rfl)⟩ rfl hf5.1 rfl (Nat.le_of_ble_eq_true rfl) ⟨(Nat.le_of_ble_eq_true rfl), (Nat.le_of_ble_eq_true rfl)⟩ rfl rfl rfl dL_law_272 ?_
                refine hj_icmp_eq hX (tgt := 780) (by decide) dL_law_275 h (fun h => ?_) (fun h => ?_)
                · refine hj_iinc hX (k1 := 3) (v := (v3 + (5 : Int32))) rfl rfl (Nat.le_of_ble_eq_true rfl) (lv2 := [(3, .int (v3 + (5 : Int32))), (0, .null), (1, .ref 0), (2, .ref 92)]) rfl dL_law_780 ?_
                  refine hj_goto hX (tgt := 18) (by decide) dL_law_783 ?_
                  refine hj_lv hX [1, 2, 3, 0] (lv2 := [(0, .null), (1, .ref 0), (2, .ref 92), (3, .int (v3 + (5 : Int32)))]) rfl ?_
                  exact hk18 _ _ h
                · refine hj_iconst hX (v := (0 : Int32)) (by decide) dL_law_278 ?_
                  exact hj_lawret hX dL_law_279 h hr1 (by omega) (by omega) hb0
              · refine hp_ite h (fun c49 h => ?_) (fun c49 h => ?_)
                · refine hj_tabIn hX (tgt := 280) (off := 248) (kx := 6) c49 (by decide) (by decide) (by decide) (by decide) dL_law_32 ?_
                  refine hj_aload_n hX rfl 1 rfl dL_law_280 ?_
                  refine hj_zload_n hX rfl 0 rfl dL_law_281 ?_
                  refine hj_iload_n hX rfl 3 rfl dL_law_282 ?_
                  refine hj_iconst hX (v := (1 : Int32)) (by decide) dL_law_283 ?_
                  refine hj_iadd hX dL_law_284 ?_
                  refine hj_sld hX hXs hz1 hz2 dL_law_285 h (fun h => ?_)
                  obtain ⟨u43, Ia44, hc45, h⟩ := ob_e h
                  refine hj_callV hX (sh2 := sh) (I2 := Ia44) (r := (some (.int u43))) (As := [.int (xs ((v3 + (1 : Int32))).toNatClampNeg)]) (rest := []) (st2 := [.int u43]) (X4_pass_ok hf4 hc45) gL_law_X4_pass rfl X4_pass_hy ⟨(Nat.le_of_ble_eq_true rfl), (Nat.le_of_ble_eq_true rfl)⟩ rfl hf4.1 rfl (Nat.le_of_ble_eq_true rfl) ⟨(Nat.le_of_ble_eq_true rfl), (Nat.le_of_ble_eq_true rfl)⟩ rfl rfl rfl dL_law_286 ?_
                  refine hj_aload_n hX rfl 2 rfl dL_law_289 ?_
                  refine hj_zload_n hX rfl 0 rfl dL_law_290 ?_
                  refine hj_iload_n hX rfl 3 rfl dL_law_291 ?_
                  refine hj_iconst hX (v := (1 : Int32)) (by decide) dL_law_292 ?_
                  refine hj_iadd hX dL_law_293 ?_
                  refine hj_sld hX hXs hz1 hz2 dL_law_294 h (fun h => ?_)
                  obtain ⟨u46, Ia47, hc48, h⟩ := ob_e h
                  refine hj_callV hX (sh2 := sh) (I2 := Ia47) (r := (some (.int u46))) (As := [.int (xs ((v3 + (1 : Int32))).toNatClampNeg)]) (rest := [.int u43]) (st2 := [.int u46, .int u43]) (X5_pass_ok hf5 hc48) gL_law_X5_pass rfl X5_pass_hy ⟨(Nat.le_of_ble_eq_true rfl), (Nat.le_of_ble_eq_true rfl)⟩ rfl hf5.1 rfl (Nat.le_of_ble_eq_true rfl) ⟨(Nat.le_of_ble_eq_true rfl), (Nat.le_of_ble_eq_true rfl)⟩ rfl rfl rfl dL_law_295 ?_
                  refine hj_icmp_eq hX (tgt := 780) (by decide) dL_law_298 h (fun h => ?_) (fun h => ?_)
                  · refine hj_iinc hX (k1 := 3) (v := (v3 + (5 : Int32))) rfl rfl (Nat.le_of_ble_eq_true rfl) (lv2 := [(3, .int (v3 + (5 : Int32))), (0, .null), (1, .ref 0), (2, .ref 92)]) rfl dL_law_780 ?_
                    refine hj_goto hX (tgt := 18) (by decide) dL_law_783 ?_
                    refine hj_lv hX [1, 2, 3, 0] (lv2 := [(0, .null), (1, .ref 0), (2, .ref 92), (3, .int (v3 + (5 : Int32)))]) rfl ?_
                    exact hk18 _ _ h
                  · refine hj_iconst hX (v := (0 : Int32)) (by decide) dL_law_301 ?_
                    exact hj_lawret hX dL_law_302 h hr1 (by omega) (by omega) hb0
                · refine hp_ite h (fun c56 h => ?_) (fun c56 h => ?_)
                  · refine hj_tabIn hX (tgt := 303) (off := 271) (kx := 7) c56 (by decide) (by decide) (by decide) (by decide) dL_law_32 ?_
                    refine hj_aload_n hX rfl 1 rfl dL_law_303 ?_
                    refine hj_zload_n hX rfl 0 rfl dL_law_304 ?_
                    refine hj_iload_n hX rfl 3 rfl dL_law_305 ?_
                    refine hj_iconst hX (v := (1 : Int32)) (by decide) dL_law_306 ?_
                    refine hj_iadd hX dL_law_307 ?_
                    refine hj_sld hX hXs hz1 hz2 dL_law_308 h (fun h => ?_)
                    refine hj_zload_n hX rfl 0 rfl dL_law_309 ?_
                    refine hj_iload_n hX rfl 3 rfl dL_law_310 ?_
                    refine hj_iconst hX (v := (2 : Int32)) (by decide) dL_law_311 ?_
                    refine hj_iadd hX dL_law_312 ?_
                    refine hj_sld hX hXs hz1 hz2 dL_law_313 h (fun h => ?_)
                    obtain ⟨u50, Ia51, hc52, h⟩ := ob_e h
                    refine hj_callV hX (sh2 := sh) (I2 := Ia51) (r := (some (.int u50))) (As := [.int (xs ((v3 + (1 : Int32))).toNatClampNeg), .int (xs ((v3 + (2 : Int32))).toNatClampNeg)]) (rest := []) (st2 := [.int u50]) (X4_pin_ok hf4 hc52) gL_law_X4_pin rfl X4_pin_hy ⟨(Nat.le_of_ble_eq_true rfl), (Nat.le_of_ble_eq_true rfl)⟩ rfl hf4.1 rfl (Nat.le_of_ble_eq_true rfl) ⟨(Nat.le_of_ble_eq_true rfl), (Nat.le_of_ble_eq_true rfl)⟩ rfl rfl rfl dL_law_314 ?_
                    refine hj_aload_n hX rfl 2 rfl dL_law_317 ?_
                    refine hj_zload_n hX rfl 0 rfl dL_law_318 ?_
                    refine hj_iload_n hX rfl 3 rfl dL_law_319 ?_
                    refine hj_iconst hX (v := (1 : Int32)) (by decide) dL_law_320 ?_
                    refine hj_iadd hX dL_law_321 ?_
                    refine hj_sld hX hXs hz1 hz2 dL_law_322 h (fun h => ?_)
                    refine hj_zload_n hX rfl 0 rfl dL_law_323 ?_
                    refine hj_iload_n hX rfl 3 rfl dL_law_324 ?_
                    refine hj_iconst hX (v := (2 : Int32)) (by decide) dL_law_325 ?_
                    refine hj_iadd hX dL_law_326 ?_
                    refine hj_sld hX hXs hz1 hz2 dL_law_327 h (fun h => ?_)
                    obtain ⟨u53, Ia54, hc55, h⟩ := ob_e h
                    refine hj_callV hX (sh2 := sh) (I2 := Ia54) (r := (some (.int u53))) (As := [.int (xs ((v3 + (1 : Int32))).toNatClampNeg), .int (xs ((v3 + (2 : Int32))).toNatClampNeg)]) (rest := [.int u50]) (st2 := [.int u53, .int u50]) (X5_pin_ok hf5 hc55) gL_law_X5_pin rfl X5_pin_hy ⟨(Nat.le_of_ble_eq_true rfl), (Nat.le_of_ble_eq_true rfl)⟩ rfl hf5.1 rfl (Nat.le_of_ble_eq_true rfl) ⟨(Nat.le_of_ble_eq_true rfl), (Nat.le_of_ble_eq_true rfl)⟩ rfl rfl rfl dL_law_328 ?_
                    refine hj_icmp_eq hX (tgt := 780) (by decide) dL_law_331 h (fun h => ?_) (fun h => ?_)
                    · refine hj_iinc hX (k1 := 3) (v := (v3 + (5 : Int32))) rfl rfl (Nat.le_of_ble_eq_true rfl) (lv2 := [(3, .int (v3 + (5 : Int32))), (0, .null), (1, .ref 0), (2, .ref 92)]) rfl dL_law_780 ?_
                      refine hj_goto hX (tgt := 18) (by decide) dL_law_783 ?_
                      refine hj_lv hX [1, 2, 3, 0] (lv2 := [(0, .null), (1, .ref 0), (2, .ref 92), (3, .int (v3 + (5 : Int32)))]) rfl ?_
                      exact hk18 _ _ h
                    · refine hj_iconst hX (v := (0 : Int32)) (by decide) dL_law_334 ?_
                      exact hj_lawret hX dL_law_335 h hr1 (by omega) (by omega) hb0
                  · refine hp_ite h (fun c63 h => ?_) (fun c63 h => ?_)
                    · refine hj_tabIn hX (tgt := 336) (off := 304) (kx := 8) c63 (by decide) (by decide) (by decide) (by decide) dL_law_32 ?_
                      refine hj_aload_n hX rfl 1 rfl dL_law_336 ?_
                      refine hj_zload_n hX rfl 0 rfl dL_law_337 ?_
                      refine hj_iload_n hX rfl 3 rfl dL_law_338 ?_
                      refine hj_iconst hX (v := (1 : Int32)) (by decide) dL_law_339 ?_
                      refine hj_iadd hX dL_law_340 ?_
                      refine hj_sld hX hXs hz1 hz2 dL_law_341 h (fun h => ?_)
                      refine hj_zload_n hX rfl 0 rfl dL_law_342 ?_
                      refine hj_iload_n hX rfl 3 rfl dL_law_343 ?_
                      refine hj_iconst hX (v := (2 : Int32)) (by decide) dL_law_344 ?_
                      refine hj_iadd hX dL_law_345 ?_
                      refine hj_sld hX hXs hz1 hz2 dL_law_346 h (fun h => ?_)
                      obtain ⟨u57, Ia58, hc59, h⟩ := ob_e h
                      refine hj_callV hX (sh2 := sh) (I2 := Ia58) (r := (some (.int u57))) (As := [.int (xs ((v3 + (1 : Int32))).toNatClampNeg), .int (xs ((v3 + (2 : Int32))).toNatClampNeg)]) (rest := []) (st2 := [.int u57]) (X4_lend_ok hf4 hc59) gL_law_X4_lend rfl X4_lend_hy ⟨(Nat.le_of_ble_eq_true rfl), (Nat.le_of_ble_eq_true rfl)⟩ rfl hf4.1 rfl (Nat.le_of_ble_eq_true rfl) ⟨(Nat.le_of_ble_eq_true rfl), (Nat.le_of_ble_eq_true rfl)⟩ rfl rfl rfl dL_law_347 ?_
                      refine hj_aload_n hX rfl 2 rfl dL_law_350 ?_
                      refine hj_zload_n hX rfl 0 rfl dL_law_351 ?_
                      refine hj_iload_n hX rfl 3 rfl dL_law_352 ?_
                      refine hj_iconst hX (v := (1 : Int32)) (by decide) dL_law_353 ?_
                      refine hj_iadd hX dL_law_354 ?_
                      refine hj_sld hX hXs hz1 hz2 dL_law_355 h (fun h => ?_)
                      refine hj_zload_n hX rfl 0 rfl dL_law_356 ?_
                      refine hj_iload_n hX rfl 3 rfl dL_law_357 ?_
                      refine hj_iconst hX (v := (2 : Int32)) (by decide) dL_law_358 ?_
                      refine hj_iadd hX dL_law_359 ?_
                      refine hj_sld hX hXs hz1 hz2 dL_law_360 h (fun h => ?_)
                      obtain ⟨u60, Ia61, hc62, h⟩ := ob_e h
                      refine hj_callV hX (sh2 := sh) (I2 := Ia61) (r := (some (.int u60))) (As := [.int (xs ((v3 + (1 : Int32))).toNatClampNeg), .int (xs ((v3 + (2 : Int32))).toNatClampNeg)]) (rest := [.int u57]) (st2 := [.int u60, .int u57]) (X5_lend_ok hf5 hc62) gL_law_X5_lend rfl X5_lend_hy ⟨(Nat.le_of_ble_eq_true rfl), (Nat.le_of_ble_eq_true rfl)⟩ rfl hf5.1 rfl (Nat.le_of_ble_eq_true rfl) ⟨(Nat.le_of_ble_eq_true rfl), (Nat.le_of_ble_eq_true rfl)⟩ rfl rfl rfl dL_law_361 ?_
                      refine hj_icmp_eq hX (tgt := 780) (by decide) dL_law_364 h (fun h => ?_) (fun h => ?_)
                      · refine hj_iinc hX (k1 := 3) (v := (v3 + (5 : Int32))) rfl rfl (Nat.le_of_ble_eq_true rfl) (lv2 := [(3, .int (v3 + (5 : Int32))), (0, .null), (1, .ref 0), (2, .ref 92)]) rfl dL_law_780 ?_
                        refine hj_goto hX (tgt := 18) (by decide) dL_law_783 ?_
                        refine hj_lv hX [1, 2, 3, 0] (lv2 := [(0, .null), (1, .ref 0), (2, .ref 92), (3, .int (v3 + (5 : Int32)))]) rfl ?_
                        exact hk18 _ _ h
                      · refine hj_iconst hX (v := (0 : Int32)) (by decide) dL_law_367 ?_
                        exact hj_lawret hX dL_law_368 h hr1 (by omega) (by omega) hb0
                    · refine hp_ite h (fun c70 h => ?_) (fun c70 h => ?_)
                      · refine hj_tabIn hX (tgt := 369) (off := 337) (kx := 9) c70 (by decide) (by decide) (by decide) (by decide) dL_law_32 ?_
                        refine hj_aload_n hX rfl 1 rfl dL_law_369 ?_
                        obtain ⟨u64, Ia65, hc66, h⟩ := ob_e h
                        refine hj_callV hX (sh2 := sh) (I2 := Ia65) (r := (some (.int u64))) (As := []) (rest := []) (st2 := [.int u64]) (X4_undo_ok hf4 hc66) gL_law_X4_undo rfl X4_undo_hy ⟨(Nat.le_of_ble_eq_true rfl), (Nat.le_of_ble_eq_true rfl)⟩ rfl hf4.1 rfl (Nat.le_of_ble_eq_true rfl) ⟨(Nat.le_of_ble_eq_true rfl), (Nat.le_of_ble_eq_true rfl)⟩ rfl rfl rfl dL_law_370 ?_
                        refine hj_aload_n hX rfl 2 rfl dL_law_373 ?_
                        obtain ⟨u67, Ia68, hc69, h⟩ := ob_e h
                        refine hj_callV hX (sh2 := sh) (I2 := Ia68) (r := (some (.int u67))) (As := []) (rest := [.int u64]) (st2 := [.int u67, .int u64]) (X5_undo_ok hf5 hc69) gL_law_X5_undo rfl X5_undo_hy ⟨(Nat.le_of_ble_eq_true rfl), (Nat.le_of_ble_eq_true rfl)⟩ rfl hf5.1 rfl (Nat.le_of_ble_eq_true rfl) ⟨(Nat.le_of_ble_eq_true rfl), (Nat.le_of_ble_eq_true rfl)⟩ rfl rfl rfl dL_law_374 ?_
                        refine hj_icmp_eq hX (tgt := 780) (by decide) dL_law_377 h (fun h => ?_) (fun h => ?_)
                        · refine hj_iinc hX (k1 := 3) (v := (v3 + (5 : Int32))) rfl rfl (Nat.le_of_ble_eq_true rfl) (lv2 := [(3, .int (v3 + (5 : Int32))), (0, .null), (1, .ref 0), (2, .ref 92)]) rfl dL_law_780 ?_
                          refine hj_goto hX (tgt := 18) (by decide) dL_law_783 ?_
                          refine hj_lv hX [1, 2, 3, 0] (lv2 := [(0, .null), (1, .ref 0), (2, .ref 92), (3, .int (v3 + (5 : Int32)))]) rfl ?_
                          exact hk18 _ _ h
                        · refine hj_iconst hX (v := (0 : Int32)) (by decide) dL_law_380 ?_
                          exact hj_lawret hX dL_law_381 h hr1 (by omega) (by omega) hb0
                      · refine hp_ite h (fun c77 h => ?_) (fun c77 h => ?_)
                        · refine hj_tabIn hX (tgt := 382) (off := 350) (kx := 10) c77 (by decide) (by decide) (by decide) (by decide) dL_law_32 ?_
                          refine hj_aload_n hX rfl 1 rfl dL_law_382 ?_
                          refine hj_zload_n hX rfl 0 rfl dL_law_383 ?_
                          refine hj_iload_n hX rfl 3 rfl dL_law_384 ?_
                          refine hj_iconst hX (v := (1 : Int32)) (by decide) dL_law_385 ?_
                          refine hj_iadd hX dL_law_386 ?_
                          refine hj_sld hX hXs hz1 hz2 dL_law_387 h (fun h => ?_)
                          refine hj_zload_n hX rfl 0 rfl dL_law_388 ?_
                          refine hj_iload_n hX rfl 3 rfl dL_law_389 ?_
                          refine hj_iconst hX (v := (2 : Int32)) (by decide) dL_law_390 ?_
                          refine hj_iadd hX dL_law_391 ?_
                          refine hj_sld hX hXs hz1 hz2 dL_law_392 h (fun h => ?_)
                          obtain ⟨u71, Ia72, hc73, h⟩ := ob_e h
                          refine hj_callV hX (sh2 := sh) (I2 := Ia72) (r := (some (.int u71))) (As := [.int (xs ((v3 + (1 : Int32))).toNatClampNeg), .int (xs ((v3 + (2 : Int32))).toNatClampNeg)]) (rest := []) (st2 := [.int u71]) (X4_behind_ok hf4 hc73) gL_law_X4_behind rfl X4_behind_hy ⟨(Nat.le_of_ble_eq_true rfl), (Nat.le_of_ble_eq_true rfl)⟩ rfl hf4.1 rfl (Nat.le_of_ble_eq_true rfl) ⟨(Nat.le_of_ble_eq_true rfl), (Nat.le_of_ble_eq_true rfl)⟩ rfl rfl rfl dL_law_393 ?_
                          refine hj_aload_n hX rfl 2 rfl dL_law_396 ?_
                          refine hj_zload_n hX rfl 0 rfl dL_law_397 ?_
                          refine hj_iload_n hX rfl 3 rfl dL_law_398 ?_
                          refine hj_iconst hX (v := (1 : Int32)) (by decide) dL_law_399 ?_
                          refine hj_iadd hX dL_law_400 ?_
                          refine hj_sld hX hXs hz1 hz2 dL_law_401 h (fun h => ?_)
                          refine hj_zload_n hX rfl 0 rfl dL_law_402 ?_
                          refine hj_iload_n hX rfl 3 rfl dL_law_403 ?_
                          refine hj_iconst hX (v := (2 : Int32)) (by decide) dL_law_404 ?_
                          refine hj_iadd hX dL_law_405 ?_
                          refine hj_sld hX hXs hz1 hz2 dL_law_406 h (fun h => ?_)
                          obtain ⟨u74, Ia75, hc76, h⟩ := ob_e h
                          refine hj_callV hX (sh2 := sh) (I2 := Ia75) (r := (some (.int u74))) (As := [.int (xs ((v3 + (1 : Int32))).toNatClampNeg), .int (xs ((v3 + (2 : Int32))).toNatClampNeg)]) (rest := [.int u71]) (st2 := [.int u74, .int u71]) (X5_behind_ok hf5 hc76) gL_law_X5_behind rfl X5_behind_hy ⟨(Nat.le_of_ble_eq_true rfl), (Nat.le_of_ble_eq_true rfl)⟩ rfl hf5.1 rfl (Nat.le_of_ble_eq_true rfl) ⟨(Nat.le_of_ble_eq_true rfl), (Nat.le_of_ble_eq_true rfl)⟩ rfl rfl rfl dL_law_407 ?_
                          refine hj_icmp_eq hX (tgt := 780) (by decide) dL_law_410 h (fun h => ?_) (fun h => ?_)
                          · refine hj_iinc hX (k1 := 3) (v := (v3 + (5 : Int32))) rfl rfl (Nat.le_of_ble_eq_true rfl) (lv2 := [(3, .int (v3 + (5 : Int32))), (0, .null), (1, .ref 0), (2, .ref 92)]) rfl dL_law_780 ?_
                            refine hj_goto hX (tgt := 18) (by decide) dL_law_783 ?_
                            refine hj_lv hX [1, 2, 3, 0] (lv2 := [(0, .null), (1, .ref 0), (2, .ref 92), (3, .int (v3 + (5 : Int32)))]) rfl ?_
                            exact hk18 _ _ h
                          · refine hj_iconst hX (v := (0 : Int32)) (by decide) dL_law_413 ?_
                            exact hj_lawret hX dL_law_414 h hr1 (by omega) (by omega) hb0
                        · refine hp_ite h (fun c84 h => ?_) (fun c84 h => ?_)
                          · refine hj_tabIn hX (tgt := 415) (off := 383) (kx := 11) c84 (by decide) (by decide) (by decide) (by decide) dL_law_32 ?_
                            refine hj_aload_n hX rfl 1 rfl dL_law_415 ?_
                            obtain ⟨u78, Ia79, hc80, h⟩ := ob_e h
                            refine hj_callV hX (sh2 := sh) (I2 := Ia79) (r := (some (.int u78))) (As := []) (rest := []) (st2 := [.int u78]) (X4_dull_ok hf4 hc80) gL_law_X4_dull rfl X4_dull_hy ⟨(Nat.le_of_ble_eq_true rfl), (Nat.le_of_ble_eq_true rfl)⟩ rfl hf4.1 rfl (Nat.le_of_ble_eq_true rfl) ⟨(Nat.le_of_ble_eq_true rfl), (Nat.le_of_ble_eq_true rfl)⟩ rfl rfl rfl dL_law_416 ?_
                            refine hj_aload_n hX rfl 2 rfl dL_law_419 ?_
                            obtain ⟨u81, Ia82, hc83, h⟩ := ob_e h
                            refine hj_callV hX (sh2 := sh) (I2 := Ia82) (r := (some (.int u81))) (As := []) (rest := [.int u78]) (st2 := [.int u81, .int u78]) (X5_dull_ok hf5 hc83) gL_law_X5_dull rfl X5_dull_hy ⟨(Nat.le_of_ble_eq_true rfl), (Nat.le_of_ble_eq_true rfl)⟩ rfl hf5.1 rfl (Nat.le_of_ble_eq_true rfl) ⟨(Nat.le_of_ble_eq_true rfl), (Nat.le_of_ble_eq_true rfl)⟩ rfl rfl rfl dL_law_420 ?_
                            refine hj_icmp_eq hX (tgt := 780) (by decide) dL_law_423 h (fun h => ?_) (fun h => ?_)
                            · refine hj_iinc hX (k1 := 3) (v := (v3 + (5 : Int32))) rfl rfl (Nat.le_of_ble_eq_true rfl) (lv2 := [(3, .int (v3 + (5 : Int32))), (0, .null), (1, .ref 0), (2, .ref 92)]) rfl dL_law_780 ?_
                              refine hj_goto hX (tgt := 18) (by decide) dL_law_783 ?_
                              refine hj_lv hX [1, 2, 3, 0] (lv2 := [(0, .null), (1, .ref 0), (2, .ref 92), (3, .int (v3 + (5 : Int32)))]) rfl ?_
                              exact hk18 _ _ h
                            · refine hj_iconst hX (v := (0 : Int32)) (by decide) dL_law_426 ?_
                              exact hj_lawret hX dL_law_427 h hr1 (by omega) (by omega) hb0
                          · refine hp_ite h (fun c91 h => ?_) (fun c91 h => ?_)
                            · refine hj_tabIn hX (tgt := 428) (off := 396) (kx := 12) c91 (by decide) (by decide) (by decide) (by decide) dL_law_32 ?_
                              refine hj_aload_n hX rfl 1 rfl dL_law_428 ?_
                              obtain ⟨u85, Ia86, hc87, h⟩ := ob_e h
                              refine hj_callV hX (sh2 := sh) (I2 := Ia86) (r := (some (.int u85))) (As := []) (rest := []) (st2 := [.int u85]) (X4_quiet_ok hf4 hc87) gL_law_X4_quiet rfl X4_quiet_hy ⟨(Nat.le_of_ble_eq_true rfl), (Nat.le_of_ble_eq_true rfl)⟩ rfl hf4.1 rfl (Nat.le_of_ble_eq_true rfl) ⟨(Nat.le_of_ble_eq_true rfl), (Nat.le_of_ble_eq_true rfl)⟩ rfl rfl rfl dL_law_429 ?_
                              refine hj_aload_n hX rfl 2 rfl dL_law_432 ?_
                              obtain ⟨u88, Ia89, hc90, h⟩ := ob_e h
                              refine hj_callV hX (sh2 := sh) (I2 := Ia89) (r := (some (.int u88))) (As := []) (rest := [.int u85]) (st2 := [.int u88, .int u85]) (X5_quiet_ok hf5 hc90) gL_law_X5_quiet rfl X5_quiet_hy ⟨(Nat.le_of_ble_eq_true rfl), (Nat.le_of_ble_eq_true rfl)⟩ rfl hf5.1 rfl (Nat.le_of_ble_eq_true rfl) ⟨(Nat.le_of_ble_eq_true rfl), (Nat.le_of_ble_eq_true rfl)⟩ rfl rfl rfl dL_law_433 ?_
                              refine hj_icmp_eq hX (tgt := 780) (by decide) dL_law_436 h (fun h => ?_) (fun h => ?_)
                              · refine hj_iinc hX (k1 := 3) (v := (v3 + (5 : Int32))) rfl rfl (Nat.le_of_ble_eq_true rfl) (lv2 := [(3, .int (v3 + (5 : Int32))), (0, .null), (1, .ref 0), (2, .ref 92)]) rfl dL_law_780 ?_
                                refine hj_goto hX (tgt := 18) (by decide) dL_law_783 ?_
                                refine hj_lv hX [1, 2, 3, 0] (lv2 := [(0, .null), (1, .ref 0), (2, .ref 92), (3, .int (v3 + (5 : Int32)))]) rfl ?_
                                exact hk18 _ _ h
                              · refine hj_iconst hX (v := (0 : Int32)) (by decide) dL_law_439 ?_
                                exact hj_lawret hX dL_law_440 h hr1 (by omega) (by omega) hb0
                            · refine hp_ite h (fun c98 h => ?_) (fun c98 h => ?_)
                              · refine hj_tabIn hX (tgt := 441) (off := 409) (kx := 13) c98 (by decide) (by decide) (by decide) (by decide) dL_law_32 ?_
                                refine hj_aload_n hX rfl 1 rfl dL_law_441 ?_
                                refine hj_zload_n hX rfl 0 rfl dL_law_442 ?_
                                refine hj_iload_n hX rfl 3 rfl dL_law_443 ?_
                                refine hj_iconst hX (v := (1 : Int32)) (by decide) dL_law_444 ?_
                                refine hj_iadd hX dL_law_445 ?_
                                refine hj_sld hX hXs hz1 hz2 dL_law_446 h (fun h => ?_)
                                refine hj_zload_n hX rfl 0 rfl dL_law_447 ?_
                                refine hj_iload_n hX rfl 3 rfl dL_law_448 ?_
                                refine hj_iconst hX (v := (2 : Int32)) (by decide) dL_law_449 ?_
                                refine hj_iadd hX dL_law_450 ?_
                                refine hj_sld hX hXs hz1 hz2 dL_law_451 h (fun h => ?_)
                                obtain ⟨u92, Ia93, hc94, h⟩ := ob_e h
                                refine hj_callV hX (sh2 := sh) (I2 := Ia93) (r := (some (.int u92))) (As := [.int (xs ((v3 + (1 : Int32))).toNatClampNeg), .int (xs ((v3 + (2 : Int32))).toNatClampNeg)]) (rest := []) (st2 := [.int u92]) (X4_stop_ok hf4 hc94) gL_law_X4_stop rfl X4_stop_hy ⟨(Nat.le_of_ble_eq_true rfl), (Nat.le_of_ble_eq_true rfl)⟩ rfl hf4.1 rfl (Nat.le_of_ble_eq_true rfl) ⟨(Nat.le_of_ble_eq_true rfl), (Nat.le_of_ble_eq_true rfl)⟩ rfl rfl rfl dL_law_452 ?_
                                refine hj_aload_n hX rfl 2 rfl dL_law_455 ?_
                                refine hj_zload_n hX rfl 0 rfl dL_law_456 ?_
                                refine hj_iload_n hX rfl 3 rfl dL_law_457 ?_
                                refine hj_iconst hX (v := (1 : Int32)) (by decide) dL_law_458 ?_
                                refine hj_iadd hX dL_law_459 ?_
                                refine hj_sld hX hXs hz1 hz2 dL_law_460 h (fun h => ?_)
                                refine hj_zload_n hX rfl 0 rfl dL_law_461 ?_
                                refine hj_iload_n hX rfl 3 rfl dL_law_462 ?_
                                refine hj_iconst hX (v := (2 : Int32)) (by decide) dL_law_463 ?_
                                refine hj_iadd hX dL_law_464 ?_
                                refine hj_sld hX hXs hz1 hz2 dL_law_465 h (fun h => ?_)
                                obtain ⟨u95, Ia96, hc97, h⟩ := ob_e h
                                refine hj_callV hX (sh2 := sh) (I2 := Ia96) (r := (some (.int u95))) (As := [.int (xs ((v3 + (1 : Int32))).toNatClampNeg), .int (xs ((v3 + (2 : Int32))).toNatClampNeg)]) (rest := [.int u92]) (st2 := [.int u95, .int u92]) (X5_stop_ok hf5 hc97) gL_law_X5_stop rfl X5_stop_hy ⟨(Nat.le_of_ble_eq_true rfl), (Nat.le_of_ble_eq_true rfl)⟩ rfl hf5.1 rfl (Nat.le_of_ble_eq_true rfl) ⟨(Nat.le_of_ble_eq_true rfl), (Nat.le_of_ble_eq_true rfl)⟩ rfl rfl rfl dL_law_466 ?_
                                refine hj_icmp_eq hX (tgt := 780) (by decide) dL_law_469 h (fun h => ?_) (fun h => ?_)
                                · refine hj_iinc hX (k1 := 3) (v := (v3 + (5 : Int32))) rfl rfl (Nat.le_of_ble_eq_true rfl) (lv2 := [(3, .int (v3 + (5 : Int32))), (0, .null), (1, .ref 0), (2, .ref 92)]) rfl dL_law_780 ?_
                                  refine hj_goto hX (tgt := 18) (by decide) dL_law_783 ?_
                                  refine hj_lv hX [1, 2, 3, 0] (lv2 := [(0, .null), (1, .ref 0), (2, .ref 92), (3, .int (v3 + (5 : Int32)))]) rfl ?_
                                  exact hk18 _ _ h
                                · refine hj_iconst hX (v := (0 : Int32)) (by decide) dL_law_472 ?_
                                  exact hj_lawret hX dL_law_473 h hr1 (by omega) (by omega) hb0
                              · refine hp_ite h (fun c105 h => ?_) (fun c105 h => ?_)
                                · refine hj_tabIn hX (tgt := 474) (off := 442) (kx := 14) c105 (by decide) (by decide) (by decide) (by decide) dL_law_32 ?_
                                  refine hj_aload_n hX rfl 1 rfl dL_law_474 ?_
                                  refine hj_zload_n hX rfl 0 rfl dL_law_475 ?_
                                  refine hj_iload_n hX rfl 3 rfl dL_law_476 ?_
                                  refine hj_iconst hX (v := (1 : Int32)) (by decide) dL_law_477 ?_
                                  refine hj_iadd hX dL_law_478 ?_
                                  refine hj_sld hX hXs hz1 hz2 dL_law_479 h (fun h => ?_)
                                  obtain ⟨u99, Ia100, hc101, h⟩ := ob_e h
                                  refine hj_callV hX (sh2 := sh) (I2 := Ia100) (r := (some (.int u99))) (As := [.int (xs ((v3 + (1 : Int32))).toNatClampNeg)]) (rest := []) (st2 := [.int u99]) (X4_best_ok hf4 hc101) gL_law_X4_best rfl X4_best_hy ⟨(Nat.le_of_ble_eq_true rfl), (Nat.le_of_ble_eq_true rfl)⟩ rfl hf4.1 rfl (Nat.le_of_ble_eq_true rfl) ⟨(Nat.le_of_ble_eq_true rfl), (Nat.le_of_ble_eq_true rfl)⟩ rfl rfl rfl dL_law_480 ?_
                                  refine hj_aload_n hX rfl 2 rfl dL_law_483 ?_
                                  refine hj_zload_n hX rfl 0 rfl dL_law_484 ?_
                                  refine hj_iload_n hX rfl 3 rfl dL_law_485 ?_
                                  refine hj_iconst hX (v := (1 : Int32)) (by decide) dL_law_486 ?_
                                  refine hj_iadd hX dL_law_487 ?_
                                  refine hj_sld hX hXs hz1 hz2 dL_law_488 h (fun h => ?_)
                                  obtain ⟨u102, Ia103, hc104, h⟩ := ob_e h
                                  refine hj_callV hX (sh2 := sh) (I2 := Ia103) (r := (some (.int u102))) (As := [.int (xs ((v3 + (1 : Int32))).toNatClampNeg)]) (rest := [.int u99]) (st2 := [.int u102, .int u99]) (X5_best_ok hf5 hc104) gL_law_X5_best rfl X5_best_hy ⟨(Nat.le_of_ble_eq_true rfl), (Nat.le_of_ble_eq_true rfl)⟩ rfl hf5.1 rfl (Nat.le_of_ble_eq_true rfl) ⟨(Nat.le_of_ble_eq_true rfl), (Nat.le_of_ble_eq_true rfl)⟩ rfl rfl rfl dL_law_489 ?_
                                  refine hj_icmp_eq hX (tgt := 780) (by decide) dL_law_492 h (fun h => ?_) (fun h => ?_)
                                  · refine hj_iinc hX (k1 := 3) (v := (v3 + (5 : Int32))) rfl rfl (Nat.le_of_ble_eq_true rfl) (lv2 := [(3, .int (v3 + (5 : Int32))), (0, .null), (1, .ref 0), (2, .ref 92)]) rfl dL_law_780 ?_
                                    refine hj_goto hX (tgt := 18) (by decide) dL_law_783 ?_
                                    refine hj_lv hX [1, 2, 3, 0] (lv2 := [(0, .null), (1, .ref 0), (2, .ref 92), (3, .int (v3 + (5 : Int32)))]) rfl ?_
                                    exact hk18 _ _ h
                                  · refine hj_iconst hX (v := (0 : Int32)) (by decide) dL_law_495 ?_
                                    exact hj_lawret hX dL_law_496 h hr1 (by omega) (by omega) hb0
                                · refine hp_ite h (fun c112 h => ?_) (fun c112 h => ?_)
                                  · refine hj_tabIn hX (tgt := 497) (off := 465) (kx := 15) c112 (by decide) (by decide) (by decide) (by decide) dL_law_32 ?_
                                    refine hj_aload_n hX rfl 1 rfl dL_law_497 ?_
                                    refine hj_zload_n hX rfl 0 rfl dL_law_498 ?_
                                    refine hj_iload_n hX rfl 3 rfl dL_law_499 ?_
                                    refine hj_iconst hX (v := (1 : Int32)) (by decide) dL_law_500 ?_
                                    refine hj_iadd hX dL_law_501 ?_
                                    refine hj_sld hX hXs hz1 hz2 dL_law_502 h (fun h => ?_)
                                    obtain ⟨u106, Ia107, hc108, h⟩ := ob_e h
                                    refine hj_callV hX (sh2 := sh) (I2 := Ia107) (r := (some (.int u106))) (As := [.int (xs ((v3 + (1 : Int32))).toNatClampNeg)]) (rest := []) (st2 := [.int u106]) (X4_both_ok hf4 hc108) gL_law_X4_both rfl X4_both_hy ⟨(Nat.le_of_ble_eq_true rfl), (Nat.le_of_ble_eq_true rfl)⟩ rfl hf4.1 rfl (Nat.le_of_ble_eq_true rfl) ⟨(Nat.le_of_ble_eq_true rfl), (Nat.le_of_ble_eq_true rfl)⟩ rfl rfl rfl dL_law_503 ?_
                                    refine hj_aload_n hX rfl 2 rfl dL_law_506 ?_
                                    refine hj_zload_n hX rfl 0 rfl dL_law_507 ?_
                                    refine hj_iload_n hX rfl 3 rfl dL_law_508 ?_
                                    refine hj_iconst hX (v := (1 : Int32)) (by decide) dL_law_509 ?_
                                    refine hj_iadd hX dL_law_510 ?_
                                    refine hj_sld hX hXs hz1 hz2 dL_law_511 h (fun h => ?_)
                                    obtain ⟨u109, Ia110, hc111, h⟩ := ob_e h
                                    refine hj_callV hX (sh2 := sh) (I2 := Ia110) (r := (some (.int u109))) (As := [.int (xs ((v3 + (1 : Int32))).toNatClampNeg)]) (rest := [.int u106]) (st2 := [.int u109, .int u106]) (X5_both_ok hf5 hc111) gL_law_X5_both rfl X5_both_hy ⟨(Nat.le_of_ble_eq_true rfl), (Nat.le_of_ble_eq_true rfl)⟩ rfl hf5.1 rfl (Nat.le_of_ble_eq_true rfl) ⟨(Nat.le_of_ble_eq_true rfl), (Nat.le_of_ble_eq_true rfl)⟩ rfl rfl rfl dL_law_512 ?_
                                    refine hj_icmp_eq hX (tgt := 780) (by decide) dL_law_515 h (fun h => ?_) (fun h => ?_)
                                    · refine hj_iinc hX (k1 := 3) (v := (v3 + (5 : Int32))) rfl rfl (Nat.le_of_ble_eq_true rfl) (lv2 := [(3, .int (v3 + (5 : Int32))), (0, .null), (1, .ref 0), (2, .ref 92)]) rfl dL_law_780 ?_
                                      refine hj_goto hX (tgt := 18) (by decide) dL_law_783 ?_
                                      refine hj_lv hX [1, 2, 3, 0] (lv2 := [(0, .null), (1, .ref 0), (2, .ref 92), (3, .int (v3 + (5 : Int32)))]) rfl ?_
                                      exact hk18 _ _ h
                                    · refine hj_iconst hX (v := (0 : Int32)) (by decide) dL_law_518 ?_
                                      exact hj_lawret hX dL_law_519 h hr1 (by omega) (by omega) hb0
                                  · refine hp_ite h (fun c119 h => ?_) (fun c119 h => ?_)
                                    · refine hj_tabIn hX (tgt := 520) (off := 488) (kx := 16) c119 (by decide) (by decide) (by decide) (by decide) dL_law_32 ?_
                                      refine hj_aload_n hX rfl 1 rfl dL_law_520 ?_
                                      refine hj_zload_n hX rfl 0 rfl dL_law_521 ?_
                                      refine hj_iload_n hX rfl 3 rfl dL_law_522 ?_
                                      refine hj_iconst hX (v := (1 : Int32)) (by decide) dL_law_523 ?_
                                      refine hj_iadd hX dL_law_524 ?_
                                      refine hj_sld hX hXs hz1 hz2 dL_law_525 h (fun h => ?_)
                                      obtain ⟨u113, Ia114, hc115, h⟩ := ob_e h
                                      refine hj_callV hX (sh2 := sh) (I2 := Ia114) (r := (some (.int u113))) (As := [.int (xs ((v3 + (1 : Int32))).toNatClampNeg)]) (rest := []) (st2 := [.int u113]) (X4_never_ok hf4 hc115) gL_law_X4_never rfl X4_never_hy ⟨(Nat.le_of_ble_eq_true rfl), (Nat.le_of_ble_eq_true rfl)⟩ rfl hf4.1 rfl (Nat.le_of_ble_eq_true rfl) ⟨(Nat.le_of_ble_eq_true rfl), (Nat.le_of_ble_eq_true rfl)⟩ rfl rfl rfl dL_law_526 ?_
                                      refine hj_aload_n hX rfl 2 rfl dL_law_529 ?_
                                      refine hj_zload_n hX rfl 0 rfl dL_law_530 ?_
                                      refine hj_iload_n hX rfl 3 rfl dL_law_531 ?_
                                      refine hj_iconst hX (v := (1 : Int32)) (by decide) dL_law_532 ?_
                                      refine hj_iadd hX dL_law_533 ?_
                                      refine hj_sld hX hXs hz1 hz2 dL_law_534 h (fun h => ?_)
                                      obtain ⟨u116, Ia117, hc118, h⟩ := ob_e h
                                      refine hj_callV hX (sh2 := sh) (I2 := Ia117) (r := (some (.int u116))) (As := [.int (xs ((v3 + (1 : Int32))).toNatClampNeg)]) (rest := [.int u113]) (st2 := [.int u116, .int u113]) (X5_never_ok hf5 hc118) gL_law_X5_never rfl X5_never_hy ⟨(Nat.le_of_ble_eq_true rfl), (Nat.le_of_ble_eq_true rfl)⟩ rfl hf5.1 rfl (Nat.le_of_ble_eq_true rfl) ⟨(Nat.le_of_ble_eq_true rfl), (Nat.le_of_ble_eq_true rfl)⟩ rfl rfl rfl dL_law_535 ?_
                                      refine hj_icmp_eq hX (tgt := 780) (by decide) dL_law_538 h (fun h => ?_) (fun h => ?_)
                                      · refine hj_iinc hX (k1 := 3) (v := (v3 + (5 : Int32))) rfl rfl (Nat.le_of_ble_eq_true rfl) (lv2 := [(3, .int (v3 + (5 : Int32))), (0, .null), (1, .ref 0), (2, .ref 92)]) rfl dL_law_780 ?_
                                        refine hj_goto hX (tgt := 18) (by decide) dL_law_783 ?_
                                        refine hj_lv hX [1, 2, 3, 0] (lv2 := [(0, .null), (1, .ref 0), (2, .ref 92), (3, .int (v3 + (5 : Int32)))]) rfl ?_
                                        exact hk18 _ _ h
                                      · refine hj_iconst hX (v := (0 : Int32)) (by decide) dL_law_541 ?_
                                        exact hj_lawret hX dL_law_542 h hr1 (by omega) (by omega) hb0
                                    · refine hp_ite h (fun c126 h => ?_) (fun c126 h => ?_)
                                      · refine hj_tabIn hX (tgt := 543) (off := 511) (kx := 17) c126 (by decide) (by decide) (by decide) (by decide) dL_law_32 ?_
                                        refine hj_aload_n hX rfl 1 rfl dL_law_543 ?_
                                        refine hj_zload_n hX rfl 0 rfl dL_law_544 ?_
                                        refine hj_iload_n hX rfl 3 rfl dL_law_545 ?_
                                        refine hj_iconst hX (v := (1 : Int32)) (by decide) dL_law_546 ?_
                                        refine hj_iadd hX dL_law_547 ?_
                                        refine hj_sld hX hXs hz1 hz2 dL_law_548 h (fun h => ?_)
                                        refine hj_zload_n hX rfl 0 rfl dL_law_549 ?_
                                        refine hj_iload_n hX rfl 3 rfl dL_law_550 ?_
                                        refine hj_iconst hX (v := (2 : Int32)) (by decide) dL_law_551 ?_
                                        refine hj_iadd hX dL_law_552 ?_
                                        refine hj_sld hX hXs hz1 hz2 dL_law_553 h (fun h => ?_)
                                        obtain ⟨u120, Ia121, hc122, h⟩ := ob_e h
                                        refine hj_callV hX (sh2 := sh) (I2 := Ia121) (r := (some (.int u120))) (As := [.int (xs ((v3 + (1 : Int32))).toNatClampNeg), .int (xs ((v3 + (2 : Int32))).toNatClampNeg)]) (rest := []) (st2 := [.int u120]) (X4_note_ok hf4 hc122) gL_law_X4_note rfl X4_note_hy ⟨(Nat.le_of_ble_eq_true rfl), (Nat.le_of_ble_eq_true rfl)⟩ rfl hf4.1 rfl (Nat.le_of_ble_eq_true rfl) ⟨(Nat.le_of_ble_eq_true rfl), (Nat.le_of_ble_eq_true rfl)⟩ rfl rfl rfl dL_law_554 ?_
                                        refine hj_aload_n hX rfl 2 rfl dL_law_557 ?_
                                        refine hj_zload_n hX rfl 0 rfl dL_law_558 ?_
                                        refine hj_iload_n hX rfl 3 rfl dL_law_559 ?_
                                        refine hj_iconst hX (v := (1 : Int32)) (by decide) dL_law_560 ?_
                                        refine hj_iadd hX dL_law_561 ?_
                                        refine hj_sld hX hXs hz1 hz2 dL_law_562 h (fun h => ?_)
                                        refine hj_zload_n hX rfl 0 rfl dL_law_563 ?_
                                        refine hj_iload_n hX rfl 3 rfl dL_law_564 ?_
                                        refine hj_iconst hX (v := (2 : Int32)) (by decide) dL_law_565 ?_
                                        refine hj_iadd hX dL_law_566 ?_
                                        refine hj_sld hX hXs hz1 hz2 dL_law_567 h (fun h => ?_)
                                        obtain ⟨u123, Ia124, hc125, h⟩ := ob_e h
                                        refine hj_callV hX (sh2 := sh) (I2 := Ia124) (r := (some (.int u123))) (As := [.int (xs ((v3 + (1 : Int32))).toNatClampNeg), .int (xs ((v3 + (2 : Int32))).toNatClampNeg)]) (rest := [.int u120]) (st2 := [.int u123, .int u120]) (X5_note_ok hf5 hc125) gL_law_X5_note rfl X5_note_hy ⟨(Nat.le_of_ble_eq_true rfl), (Nat.le_of_ble_eq_true rfl)⟩ rfl hf5.1 rfl (Nat.le_of_ble_eq_true rfl) ⟨(Nat.le_of_ble_eq_true rfl), (Nat.le_of_ble_eq_true rfl)⟩ rfl rfl rfl dL_law_568 ?_
                                        refine hj_icmp_eq hX (tgt := 780) (by decide) dL_law_571 h (fun h => ?_) (fun h => ?_)
                                        · refine hj_iinc hX (k1 := 3) (v := (v3 + (5 : Int32))) rfl rfl (Nat.le_of_ble_eq_true rfl) (lv2 := [(3, .int (v3 + (5 : Int32))), (0, .null), (1, .ref 0), (2, .ref 92)]) rfl dL_law_780 ?_
                                          refine hj_goto hX (tgt := 18) (by decide) dL_law_783 ?_
                                          refine hj_lv hX [1, 2, 3, 0] (lv2 := [(0, .null), (1, .ref 0), (2, .ref 92), (3, .int (v3 + (5 : Int32)))]) rfl ?_
                                          exact hk18 _ _ h
                                        · refine hj_iconst hX (v := (0 : Int32)) (by decide) dL_law_574 ?_
                                          exact hj_lawret hX dL_law_575 h hr1 (by omega) (by omega) hb0
                                      · refine hp_ite h (fun c133 h => ?_) (fun c133 h => ?_)
                                        · refine hj_tabIn hX (tgt := 576) (off := 544) (kx := 18) c133 (by decide) (by decide) (by decide) (by decide) dL_law_32 ?_
                                          refine hj_aload_n hX rfl 1 rfl dL_law_576 ?_
                                          obtain ⟨u127, Ia128, hc129, h⟩ := ob_e h
                                          refine hj_callV hX (sh2 := sh) (I2 := Ia128) (r := (some (.int u127))) (As := []) (rest := []) (st2 := [.int u127]) (X4_forget_ok hf4 hc129) gL_law_X4_forget rfl X4_forget_hy ⟨(Nat.le_of_ble_eq_true rfl), (Nat.le_of_ble_eq_true rfl)⟩ rfl hf4.1 rfl (Nat.le_of_ble_eq_true rfl) ⟨(Nat.le_of_ble_eq_true rfl), (Nat.le_of_ble_eq_true rfl)⟩ rfl rfl rfl dL_law_577 ?_
                                          refine hj_aload_n hX rfl 2 rfl dL_law_580 ?_
                                          obtain ⟨u130, Ia131, hc132, h⟩ := ob_e h
                                          refine hj_callV hX (sh2 := sh) (I2 := Ia131) (r := (some (.int u130))) (As := []) (rest := [.int u127]) (st2 := [.int u130, .int u127]) (X5_forget_ok hf5 hc132) gL_law_X5_forget rfl X5_forget_hy ⟨(Nat.le_of_ble_eq_true rfl), (Nat.le_of_ble_eq_true rfl)⟩ rfl hf5.1 rfl (Nat.le_of_ble_eq_true rfl) ⟨(Nat.le_of_ble_eq_true rfl), (Nat.le_of_ble_eq_true rfl)⟩ rfl rfl rfl dL_law_581 ?_
                                          refine hj_icmp_eq hX (tgt := 780) (by decide) dL_law_584 h (fun h => ?_) (fun h => ?_)
                                          · refine hj_iinc hX (k1 := 3) (v := (v3 + (5 : Int32))) rfl rfl (Nat.le_of_ble_eq_true rfl) (lv2 := [(3, .int (v3 + (5 : Int32))), (0, .null), (1, .ref 0), (2, .ref 92)]) rfl dL_law_780 ?_
                                            refine hj_goto hX (tgt := 18) (by decide) dL_law_783 ?_
                                            refine hj_lv hX [1, 2, 3, 0] (lv2 := [(0, .null), (1, .ref 0), (2, .ref 92), (3, .int (v3 + (5 : Int32)))]) rfl ?_
                                            exact hk18 _ _ h
                                          · refine hj_iconst hX (v := (0 : Int32)) (by decide) dL_law_587 ?_
                                            exact hj_lawret hX dL_law_588 h hr1 (by omega) (by omega) hb0
                                        · refine hp_ite h (fun c140 h => ?_) (fun c140 h => ?_)
                                          · refine hj_tabIn hX (tgt := 589) (off := 557) (kx := 19) c140 (by decide) (by decide) (by decide) (by decide) dL_law_32 ?_
                                            refine hj_aload_n hX rfl 1 rfl dL_law_589 ?_
                                            refine hj_zload_n hX rfl 0 rfl dL_law_590 ?_
                                            refine hj_iload_n hX rfl 3 rfl dL_law_591 ?_
                                            refine hj_iconst hX (v := (1 : Int32)) (by decide) dL_law_592 ?_
                                            refine hj_iadd hX dL_law_593 ?_
                                            refine hj_sld hX hXs hz1 hz2 dL_law_594 h (fun h => ?_)
                                            obtain ⟨u134, Ia135, hc136, h⟩ := ob_e h
                                            refine hj_callV hX (sh2 := sh) (I2 := Ia135) (r := (some (.int u134))) (As := [.int (xs ((v3 + (1 : Int32))).toNatClampNeg)]) (rest := []) (st2 := [.int u134]) (X4_waning_ok hf4 hc136) gL_law_X4_waning rfl X4_waning_hy ⟨(Nat.le_of_ble_eq_true rfl), (Nat.le_of_ble_eq_true rfl)⟩ rfl hf4.1 rfl (Nat.le_of_ble_eq_true rfl) ⟨(Nat.le_of_ble_eq_true rfl), (Nat.le_of_ble_eq_true rfl)⟩ rfl rfl rfl dL_law_595 ?_
                                            refine hj_aload_n hX rfl 2 rfl dL_law_598 ?_
                                            refine hj_zload_n hX rfl 0 rfl dL_law_599 ?_
                                            refine hj_iload_n hX rfl 3 rfl dL_law_600 ?_
                                            refine hj_iconst hX (v := (1 : Int32)) (by decide) dL_law_601 ?_
                                            refine hj_iadd hX dL_law_602 ?_
                                            refine hj_sld hX hXs hz1 hz2 dL_law_603 h (fun h => ?_)
                                            obtain ⟨u137, Ia138, hc139, h⟩ := ob_e h
                                            refine hj_callV hX (sh2 := sh) (I2 := Ia138) (r := (some (.int u137))) (As := [.int (xs ((v3 + (1 : Int32))).toNatClampNeg)]) (rest := [.int u134]) (st2 := [.int u137, .int u134]) (X5_waning_ok hf5 hc139) gL_law_X5_waning rfl X5_waning_hy ⟨(Nat.le_of_ble_eq_true rfl), (Nat.le_of_ble_eq_true rfl)⟩ rfl hf5.1 rfl (Nat.le_of_ble_eq_true rfl) ⟨(Nat.le_of_ble_eq_true rfl), (Nat.le_of_ble_eq_true rfl)⟩ rfl rfl rfl dL_law_604 ?_
                                            refine hj_icmp_eq hX (tgt := 780) (by decide) dL_law_607 h (fun h => ?_) (fun h => ?_)
                                            · refine hj_iinc hX (k1 := 3) (v := (v3 + (5 : Int32))) rfl rfl (Nat.le_of_ble_eq_true rfl) (lv2 := [(3, .int (v3 + (5 : Int32))), (0, .null), (1, .ref 0), (2, .ref 92)]) rfl dL_law_780 ?_
                                              refine hj_goto hX (tgt := 18) (by decide) dL_law_783 ?_
                                              refine hj_lv hX [1, 2, 3, 0] (lv2 := [(0, .null), (1, .ref 0), (2, .ref 92), (3, .int (v3 + (5 : Int32)))]) rfl ?_
                                              exact hk18 _ _ h
                                            · refine hj_iconst hX (v := (0 : Int32)) (by decide) dL_law_610 ?_
                                              exact hj_lawret hX dL_law_611 h hr1 (by omega) (by omega) hb0
                                          · refine hp_ite h (fun c147 h => ?_) (fun c147 h => ?_)
                                            · refine hj_tabIn hX (tgt := 612) (off := 580) (kx := 20) c147 (by decide) (by decide) (by decide) (by decide) dL_law_32 ?_
                                              refine hj_aload_n hX rfl 1 rfl dL_law_612 ?_
                                              refine hj_zload_n hX rfl 0 rfl dL_law_613 ?_
                                              refine hj_iload_n hX rfl 3 rfl dL_law_614 ?_
                                              refine hj_iconst hX (v := (1 : Int32)) (by decide) dL_law_615 ?_
                                              refine hj_iadd hX dL_law_616 ?_
                                              refine hj_sld hX hXs hz1 hz2 dL_law_617 h (fun h => ?_)
                                              obtain ⟨u141, Ia142, hc143, h⟩ := ob_e h
                                              refine hj_callV hX (sh2 := sh) (I2 := Ia142) (r := (some (.int u141))) (As := [.int (xs ((v3 + (1 : Int32))).toNatClampNeg)]) (rest := []) (st2 := [.int u141]) (X4_kinds_ok hf4 hc143) gL_law_X4_kinds rfl X4_kinds_hy ⟨(Nat.le_of_ble_eq_true rfl), (Nat.le_of_ble_eq_true rfl)⟩ rfl hf4.1 rfl (Nat.le_of_ble_eq_true rfl) ⟨(Nat.le_of_ble_eq_true rfl), (Nat.le_of_ble_eq_true rfl)⟩ rfl rfl rfl dL_law_618 ?_
                                              refine hj_aload_n hX rfl 2 rfl dL_law_621 ?_
                                              refine hj_zload_n hX rfl 0 rfl dL_law_622 ?_
                                              refine hj_iload_n hX rfl 3 rfl dL_law_623 ?_
                                              refine hj_iconst hX (v := (1 : Int32)) (by decide) dL_law_624 ?_
                                              refine hj_iadd hX dL_law_625 ?_
                                              refine hj_sld hX hXs hz1 hz2 dL_law_626 h (fun h => ?_)
                                              obtain ⟨u144, Ia145, hc146, h⟩ := ob_e h
                                              refine hj_callV hX (sh2 := sh) (I2 := Ia145) (r := (some (.int u144))) (As := [.int (xs ((v3 + (1 : Int32))).toNatClampNeg)]) (rest := [.int u141]) (st2 := [.int u144, .int u141]) (X5_kinds_ok hf5 hc146) gL_law_X5_kinds rfl X5_kinds_hy ⟨(Nat.le_of_ble_eq_true rfl), (Nat.le_of_ble_eq_true rfl)⟩ rfl hf5.1 rfl (Nat.le_of_ble_eq_true rfl) ⟨(Nat.le_of_ble_eq_true rfl), (Nat.le_of_ble_eq_true rfl)⟩ rfl rfl rfl dL_law_627 ?_
                                              refine hj_icmp_eq hX (tgt := 780) (by decide) dL_law_630 h (fun h => ?_) (fun h => ?_)
                                              · refine hj_iinc hX (k1 := 3) (v := (v3 + (5 : Int32))) rfl rfl (Nat.le_of_ble_eq_true rfl) (lv2 := [(3, .int (v3 + (5 : Int32))), (0, .null), (1, .ref 0), (2, .ref 92)]) rfl dL_law_780 ?_
                                                refine hj_goto hX (tgt := 18) (by decide) dL_law_783 ?_
                                                refine hj_lv hX [1, 2, 3, 0] (lv2 := [(0, .null), (1, .ref 0), (2, .ref 92), (3, .int (v3 + (5 : Int32)))]) rfl ?_
                                                exact hk18 _ _ h
                                              · refine hj_iconst hX (v := (0 : Int32)) (by decide) dL_law_633 ?_
                                                exact hj_lawret hX dL_law_634 h hr1 (by omega) (by omega) hb0
                                            · refine hp_ite h (fun c154 h => ?_) (fun c154 h => ?_)
                                              · refine hj_tabIn hX (tgt := 635) (off := 603) (kx := 21) c154 (by decide) (by decide) (by decide) (by decide) dL_law_32 ?_
                                                refine hj_aload_n hX rfl 1 rfl dL_law_635 ?_
                                                refine hj_zload_n hX rfl 0 rfl dL_law_636 ?_
                                                refine hj_iload_n hX rfl 3 rfl dL_law_637 ?_
                                                refine hj_iconst hX (v := (1 : Int32)) (by decide) dL_law_638 ?_
                                                refine hj_iadd hX dL_law_639 ?_
                                                refine hj_sld hX hXs hz1 hz2 dL_law_640 h (fun h => ?_)
                                                refine hj_zload_n hX rfl 0 rfl dL_law_641 ?_
                                                refine hj_iload_n hX rfl 3 rfl dL_law_642 ?_
                                                refine hj_iconst hX (v := (2 : Int32)) (by decide) dL_law_643 ?_
                                                refine hj_iadd hX dL_law_644 ?_
                                                refine hj_sld hX hXs hz1 hz2 dL_law_645 h (fun h => ?_)
                                                refine hj_zload_n hX rfl 0 rfl dL_law_646 ?_
                                                refine hj_iload_n hX rfl 3 rfl dL_law_647 ?_
                                                refine hj_iconst hX (v := (3 : Int32)) (by decide) dL_law_648 ?_
                                                refine hj_iadd hX dL_law_649 ?_
                                                refine hj_sld hX hXs hz1 hz2 dL_law_650 h (fun h => ?_)
                                                refine hj_zload_n hX rfl 0 rfl dL_law_651 ?_
                                                refine hj_iload_n hX rfl 3 rfl dL_law_652 ?_
                                                refine hj_iconst hX (v := (4 : Int32)) (by decide) dL_law_653 ?_
                                                refine hj_iadd hX dL_law_654 ?_
                                                refine hj_sld hX hXs hz1 hz2 dL_law_655 h (fun h => ?_)
                                                obtain ⟨u148, Ia149, hc150, h⟩ := ob_e h
                                                refine hj_callV hX (sh2 := sh) (I2 := Ia149) (r := (some (.int u148))) (As := [.int (xs ((v3 + (1 : Int32))).toNatClampNeg), .int (xs ((v3 + (2 : Int32))).toNatClampNeg), .int (xs ((v3 + (3 : Int32))).toNatClampNeg), .int (xs ((v3 + (4 : Int32))).toNatClampNeg)]) (rest := []) (st2 := [.int u148]) (X4_late_ok hf4 hc150) gL_law_X4_late rfl X4_late_hy ⟨(Nat.le_of_ble_eq_true rfl), (Nat.le_of_ble_eq_true rfl)⟩ rfl hf4.1 rfl (Nat.le_of_ble_eq_true rfl) ⟨(Nat.le_of_ble_eq_true rfl), (Nat.le_of_ble_eq_true rfl)⟩ rfl rfl rfl dL_law_656 ?_
                                                refine hj_aload_n hX rfl 2 rfl dL_law_659 ?_
                                                refine hj_zload_n hX rfl 0 rfl dL_law_660 ?_
                                                refine hj_iload_n hX rfl 3 rfl dL_law_661 ?_
                                                refine hj_iconst hX (v := (1 : Int32)) (by decide) dL_law_662 ?_
                                                refine hj_iadd hX dL_law_663 ?_
                                                refine hj_sld hX hXs hz1 hz2 dL_law_664 h (fun h => ?_)
                                                refine hj_zload_n hX rfl 0 rfl dL_law_665 ?_
                                                refine hj_iload_n hX rfl 3 rfl dL_law_666 ?_
                                                refine hj_iconst hX (v := (2 : Int32)) (by decide) dL_law_667 ?_
                                                refine hj_iadd hX dL_law_668 ?_
                                                refine hj_sld hX hXs hz1 hz2 dL_law_669 h (fun h => ?_)
                                                refine hj_zload_n hX rfl 0 rfl dL_law_670 ?_
                                                refine hj_iload_n hX rfl 3 rfl dL_law_671 ?_
                                                refine hj_iconst hX (v := (3 : Int32)) (by decide) dL_law_672 ?_
                                                refine hj_iadd hX dL_law_673 ?_
                                                refine hj_sld hX hXs hz1 hz2 dL_law_674 h (fun h => ?_)
                                                refine hj_zload_n hX rfl 0 rfl dL_law_675 ?_
                                                refine hj_iload_n hX rfl 3 rfl dL_law_676 ?_
                                                refine hj_iconst hX (v := (4 : Int32)) (by decide) dL_law_677 ?_
                                                refine hj_iadd hX dL_law_678 ?_
                                                refine hj_sld hX hXs hz1 hz2 dL_law_679 h (fun h => ?_)
                                                obtain ⟨u151, Ia152, hc153, h⟩ := ob_e h
                                                refine hj_callV hX (sh2 := sh) (I2 := Ia152) (r := (some (.int u151))) (As := [.int (xs ((v3 + (1 : Int32))).toNatClampNeg), .int (xs ((v3 + (2 : Int32))).toNatClampNeg), .int (xs ((v3 + (3 : Int32))).toNatClampNeg), .int (xs ((v3 + (4 : Int32))).toNatClampNeg)]) (rest := [.int u148]) (st2 := [.int u151, .int u148]) (X5_late_ok hf5 hc153) gL_law_X5_late rfl X5_late_hy ⟨(Nat.le_of_ble_eq_true rfl), (Nat.le_of_ble_eq_true rfl)⟩ rfl hf5.1 rfl (Nat.le_of_ble_eq_true rfl) ⟨(Nat.le_of_ble_eq_true rfl), (Nat.le_of_ble_eq_true rfl)⟩ rfl rfl rfl dL_law_680 ?_
                                                refine hj_icmp_eq hX (tgt := 780) (by decide) dL_law_683 h (fun h => ?_) (fun h => ?_)
                                                · refine hj_iinc hX (k1 := 3) (v := (v3 + (5 : Int32))) rfl rfl (Nat.le_of_ble_eq_true rfl) (lv2 := [(3, .int (v3 + (5 : Int32))), (0, .null), (1, .ref 0), (2, .ref 92)]) rfl dL_law_780 ?_
                                                  refine hj_goto hX (tgt := 18) (by decide) dL_law_783 ?_
                                                  refine hj_lv hX [1, 2, 3, 0] (lv2 := [(0, .null), (1, .ref 0), (2, .ref 92), (3, .int (v3 + (5 : Int32)))]) rfl ?_
                                                  exact hk18 _ _ h
                                                · refine hj_iconst hX (v := (0 : Int32)) (by decide) dL_law_686 ?_
                                                  exact hj_lawret hX dL_law_687 h hr1 (by omega) (by omega) hb0
                                              · refine hp_ite h (fun c161 h => ?_) (fun c161 h => ?_)
                                                · refine hj_tabIn hX (tgt := 688) (off := 656) (kx := 22) c161 (by decide) (by decide) (by decide) (by decide) dL_law_32 ?_
                                                  refine hj_aload_n hX rfl 1 rfl dL_law_688 ?_
                                                  refine hj_zload_n hX rfl 0 rfl dL_law_689 ?_
                                                  refine hj_iload_n hX rfl 3 rfl dL_law_690 ?_
                                                  refine hj_iconst hX (v := (1 : Int32)) (by decide) dL_law_691 ?_
                                                  refine hj_iadd hX dL_law_692 ?_
                                                  refine hj_sld hX hXs hz1 hz2 dL_law_693 h (fun h => ?_)
                                                  refine hj_zload_n hX rfl 0 rfl dL_law_694 ?_
                                                  refine hj_iload_n hX rfl 3 rfl dL_law_695 ?_
                                                  refine hj_iconst hX (v := (2 : Int32)) (by decide) dL_law_696 ?_
                                                  refine hj_iadd hX dL_law_697 ?_
                                                  refine hj_sld hX hXs hz1 hz2 dL_law_698 h (fun h => ?_)
                                                  refine hj_zload_n hX rfl 0 rfl dL_law_699 ?_
                                                  refine hj_iload_n hX rfl 3 rfl dL_law_700 ?_
                                                  refine hj_iconst hX (v := (3 : Int32)) (by decide) dL_law_701 ?_
                                                  refine hj_iadd hX dL_law_702 ?_
                                                  refine hj_sld hX hXs hz1 hz2 dL_law_703 h (fun h => ?_)
                                                  obtain ⟨u155, Ia156, hc157, h⟩ := ob_e h
                                                  refine hj_callV hX (sh2 := sh) (I2 := Ia156) (r := (some (.int u155))) (As := [.int (xs ((v3 + (1 : Int32))).toNatClampNeg), .int (xs ((v3 + (2 : Int32))).toNatClampNeg), .int (xs ((v3 + (3 : Int32))).toNatClampNeg)]) (rest := []) (st2 := [.int u155]) (X4_season_ok hf4 hc157) gL_law_X4_season rfl X4_season_hy ⟨(Nat.le_of_ble_eq_true rfl), (Nat.le_of_ble_eq_true rfl)⟩ rfl hf4.1 rfl (Nat.le_of_ble_eq_true rfl) ⟨(Nat.le_of_ble_eq_true rfl), (Nat.le_of_ble_eq_true rfl)⟩ rfl rfl rfl dL_law_704 ?_
                                                  refine hj_aload_n hX rfl 2 rfl dL_law_707 ?_
                                                  refine hj_zload_n hX rfl 0 rfl dL_law_708 ?_
                                                  refine hj_iload_n hX rfl 3 rfl dL_law_709 ?_
                                                  refine hj_iconst hX (v := (1 : Int32)) (by decide) dL_law_710 ?_
                                                  refine hj_iadd hX dL_law_711 ?_
                                                  refine hj_sld hX hXs hz1 hz2 dL_law_712 h (fun h => ?_)
                                                  refine hj_zload_n hX rfl 0 rfl dL_law_713 ?_
                                                  refine hj_iload_n hX rfl 3 rfl dL_law_714 ?_
                                                  refine hj_iconst hX (v := (2 : Int32)) (by decide) dL_law_715 ?_
                                                  refine hj_iadd hX dL_law_716 ?_
                                                  refine hj_sld hX hXs hz1 hz2 dL_law_717 h (fun h => ?_)
                                                  refine hj_zload_n hX rfl 0 rfl dL_law_718 ?_
                                                  refine hj_iload_n hX rfl 3 rfl dL_law_719 ?_
                                                  refine hj_iconst hX (v := (3 : Int32)) (by decide) dL_law_720 ?_
                                                  refine hj_iadd hX dL_law_721 ?_
                                                  refine hj_sld hX hXs hz1 hz2 dL_law_722 h (fun h => ?_)
                                                  obtain ⟨u158, Ia159, hc160, h⟩ := ob_e h
                                                  refine hj_callV hX (sh2 := sh) (I2 := Ia159) (r := (some (.int u158))) (As := [.int (xs ((v3 + (1 : Int32))).toNatClampNeg), .int (xs ((v3 + (2 : Int32))).toNatClampNeg), .int (xs ((v3 + (3 : Int32))).toNatClampNeg)]) (rest := [.int u155]) (st2 := [.int u158, .int u155]) (X5_season_ok hf5 hc160) gL_law_X5_season rfl X5_season_hy ⟨(Nat.le_of_ble_eq_true rfl), (Nat.le_of_ble_eq_true rfl)⟩ rfl hf5.1 rfl (Nat.le_of_ble_eq_true rfl) ⟨(Nat.le_of_ble_eq_true rfl), (Nat.le_of_ble_eq_true rfl)⟩ rfl rfl rfl dL_law_723 ?_
                                                  refine hj_icmp_eq hX (tgt := 780) (by decide) dL_law_726 h (fun h => ?_) (fun h => ?_)
                                                  · refine hj_iinc hX (k1 := 3) (v := (v3 + (5 : Int32))) rfl rfl (Nat.le_of_ble_eq_true rfl) (lv2 := [(3, .int (v3 + (5 : Int32))), (0, .null), (1, .ref 0), (2, .ref 92)]) rfl dL_law_780 ?_
                                                    refine hj_goto hX (tgt := 18) (by decide) dL_law_783 ?_
                                                    refine hj_lv hX [1, 2, 3, 0] (lv2 := [(0, .null), (1, .ref 0), (2, .ref 92), (3, .int (v3 + (5 : Int32)))]) rfl ?_
                                                    exact hk18 _ _ h
                                                  · refine hj_iconst hX (v := (0 : Int32)) (by decide) dL_law_729 ?_
                                                    exact hj_lawret hX dL_law_730 h hr1 (by omega) (by omega) hb0
                                                · refine hp_ite h (fun c168 h => ?_) (fun c168 h => ?_)
                                                  · refine hj_tabIn hX (tgt := 731) (off := 699) (kx := 23) c168 (by decide) (by decide) (by decide) (by decide) dL_law_32 ?_
                                                    refine hj_aload_n hX rfl 1 rfl dL_law_731 ?_
                                                    obtain ⟨u162, Ia163, hc164, h⟩ := ob_e h
                                                    refine hj_callV hX (sh2 := sh) (I2 := Ia163) (r := (some (.int u162))) (As := []) (rest := []) (st2 := [.int u162]) (X4_keep_ok hf4 hc164) gL_law_X4_keep rfl X4_keep_hy ⟨(Nat.le_of_ble_eq_true rfl), (Nat.le_of_ble_eq_true rfl)⟩ rfl hf4.1 rfl (Nat.le_of_ble_eq_true rfl) ⟨(Nat.le_of_ble_eq_true rfl), (Nat.le_of_ble_eq_true rfl)⟩ rfl rfl rfl dL_law_732 ?_
                                                    refine hj_aload_n hX rfl 2 rfl dL_law_735 ?_
                                                    obtain ⟨u165, Ia166, hc167, h⟩ := ob_e h
                                                    refine hj_callV hX (sh2 := sh) (I2 := Ia166) (r := (some (.int u165))) (As := []) (rest := [.int u162]) (st2 := [.int u165, .int u162]) (X5_keep_ok hf5 hc167) gL_law_X5_keep rfl X5_keep_hy ⟨(Nat.le_of_ble_eq_true rfl), (Nat.le_of_ble_eq_true rfl)⟩ rfl hf5.1 rfl (Nat.le_of_ble_eq_true rfl) ⟨(Nat.le_of_ble_eq_true rfl), (Nat.le_of_ble_eq_true rfl)⟩ rfl rfl rfl dL_law_736 ?_
                                                    refine hj_icmp_eq hX (tgt := 780) (by decide) dL_law_739 h (fun h => ?_) (fun h => ?_)
                                                    · refine hj_iinc hX (k1 := 3) (v := (v3 + (5 : Int32))) rfl rfl (Nat.le_of_ble_eq_true rfl) (lv2 := [(3, .int (v3 + (5 : Int32))), (0, .null), (1, .ref 0), (2, .ref 92)]) rfl dL_law_780 ?_
                                                      refine hj_goto hX (tgt := 18) (by decide) dL_law_783 ?_
                                                      refine hj_lv hX [1, 2, 3, 0] (lv2 := [(0, .null), (1, .ref 0), (2, .ref 92), (3, .int (v3 + (5 : Int32)))]) rfl ?_
                                                      exact hk18 _ _ h
                                                    · refine hj_iconst hX (v := (0 : Int32)) (by decide) dL_law_742 ?_
                                                      exact hj_lawret hX dL_law_743 h hr1 (by omega) (by omega) hb0
                                                  · refine hp_ite h (fun c175 h => ?_) (fun c175 h => ?_)
                                                    · refine hj_tabIn hX (tgt := 744) (off := 712) (kx := 24) c175 (by decide) (by decide) (by decide) (by decide) dL_law_32 ?_
                                                      refine hj_aload_n hX rfl 1 rfl dL_law_744 ?_
                                                      obtain ⟨u169, Ia170, hc171, h⟩ := ob_e h
                                                      refine hj_callV hX (sh2 := sh) (I2 := Ia170) (r := (some (.int u169))) (As := []) (rest := []) (st2 := [.int u169]) (X4_back_ok hf4 hc171) gL_law_X4_back rfl X4_back_hy ⟨(Nat.le_of_ble_eq_true rfl), (Nat.le_of_ble_eq_true rfl)⟩ rfl hf4.1 rfl (Nat.le_of_ble_eq_true rfl) ⟨(Nat.le_of_ble_eq_true rfl), (Nat.le_of_ble_eq_true rfl)⟩ rfl rfl rfl dL_law_745 ?_
                                                      refine hj_aload_n hX rfl 2 rfl dL_law_748 ?_
                                                      obtain ⟨u172, Ia173, hc174, h⟩ := ob_e h
                                                      refine hj_callV hX (sh2 := sh) (I2 := Ia173) (r := (some (.int u172))) (As := []) (rest := [.int u169]) (st2 := [.int u172, .int u169]) (X5_back_ok hf5 hc174) gL_law_X5_back rfl X5_back_hy ⟨(Nat.le_of_ble_eq_true rfl), (Nat.le_of_ble_eq_true rfl)⟩ rfl hf5.1 rfl (Nat.le_of_ble_eq_true rfl) ⟨(Nat.le_of_ble_eq_true rfl), (Nat.le_of_ble_eq_true rfl)⟩ rfl rfl rfl dL_law_749 ?_
                                                      refine hj_icmp_eq hX (tgt := 780) (by decide) dL_law_752 h (fun h => ?_) (fun h => ?_)
                                                      · refine hj_iinc hX (k1 := 3) (v := (v3 + (5 : Int32))) rfl rfl (Nat.le_of_ble_eq_true rfl) (lv2 := [(3, .int (v3 + (5 : Int32))), (0, .null), (1, .ref 0), (2, .ref 92)]) rfl dL_law_780 ?_
                                                        refine hj_goto hX (tgt := 18) (by decide) dL_law_783 ?_
                                                        refine hj_lv hX [1, 2, 3, 0] (lv2 := [(0, .null), (1, .ref 0), (2, .ref 92), (3, .int (v3 + (5 : Int32)))]) rfl ?_
                                                        exact hk18 _ _ h
                                                      · refine hj_iconst hX (v := (0 : Int32)) (by decide) dL_law_755 ?_
                                                        exact hj_lawret hX dL_law_756 h hr1 (by omega) (by omega) hb0
                                                    · refine hp_ite h (fun c182 h => ?_) (fun c182 h => ?_)
                                                      · refine hj_tabIn hX (tgt := 757) (off := 725) (kx := 25) c182 (by decide) (by decide) (by decide) (by decide) dL_law_32 ?_
                                                        refine hj_aload_n hX rfl 1 rfl dL_law_757 ?_
                                                        refine hj_zload_n hX rfl 0 rfl dL_law_758 ?_
                                                        refine hj_iload_n hX rfl 3 rfl dL_law_759 ?_
                                                        refine hj_iconst hX (v := (1 : Int32)) (by decide) dL_law_760 ?_
                                                        refine hj_iadd hX dL_law_761 ?_
                                                        refine hj_sld hX hXs hz1 hz2 dL_law_762 h (fun h => ?_)
                                                        obtain ⟨u176, Ia177, hc178, h⟩ := ob_e h
                                                        refine hj_callV hX (sh2 := sh) (I2 := Ia177) (r := (some (.int u176))) (As := [.int (xs ((v3 + (1 : Int32))).toNatClampNeg)]) (rest := []) (st2 := [.int u176]) (X4_count_ok hf4 hc178) gL_law_X4_count rfl X4_count_hy ⟨(Nat.le_of_ble_eq_true rfl), (Nat.le_of_ble_eq_true rfl)⟩ rfl hf4.1 rfl (Nat.le_of_ble_eq_true rfl) ⟨(Nat.le_of_ble_eq_true rfl), (Nat.le_of_ble_eq_true rfl)⟩ rfl rfl rfl dL_law_763 ?_
                                                        refine hj_aload_n hX rfl 2 rfl dL_law_766 ?_
                                                        refine hj_zload_n hX rfl 0 rfl dL_law_767 ?_
                                                        refine hj_iload_n hX rfl 3 rfl dL_law_768 ?_
                                                        refine hj_iconst hX (v := (1 : Int32)) (by decide) dL_law_769 ?_
                                                        refine hj_iadd hX dL_law_770 ?_
                                                        refine hj_sld hX hXs hz1 hz2 dL_law_771 h (fun h => ?_)
                                                        obtain ⟨u179, Ia180, hc181, h⟩ := ob_e h
                                                        refine hj_callV hX (sh2 := sh) (I2 := Ia180) (r := (some (.int u179))) (As := [.int (xs ((v3 + (1 : Int32))).toNatClampNeg)]) (rest := [.int u176]) (st2 := [.int u179, .int u176]) (X5_count_ok hf5 hc181) gL_law_X5_count rfl X5_count_hy ⟨(Nat.le_of_ble_eq_true rfl), (Nat.le_of_ble_eq_true rfl)⟩ rfl hf5.1 rfl (Nat.le_of_ble_eq_true rfl) ⟨(Nat.le_of_ble_eq_true rfl), (Nat.le_of_ble_eq_true rfl)⟩ rfl rfl rfl dL_law_772 ?_
                                                        refine hj_icmp_eq hX (tgt := 780) (by decide) dL_law_775 h (fun h => ?_) (fun h => ?_)
                                                        · refine hj_iinc hX (k1 := 3) (v := (v3 + (5 : Int32))) rfl rfl (Nat.le_of_ble_eq_true rfl) (lv2 := [(3, .int (v3 + (5 : Int32))), (0, .null), (1, .ref 0), (2, .ref 92)]) rfl dL_law_780 ?_
                                                          refine hj_goto hX (tgt := 18) (by decide) dL_law_783 ?_
                                                          refine hj_lv hX [1, 2, 3, 0] (lv2 := [(0, .null), (1, .ref 0), (2, .ref 92), (3, .int (v3 + (5 : Int32)))]) rfl ?_
                                                          exact hk18 _ _ h
                                                        · refine hj_iconst hX (v := (0 : Int32)) (by decide) dL_law_778 ?_
                                                          exact hj_lawret hX dL_law_779 h hr1 (by omega) (by omega) hb0
                                                      · have e0 := lv_neT (a := 0) c7 (by decide)
                                                        have e1 := lv_neT (a := 1) c14 (by decide)
                                                        have e2 := lv_neT (a := 2) c21 (by decide)
                                                        have e3 := lv_neT (a := 3) c28 (by decide)
                                                        have e4 := lv_neT (a := 4) c35 (by decide)
                                                        have e5 := lv_neT (a := 5) c42 (by decide)
                                                        have e6 := lv_neT (a := 6) c49 (by decide)
                                                        have e7 := lv_neT (a := 7) c56 (by decide)
                                                        have e8 := lv_neT (a := 8) c63 (by decide)
                                                        have e9 := lv_neT (a := 9) c70 (by decide)
                                                        have e10 := lv_neT (a := 10) c77 (by decide)
                                                        have e11 := lv_neT (a := 11) c84 (by decide)
                                                        have e12 := lv_neT (a := 12) c91 (by decide)
                                                        have e13 := lv_neT (a := 13) c98 (by decide)
                                                        have e14 := lv_neT (a := 14) c105 (by decide)
                                                        have e15 := lv_neT (a := 15) c112 (by decide)
                                                        have e16 := lv_neT (a := 16) c119 (by decide)
                                                        have e17 := lv_neT (a := 17) c126 (by decide)
                                                        have e18 := lv_neT (a := 18) c133 (by decide)
                                                        have e19 := lv_neT (a := 19) c140 (by decide)
                                                        have e20 := lv_neT (a := 20) c147 (by decide)
                                                        have e21 := lv_neT (a := 21) c154 (by decide)
                                                        have e22 := lv_neT (a := 22) c161 (by decide)
                                                        have e23 := lv_neT (a := 23) c168 (by decide)
                                                        have e24 := lv_neT (a := 24) c175 (by decide)
                                                        have e25 := lv_neT (a := 25) c182 (by decide)
                                                        refine hj_tabOut hX (tgt := 780) (by omega) (by decide) dL_law_32 ?_
                                                        refine hj_iinc hX (k1 := 3) (v := (v3 + (5 : Int32))) rfl rfl (Nat.le_of_ble_eq_true rfl) (lv2 := [(3, .int (v3 + (5 : Int32))), (0, .null), (1, .ref 0), (2, .ref 92)]) rfl dL_law_780 ?_
                                                        refine hj_goto hX (tgt := 18) (by decide) dL_law_783 ?_
                                                        refine hj_lv hX [1, 2, 3, 0] (lv2 := [(0, .null), (1, .ref 0), (2, .ref 92), (3, .int (v3 + (5 : Int32)))]) rfl ?_
                                                        exact hk18 _ _ h
set_option maxHeartbeats 4000000 in
set_option maxRecDepth 100000 in
theorem law_l18_ok {p : Program} {l : Launch} {e : Env} {s : State} {m : MethodId} {below : List Frame} {meth : Method} {c : Code} {D : va_G} {E : Nat → ClassId} {b z : Nat} {sh : List hS} {r : Int32} {I2 : hM} {xs : Nat → Int32} {L : Nat} (hX : hp_X p s m #[Value.ref z] meth c RL cL_law 4 wsL_law D E ret meth.name) (hf4 : hq_X4 sh) (hf5 : hq_X5 sh) (hXs : va_X z L xs s s.heap) (hz1 : z < s.heap.size) (hz2 : z < b) (hb0 : s.heap.size ≤ b) (hr1 : r = 1) : ∀ (n : Nat) (v3 : Int32) (I : hM), law_l18 xs L n v3 I = some (r, I2) → hp_J p l e room_1 s m #[Value.ref z] below meth c (lw_Z below #[Value.ref z] s) D E b z 4 sh 117 1386 I 18 [(0, .null), (1, .ref 0), (2, .ref 92), (3, .int v3)] [] := by
  intro n
  induction n with
  | zero => exact fun _ _ h => nomatch h
  | succ n ih => exact fun _ _ h => law_h18_ok hX hf4 hf5 hXs hz1 hz2 hb0 hr1 ih h
set_option maxHeartbeats 4000000 in
set_option maxRecDepth 100000 in
theorem law_b16_ok {p : Program} {l : Launch} {e : Env} {s : State} {m : MethodId} {below : List Frame} {meth : Method} {c : Code} {D : va_G} {E : Nat → ClassId} {b z : Nat} {sh : List hS} {r : Int32} {I2 : hM} {xs : Nat → Int32} {L : Nat} {I : hM} (hX : hp_X p s m #[Value.ref z] meth c RL cL_law 4 wsL_law D E ret meth.name) (hf4 : hq_X4 sh) (hf5 : hq_X5 sh) (hXs : va_X z L xs s s.heap) (hz1 : z < s.heap.size) (hz2 : z < b) (hb0 : s.heap.size ≤ b) (hr1 : r = 1) (h : law_b16 xs L I = some (r, I2)) : hp_J p l e room_1 s m #[Value.ref z] below meth c (lw_Z below #[Value.ref z] s) D E b z 4 sh 117 1386 I 16 [(0, .null), (1, .ref 0), (2, .ref 92)] [] := by
  unfold law_b16 at h
  refine hj_iconst hX (v := (0 : Int32)) (by decide) dL_law_16 ?_
  refine hj_istore_n hX rfl (Nat.le_of_ble_eq_true rfl) (lv2 := [(3, .int (0 : Int32)), (0, .null), (1, .ref 0), (2, .ref 92)]) rfl dL_law_17 ?_
  refine hj_lv hX [1, 2, 3, 0] (lv2 := [(0, .null), (1, .ref 0), (2, .ref 92), (3, .int (0 : Int32))]) rfl ?_
  exact law_l18_ok hX hf4 hf5 hXs hz1 hz2 hb0 hr1 hF _ _ h
theorem hp_arr {args : Array Value} {s : State} {ty : FieldType} (h : (Cond.arrayClass ty).before args s = true) (hty : ∀ U cA, U.vm.findClass ("[" ++ ty.toString) = some cA → va_RA U cA ty) : ∃ cA, ArrOfT s cA ty ∧ va_RA s cA ty := by
  obtain ⟨cA, kA, comp, h1, h2, h3⟩ := Cond.arrayClass_spec h
  exact ⟨cA, fun n z => ⟨fun k h => (by cases h), kA, h2, comp, h3⟩, hty s cA h1⟩
theorem hp_arrO {args : Array Value} {s : State} {C : String} (h : (Cond.arrayOver (.object C)).before args s = true) : ∃ cA, ArrOfT s cA (.object C) ∧ va_RA s cA (.object C) := by
  obtain ⟨comp, cA, kA, h1, -, h2, h3, h4⟩ := Cond.arrayOver_spec h
  exact ⟨cA, fun n z => ⟨fun k h => (by cases h), kA, h2, comp, h3⟩, kA, comp, h2, h3, h1, h4⟩
def hTm : Nat → Term := fun _ => .string "HatPins" 55
theorem hp_elems : ∀ j : Nat, j < ([104] : List Nat).getD 0 0 → Cond.eq (.elem (.field (hTm 0) "java/lang/String" "value" "[B") (.int (Int32.ofNat j))) (.int ((([hBy] : List (List Int32)).getD 0 []).getD j 0)) ∈ flatC (Jvm.Cond.and given_1 narrow_1) := by decide +kernel
theorem hp_str {s : State} {b : Nat} {A : Nat → Prop} (hgv : (Jvm.Cond.and given_1 narrow_1).before #[Value.ref b] s = true) (hts : ∀ w ∈ lw_tbl, w.before #[Value.ref b] s = true) (hA : ∀ a : Nat, a < s.heap.size → ¬ A a) : ∃ z v : Nat, vk_R RX4 55 "g0,0,9,1,20;g1,3,6,2,15;g2,99,2,1,12;g3,10,5,1,30;g0,99,14,3,10;f0,2,2;f1,4,5;f2,4,1;l2,0,1;l1,2,3;l3,0;" z s ∧ vk_S 1 [104] [hBy] (fun _ => z) (fun _ => v) A s s.heap := by
  have hq := flat_of_before _ hgv
  obtain ⟨adK, adV, h1, h2⟩ := vk_Sof (args := #[Value.ref b]) (s := s) (N := 1) (tm := hTm) (len := [104]) (byt := [hBy]) (A := A) (by decide) (fun i _ => hq _ (by show Cond.exactly (.string "HatPins" 55) "java/lang/String" ∈ _; decide +kernel)) (fun i _ => hq _ (by show Cond.eq (.field (.string "HatPins" 55) "java/lang/String" "coder" "B") (.int 0) ∈ _; decide +kernel)) (fun i _ => hq _ (by show Cond.arrayOf (.field (.string "HatPins" 55) "java/lang/String" "value" "[B") .byte ∈ _; decide +kernel)) (fun i hi => by
      obtain rfl : i = 0 := by omega
      exact hq _ (by show Cond.eq (.length (.field (.string "HatPins" 55) "java/lang/String" "value" "[B")) (.int 104) ∈ _; decide +kernel)) (fun i hi j hj => by
      obtain rfl : i = 0 := by omega
      exact hq _ (hp_elems j hj)) (fun i j hi hj hij => absurd (show i = j by omega) hij) hA
  have e0 : ∀ i, i < 1 → i = 0 := fun i h => by omega
  refine ⟨adK 0, adV 0, vk_R.of (A := #[Value.ref b]) (hts _ (by decide +kernel)) (h2 0 (by decide)), ?_⟩
  refine ⟨fun i hi => ?_, fun i j hi hj _ => by omega⟩
  have h3 := h1.1 i hi
  rw [e0 i hi] at h3 ⊢
  exact h3
theorem law_mc4 : Cond.classLink RL 7 RX4 ∈ wsL_law := by decide +kernel
theorem law_mi4 : Cond.instantiable RX4 10 ∈ wsL_law := by decide +kernel
theorem law_mn4 : Cond.initialized RX4 ∈ wsL_law := by decide +kernel
theorem law_ml4 : Cond.methodLink RL 9 yX4_init ∈ wsL_law := by decide +kernel
theorem law_mk4 : Cond.instanceMethod yX4_init ∈ wsL_law := by decide +kernel
theorem law_mc5 : Cond.classLink RL 10 RX5 ∈ wsL_law := by decide +kernel
theorem law_mi5 : Cond.instantiable RX5 39 ∈ wsL_law := by decide +kernel
theorem law_mn5 : Cond.initialized RX5 ∈ wsL_law := by decide +kernel
theorem law_ml5 : Cond.methodLink RL 12 yX5_init ∈ wsL_law := by decide +kernel
theorem law_mk5 : Cond.instanceMethod yX5_init ∈ wsL_law := by decide +kernel
theorem law_mn4c : Cond.initialized yX4_init.cls ∈ wsL_law := by decide +kernel
theorem law_mn5c : Cond.initialized yX5_init.cls ∈ wsL_law := by decide +kernel
set_option maxHeartbeats 4000000 in
set_option maxRecDepth 100000 in
theorem whole_start0 {p : Program} {e : Env} {s : State} {m : MethodId} {below : List Frame} {meth : Method} {c : Code} (l : Launch) (hflags : l.flags = flags0) {b L : Nat} {xs : Nat → Int32} (hL : L ≤ 320) (C0 : lw_At p s m meth c b L xs) {r1 r2 : Int32} {I1 I2 I3 : hM} (e1 : X4_init_b100 hW2 = some (r1, I1)) (e2 : ∀ k, 92 ≤ k → I1 k = fun _ => 0) (e3 : X5_init_b194 I1 = some (r2, I2)) (e4 : law_b16 xs L I2 = some (1, I3)) : W p l e room_1 s m #[Value.ref b] below meth c s.heap [] 0 0 (lw_Z below #[Value.ref b] s) (entryFrame m ([Value.ref b] : List Value).toArray 4) := by
  obtain ⟨hx, hb, hr, hml, hown, hts, hX0, hbl, hlocks, hgv⟩ := id C0
  obtain ⟨c0, i0, k0⟩ := u_known (C := RX0) (T := TX0) (N := 13) (n := 13) hts inX0 (hts (.instantiable RX0 13) (by decide +kernel))
  obtain ⟨c1, i1, k1⟩ := u_known (C := RX1) (T := TX1) (N := 2) (n := 2) hts inX1 (hts (.instantiable RX1 2) (by decide +kernel))
  obtain ⟨c2, i2, k2⟩ := u_known (C := RX2) (T := TX2) (N := 6) (n := 6) hts inX2 (hts (.instantiable RX2 6) (by decide +kernel))
  obtain ⟨c3, i3, k3⟩ := u_known (C := RX3) (T := TX3) (N := 4) (n := 4) hts inX3 (hts (.instantiable RX3 4) (by decide +kernel))
  obtain ⟨c4, i4, k4⟩ := u_known (C := RX4) (T := TX4) (N := 10) (n := 10) hts inX4 (hts (.instantiable RX4 10) (by decide +kernel))
  obtain ⟨c5, i5, k5⟩ := u_known (C := RX5) (T := TX5) (N := 39) (n := 39) hts inX5 (hts (.instantiable RX5 39) (by decide +kernel))
  obtain ⟨dC, dI, hKc⟩ : ∃ (dC : Nat → ClassId) (dI : Nat → Nat → Nat), ∀ (k : Nat) (q : vw_C), vwCl[k]? = some q → u_Kn s q.1 q.2.1 q.2.2 (dC k) (dI k) := by
    refine ⟨fun k => match k with | 0 => c0 | 1 => c1 | 2 => c2 | 3 => c3 | 4 => c4 | _ => c5, fun k => match k with | 0 => i0 | 1 => i1 | 2 => i2 | 3 => i3 | 4 => i4 | _ => i5, ?_⟩
    intro k q hq
    match k, hq with
    | 0, hq => cases hq; exact k0
    | 1, hq => cases hq; exact k1
    | 2, hq => cases hq; exact k2
    | 3, hq => cases hq; exact k3
    | 4, hq => cases hq; exact k4
    | 5, hq => cases hq; exact k5
    | k + 6, hq => simp [vwCl] at hq
  obtain ⟨ca, ha1, ha2⟩ := hp_arr (hts (.arrayClass .int) (by decide +kernel)) (fun U cA h => h)
  obtain ⟨cb, hb1, hb2⟩ := hp_arr (hts (.arrayClass .byte) (by decide +kernel)) (fun U cA h => h)
  obtain ⟨co, ho1, ho2⟩ := hp_arrO (C := RX2) (hts (.arrayOver (.object RX2)) (by decide +kernel))
  obtain ⟨E, hE0, hE1, hE2⟩ : ∃ E : Nat → ClassId, E 0 = ca ∧ E 1 = cb ∧ E 2 = co := ⟨fun k => match k with | 0 => ca | 1 => cb | _ => co, rfl, rfl, rfl⟩
  subst hE0
  subst hE1
  subst hE2
  have hK : hp_K (dC, dI) E s := by
    refine ⟨⟨hKc, fun k q hq => ?_⟩, va_Nw.of rfl (hts (.methodLinkNest RX4 9 yX3_init RX4) (by decide +kernel)), va_Nw.of rfl (hts (.methodLinkNest RX4 18 yX0_init RX4) (by decide +kernel)), va_Nw.of rfl (hts (.methodLinkNest RX4 28 yX2_init RX4) (by decide +kernel)), va_Nw.of rfl (hts (.methodLinkNest RX1 21 yX2_init RX4) (by decide +kernel)), va_Nw.of rfl (hts (.methodLinkNest RX2 71 yX4_worth RX4) (by decide +kernel)), va_AO.of (hts (.arrayOver (.object RX2)) (by decide +kernel))⟩
    match k, hq with
    | 0, hq => cases hq; exact ⟨ha1, ha2⟩
    | 1, hq => cases hq; exact ⟨hb1, hb2⟩
    | 2, hq => cases hq; exact ⟨ho1, ho2⟩
    | k + 3, hq => simp at hq
  obtain ⟨z2, v2, hz1, hz2⟩ := hp_str (A := fun a : Nat => s.heap.size ≤ a) hgv hts (fun a h => Nat.not_le.mpr h)
  have hCS : va_Z "java/lang/String" "COMPACT_STRINGS" "Z" (.int 1) (fun a : Nat => s.heap.size ≤ a) s s.heap := va_Zof (args := #[Value.ref b]) (hts _ (by decide +kernel)) (hts _ (by decide +kernel)) (va_eqi (flat_of_before _ hgv _ (by decide +kernel))) (fun a h => Nat.not_le.mpr h)
  have hSF : va_Zq "jdk/internal/util/Preconditions" "SIOOBE_FORMATTER" "Ljava/util/function/BiFunction;" (fun a : Nat => s.heap.size ≤ a) s s.heap := va_Zqof (args := #[Value.ref b]) (hts _ (by decide +kernel)) (hts _ (by decide +kernel)) (flat_of_before _ hgv _ (by decide +kernel)) (fun a h => Nat.not_le.mpr h)
  have hKs : ∀ (H : Heap) (locs : List Loc) (U : State), va_S (fun q : Nat => s.heap.size ≤ q) s.heap H locs → U.heap = H → s.WarmedH U.vm → hp_Ks s.heap.size z2 U := fun H locs U hS hU hW => ⟨hz1.warm hW, v2, hp_vkS ⟨hz2, hCS, hSF⟩ hS U hU hW⟩
  have hX : hp_X p s m #[Value.ref b] meth c RL cL_law 4 wsL_law (dC, dI) E ret meth.name := ⟨hx, hb, hml, hown, fun w h => hts w (wsL_law_in w h), hK, hlocks, hr, rfl⟩
  have hl := lv_entry ([.ref b]) (n := 4) (Nat.le_of_ble_eq_true rfl)
  rw [lg_entry_eq]
  generalize (lg_sl ([.ref b]) ++ List.replicate (4 - (lg_sl ([.ref b])).length) Slot.unset).toArray = ls at hl ⊢
  have hl : lv_has ls 4 (([(0, .null)] : List (Nat × Value)).map (hp_l s.heap.size b)) := hl
  have hP : va_P (dC, dI) vwCl (hp_w E s.heap.size [] hZ0) s.heap := fun k q h => by simp [hp_w] at h
  have key : hp_J p l e room_1 s m #[Value.ref b] below meth c (lw_Z below #[Value.ref b] s) (dC, dI) E s.heap.size b 4 [] 0 0 hZ0 0 [(0, .null)] [] := by
    refine hj_new hX (ci := 4) tyX4 tyX4_ok inlX4 law_mc4 law_mi4 law_mn4 rfl _ hfs_X4 ⟨(Nat.le_of_ble_eq_true rfl), (Nat.le_of_ble_eq_true rfl)⟩ dL_law_0 ?_
    refine hj_eqs (sh2 := [(0, 4, [some none, some none, some none, some none, some none, some none, some none, some none, some none, none])]) (I2 := hZ0) (st2 := [.ref 0]) rfl (hz_id rfl) rfl ?_
    refine hj_dup hX rfl dL_law_3 ?_
    refine hj_callIx hX (rt := none) (As := []) (st2 := []) (n := 0) (o := 0) (r := none) (sh2 := hpC) (rest := [.ref 0]) z2 hp_Ks.same hKs (X4_init_ok e1) rfl gL_law_X4_init rfl law_mn4c law_ml4 law_mk4 rfl X4_init_hy.2 ⟨(Nat.le_of_ble_eq_true rfl), (Nat.le_of_ble_eq_true rfl)⟩ (Nat.le_of_ble_eq_true rfl) ⟨(Nat.le_of_ble_eq_true rfl), (Nat.le_of_ble_eq_true rfl)⟩ (by decide +kernel) rfl dL_law_4 ?_
    refine hj_astore_n hX rfl (Nat.le_of_ble_eq_true rfl) (lv2 := [(1, .ref 0), (0, .null)]) rfl dL_law_7 ?_
    refine hj_new hX (ci := 5) tyX5 tyX5_ok inlX5 law_mc5 law_mi5 law_mn5 rfl _ hfs_X5 ⟨(Nat.le_of_ble_eq_true rfl), (Nat.le_of_ble_eq_true rfl)⟩ dL_law_8 ?_
    refine hj_eqs (sh2 := hpC ++ [(0, 5, [none, some none, some none, some none, some none, some none, none, some none, some none, some none, none, some none, some none, none, some none, some none, some none, some none, some none, none, some none, some none, some none, none, some none, some none, some none, none, none, none, some none, none, none, none, none, some none, some none, none, none])]) (I2 := I1) (st2 := [.ref 92]) rfl (hz_id (e2 _ (by decide +kernel))) (by decide +kernel) ?_
    refine hj_dup hX rfl dL_law_11 ?_
    refine hj_callI hX (rt := none) (o := 92) (sh2 := hpS) (I2 := I2) (r := none) (As := []) (rest := [.ref 92]) (st2 := [.ref 92]) (X5_init_ok (fun k hk => e2 k (Nat.le_of_lt hk)) e3) gL_law_X5_init rfl law_mn5c law_ml5 law_mk5 rfl X5_init_hy.2 ⟨(Nat.le_of_ble_eq_true rfl), (Nat.le_of_ble_eq_true rfl)⟩ rfl (Nat.le_of_ble_eq_true rfl) ⟨(Nat.le_of_ble_eq_true rfl), (Nat.le_of_ble_eq_true rfl)⟩ (by decide +kernel) rfl rfl dL_law_12 ?_
    refine hj_astore_n hX rfl (Nat.le_of_ble_eq_true rfl) (lv2 := [(2, .ref 92), (1, .ref 0), (0, .null)]) rfl dL_law_15 ?_
    refine hj_lv hX [2, 1, 0] (lv2 := [(0, .null), (1, .ref 0), (2, .ref 92)]) rfl ?_
    exact law_b16_ok hX (hq_X4_of (fun k _ => rfl)) (hq_X5_of (fun k _ => rfl)) hX0 hbl hbl (Nat.le_refl _) rfl e4
  exact key ⟨Nat.le_refl _, rfl⟩ s.heap [] ls hP va_S.rf hl
