section
def lw_okq (q : MethodName × Nat) : Prop := (q.1.cls ≠ "java/lang/invoke/MethodHandle" ∧ q.1.cls ≠ "java/lang/invoke/VarHandle") ∧ Cond.instantiable q.1.cls q.2 ∈ tables_1 ∧ Cond.privateMethod q.1 ∈ tables_1 ∧ Cond.instanceMethod q.1 ∈ tables_1
theorem lw_p0 : lw_okq (⟨"HatPins$Text", "readNumbers", "(I)I"⟩, 4) := ⟨⟨by decide +kernel, by decide +kernel⟩, List.mem_of_getElem? (i := 22) (by decide +kernel), List.mem_of_getElem? (i := 220) (by decide +kernel), List.mem_of_getElem? (i := 221) (by decide +kernel)⟩
theorem lw_p1 : lw_okq (⟨"HatPins$Text", "isFigure", "(I)Z"⟩, 4) := ⟨⟨by decide +kernel, by decide +kernel⟩, List.mem_of_getElem? (i := 22) (by decide +kernel), List.mem_of_getElem? (i := 224) (by decide +kernel), List.mem_of_getElem? (i := 225) (by decide +kernel)⟩
theorem lw_p2 : lw_okq (⟨"HatPins$Text", "letterAt", "(I)I"⟩, 4) := ⟨⟨by decide +kernel, by decide +kernel⟩, List.mem_of_getElem? (i := 22) (by decide +kernel), List.mem_of_getElem? (i := 228) (by decide +kernel), List.mem_of_getElem? (i := 229) (by decide +kernel)⟩
theorem lw_p3 : lw_okq (⟨"HatPins$Evening", "addGoing", "([I)Z"⟩, 13) := ⟨⟨by decide +kernel, by decide +kernel⟩, List.mem_of_getElem? (i := 43) (by decide +kernel), List.mem_of_getElem? (i := 236) (by decide +kernel), List.mem_of_getElem? (i := 237) (by decide +kernel)⟩
theorem lw_p4 : lw_okq (⟨"HatPins$Evening", "addFollowing", "([I)Z"⟩, 13) := ⟨⟨by decide +kernel, by decide +kernel⟩, List.mem_of_getElem? (i := 43) (by decide +kernel), List.mem_of_getElem? (i := 240) (by decide +kernel), List.mem_of_getElem? (i := 241) (by decide +kernel)⟩
theorem lw_p5 : lw_okq (⟨"HatPins$Evening", "addLady", "([II)Z"⟩, 13) := ⟨⟨by decide +kernel, by decide +kernel⟩, List.mem_of_getElem? (i := 43) (by decide +kernel), List.mem_of_getElem? (i := 244) (by decide +kernel), List.mem_of_getElem? (i := 245) (by decide +kernel)⟩
theorem lw_p6 : lw_okq (⟨"HatPins", "isGoing", "(I)Z"⟩, 10) := ⟨⟨by decide +kernel, by decide +kernel⟩, List.mem_of_getElem? (i := 14) (by decide +kernel), List.mem_of_getElem? (i := 308) (by decide +kernel), List.mem_of_getElem? (i := 309) (by decide +kernel)⟩
theorem lw_p7 : lw_okq (⟨"HatPins", "isLady", "(I)Z"⟩, 10) := ⟨⟨by decide +kernel, by decide +kernel⟩, List.mem_of_getElem? (i := 14) (by decide +kernel), List.mem_of_getElem? (i := 331) (by decide +kernel), List.mem_of_getElem? (i := 332) (by decide +kernel)⟩
theorem lw_p8 : lw_okq (⟨"HatPins$Shelf", "dropOldest", "()V"⟩, 2) := ⟨⟨by decide +kernel, by decide +kernel⟩, List.mem_of_getElem? (i := 139) (by decide +kernel), List.mem_of_getElem? (i := 351) (by decide +kernel), List.mem_of_getElem? (i := 352) (by decide +kernel)⟩
theorem lw_p9 : lw_okq (⟨"HatPins", "hadAsItIs", "()I"⟩, 10) := ⟨⟨by decide +kernel, by decide +kernel⟩, List.mem_of_getElem? (i := 14) (by decide +kernel), List.mem_of_getElem? (i := 433) (by decide +kernel), List.mem_of_getElem? (i := 434) (by decide +kernel)⟩
theorem lw_p10 : lw_okq (⟨"HatPins", "hadStopping", "(II)I"⟩, 10) := ⟨⟨by decide +kernel, by decide +kernel⟩, List.mem_of_getElem? (i := 14) (by decide +kernel), List.mem_of_getElem? (i := 437) (by decide +kernel), List.mem_of_getElem? (i := 438) (by decide +kernel)⟩
theorem lw_p11 : lw_okq (⟨"HatPins", "hadPinning", "(I)I"⟩, 10) := ⟨⟨by decide +kernel, by decide +kernel⟩, List.mem_of_getElem? (i := 14) (by decide +kernel), List.mem_of_getElem? (i := 449) (by decide +kernel), List.mem_of_getElem? (i := 450) (by decide +kernel)⟩
theorem lw_p12 : lw_okq (⟨"HatPins", "hadWithout", "(I)I"⟩, 10) := ⟨⟨by decide +kernel, by decide +kernel⟩, List.mem_of_getElem? (i := 14) (by decide +kernel), List.mem_of_getElem? (i := 461) (by decide +kernel), List.mem_of_getElem? (i := 462) (by decide +kernel)⟩
theorem lw_p13 : lw_okq (⟨"HatPins", "allNotedSo", "(III)Z"⟩, 10) := ⟨⟨by decide +kernel, by decide +kernel⟩, List.mem_of_getElem? (i := 14) (by decide +kernel), List.mem_of_getElem? (i := 477) (by decide +kernel), List.mem_of_getElem? (i := 478) (by decide +kernel)⟩
theorem lw_p14 : lw_okq (⟨"HatPins", "hadLate", "(II)I"⟩, 10) := ⟨⟨by decide +kernel, by decide +kernel⟩, List.mem_of_getElem? (i := 14) (by decide +kernel), List.mem_of_getElem? (i := 497) (by decide +kernel), List.mem_of_getElem? (i := 498) (by decide +kernel)⟩
theorem lw_p15 : lw_okq (⟨"HatPins", "actInTrial", "(I)V"⟩, 10) := ⟨⟨by decide +kernel, by decide +kernel⟩, List.mem_of_getElem? (i := 14) (by decide +kernel), List.mem_of_getElem? (i := 514) (by decide +kernel), List.mem_of_getElem? (i := 515) (by decide +kernel)⟩
def lw_privs_1 : List (MethodName × Nat) := [(⟨"HatPins$Text", "readNumbers", "(I)I"⟩, 4), (⟨"HatPins$Text", "isFigure", "(I)Z"⟩, 4), (⟨"HatPins$Text", "letterAt", "(I)I"⟩, 4), (⟨"HatPins$Evening", "addGoing", "([I)Z"⟩, 13), (⟨"HatPins$Evening", "addFollowing", "([I)Z"⟩, 13), (⟨"HatPins$Evening", "addLady", "([II)Z"⟩, 13), (⟨"HatPins", "isGoing", "(I)Z"⟩, 10), (⟨"HatPins", "isLady", "(I)Z"⟩, 10), (⟨"HatPins$Shelf", "dropOldest", "()V"⟩, 2), (⟨"HatPins", "hadAsItIs", "()I"⟩, 10), (⟨"HatPins", "hadStopping", "(II)I"⟩, 10), (⟨"HatPins", "hadPinning", "(I)I"⟩, 10), (⟨"HatPins", "hadWithout", "(I)I"⟩, 10), (⟨"HatPins", "allNotedSo", "(III)Z"⟩, 10), (⟨"HatPins", "hadLate", "(II)I"⟩, 10), (⟨"HatPins", "actInTrial", "(I)V"⟩, 10)]
theorem lw_r1 : ∀ q ∈ lw_privs_1, lw_okq q := List.forall_mem_cons.mpr ⟨lw_p0, List.forall_mem_cons.mpr ⟨lw_p1, List.forall_mem_cons.mpr ⟨lw_p2, List.forall_mem_cons.mpr ⟨lw_p3, List.forall_mem_cons.mpr ⟨lw_p4, List.forall_mem_cons.mpr ⟨lw_p5, List.forall_mem_cons.mpr ⟨lw_p6, List.forall_mem_cons.mpr ⟨lw_p7, List.forall_mem_cons.mpr ⟨lw_p8, List.forall_mem_cons.mpr ⟨lw_p9, List.forall_mem_cons.mpr ⟨lw_p10, List.forall_mem_cons.mpr ⟨lw_p11, List.forall_mem_cons.mpr ⟨lw_p12, List.forall_mem_cons.mpr ⟨lw_p13, List.forall_mem_cons.mpr ⟨lw_p14, List.forall_mem_cons.mpr ⟨lw_p15, fun _ h => absurd h List.not_mem_nil⟩⟩⟩⟩⟩⟩⟩⟩⟩⟩⟩⟩⟩⟩⟩⟩
theorem lw_p16 : lw_okq (⟨"HatPinsModel", "clears", "()V"⟩, 39) := ⟨⟨by decide +kernel, by decide +kernel⟩, List.mem_of_getElem? (i := 538) (by decide +kernel), List.mem_of_getElem? (i := 544) (by decide +kernel), List.mem_of_getElem? (i := 545) (by decide +kernel)⟩
theorem lw_p17 : lw_okq (⟨"HatPinsModel", "comes", "(IIIII)V"⟩, 39) := ⟨⟨by decide +kernel, by decide +kernel⟩, List.mem_of_getElem? (i := 538) (by decide +kernel), List.mem_of_getElem? (i := 548) (by decide +kernel), List.mem_of_getElem? (i := 549) (by decide +kernel)⟩
theorem lw_p18 : lw_okq (⟨"HatPinsModel", "follow", "(III)V"⟩, 39) := ⟨⟨by decide +kernel, by decide +kernel⟩, List.mem_of_getElem? (i := 538) (by decide +kernel), List.mem_of_getElem? (i := 552) (by decide +kernel), List.mem_of_getElem? (i := 553) (by decide +kernel)⟩
theorem lw_p19 : lw_okq (⟨"HatPinsModel", "settles", "()V"⟩, 39) := ⟨⟨by decide +kernel, by decide +kernel⟩, List.mem_of_getElem? (i := 538) (by decide +kernel), List.mem_of_getElem? (i := 556) (by decide +kernel), List.mem_of_getElem? (i := 557) (by decide +kernel)⟩
theorem lw_p20 : lw_okq (⟨"HatPinsModel", "reads", "()Z"⟩, 39) := ⟨⟨by decide +kernel, by decide +kernel⟩, List.mem_of_getElem? (i := 538) (by decide +kernel), List.mem_of_getElem? (i := 695) (by decide +kernel), List.mem_of_getElem? (i := 696) (by decide +kernel)⟩
theorem lw_p21 : lw_okq (⟨"HatPinsModel", "next", "()I"⟩, 39) := ⟨⟨by decide +kernel, by decide +kernel⟩, List.mem_of_getElem? (i := 538) (by decide +kernel), List.mem_of_getElem? (i := 699) (by decide +kernel), List.mem_of_getElem? (i := 700) (by decide +kernel)⟩
theorem lw_p22 : lw_okq (⟨"HatPinsModel", "item", "(I)V"⟩, 39) := ⟨⟨by decide +kernel, by decide +kernel⟩, List.mem_of_getElem? (i := 538) (by decide +kernel), List.mem_of_getElem? (i := 703) (by decide +kernel), List.mem_of_getElem? (i := 704) (by decide +kernel)⟩
theorem lw_p23 : lw_okq (⟨"HatPinsModel", "goingItem", "()V"⟩, 39) := ⟨⟨by decide +kernel, by decide +kernel⟩, List.mem_of_getElem? (i := 538) (by decide +kernel), List.mem_of_getElem? (i := 707) (by decide +kernel), List.mem_of_getElem? (i := 708) (by decide +kernel)⟩
theorem lw_p24 : lw_okq (⟨"HatPinsModel", "number", "(II)I"⟩, 39) := ⟨⟨by decide +kernel, by decide +kernel⟩, List.mem_of_getElem? (i := 538) (by decide +kernel), List.mem_of_getElem? (i := 711) (by decide +kernel), List.mem_of_getElem? (i := 712) (by decide +kernel)⟩
theorem lw_p25 : lw_okq (⟨"HatPinsModel", "more", "(II)I"⟩, 39) := ⟨⟨by decide +kernel, by decide +kernel⟩, List.mem_of_getElem? (i := 538) (by decide +kernel), List.mem_of_getElem? (i := 717) (by decide +kernel), List.mem_of_getElem? (i := 718) (by decide +kernel)⟩
theorem lw_p26 : lw_okq (⟨"HatPinsModel", "followItem", "()V"⟩, 39) := ⟨⟨by decide +kernel, by decide +kernel⟩, List.mem_of_getElem? (i := 538) (by decide +kernel), List.mem_of_getElem? (i := 721) (by decide +kernel), List.mem_of_getElem? (i := 722) (by decide +kernel)⟩
theorem lw_p27 : lw_okq (⟨"HatPinsModel", "ladyItem", "()V"⟩, 39) := ⟨⟨by decide +kernel, by decide +kernel⟩, List.mem_of_getElem? (i := 538) (by decide +kernel), List.mem_of_getElem? (i := 725) (by decide +kernel), List.mem_of_getElem? (i := 726) (by decide +kernel)⟩
theorem lw_p28 : lw_okq (⟨"HatPinsModel", "isGoing", "(I)Z"⟩, 39) := ⟨⟨by decide +kernel, by decide +kernel⟩, List.mem_of_getElem? (i := 538) (by decide +kernel), List.mem_of_getElem? (i := 740) (by decide +kernel), List.mem_of_getElem? (i := 741) (by decide +kernel)⟩
theorem lw_p29 : lw_okq (⟨"HatPinsModel", "worth", "(II)I"⟩, 39) := ⟨⟨by decide +kernel, by decide +kernel⟩, List.mem_of_getElem? (i := 538) (by decide +kernel), List.mem_of_getElem? (i := 745) (by decide +kernel), List.mem_of_getElem? (i := 746) (by decide +kernel)⟩
theorem lw_p30 : lw_okq (⟨"HatPinsModel", "isLady", "(I)Z"⟩, 39) := ⟨⟨by decide +kernel, by decide +kernel⟩, List.mem_of_getElem? (i := 538) (by decide +kernel), List.mem_of_getElem? (i := 762) (by decide +kernel), List.mem_of_getElem? (i := 763) (by decide +kernel)⟩
theorem lw_p31 : lw_okq (⟨"HatPinsModel", "canPin", "(III)Z"⟩, 39) := ⟨⟨by decide +kernel, by decide +kernel⟩, List.mem_of_getElem? (i := 538) (by decide +kernel), List.mem_of_getElem? (i := 767) (by decide +kernel), List.mem_of_getElem? (i := 768) (by decide +kernel)⟩
def lw_privs_2 : List (MethodName × Nat) := [(⟨"HatPinsModel", "clears", "()V"⟩, 39), (⟨"HatPinsModel", "comes", "(IIIII)V"⟩, 39), (⟨"HatPinsModel", "follow", "(III)V"⟩, 39), (⟨"HatPinsModel", "settles", "()V"⟩, 39), (⟨"HatPinsModel", "reads", "()Z"⟩, 39), (⟨"HatPinsModel", "next", "()I"⟩, 39), (⟨"HatPinsModel", "item", "(I)V"⟩, 39), (⟨"HatPinsModel", "goingItem", "()V"⟩, 39), (⟨"HatPinsModel", "number", "(II)I"⟩, 39), (⟨"HatPinsModel", "more", "(II)I"⟩, 39), (⟨"HatPinsModel", "followItem", "()V"⟩, 39), (⟨"HatPinsModel", "ladyItem", "()V"⟩, 39), (⟨"HatPinsModel", "isGoing", "(I)Z"⟩, 39), (⟨"HatPinsModel", "worth", "(II)I"⟩, 39), (⟨"HatPinsModel", "isLady", "(I)Z"⟩, 39), (⟨"HatPinsModel", "canPin", "(III)Z"⟩, 39)]
theorem lw_r2 : ∀ q ∈ lw_privs_2, lw_okq q := List.forall_mem_cons.mpr ⟨lw_p16, List.forall_mem_cons.mpr ⟨lw_p17, List.forall_mem_cons.mpr ⟨lw_p18, List.forall_mem_cons.mpr ⟨lw_p19, List.forall_mem_cons.mpr ⟨lw_p20, List.forall_mem_cons.mpr ⟨lw_p21, List.forall_mem_cons.mpr ⟨lw_p22, List.forall_mem_cons.mpr ⟨lw_p23, List.forall_mem_cons.mpr ⟨lw_p24, List.forall_mem_cons.mpr ⟨lw_p25, List.forall_mem_cons.mpr ⟨lw_p26, List.forall_mem_cons.mpr ⟨lw_p27, List.forall_mem_cons.mpr ⟨lw_p28, List.forall_mem_cons.mpr ⟨lw_p29, List.forall_mem_cons.mpr ⟨lw_p30, List.forall_mem_cons.mpr ⟨lw_p31, fun _ h => absurd h List.not_mem_nil⟩⟩⟩⟩⟩⟩⟩⟩⟩⟩⟩⟩⟩⟩⟩⟩
theorem lw_p32 : lw_okq (⟨"HatPinsModel", "known", "()V"⟩, 39) := ⟨⟨by decide +kernel, by decide +kernel⟩, List.mem_of_getElem? (i := 538) (by decide +kernel), List.mem_of_getElem? (i := 776) (by decide +kernel), List.mem_of_getElem? (i := 777) (by decide +kernel)⟩
theorem lw_p33 : lw_okq (⟨"HatPinsModel", "copies", "(II)V"⟩, 39) := ⟨⟨by decide +kernel, by decide +kernel⟩, List.mem_of_getElem? (i := 538) (by decide +kernel), List.mem_of_getElem? (i := 780) (by decide +kernel), List.mem_of_getElem? (i := 781) (by decide +kernel)⟩
theorem lw_p34 : lw_okq (⟨"HatPinsModel", "minutes", "(II)V"⟩, 39) := ⟨⟨by decide +kernel, by decide +kernel⟩, List.mem_of_getElem? (i := 538) (by decide +kernel), List.mem_of_getElem? (i := 784) (by decide +kernel), List.mem_of_getElem? (i := 785) (by decide +kernel)⟩
theorem lw_p35 : lw_okq (⟨"HatPinsModel", "goesOn", "(I)I"⟩, 39) := ⟨⟨by decide +kernel, by decide +kernel⟩, List.mem_of_getElem? (i := 538) (by decide +kernel), List.mem_of_getElem? (i := 788) (by decide +kernel), List.mem_of_getElem? (i := 789) (by decide +kernel)⟩
theorem lw_p36 : lw_okq (⟨"HatPinsModel", "starts", "(I)I"⟩, 39) := ⟨⟨by decide +kernel, by decide +kernel⟩, List.mem_of_getElem? (i := 538) (by decide +kernel), List.mem_of_getElem? (i := 792) (by decide +kernel), List.mem_of_getElem? (i := 793) (by decide +kernel)⟩
theorem lw_p37 : lw_okq (⟨"HatPinsModel", "all", "(I)I"⟩, 39) := ⟨⟨by decide +kernel, by decide +kernel⟩, List.mem_of_getElem? (i := 538) (by decide +kernel), List.mem_of_getElem? (i := 796) (by decide +kernel), List.mem_of_getElem? (i := 797) (by decide +kernel)⟩
theorem lw_p38 : lw_okq (⟨"HatPinsModel", "ends", "(IIII)V"⟩, 39) := ⟨⟨by decide +kernel, by decide +kernel⟩, List.mem_of_getElem? (i := 538) (by decide +kernel), List.mem_of_getElem? (i := 800) (by decide +kernel), List.mem_of_getElem? (i := 801) (by decide +kernel)⟩
theorem lw_p39 : lw_okq (⟨"HatPinsModel", "onNow", "(I)I"⟩, 39) := ⟨⟨by decide +kernel, by decide +kernel⟩, List.mem_of_getElem? (i := 538) (by decide +kernel), List.mem_of_getElem? (i := 821) (by decide +kernel), List.mem_of_getElem? (i := 822) (by decide +kernel)⟩
theorem lw_p40 : lw_okq (⟨"HatPinsModel", "hadAsItIs", "()I"⟩, 39) := ⟨⟨by decide +kernel, by decide +kernel⟩, List.mem_of_getElem? (i := 538) (by decide +kernel), List.mem_of_getElem? (i := 837) (by decide +kernel), List.mem_of_getElem? (i := 838) (by decide +kernel)⟩
theorem lw_p41 : lw_okq (⟨"HatPinsModel", "hadThen", "()I"⟩, 39) := ⟨⟨by decide +kernel, by decide +kernel⟩, List.mem_of_getElem? (i := 538) (by decide +kernel), List.mem_of_getElem? (i := 841) (by decide +kernel), List.mem_of_getElem? (i := 842) (by decide +kernel)⟩
theorem lw_p42 : lw_okq (⟨"HatPinsModel", "hadStopped", "(II)I"⟩, 39) := ⟨⟨by decide +kernel, by decide +kernel⟩, List.mem_of_getElem? (i := 538) (by decide +kernel), List.mem_of_getElem? (i := 845) (by decide +kernel), List.mem_of_getElem? (i := 846) (by decide +kernel)⟩
theorem lw_p43 : lw_okq (⟨"HatPinsModel", "isSo", "(III)Z"⟩, 39) := ⟨⟨by decide +kernel, by decide +kernel⟩, List.mem_of_getElem? (i := 538) (by decide +kernel), List.mem_of_getElem? (i := 876) (by decide +kernel), List.mem_of_getElem? (i := 877) (by decide +kernel)⟩
theorem lw_p44 : lw_okq (⟨"HatPinsModel", "isSoon", "(I)Z"⟩, 39) := ⟨⟨by decide +kernel, by decide +kernel⟩, List.mem_of_getElem? (i := 538) (by decide +kernel), List.mem_of_getElem? (i := 890) (by decide +kernel), List.mem_of_getElem? (i := 891) (by decide +kernel)⟩
theorem lw_p45 : lw_okq (⟨"HatPinsModel", "does", "(II)V"⟩, 39) := ⟨⟨by decide +kernel, by decide +kernel⟩, List.mem_of_getElem? (i := 538) (by decide +kernel), List.mem_of_getElem? (i := 902) (by decide +kernel), List.mem_of_getElem? (i := 903) (by decide +kernel)⟩
theorem lw_p46 : lw_okq (⟨"HatPinsModel", "pins", "(I)I"⟩, 39) := ⟨⟨by decide +kernel, by decide +kernel⟩, List.mem_of_getElem? (i := 538) (by decide +kernel), List.mem_of_getElem? (i := 906) (by decide +kernel), List.mem_of_getElem? (i := 907) (by decide +kernel)⟩
theorem lw_p47 : lw_okq (⟨"HatPinsModel", "manyOf", "(I)I"⟩, 39) := ⟨⟨by decide +kernel, by decide +kernel⟩, List.mem_of_getElem? (i := 538) (by decide +kernel), List.mem_of_getElem? (i := 922) (by decide +kernel), List.mem_of_getElem? (i := 923) (by decide +kernel)⟩
def lw_privs_3 : List (MethodName × Nat) := [(⟨"HatPinsModel", "known", "()V"⟩, 39), (⟨"HatPinsModel", "copies", "(II)V"⟩, 39), (⟨"HatPinsModel", "minutes", "(II)V"⟩, 39), (⟨"HatPinsModel", "goesOn", "(I)I"⟩, 39), (⟨"HatPinsModel", "starts", "(I)I"⟩, 39), (⟨"HatPinsModel", "all", "(I)I"⟩, 39), (⟨"HatPinsModel", "ends", "(IIII)V"⟩, 39), (⟨"HatPinsModel", "onNow", "(I)I"⟩, 39), (⟨"HatPinsModel", "hadAsItIs", "()I"⟩, 39), (⟨"HatPinsModel", "hadThen", "()I"⟩, 39), (⟨"HatPinsModel", "hadStopped", "(II)I"⟩, 39), (⟨"HatPinsModel", "isSo", "(III)Z"⟩, 39), (⟨"HatPinsModel", "isSoon", "(I)Z"⟩, 39), (⟨"HatPinsModel", "does", "(II)V"⟩, 39), (⟨"HatPinsModel", "pins", "(I)I"⟩, 39), (⟨"HatPinsModel", "manyOf", "(I)I"⟩, 39)]
theorem lw_r3 : ∀ q ∈ lw_privs_3, lw_okq q := List.forall_mem_cons.mpr ⟨lw_p32, List.forall_mem_cons.mpr ⟨lw_p33, List.forall_mem_cons.mpr ⟨lw_p34, List.forall_mem_cons.mpr ⟨lw_p35, List.forall_mem_cons.mpr ⟨lw_p36, List.forall_mem_cons.mpr ⟨lw_p37, List.forall_mem_cons.mpr ⟨lw_p38, List.forall_mem_cons.mpr ⟨lw_p39, List.forall_mem_cons.mpr ⟨lw_p40, List.forall_mem_cons.mpr ⟨lw_p41, List.forall_mem_cons.mpr ⟨lw_p42, List.forall_mem_cons.mpr ⟨lw_p43, List.forall_mem_cons.mpr ⟨lw_p44, List.forall_mem_cons.mpr ⟨lw_p45, List.forall_mem_cons.mpr ⟨lw_p46, List.forall_mem_cons.mpr ⟨lw_p47, fun _ h => absurd h List.not_mem_nil⟩⟩⟩⟩⟩⟩⟩⟩⟩⟩⟩⟩⟩⟩⟩⟩
def lw_privs : List (MethodName × Nat) := lw_privs_1 ++ (lw_privs_2 ++ (lw_privs_3))
def lw_tbl : List Cond := k2_sels lw_privs ++ tables_1
theorem lw_privs_ok : ∀ q ∈ lw_privs, lw_okq q := by
  show ∀ q ∈ lw_privs_1 ++ (lw_privs_2 ++ (lw_privs_3)), lw_okq q
  exact List.forall_mem_append.mpr ⟨lw_r1, List.forall_mem_append.mpr ⟨lw_r2, lw_r3⟩⟩

theorem goodIn_r {big : List Cond} (ws : List Cond) (ps : List Nat) (hp : ws = ps.filterMap (fun i => big[i]?)) (h : ws.all goodWord = true) : GoodIn big ws := by
  intro w hw
  have h1 := List.all_eq_true.mp h w hw
  rw [hp] at hw
  obtain ⟨i, -, hi⟩ := List.mem_filterMap.mp hw
  have hm : w ∈ big := by first | exact List.mem_of_getElem? hi | exact List.getElem?_mem hi
  exact ⟨hm, good_of_word h1⟩
theorem goodIn_app {big a b : List Cond} (ha : GoodIn big a) (hb : GoodIn big b) : GoodIn big (a ++ b) := fun w h => (List.mem_append.mp h).elim (ha w) (hb w)
theorem goodIn_ca {big a b : List Cond} {c : Cond} (ha : GoodIn big (c :: a)) (hb : GoodIn big b) : GoodIn big (c :: (a ++ b)) := fun w h => (List.mem_cons.mp h).elim (fun e => ha w (List.mem_cons.mpr (Or.inl e))) (fun h => (List.mem_append.mp h).elim (fun h => ha w (List.mem_cons.mpr (Or.inr h))) (hb w))
theorem goodIn_sub {big ws : List Cond} (hm : ∀ w ∈ ws, w ∈ big) (h : ws.all goodWord = true) : GoodIn big ws := fun w hw => ⟨hm w hw, good_of_word (List.all_eq_true.mp h w hw)⟩

def RX0 : String := "HatPins$Evening"
def TX0 : u_T := fun k => match k with
  | 0 => ("HatPins$Evening", "goings", "I", false)
  | 1 => ("HatPins$Evening", "followings", "I", false)
  | 2 => ("HatPins$Evening", "ladies", "I", false)
  | 3 => ("HatPins$Evening", "kind", "[I", true)
  | 4 => ("HatPins$Evening", "begins", "[I", true)
  | 5 => ("HatPins$Evening", "interest", "[I", true)
  | 6 => ("HatPins$Evening", "wane", "[I", true)
  | 7 => ("HatPins$Evening", "minutes", "[I", true)
  | 8 => ("HatPins$Evening", "leader", "[I", true)
  | 9 => ("HatPins$Evening", "follower", "[I", true)
  | 10 => ("HatPins$Evening", "gap", "[I", true)
  | 11 => ("HatPins$Evening", "pins", "[I", true)
  | _ => ("HatPins$Evening", "reach", "[I", true)
def tyX0 : Nat → FieldType := fun k => match k with
  | 0 => .int
  | 1 => .int
  | 2 => .int
  | 3 => .array .int
  | 4 => .array .int
  | 5 => .array .int
  | 6 => .array .int
  | 7 => .array .int
  | 8 => .array .int
  | 9 => .array .int
  | 10 => .array .int
  | 11 => .array .int
  | _ => .array .int
abbrev wsX00 : List Cond := u_ws RX0 TX0 13
theorem nmX0 : ∀ a, a < 13 → ∀ b, b < 13 → a ≠ b → (TX0 a).2.1 ≠ (TX0 b).2.1 := by decide +kernel
theorem tyX0_ok : ∀ k, k < 13 → parseFieldDescriptor (TX0 k).2.2.1 = some (tyX0 k) := by decide +kernel
abbrev cX0_init : ByteArray := prog_2_method_1_code
def yX0_init : MethodName := ⟨RX0, "<init>", "()V"⟩
abbrev cX0_clear : ByteArray := prog_2_method_2_code
def yX0_clear : MethodName := ⟨RX0, "clear", "()V"⟩
abbrev cX0_add : ByteArray := prog_2_method_3_code
def yX0_add : MethodName := ⟨RX0, "add", "(I[II)Z"⟩
abbrev cX0_addGoing : ByteArray := prog_2_method_4_code
def yX0_addGoing : MethodName := ⟨RX0, "addGoing", "([I)Z"⟩
abbrev cX0_addFollowing : ByteArray := prog_2_method_5_code
def yX0_addFollowing : MethodName := ⟨RX0, "addFollowing", "([I)Z"⟩
abbrev cX0_addLady : ByteArray := prog_2_method_6_code
def yX0_addLady : MethodName := ⟨RX0, "addLady", "([II)Z"⟩
def RX1 : String := "HatPins$Shelf"
def TX1 : u_T := fun k => match k with
  | 0 => ("HatPins$Shelf", "rows", "[LHatPins$Standing;", true)
  | _ => ("HatPins$Shelf", "held", "I", false)
def tyX1 : Nat → FieldType := fun k => match k with
  | 0 => .array (.object "HatPins$Standing")
  | _ => .int
abbrev wsX10 : List Cond := u_ws RX1 TX1 2
theorem nmX1 : ∀ a, a < 2 → ∀ b, b < 2 → a ≠ b → (TX1 a).2.1 ≠ (TX1 b).2.1 := by decide +kernel
theorem tyX1_ok : ∀ k, k < 2 → parseFieldDescriptor (TX1 k).2.2.1 = some (tyX1 k) := by decide +kernel
abbrev cX1_init : ByteArray := prog_3_method_1_code
def yX1_init : MethodName := ⟨RX1, "<init>", "(I)V"⟩
abbrev cX1_put : ByteArray := prog_3_method_2_code
def yX1_put : MethodName := ⟨RX1, "put", "(LHatPins$Standing;)V"⟩
abbrev cX1_dropOldest : ByteArray := prog_3_method_3_code
def yX1_dropOldest : MethodName := ⟨RX1, "dropOldest", "()V"⟩
abbrev cX1_takeInto : ByteArray := prog_3_method_4_code
def yX1_takeInto : MethodName := ⟨RX1, "takeInto", "(LHatPins$Standing;)Z"⟩
def RX2 : String := "HatPins$Standing"
def TX2 : u_T := fun k => match k with
  | 0 => ("HatPins$Standing", "minute", "I", false)
  | 1 => ("HatPins$Standing", "had", "I", false)
  | 2 => ("HatPins$Standing", "state", "[I", true)
  | 3 => ("HatPins$Standing", "due", "[I", true)
  | 4 => ("HatPins$Standing", "began", "[I", true)
  | _ => ("HatPins$Standing", "pins", "[I", true)
def tyX2 : Nat → FieldType := fun k => match k with
  | 0 => .int
  | 1 => .int
  | 2 => .array .int
  | 3 => .array .int
  | 4 => .array .int
  | _ => .array .int
abbrev wsX20 : List Cond := u_ws RX2 TX2 6
theorem nmX2 : ∀ a, a < 6 → ∀ b, b < 6 → a ≠ b → (TX2 a).2.1 ≠ (TX2 b).2.1 := by decide +kernel
theorem tyX2_ok : ∀ k, k < 6 → parseFieldDescriptor (TX2 k).2.2.1 = some (tyX2 k) := by decide +kernel
abbrev cX2_init : ByteArray := prog_4_method_1_code
def yX2_init : MethodName := ⟨RX2, "<init>", "()V"⟩
abbrev cX2_start : ByteArray := prog_4_method_2_code
def yX2_start : MethodName := ⟨RX2, "start", "(LHatPins$Evening;)V"⟩
abbrev cX2_copyOf : ByteArray := prog_4_method_3_code
def yX2_copyOf : MethodName := ⟨RX2, "copyOf", "(LHatPins$Standing;)V"⟩
abbrev cX2_goBy : ByteArray := prog_4_method_4_code
def yX2_goBy : MethodName := ⟨RX2, "goBy", "(LHatPins$Evening;I)V"⟩
abbrev cX2_beginDue : ByteArray := prog_4_method_5_code
def yX2_beginDue : MethodName := ⟨RX2, "beginDue", "(LHatPins$Evening;)V"⟩
abbrev cX2_worthOfAll : ByteArray := prog_4_method_6_code
def yX2_worthOfAll : MethodName := ⟨RX2, "worthOfAll", "(LHatPins$Evening;)I"⟩
abbrev cX2_worthOf : ByteArray := prog_4_method_7_code
def yX2_worthOf : MethodName := ⟨RX2, "worthOf", "(LHatPins$Evening;I)I"⟩
abbrev cX2_endMinute : ByteArray := prog_4_method_8_code
def yX2_endMinute : MethodName := ⟨RX2, "endMinute", "(LHatPins$Evening;)V"⟩
abbrev cX2_finish : ByteArray := prog_4_method_9_code
def yX2_finish : MethodName := ⟨RX2, "finish", "(LHatPins$Evening;II)V"⟩
abbrev cX2_canPin : ByteArray := prog_4_method_10_code
def yX2_canPin : MethodName := ⟨RX2, "canPin", "(LHatPins$Evening;II)Z"⟩
abbrev cX2_pinBy : ByteArray := prog_4_method_11_code
def yX2_pinBy : MethodName := ⟨RX2, "pinBy", "(LHatPins$Evening;II)V"⟩
abbrev cX2_lendPin : ByteArray := prog_4_method_12_code
def yX2_lendPin : MethodName := ⟨RX2, "lendPin", "(II)V"⟩
abbrev cX2_pinnableBy : ByteArray := prog_4_method_13_code
def yX2_pinnableBy : MethodName := ⟨RX2, "pinnableBy", "(LHatPins$Evening;I)I"⟩
abbrev cX2_onBits : ByteArray := prog_4_method_14_code
def yX2_onBits : MethodName := ⟨RX2, "onBits", "(LHatPins$Evening;)I"⟩
abbrev cX2_soonBits : ByteArray := prog_4_method_15_code
def yX2_soonBits : MethodName := ⟨RX2, "soonBits", "(LHatPins$Evening;)I"⟩
abbrev cX2_whenOf : ByteArray := prog_4_method_16_code
def yX2_whenOf : MethodName := ⟨RX2, "whenOf", "(I)I"⟩
abbrev cX2_howMany : ByteArray := prog_4_method_17_code
def yX2_howMany : MethodName := ⟨RX2, "howMany", "(LHatPins$Evening;I)I"⟩
abbrev cX2_pinsOfAll : ByteArray := prog_4_method_18_code
def yX2_pinsOfAll : MethodName := ⟨RX2, "pinsOfAll", "(LHatPins$Evening;)I"⟩
def RX3 : String := "HatPins$Text"
def TX3 : u_T := fun k => match k with
  | 0 => ("HatPins$Text", "letters", "[I", true)
  | 1 => ("HatPins$Text", "length", "I", false)
  | 2 => ("HatPins$Text", "numbers", "[I", true)
  | _ => ("HatPins$Text", "found", "I", false)
def tyX3 : Nat → FieldType := fun k => match k with
  | 0 => .array .int
  | 1 => .int
  | 2 => .array .int
  | _ => .int
abbrev wsX30 : List Cond := u_ws RX3 TX3 4
theorem nmX3 : ∀ a, a < 4 → ∀ b, b < 4 → a ≠ b → (TX3 a).2.1 ≠ (TX3 b).2.1 := by decide +kernel
theorem tyX3_ok : ∀ k, k < 4 → parseFieldDescriptor (TX3 k).2.2.1 = some (tyX3 k) := by decide +kernel
abbrev cX3_init : ByteArray := prog_5_method_1_code
def yX3_init : MethodName := ⟨RX3, "<init>", "()V"⟩
abbrev cX3_append : ByteArray := prog_5_method_2_code
def yX3_append : MethodName := ⟨RX3, "append", "(I)Z"⟩
abbrev cX3_readInto : ByteArray := prog_5_method_3_code
def yX3_readInto : MethodName := ⟨RX3, "readInto", "(LHatPins$Evening;)I"⟩
abbrev cX3_readNumbers : ByteArray := prog_5_method_4_code
def yX3_readNumbers : MethodName := ⟨RX3, "readNumbers", "(I)I"⟩
abbrev cX3_letterAt : ByteArray := prog_5_method_5_code
def yX3_letterAt : MethodName := ⟨RX3, "letterAt", "(I)I"⟩
abbrev cX3_isFigure : ByteArray := prog_5_method_6_code
def yX3_isFigure : MethodName := ⟨RX3, "isFigure", "(I)Z"⟩
def RX4 : String := "HatPins"
def TX4 : u_T := fun k => match k with
  | 0 => ("HatPins", "text", "LHatPins$Text;", true)
  | 1 => ("HatPins", "laid", "LHatPins$Evening;", true)
  | 2 => ("HatPins", "draft", "LHatPins$Evening;", true)
  | 3 => ("HatPins", "now", "LHatPins$Standing;", true)
  | 4 => ("HatPins", "trial", "LHatPins$Standing;", true)
  | 5 => ("HatPins", "undoable", "LHatPins$Shelf;", true)
  | 6 => ("HatPins", "saved", "LHatPins$Shelf;", true)
  | 7 => ("HatPins", "notedMinute", "[I", true)
  | 8 => ("HatPins", "notedWorth", "[I", true)
  | _ => ("HatPins", "noted", "I", false)
def tyX4 : Nat → FieldType := fun k => match k with
  | 0 => .object "HatPins$Text"
  | 1 => .object "HatPins$Evening"
  | 2 => .object "HatPins$Evening"
  | 3 => .object "HatPins$Standing"
  | 4 => .object "HatPins$Standing"
  | 5 => .object "HatPins$Shelf"
  | 6 => .object "HatPins$Shelf"
  | 7 => .array .int
  | 8 => .array .int
  | _ => .int
abbrev wsX40 : List Cond := u_ws RX4 TX4 10
theorem nmX4 : ∀ a, a < 10 → ∀ b, b < 10 → a ≠ b → (TX4 a).2.1 ≠ (TX4 b).2.1 := by decide +kernel
theorem tyX4_ok : ∀ k, k < 10 → parseFieldDescriptor (TX4 k).2.2.1 = some (tyX4 k) := by decide +kernel
abbrev cX4_init : ByteArray := prog_1_method_1_code
def yX4_init : MethodName := ⟨RX4, "<init>", "()V"⟩
abbrev cX4_write : ByteArray := prog_1_method_2_code
def yX4_write : MethodName := ⟨RX4, "write", "(I)I"⟩
abbrev cX4_wipe : ByteArray := prog_1_method_3_code
def yX4_wipe : MethodName := ⟨RX4, "wipe", "()I"⟩
abbrev cX4_fault : ByteArray := prog_1_method_4_code
def yX4_fault : MethodName := ⟨RX4, "fault", "()I"⟩
abbrev cX4_lay : ByteArray := prog_1_method_5_code
def yX4_lay : MethodName := ⟨RX4, "lay", "()I"⟩
abbrev cX4_going : ByteArray := prog_1_method_6_code
def yX4_going : MethodName := ⟨RX4, "going", "(II)I"⟩
abbrev cX4_lady : ByteArray := prog_1_method_7_code
def yX4_lady : MethodName := ⟨RX4, "lady", "(II)I"⟩
abbrev cX4_pass : ByteArray := prog_1_method_8_code
def yX4_pass : MethodName := ⟨RX4, "pass", "(I)I"⟩
abbrev cX4_pin : ByteArray := prog_1_method_9_code
def yX4_pin : MethodName := ⟨RX4, "pin", "(II)I"⟩
abbrev cX4_lend : ByteArray := prog_1_method_10_code
def yX4_lend : MethodName := ⟨RX4, "lend", "(II)I"⟩
abbrev cX4_undo : ByteArray := prog_1_method_11_code
def yX4_undo : MethodName := ⟨RX4, "undo", "()I"⟩
abbrev cX4_behind : ByteArray := prog_1_method_12_code
def yX4_behind : MethodName := ⟨RX4, "behind", "(II)I"⟩
abbrev cX4_dull : ByteArray := prog_1_method_13_code
def yX4_dull : MethodName := ⟨RX4, "dull", "()I"⟩
abbrev cX4_quiet : ByteArray := prog_1_method_14_code
def yX4_quiet : MethodName := ⟨RX4, "quiet", "()I"⟩
abbrev cX4_stop : ByteArray := prog_1_method_15_code
def yX4_stop : MethodName := ⟨RX4, "stop", "(II)I"⟩
abbrev cX4_best : ByteArray := prog_1_method_16_code
def yX4_best : MethodName := ⟨RX4, "best", "(I)I"⟩
abbrev cX4_both : ByteArray := prog_1_method_17_code
def yX4_both : MethodName := ⟨RX4, "both", "(I)I"⟩
abbrev cX4_never : ByteArray := prog_1_method_18_code
def yX4_never : MethodName := ⟨RX4, "never", "(I)I"⟩
abbrev cX4_note : ByteArray := prog_1_method_19_code
def yX4_note : MethodName := ⟨RX4, "note", "(II)I"⟩
abbrev cX4_forget : ByteArray := prog_1_method_20_code
def yX4_forget : MethodName := ⟨RX4, "forget", "()I"⟩
abbrev cX4_waning : ByteArray := prog_1_method_21_code
def yX4_waning : MethodName := ⟨RX4, "waning", "(I)I"⟩
abbrev cX4_kinds : ByteArray := prog_1_method_22_code
def yX4_kinds : MethodName := ⟨RX4, "kinds", "(I)I"⟩
abbrev cX4_late : ByteArray := prog_1_method_23_code
def yX4_late : MethodName := ⟨RX4, "late", "(IIII)I"⟩
abbrev cX4_season : ByteArray := prog_1_method_24_code
def yX4_season : MethodName := ⟨RX4, "season", "(III)I"⟩
abbrev cX4_keep : ByteArray := prog_1_method_25_code
def yX4_keep : MethodName := ⟨RX4, "keep", "()I"⟩
abbrev cX4_back : ByteArray := prog_1_method_26_code
def yX4_back : MethodName := ⟨RX4, "back", "()I"⟩
abbrev cX4_count : ByteArray := prog_1_method_27_code
def yX4_count : MethodName := ⟨RX4, "count", "(I)I"⟩
abbrev cX4_isGoing : ByteArray := prog_1_method_28_code
def yX4_isGoing : MethodName := ⟨RX4, "isGoing", "(I)Z"⟩
abbrev cX4_isLady : ByteArray := prog_1_method_29_code
def yX4_isLady : MethodName := ⟨RX4, "isLady", "(I)Z"⟩
abbrev cX4_isEither : ByteArray := prog_1_method_30_code
def yX4_isEither : MethodName := ⟨RX4, "isEither", "(I)Z"⟩
abbrev cX4_whichOrHad : ByteArray := prog_1_method_31_code
def yX4_whichOrHad : MethodName := ⟨RX4, "whichOrHad", "(III)I"⟩
abbrev cX4_hadAsItIs : ByteArray := prog_1_method_32_code
def yX4_hadAsItIs : MethodName := ⟨RX4, "hadAsItIs", "()I"⟩
abbrev cX4_hadStopping : ByteArray := prog_1_method_33_code
def yX4_hadStopping : MethodName := ⟨RX4, "hadStopping", "(II)I"⟩
abbrev cX4_hadPinning : ByteArray := prog_1_method_34_code
def yX4_hadPinning : MethodName := ⟨RX4, "hadPinning", "(I)I"⟩
abbrev cX4_hadWithout : ByteArray := prog_1_method_35_code
def yX4_hadWithout : MethodName := ⟨RX4, "hadWithout", "(I)I"⟩
abbrev cX4_hadLate : ByteArray := prog_1_method_36_code
def yX4_hadLate : MethodName := ⟨RX4, "hadLate", "(II)I"⟩
abbrev cX4_chanceOf : ByteArray := prog_1_method_37_code
def yX4_chanceOf : MethodName := ⟨RX4, "chanceOf", "(IIII)I"⟩
abbrev cX4_commonDivisor : ByteArray := prog_1_method_38_code
def yX4_commonDivisor : MethodName := ⟨RX4, "commonDivisor", "(II)I"⟩
abbrev cX4_allNotedSo : ByteArray := prog_1_method_39_code
def yX4_allNotedSo : MethodName := ⟨RX4, "allNotedSo", "(III)Z"⟩
abbrev cX4_draw : ByteArray := prog_1_method_40_code
def yX4_draw : MethodName := ⟨RX4, "draw", "(II)I"⟩
abbrev cX4_actInTrial : ByteArray := prog_1_method_41_code
def yX4_actInTrial : MethodName := ⟨RX4, "actInTrial", "(I)V"⟩
abbrev cX4_worth : ByteArray := prog_1_method_42_code
def yX4_worth : MethodName := ⟨RX4, "worth", "(IIII)I"⟩
def RX5 : String := "HatPinsModel"
def TX5 : u_T := fun k => match k with
  | 0 => ("HatPinsModel", "many", "I", false)
  | 1 => ("HatPinsModel", "sort", "[I", true)
  | 2 => ("HatPinsModel", "begins", "[I", true)
  | 3 => ("HatPinsModel", "joy", "[I", true)
  | 4 => ("HatPinsModel", "wane", "[I", true)
  | 5 => ("HatPinsModel", "goes", "[I", true)
  | 6 => ("HatPinsModel", "follows", "I", false)
  | 7 => ("HatPinsModel", "ahead", "[I", true)
  | 8 => ("HatPinsModel", "after", "[I", true)
  | 9 => ("HatPinsModel", "later", "[I", true)
  | 10 => ("HatPinsModel", "ladies", "I", false)
  | 11 => ("HatPinsModel", "first", "[I", true)
  | 12 => ("HatPinsModel", "reach", "[I", true)
  | 13 => ("HatPinsModel", "newMany", "I", false)
  | 14 => ("HatPinsModel", "newSort", "[I", true)
  | 15 => ("HatPinsModel", "newBegins", "[I", true)
  | 16 => ("HatPinsModel", "newJoy", "[I", true)
  | 17 => ("HatPinsModel", "newWane", "[I", true)
  | 18 => ("HatPinsModel", "newGoes", "[I", true)
  | 19 => ("HatPinsModel", "newFollows", "I", false)
  | 20 => ("HatPinsModel", "newAhead", "[I", true)
  | 21 => ("HatPinsModel", "newAfter", "[I", true)
  | 22 => ("HatPinsModel", "newLater", "[I", true)
  | 23 => ("HatPinsModel", "newLadies", "I", false)
  | 24 => ("HatPinsModel", "newFirst", "[I", true)
  | 25 => ("HatPinsModel", "newReach", "[I", true)
  | 26 => ("HatPinsModel", "slot", "[I", true)
  | 27 => ("HatPinsModel", "acts", "I", false)
  | 28 => ("HatPinsModel", "keeps", "I", false)
  | 29 => ("HatPinsModel", "length", "I", false)
  | 30 => ("HatPinsModel", "text", "[B", true)
  | 31 => ("HatPinsModel", "at", "I", false)
  | 32 => ("HatPinsModel", "begin", "I", false)
  | 33 => ("HatPinsModel", "isWrong", "Z", false)
  | 34 => ("HatPinsModel", "notes", "I", false)
  | 35 => ("HatPinsModel", "notedAt", "[I", true)
  | 36 => ("HatPinsModel", "notedWorth", "[I", true)
  | 37 => ("HatPinsModel", "absent", "I", false)
  | _ => ("HatPinsModel", "wereOn", "I", false)
def tyX5 : Nat → FieldType := fun k => match k with
  | 0 => .int
  | 1 => .array .int
  | 2 => .array .int
  | 3 => .array .int
  | 4 => .array .int
  | 5 => .array .int
  | 6 => .int
  | 7 => .array .int
  | 8 => .array .int
  | 9 => .array .int
  | 10 => .int
  | 11 => .array .int
  | 12 => .array .int
  | 13 => .int
  | 14 => .array .int
  | 15 => .array .int
  | 16 => .array .int
  | 17 => .array .int
  | 18 => .array .int
  | 19 => .int
  | 20 => .array .int
  | 21 => .array .int
  | 22 => .array .int
  | 23 => .int
  | 24 => .array .int
  | 25 => .array .int
  | 26 => .array .int
  | 27 => .int
  | 28 => .int
  | 29 => .int
  | 30 => .array .byte
  | 31 => .int
  | 32 => .int
  | 33 => .boolean
  | 34 => .int
  | 35 => .array .int
  | 36 => .array .int
  | 37 => .int
  | _ => .int
abbrev wsX50 : List Cond := u_ws RX5 TX5 39
theorem nmX5 : ∀ a, a < 39 → ∀ b, b < 39 → a ≠ b → (TX5 a).2.1 ≠ (TX5 b).2.1 := by decide +kernel
theorem tyX5_ok : ∀ k, k < 39 → parseFieldDescriptor (TX5 k).2.2.1 = some (tyX5 k) := by decide +kernel
abbrev cX5_init : ByteArray := prog_7_method_1_code
def yX5_init : MethodName := ⟨RX5, "<init>", "()V"⟩
abbrev cX5_in : ByteArray := prog_7_method_2_code
def yX5_in : MethodName := ⟨RX5, "in", "(JJJ)Z"⟩
abbrev cX5_has : ByteArray := prog_7_method_3_code
def yX5_has : MethodName := ⟨RX5, "has", "(II)Z"⟩
abbrev cX5_smaller : ByteArray := prog_7_method_4_code
def yX5_smaller : MethodName := ⟨RX5, "smaller", "(II)I"⟩
abbrev cX5_larger : ByteArray := prog_7_method_5_code
def yX5_larger : MethodName := ⟨RX5, "larger", "(II)I"⟩
abbrev cX5_clears : ByteArray := prog_7_method_6_code
def yX5_clears : MethodName := ⟨RX5, "clears", "()V"⟩
abbrev cX5_comes : ByteArray := prog_7_method_7_code
def yX5_comes : MethodName := ⟨RX5, "comes", "(IIIII)V"⟩
abbrev cX5_follow : ByteArray := prog_7_method_8_code
def yX5_follow : MethodName := ⟨RX5, "follow", "(III)V"⟩
abbrev cX5_settles : ByteArray := prog_7_method_9_code
def yX5_settles : MethodName := ⟨RX5, "settles", "()V"⟩
abbrev cX5_copies : ByteArray := prog_7_method_10_code
def yX5_copies : MethodName := ⟨RX5, "copies", "(II)V"⟩
abbrev cX5_isGoing : ByteArray := prog_7_method_11_code
def yX5_isGoing : MethodName := ⟨RX5, "isGoing", "(I)Z"⟩
abbrev cX5_isLady : ByteArray := prog_7_method_12_code
def yX5_isLady : MethodName := ⟨RX5, "isLady", "(I)Z"⟩
abbrev cX5_write : ByteArray := prog_7_method_13_code
def yX5_write : MethodName := ⟨RX5, "write", "(I)I"⟩
abbrev cX5_wipe : ByteArray := prog_7_method_14_code
def yX5_wipe : MethodName := ⟨RX5, "wipe", "()I"⟩
abbrev cX5_next : ByteArray := prog_7_method_15_code
def yX5_next : MethodName := ⟨RX5, "next", "()I"⟩
abbrev cX5_number : ByteArray := prog_7_method_16_code
def yX5_number : MethodName := ⟨RX5, "number", "(II)I"⟩
abbrev cX5_more : ByteArray := prog_7_method_17_code
def yX5_more : MethodName := ⟨RX5, "more", "(II)I"⟩
abbrev cX5_goingItem : ByteArray := prog_7_method_18_code
def yX5_goingItem : MethodName := ⟨RX5, "goingItem", "()V"⟩
abbrev cX5_followItem : ByteArray := prog_7_method_19_code
def yX5_followItem : MethodName := ⟨RX5, "followItem", "()V"⟩
abbrev cX5_ladyItem : ByteArray := prog_7_method_20_code
def yX5_ladyItem : MethodName := ⟨RX5, "ladyItem", "()V"⟩
abbrev cX5_item : ByteArray := prog_7_method_21_code
def yX5_item : MethodName := ⟨RX5, "item", "(I)V"⟩
abbrev cX5_reads : ByteArray := prog_7_method_22_code
def yX5_reads : MethodName := ⟨RX5, "reads", "()Z"⟩
abbrev cX5_fault : ByteArray := prog_7_method_23_code
def yX5_fault : MethodName := ⟨RX5, "fault", "()I"⟩
abbrev cX5_lay : ByteArray := prog_7_method_24_code
def yX5_lay : MethodName := ⟨RX5, "lay", "()I"⟩
abbrev cX5_worthOf : ByteArray := prog_7_method_25_code
def yX5_worthOf : MethodName := ⟨RX5, "worthOf", "(IIII)I"⟩
abbrev cX5_worth : ByteArray := prog_7_method_26_code
def yX5_worth : MethodName := ⟨RX5, "worth", "(II)I"⟩
abbrev cX5_ends : ByteArray := prog_7_method_27_code
def yX5_ends : MethodName := ⟨RX5, "ends", "(IIII)V"⟩
abbrev cX5_starts : ByteArray := prog_7_method_28_code
def yX5_starts : MethodName := ⟨RX5, "starts", "(I)I"⟩
abbrev cX5_all : ByteArray := prog_7_method_29_code
def yX5_all : MethodName := ⟨RX5, "all", "(I)I"⟩
abbrev cX5_goesOn : ByteArray := prog_7_method_30_code
def yX5_goesOn : MethodName := ⟨RX5, "goesOn", "(I)I"⟩
abbrev cX5_onNow : ByteArray := prog_7_method_31_code
def yX5_onNow : MethodName := ⟨RX5, "onNow", "(I)I"⟩
abbrev cX5_going : ByteArray := prog_7_method_32_code
def yX5_going : MethodName := ⟨RX5, "going", "(II)I"⟩
abbrev cX5_canPin : ByteArray := prog_7_method_33_code
def yX5_canPin : MethodName := ⟨RX5, "canPin", "(III)Z"⟩
abbrev cX5_lady : ByteArray := prog_7_method_34_code
def yX5_lady : MethodName := ⟨RX5, "lady", "(II)I"⟩
abbrev cX5_known : ByteArray := prog_7_method_35_code
def yX5_known : MethodName := ⟨RX5, "known", "()V"⟩
abbrev cX5_pass : ByteArray := prog_7_method_36_code
def yX5_pass : MethodName := ⟨RX5, "pass", "(I)I"⟩
abbrev cX5_minutes : ByteArray := prog_7_method_37_code
def yX5_minutes : MethodName := ⟨RX5, "minutes", "(II)V"⟩
abbrev cX5_pin : ByteArray := prog_7_method_38_code
def yX5_pin : MethodName := ⟨RX5, "pin", "(II)I"⟩
abbrev cX5_lend : ByteArray := prog_7_method_39_code
def yX5_lend : MethodName := ⟨RX5, "lend", "(II)I"⟩
abbrev cX5_undo : ByteArray := prog_7_method_40_code
def yX5_undo : MethodName := ⟨RX5, "undo", "()I"⟩
abbrev cX5_behind : ByteArray := prog_7_method_41_code
def yX5_behind : MethodName := ⟨RX5, "behind", "(II)I"⟩
abbrev cX5_dull : ByteArray := prog_7_method_42_code
def yX5_dull : MethodName := ⟨RX5, "dull", "()I"⟩
abbrev cX5_quiet : ByteArray := prog_7_method_43_code
def yX5_quiet : MethodName := ⟨RX5, "quiet", "()I"⟩
abbrev cX5_hadThen : ByteArray := prog_7_method_44_code
def yX5_hadThen : MethodName := ⟨RX5, "hadThen", "()I"⟩
abbrev cX5_hadAsItIs : ByteArray := prog_7_method_45_code
def yX5_hadAsItIs : MethodName := ⟨RX5, "hadAsItIs", "()I"⟩
abbrev cX5_hadStopped : ByteArray := prog_7_method_46_code
def yX5_hadStopped : MethodName := ⟨RX5, "hadStopped", "(II)I"⟩
abbrev cX5_stop : ByteArray := prog_7_method_47_code
def yX5_stop : MethodName := ⟨RX5, "stop", "(II)I"⟩
abbrev cX5_best : ByteArray := prog_7_method_48_code
def yX5_best : MethodName := ⟨RX5, "best", "(I)I"⟩
abbrev cX5_both : ByteArray := prog_7_method_49_code
def yX5_both : MethodName := ⟨RX5, "both", "(I)I"⟩
abbrev cX5_never : ByteArray := prog_7_method_50_code
def yX5_never : MethodName := ⟨RX5, "never", "(I)I"⟩
abbrev cX5_note : ByteArray := prog_7_method_51_code
def yX5_note : MethodName := ⟨RX5, "note", "(II)I"⟩
abbrev cX5_forget : ByteArray := prog_7_method_52_code
def yX5_forget : MethodName := ⟨RX5, "forget", "()I"⟩
abbrev cX5_isSo : ByteArray := prog_7_method_53_code
def yX5_isSo : MethodName := ⟨RX5, "isSo", "(III)Z"⟩
abbrev cX5_waning : ByteArray := prog_7_method_54_code
def yX5_waning : MethodName := ⟨RX5, "waning", "(I)I"⟩
abbrev cX5_kinds : ByteArray := prog_7_method_55_code
def yX5_kinds : MethodName := ⟨RX5, "kinds", "(I)I"⟩
abbrev cX5_isSoon : ByteArray := prog_7_method_56_code
def yX5_isSoon : MethodName := ⟨RX5, "isSoon", "(I)Z"⟩
abbrev cX5_late : ByteArray := prog_7_method_57_code
def yX5_late : MethodName := ⟨RX5, "late", "(IIII)I"⟩
abbrev cX5_does : ByteArray := prog_7_method_58_code
def yX5_does : MethodName := ⟨RX5, "does", "(II)V"⟩
abbrev cX5_pins : ByteArray := prog_7_method_59_code
def yX5_pins : MethodName := ⟨RX5, "pins", "(I)I"⟩
abbrev cX5_season : ByteArray := prog_7_method_60_code
def yX5_season : MethodName := ⟨RX5, "season", "(III)I"⟩
abbrev cX5_keep : ByteArray := prog_7_method_61_code
def yX5_keep : MethodName := ⟨RX5, "keep", "()I"⟩
abbrev cX5_back : ByteArray := prog_7_method_62_code
def yX5_back : MethodName := ⟨RX5, "back", "()I"⟩
abbrev cX5_manyOf : ByteArray := prog_7_method_63_code
def yX5_manyOf : MethodName := ⟨RX5, "manyOf", "(I)I"⟩
abbrev cX5_count : ByteArray := prog_7_method_64_code
def yX5_count : MethodName := ⟨RX5, "count", "(I)I"⟩
def RJ9 : String := "java/lang/Math"
def TJ9 : u_T := fun k => match k with
  | _ => ("", "", "", false)
def tyJ9 : Nat → FieldType := fun k => match k with
  | _ => .int
abbrev wsJ90 : List Cond := u_ws RJ9 TJ9 0
theorem nmJ9 : ∀ a, a < 0 → ∀ b, b < 0 → a ≠ b → (TJ9 a).2.1 ≠ (TJ9 b).2.1 := by decide +kernel
theorem tyJ9_ok : ∀ k, k < 0 → parseFieldDescriptor (TJ9 k).2.2.1 = some (tyJ9 k) := by decide +kernel
abbrev cJ9_max_7cf53 : ByteArray := prog_8_method_65_code
def yJ9_max_7cf53 : MethodName := ⟨RJ9, "max", "(II)I"⟩
abbrev cJ9_min_7cf53 : ByteArray := prog_8_method_69_code
def yJ9_min_7cf53 : MethodName := ⟨RJ9, "min", "(II)I"⟩
def RJ0 : String := "java/lang/String"
def TJ0 : u_T := fun k => match k with
  | _ => ("", "", "", false)
def tyJ0 : Nat → FieldType := fun k => match k with
  | _ => .int
abbrev wsJ00 : List Cond := u_ws RJ0 TJ0 0
theorem nmJ0 : ∀ a, a < 0 → ∀ b, b < 0 → a ≠ b → (TJ0 a).2.1 ≠ (TJ0 b).2.1 := by decide +kernel
theorem tyJ0_ok : ∀ k, k < 0 → parseFieldDescriptor (TJ0 k).2.2.1 = some (tyJ0 k) := by decide +kernel
abbrev cJ0_length_8abf5 : ByteArray := prog_9_method_54_code
def yJ0_length_8abf5 : MethodName := ⟨RJ0, "length", "()I"⟩
abbrev cJ0_charAt_5068e : ByteArray := prog_9_method_56_code
def yJ0_charAt_5068e : MethodName := ⟨RJ0, "charAt", "(I)C"⟩
abbrev cJ0_coder_7d493 : ByteArray := prog_9_method_152_code
def yJ0_coder_7d493 : MethodName := ⟨RJ0, "coder", "()B"⟩
abbrev cJ0_isLatin1_aae02 : ByteArray := prog_9_method_154_code
def yJ0_isLatin1_aae02 : MethodName := ⟨RJ0, "isLatin1", "()Z"⟩
abbrev cJ0_checkIndex_df160 : ByteArray := prog_9_method_155_code
def yJ0_checkIndex_df160 : MethodName := ⟨RJ0, "checkIndex", "(II)V"⟩
def RJ1 : String := "java/lang/StringLatin1"
def TJ1 : u_T := fun k => match k with
  | _ => ("", "", "", false)
def tyJ1 : Nat → FieldType := fun k => match k with
  | _ => .int
abbrev wsJ10 : List Cond := u_ws RJ1 TJ1 0
theorem nmJ1 : ∀ a, a < 0 → ∀ b, b < 0 → a ≠ b → (TJ1 a).2.1 ≠ (TJ1 b).2.1 := by decide +kernel
theorem tyJ1_ok : ∀ k, k < 0 → parseFieldDescriptor (TJ1 k).2.2.1 = some (tyJ1 k) := by decide +kernel
abbrev cJ1_charAt_3b067 : ByteArray := prog_10_method_2_code
def yJ1_charAt_3b067 : MethodName := ⟨RJ1, "charAt", "([BI)C"⟩
def RJ2 : String := "java/lang/StringUTF16"
def TJ2 : u_T := fun k => match k with
  | _ => ("", "", "", false)
def tyJ2 : Nat → FieldType := fun k => match k with
  | _ => .int
abbrev wsJ20 : List Cond := u_ws RJ2 TJ2 0
theorem nmJ2 : ∀ a, a < 0 → ∀ b, b < 0 → a ≠ b → (TJ2 a).2.1 ≠ (TJ2 b).2.1 := by decide +kernel
theorem tyJ2_ok : ∀ k, k < 0 → parseFieldDescriptor (TJ2 k).2.2.1 = some (tyJ2 k) := by decide +kernel
abbrev cJ2_getChar_3b067 : ByteArray := prog_11_method_5_code
def yJ2_getChar_3b067 : MethodName := ⟨RJ2, "getChar", "([BI)C"⟩
abbrev cJ2_length_9d52b : ByteArray := prog_11_method_6_code
def yJ2_length_9d52b : MethodName := ⟨RJ2, "length", "([B)I"⟩
abbrev cJ2_charAt_3b067 : ByteArray := prog_11_method_83_code
def yJ2_charAt_3b067 : MethodName := ⟨RJ2, "charAt", "([BI)C"⟩
abbrev cJ2_checkIndex_2214a : ByteArray := prog_11_method_91_code
def yJ2_checkIndex_2214a : MethodName := ⟨RJ2, "checkIndex", "(I[B)V"⟩
def RJ10 : String := "java/lang/System"
def TJ10 : u_T := fun k => match k with
  | _ => ("", "", "", false)
def tyJ10 : Nat → FieldType := fun k => match k with
  | _ => .int
abbrev wsJ100 : List Cond := u_ws RJ10 TJ10 0
theorem nmJ10 : ∀ a, a < 0 → ∀ b, b < 0 → a ≠ b → (TJ10 a).2.1 ≠ (TJ10 b).2.1 := by decide +kernel
theorem tyJ10_ok : ∀ k, k < 0 → parseFieldDescriptor (TJ10 k).2.2.1 = some (tyJ10 k) := by decide +kernel
def RJ3 : String := "jdk/internal/util/Preconditions"
def TJ3 : u_T := fun k => match k with
  | _ => ("", "", "", false)
def tyJ3 : Nat → FieldType := fun k => match k with
  | _ => .int
abbrev wsJ30 : List Cond := u_ws RJ3 TJ3 0
theorem nmJ3 : ∀ a, a < 0 → ∀ b, b < 0 → a ≠ b → (TJ3 a).2.1 ≠ (TJ3 b).2.1 := by decide +kernel
theorem tyJ3_ok : ∀ k, k < 0 → parseFieldDescriptor (TJ3 k).2.2.1 = some (tyJ3 k) := by decide +kernel
abbrev cJ3_checkIndex_8e157 : ByteArray := prog_13_method_11_code
def yJ3_checkIndex_8e157 : MethodName := ⟨RJ3, "checkIndex", "(IILjava/util/function/BiFunction;)I"⟩
def RL : String := "HatPinsLaw"
abbrev cL_law : ByteArray := code
def yL_law : MethodName := ⟨RL, "law", "([I)Z"⟩
def wsX0_init : List Cond := .code yX0_init cX0_init 1 none :: ([.methodLink RX0 3 objectInit, .instanceMethod objectInit, .code objectInit ⟨#[0xb1]⟩ 1 none, .arrayClass .int, .fieldLink RX0 9 "HatPins$Evening" "kind" "[I", .fieldLink RX0 15 "HatPins$Evening" "begins" "[I", .fieldLink RX0 18 "HatPins$Evening" "interest" "[I", .fieldLink RX0 21 "HatPins$Evening" "wane" "[I", .fieldLink RX0 24 "HatPins$Evening" "minutes" "[I", .fieldLink RX0 27 "HatPins$Evening" "leader" "[I", .fieldLink RX0 30 "HatPins$Evening" "follower" "[I", .fieldLink RX0 33 "HatPins$Evening" "gap" "[I", .fieldLink RX0 36 "HatPins$Evening" "pins" "[I", .fieldLink RX0 39 "HatPins$Evening" "reach" "[I"] ++ wsX00)
def wsX0_clear : List Cond := .code yX0_clear cX0_clear 1 none :: ([.fieldLink RX0 42 "HatPins$Evening" "goings" "I", .fieldLink RX0 46 "HatPins$Evening" "followings" "I", .fieldLink RX0 49 "HatPins$Evening" "ladies" "I"] ++ wsX00)
def wsX0_addGoing : List Cond := .code yX0_addGoing cX0_addGoing 3 (some .boolean) :: ([.fieldLink RX0 42 "HatPins$Evening" "goings" "I", .fieldLink RX0 9 "HatPins$Evening" "kind" "[I", .fieldLink RX0 15 "HatPins$Evening" "begins" "[I", .fieldLink RX0 18 "HatPins$Evening" "interest" "[I", .fieldLink RX0 21 "HatPins$Evening" "wane" "[I", .fieldLink RX0 24 "HatPins$Evening" "minutes" "[I"] ++ wsX00)
def wsX0_addFollowing : List Cond := .code yX0_addFollowing cX0_addFollowing 2 (some .boolean) :: ([.fieldLink RX0 46 "HatPins$Evening" "followings" "I", .fieldLink RX0 42 "HatPins$Evening" "goings" "I", .fieldLink RX0 27 "HatPins$Evening" "leader" "[I", .fieldLink RX0 30 "HatPins$Evening" "follower" "[I", .fieldLink RX0 33 "HatPins$Evening" "gap" "[I"] ++ wsX00)
def wsX0_addLady : List Cond := .code yX0_addLady cX0_addLady 5 (some .boolean) :: ([.fieldLink RX0 49 "HatPins$Evening" "ladies" "I", .fieldLink RX0 36 "HatPins$Evening" "pins" "[I", .fieldLink RX0 39 "HatPins$Evening" "reach" "[I"] ++ wsX00)
def wsX0_add_r1 : List Cond := [Cond.methodLink RX0 52 yX0_addGoing, Cond.instanceMethod yX0_addGoing, Cond.selects RX0 yX0_addGoing yX0_addGoing, Cond.initialized RX0, Cond.code yX0_addGoing cX0_addGoing 3 (some .boolean), Cond.fieldLink RX0 42 "HatPins$Evening" "goings" "I", Cond.fieldLink RX0 9 "HatPins$Evening" "kind" "[I", Cond.fieldLink RX0 15 "HatPins$Evening" "begins" "[I", Cond.fieldLink RX0 18 "HatPins$Evening" "interest" "[I", Cond.fieldLink RX0 21 "HatPins$Evening" "wane" "[I", Cond.fieldLink RX0 24 "HatPins$Evening" "minutes" "[I", Cond.methodLink RX0 56 yX0_addFollowing, Cond.instanceMethod yX0_addFollowing, Cond.selects RX0 yX0_addFollowing yX0_addFollowing, Cond.code yX0_addFollowing cX0_addFollowing 2 (some .boolean), Cond.fieldLink RX0 46 "HatPins$Evening" "followings" "I", Cond.fieldLink RX0 27 "HatPins$Evening" "leader" "[I", Cond.fieldLink RX0 30 "HatPins$Evening" "follower" "[I", Cond.fieldLink RX0 33 "HatPins$Evening" "gap" "[I", Cond.methodLink RX0 59 yX0_addLady, Cond.instanceMethod yX0_addLady, Cond.selects RX0 yX0_addLady yX0_addLady, Cond.code yX0_addLady cX0_addLady 5 (some .boolean), Cond.fieldLink RX0 49 "HatPins$Evening" "ladies" "I"]
def wsX0_add_r2 : List Cond := [Cond.fieldLink RX0 36 "HatPins$Evening" "pins" "[I", Cond.fieldLink RX0 39 "HatPins$Evening" "reach" "[I"]
def wsX0_add : List Cond := .code yX0_add cX0_add 4 (some .boolean) :: ((wsX0_add_r1 ++ wsX0_add_r2) ++ wsX00)
def wsX2_init : List Cond := .code yX2_init cX2_init 1 none :: ([.methodLink RX2 3 objectInit, .instanceMethod objectInit, .code objectInit ⟨#[0xb1]⟩ 1 none, .arrayClass .int, .fieldLink RX2 9 "HatPins$Standing" "state" "[I", .fieldLink RX2 15 "HatPins$Standing" "due" "[I", .fieldLink RX2 18 "HatPins$Standing" "began" "[I", .fieldLink RX2 21 "HatPins$Standing" "pins" "[I"] ++ wsX20)
def wsX1_init : List Cond := .code yX1_init cX1_init 3 none :: ([.methodLink RX1 1 objectInit, .instanceMethod objectInit, .code objectInit ⟨#[0xb1]⟩ 1 none, .methodLink RX1 7 Lib.Math.max.name, .static Lib.Math.max.name, .initialized "java/lang/Math", .code Lib.Math.max.name Lib.Math.max.code 2 (some .int), .classLink RX1 13 RX2, .fieldLink RX1 15 "HatPins$Shelf" "rows" "[LHatPins$Standing;", .instantiable RX2 6, .initialized RX2, .instanceMethod yX2_init, .code yX2_init cX2_init 1 none, .methodLink RX2 3 objectInit, .arrayClass .int, .fieldLink RX2 9 "HatPins$Standing" "state" "[I", .fieldLink RX2 15 "HatPins$Standing" "due" "[I", .fieldLink RX2 18 "HatPins$Standing" "began" "[I", .fieldLink RX2 21 "HatPins$Standing" "pins" "[I"] ++ wsX10 ++ wsX20)
def wsX1_dropOldest : List Cond := .code yX1_dropOldest cX1_dropOldest 3 none :: ([.fieldLink RX1 15 "HatPins$Shelf" "rows" "[LHatPins$Standing;", .fieldLink RX1 22 "HatPins$Shelf" "held" "I"] ++ wsX10)
def wsX2_copyOf : List Cond := .code yX2_copyOf cX2_copyOf 2 none :: ([.fieldLink RX2 24 "HatPins$Standing" "minute" "I", .fieldLink RX2 28 "HatPins$Standing" "had" "I", .fieldLink RX2 9 "HatPins$Standing" "state" "[I", .methodLink RX2 38 arraycopyName, .native arraycopyName, .static arraycopyName, .initialized "java/lang/System", .fieldLink RX2 15 "HatPins$Standing" "due" "[I", .fieldLink RX2 18 "HatPins$Standing" "began" "[I", .fieldLink RX2 21 "HatPins$Standing" "pins" "[I"] ++ wsX20)
def wsX1_put : List Cond := .code yX1_put cX1_put 2 none :: ([.fieldLink RX1 22 "HatPins$Shelf" "held" "I", .fieldLink RX1 15 "HatPins$Shelf" "rows" "[LHatPins$Standing;", .methodLink RX1 26 yX1_dropOldest, .instanceMethod yX1_dropOldest, .selects RX1 yX1_dropOldest yX1_dropOldest, .initialized RX1, .code yX1_dropOldest cX1_dropOldest 3 none, .methodLink RX1 29 yX2_copyOf, .instanceMethod yX2_copyOf, .selects RX2 yX2_copyOf yX2_copyOf, .initialized RX2, .code yX2_copyOf cX2_copyOf 2 none, .fieldLink RX2 24 "HatPins$Standing" "minute" "I", .fieldLink RX2 28 "HatPins$Standing" "had" "I", .fieldLink RX2 9 "HatPins$Standing" "state" "[I", .methodLink RX2 38 arraycopyName, .native arraycopyName, .static arraycopyName, .initialized "java/lang/System", .fieldLink RX2 15 "HatPins$Standing" "due" "[I", .fieldLink RX2 18 "HatPins$Standing" "began" "[I", .fieldLink RX2 21 "HatPins$Standing" "pins" "[I"] ++ wsX10 ++ wsX20)
def wsX1_takeInto : List Cond := .code yX1_takeInto cX1_takeInto 2 (some .boolean) :: ([.fieldLink RX1 22 "HatPins$Shelf" "held" "I", .fieldLink RX1 15 "HatPins$Shelf" "rows" "[LHatPins$Standing;", .methodLink RX1 29 yX2_copyOf, .instanceMethod yX2_copyOf, .selects RX2 yX2_copyOf yX2_copyOf, .initialized RX2, .code yX2_copyOf cX2_copyOf 2 none, .fieldLink RX2 24 "HatPins$Standing" "minute" "I", .fieldLink RX2 28 "HatPins$Standing" "had" "I", .fieldLink RX2 9 "HatPins$Standing" "state" "[I", .methodLink RX2 38 arraycopyName, .native arraycopyName, .static arraycopyName, .initialized "java/lang/System", .fieldLink RX2 15 "HatPins$Standing" "due" "[I", .fieldLink RX2 18 "HatPins$Standing" "began" "[I", .fieldLink RX2 21 "HatPins$Standing" "pins" "[I"] ++ wsX10 ++ wsX20)
def wsX2_start : List Cond := .code yX2_start cX2_start 3 none :: ([.fieldLink RX2 24 "HatPins$Standing" "minute" "I", .fieldLink RX2 28 "HatPins$Standing" "had" "I", .fieldLink RX2 9 "HatPins$Standing" "state" "[I", .fieldLink RX2 15 "HatPins$Standing" "due" "[I", .fieldLink RX2 31 "HatPins$Evening" "begins" "[I", .constant RX2 36 (1000000), .fieldLink RX2 18 "HatPins$Standing" "began" "[I", .fieldLink RX2 37 "HatPins$Evening" "pins" "[I", .fieldLink RX2 21 "HatPins$Standing" "pins" "[I", .methodLink RX2 38 arraycopyName, .native arraycopyName, .static arraycopyName, .initialized "java/lang/System"] ++ wsX20 ++ wsX00)
def wsX2_beginDue : List Cond := .code yX2_beginDue cX2_beginDue 3 none :: ([.fieldLink RX2 55 "HatPins$Evening" "goings" "I", .fieldLink RX2 9 "HatPins$Standing" "state" "[I", .fieldLink RX2 15 "HatPins$Standing" "due" "[I", .fieldLink RX2 24 "HatPins$Standing" "minute" "I", .fieldLink RX2 18 "HatPins$Standing" "began" "[I"] ++ wsX00 ++ wsX20)
def wsX4_worth : List Cond := .code yX4_worth cX4_worth 5 (some .int) :: ([.methodLink RX4 246 Lib.Math.min.name, .static Lib.Math.min.name, .initialized "java/lang/Math", .code Lib.Math.min.name Lib.Math.min.code 2 (some .int), .methodLink RX4 177 Lib.Math.max.name, .static Lib.Math.max.name, .code Lib.Math.max.name Lib.Math.max.code 2 (some .int)])
def wsX2_worthOf : List Cond := .code yX2_worthOf cX2_worthOf 3 (some .int) :: ([.fieldLink RX2 62 "HatPins$Evening" "kind" "[I", .fieldLink RX2 65 "HatPins$Evening" "interest" "[I", .fieldLink RX2 68 "HatPins$Evening" "wane" "[I", .fieldLink RX2 24 "HatPins$Standing" "minute" "I", .fieldLink RX2 18 "HatPins$Standing" "began" "[I", .static yX4_worth, .initialized RX4, .code yX4_worth cX4_worth 5 (some .int), .methodLink RX4 246 Lib.Math.min.name, .static Lib.Math.min.name, .initialized "java/lang/Math", .code Lib.Math.min.name Lib.Math.min.code 2 (some .int), .methodLink RX4 177 Lib.Math.max.name, .static Lib.Math.max.name, .code Lib.Math.max.name Lib.Math.max.code 2 (some .int)] ++ wsX00 ++ wsX20)
def wsX2_worthOfAll : List Cond := .code yX2_worthOfAll cX2_worthOfAll 4 (some .int) :: ([.fieldLink RX2 55 "HatPins$Evening" "goings" "I", .fieldLink RX2 9 "HatPins$Standing" "state" "[I", .methodLink RX2 58 yX2_worthOf, .instanceMethod yX2_worthOf, .selects RX2 yX2_worthOf yX2_worthOf, .initialized RX2, .code yX2_worthOf cX2_worthOf 3 (some .int), .fieldLink RX2 62 "HatPins$Evening" "kind" "[I", .fieldLink RX2 65 "HatPins$Evening" "interest" "[I", .fieldLink RX2 68 "HatPins$Evening" "wane" "[I", .fieldLink RX2 24 "HatPins$Standing" "minute" "I", .fieldLink RX2 18 "HatPins$Standing" "began" "[I", .static yX4_worth, .initialized RX4, .code yX4_worth cX4_worth 5 (some .int), .methodLink RX4 246 Lib.Math.min.name, .static Lib.Math.min.name, .initialized "java/lang/Math", .code Lib.Math.min.name Lib.Math.min.code 2 (some .int), .methodLink RX4 177 Lib.Math.max.name, .static Lib.Math.max.name, .code Lib.Math.max.name Lib.Math.max.code 2 (some .int)] ++ wsX00 ++ wsX20)
def wsX2_finish : List Cond := .code yX2_finish cX2_finish 6 none :: ([.fieldLink RX2 9 "HatPins$Standing" "state" "[I", .fieldLink RX2 82 "HatPins$Evening" "followings" "I", .fieldLink RX2 85 "HatPins$Evening" "follower" "[I", .fieldLink RX2 88 "HatPins$Evening" "leader" "[I", .fieldLink RX2 15 "HatPins$Standing" "due" "[I", .fieldLink RX2 24 "HatPins$Standing" "minute" "I", .fieldLink RX2 91 "HatPins$Evening" "gap" "[I", .methodLink RX2 94 Lib.Math.min.name, .static Lib.Math.min.name, .initialized "java/lang/Math", .code Lib.Math.min.name Lib.Math.min.code 2 (some .int)] ++ wsX20 ++ wsX00)
def wsX2_endMinute : List Cond := .code yX2_endMinute cX2_endMinute 3 none :: ([.fieldLink RX2 24 "HatPins$Standing" "minute" "I", .fieldLink RX2 55 "HatPins$Evening" "goings" "I", .fieldLink RX2 9 "HatPins$Standing" "state" "[I", .fieldLink RX2 18 "HatPins$Standing" "began" "[I", .fieldLink RX2 75 "HatPins$Evening" "minutes" "[I", .methodLink RX2 78 yX2_finish, .instanceMethod yX2_finish, .selects RX2 yX2_finish yX2_finish, .initialized RX2, .code yX2_finish cX2_finish 6 none, .fieldLink RX2 82 "HatPins$Evening" "followings" "I", .fieldLink RX2 85 "HatPins$Evening" "follower" "[I", .fieldLink RX2 88 "HatPins$Evening" "leader" "[I", .fieldLink RX2 15 "HatPins$Standing" "due" "[I", .fieldLink RX2 91 "HatPins$Evening" "gap" "[I", .methodLink RX2 94 Lib.Math.min.name, .static Lib.Math.min.name, .initialized "java/lang/Math", .code Lib.Math.min.name Lib.Math.min.code 2 (some .int)] ++ wsX20 ++ wsX00)
def wsX2_goBy_r1 : List Cond := [Cond.fieldLink RX2 28 "HatPins$Standing" "had" "I", Cond.methodLink RX2 44 yX2_beginDue, Cond.instanceMethod yX2_beginDue, Cond.selects RX2 yX2_beginDue yX2_beginDue, Cond.initialized RX2, Cond.code yX2_beginDue cX2_beginDue 3 none, Cond.fieldLink RX2 55 "HatPins$Evening" "goings" "I", Cond.fieldLink RX2 9 "HatPins$Standing" "state" "[I", Cond.fieldLink RX2 15 "HatPins$Standing" "due" "[I", Cond.fieldLink RX2 24 "HatPins$Standing" "minute" "I", Cond.fieldLink RX2 18 "HatPins$Standing" "began" "[I", Cond.methodLink RX2 48 yX2_worthOfAll, Cond.instanceMethod yX2_worthOfAll, Cond.selects RX2 yX2_worthOfAll yX2_worthOfAll, Cond.code yX2_worthOfAll cX2_worthOfAll 4 (some .int), Cond.methodLink RX2 58 yX2_worthOf, Cond.instanceMethod yX2_worthOf, Cond.selects RX2 yX2_worthOf yX2_worthOf, Cond.code yX2_worthOf cX2_worthOf 3 (some .int), Cond.fieldLink RX2 62 "HatPins$Evening" "kind" "[I", Cond.fieldLink RX2 65 "HatPins$Evening" "interest" "[I", Cond.fieldLink RX2 68 "HatPins$Evening" "wane" "[I", Cond.static yX4_worth, Cond.initialized RX4]
def wsX2_goBy_r2 : List Cond := [Cond.code yX4_worth cX4_worth 5 (some .int), Cond.methodLink RX4 246 Lib.Math.min.name, Cond.static Lib.Math.min.name, Cond.initialized "java/lang/Math", Cond.code Lib.Math.min.name Lib.Math.min.code 2 (some .int), Cond.methodLink RX4 177 Lib.Math.max.name, Cond.static Lib.Math.max.name, Cond.code Lib.Math.max.name Lib.Math.max.code 2 (some .int), Cond.methodLink RX2 52 yX2_endMinute, Cond.instanceMethod yX2_endMinute, Cond.selects RX2 yX2_endMinute yX2_endMinute, Cond.code yX2_endMinute cX2_endMinute 3 none, Cond.fieldLink RX2 75 "HatPins$Evening" "minutes" "[I", Cond.methodLink RX2 78 yX2_finish, Cond.instanceMethod yX2_finish, Cond.selects RX2 yX2_finish yX2_finish, Cond.code yX2_finish cX2_finish 6 none, Cond.fieldLink RX2 82 "HatPins$Evening" "followings" "I", Cond.fieldLink RX2 85 "HatPins$Evening" "follower" "[I", Cond.fieldLink RX2 88 "HatPins$Evening" "leader" "[I", Cond.fieldLink RX2 91 "HatPins$Evening" "gap" "[I", Cond.methodLink RX2 94 Lib.Math.min.name]
def wsX2_goBy : List Cond := .code yX2_goBy cX2_goBy 4 none :: ((wsX2_goBy_r1 ++ wsX2_goBy_r2) ++ wsX20 ++ wsX00)
def wsX2_canPin : List Cond := .code yX2_canPin cX2_canPin 5 (some .boolean) :: ([.fieldLink RX2 100 "HatPins$Evening" "reach" "[I", .fieldLink RX2 62 "HatPins$Evening" "kind" "[I", .fieldLink RX2 21 "HatPins$Standing" "pins" "[I", .fieldLink RX2 9 "HatPins$Standing" "state" "[I"] ++ wsX00 ++ wsX20)
def wsX2_pinBy : List Cond := .code yX2_pinBy cX2_pinBy 4 none :: ([.fieldLink RX2 21 "HatPins$Standing" "pins" "[I", .methodLink RX2 78 yX2_finish, .instanceMethod yX2_finish, .selects RX2 yX2_finish yX2_finish, .initialized RX2, .code yX2_finish cX2_finish 6 none, .fieldLink RX2 9 "HatPins$Standing" "state" "[I", .fieldLink RX2 82 "HatPins$Evening" "followings" "I", .fieldLink RX2 85 "HatPins$Evening" "follower" "[I", .fieldLink RX2 88 "HatPins$Evening" "leader" "[I", .fieldLink RX2 15 "HatPins$Standing" "due" "[I", .fieldLink RX2 24 "HatPins$Standing" "minute" "I", .fieldLink RX2 91 "HatPins$Evening" "gap" "[I", .methodLink RX2 94 Lib.Math.min.name, .static Lib.Math.min.name, .initialized "java/lang/Math", .code Lib.Math.min.name Lib.Math.min.code 2 (some .int)] ++ wsX20 ++ wsX00)
def wsX2_lendPin : List Cond := .code yX2_lendPin cX2_lendPin 3 none :: ([.fieldLink RX2 21 "HatPins$Standing" "pins" "[I"] ++ wsX20)
def wsX2_pinnableBy : List Cond := .code yX2_pinnableBy cX2_pinnableBy 5 (some .int) :: ([.fieldLink RX2 55 "HatPins$Evening" "goings" "I", .methodLink RX2 103 yX2_canPin, .instanceMethod yX2_canPin, .selects RX2 yX2_canPin yX2_canPin, .initialized RX2, .code yX2_canPin cX2_canPin 5 (some .boolean), .fieldLink RX2 100 "HatPins$Evening" "reach" "[I", .fieldLink RX2 62 "HatPins$Evening" "kind" "[I", .fieldLink RX2 21 "HatPins$Standing" "pins" "[I", .fieldLink RX2 9 "HatPins$Standing" "state" "[I"] ++ wsX00 ++ wsX20)
def wsX2_onBits : List Cond := .code yX2_onBits cX2_onBits 4 (some .int) :: ([.fieldLink RX2 55 "HatPins$Evening" "goings" "I", .fieldLink RX2 9 "HatPins$Standing" "state" "[I"] ++ wsX00 ++ wsX20)
def wsX2_soonBits : List Cond := .code yX2_soonBits cX2_soonBits 4 (some .int) :: ([.fieldLink RX2 55 "HatPins$Evening" "goings" "I", .fieldLink RX2 9 "HatPins$Standing" "state" "[I", .fieldLink RX2 15 "HatPins$Standing" "due" "[I", .fieldLink RX2 24 "HatPins$Standing" "minute" "I"] ++ wsX00 ++ wsX20)
def wsX2_whenOf : List Cond := .code yX2_whenOf cX2_whenOf 2 (some .int) :: ([.fieldLink RX2 9 "HatPins$Standing" "state" "[I", .fieldLink RX2 18 "HatPins$Standing" "began" "[I", .fieldLink RX2 15 "HatPins$Standing" "due" "[I", .constant RX2 36 (1000000)] ++ wsX20)
def wsX2_howMany : List Cond := .code yX2_howMany cX2_howMany 5 (some .int) :: ([.fieldLink RX2 55 "HatPins$Evening" "goings" "I", .fieldLink RX2 9 "HatPins$Standing" "state" "[I"] ++ wsX00 ++ wsX20)
def wsX2_pinsOfAll : List Cond := .code yX2_pinsOfAll cX2_pinsOfAll 4 (some .int) :: ([.fieldLink RX2 107 "HatPins$Evening" "ladies" "I", .fieldLink RX2 21 "HatPins$Standing" "pins" "[I"] ++ wsX00 ++ wsX20)
def wsX3_init : List Cond := .code yX3_init cX3_init 1 none :: ([.methodLink RX3 3 objectInit, .instanceMethod objectInit, .code objectInit ⟨#[0xb1]⟩ 1 none, .arrayClass .int, .fieldLink RX3 9 "HatPins$Text" "letters" "[I", .fieldLink RX3 15 "HatPins$Text" "numbers" "[I"] ++ wsX30)
def wsX3_append : List Cond := .code yX3_append cX3_append 2 (some .boolean) :: ([.fieldLink RX3 18 "HatPins$Text" "length" "I", .fieldLink RX3 9 "HatPins$Text" "letters" "[I"] ++ wsX30)
def wsX3_letterAt : List Cond := .code yX3_letterAt cX3_letterAt 2 (some .int) :: ([.fieldLink RX3 18 "HatPins$Text" "length" "I", .fieldLink RX3 9 "HatPins$Text" "letters" "[I"] ++ wsX30)
def wsX3_isFigure : List Cond := .code yX3_isFigure cX3_isFigure 3 (some .boolean) :: ([.methodLink RX3 31 yX3_letterAt, .instanceMethod yX3_letterAt, .selects RX3 yX3_letterAt yX3_letterAt, .initialized RX3, .code yX3_letterAt cX3_letterAt 2 (some .int), .fieldLink RX3 18 "HatPins$Text" "length" "I", .fieldLink RX3 9 "HatPins$Text" "letters" "[I"] ++ wsX30)
def wsX3_readNumbers : List Cond := .code yX3_readNumbers cX3_readNumbers 6 (some .int) :: ([.fieldLink RX3 15 "HatPins$Text" "numbers" "[I", .fieldLink RX3 34 "HatPins$Text" "found" "I", .methodLink RX3 41 yX3_isFigure, .instanceMethod yX3_isFigure, .selects RX3 yX3_isFigure yX3_isFigure, .initialized RX3, .code yX3_isFigure cX3_isFigure 3 (some .boolean), .methodLink RX3 31 yX3_letterAt, .instanceMethod yX3_letterAt, .selects RX3 yX3_letterAt yX3_letterAt, .code yX3_letterAt cX3_letterAt 2 (some .int), .fieldLink RX3 18 "HatPins$Text" "length" "I", .fieldLink RX3 9 "HatPins$Text" "letters" "[I"] ++ wsX30)
def wsX3_readInto_r1 : List Cond := [Cond.fieldLink RX3 18 "HatPins$Text" "length" "I", Cond.fieldLink RX3 15 "HatPins$Text" "numbers" "[I", Cond.fieldLink RX3 34 "HatPins$Text" "found" "I", Cond.methodLink RX3 22 yX0_clear, Cond.instanceMethod yX0_clear, Cond.selects RX0 yX0_clear yX0_clear, Cond.initialized RX0, Cond.code yX0_clear cX0_clear 1 none, Cond.fieldLink RX0 42 "HatPins$Evening" "goings" "I", Cond.fieldLink RX0 46 "HatPins$Evening" "followings" "I", Cond.fieldLink RX0 49 "HatPins$Evening" "ladies" "I", Cond.methodLink RX3 27 yX3_readNumbers, Cond.instanceMethod yX3_readNumbers, Cond.selects RX3 yX3_readNumbers yX3_readNumbers, Cond.initialized RX3, Cond.code yX3_readNumbers cX3_readNumbers 6 (some .int), Cond.methodLink RX3 41 yX3_isFigure, Cond.instanceMethod yX3_isFigure, Cond.selects RX3 yX3_isFigure yX3_isFigure, Cond.code yX3_isFigure cX3_isFigure 3 (some .boolean), Cond.methodLink RX3 31 yX3_letterAt, Cond.instanceMethod yX3_letterAt, Cond.selects RX3 yX3_letterAt yX3_letterAt, Cond.code yX3_letterAt cX3_letterAt 2 (some .int)]
def wsX3_readInto_r2 : List Cond := [Cond.fieldLink RX3 9 "HatPins$Text" "letters" "[I", Cond.methodLink RX3 37 yX0_add, Cond.instanceMethod yX0_add, Cond.selects RX0 yX0_add yX0_add, Cond.code yX0_add cX0_add 4 (some .boolean), Cond.methodLink RX0 52 yX0_addGoing, Cond.instanceMethod yX0_addGoing, Cond.selects RX0 yX0_addGoing yX0_addGoing, Cond.code yX0_addGoing cX0_addGoing 3 (some .boolean), Cond.fieldLink RX0 9 "HatPins$Evening" "kind" "[I", Cond.fieldLink RX0 15 "HatPins$Evening" "begins" "[I", Cond.fieldLink RX0 18 "HatPins$Evening" "interest" "[I", Cond.fieldLink RX0 21 "HatPins$Evening" "wane" "[I", Cond.fieldLink RX0 24 "HatPins$Evening" "minutes" "[I", Cond.methodLink RX0 56 yX0_addFollowing, Cond.instanceMethod yX0_addFollowing, Cond.selects RX0 yX0_addFollowing yX0_addFollowing, Cond.code yX0_addFollowing cX0_addFollowing 2 (some .boolean), Cond.fieldLink RX0 27 "HatPins$Evening" "leader" "[I", Cond.fieldLink RX0 30 "HatPins$Evening" "follower" "[I", Cond.fieldLink RX0 33 "HatPins$Evening" "gap" "[I", Cond.methodLink RX0 59 yX0_addLady, Cond.instanceMethod yX0_addLady, Cond.selects RX0 yX0_addLady yX0_addLady]
def wsX3_readInto_r3 : List Cond := [Cond.code yX0_addLady cX0_addLady 5 (some .boolean), Cond.fieldLink RX0 36 "HatPins$Evening" "pins" "[I", Cond.fieldLink RX0 39 "HatPins$Evening" "reach" "[I"]
def wsX3_readInto : List Cond := .code yX3_readInto cX3_readInto 5 (some .int) :: ((wsX3_readInto_r1 ++ (wsX3_readInto_r2 ++ wsX3_readInto_r3)) ++ wsX30 ++ wsX00)
def wsJ0_coder_7d493 : List Cond := .code yJ0_coder_7d493 cJ0_coder_7d493 1 (some .byte) :: ([.fieldLink RJ0 38 "java/lang/String" "COMPACT_STRINGS" "Z", .fieldLink RJ0 15 "java/lang/String" "coder" "B"])
def wsJ0_length_8abf5 : List Cond := .code yJ0_length_8abf5 cJ0_length_8abf5 1 (some .int) :: ([.fieldLink RJ0 9 "java/lang/String" "value" "[B", .methodLink RJ0 335 yJ0_coder_7d493, .instanceMethod yJ0_coder_7d493, .selects RJ0 yJ0_coder_7d493 yJ0_coder_7d493, .initialized RJ0, .code yJ0_coder_7d493 cJ0_coder_7d493 1 (some .byte), .fieldLink RJ0 38 "java/lang/String" "COMPACT_STRINGS" "Z", .fieldLink RJ0 15 "java/lang/String" "coder" "B"])
def wsJ0_isLatin1_aae02 : List Cond := .code yJ0_isLatin1_aae02 cJ0_isLatin1_aae02 1 (some .boolean) :: ([.fieldLink RJ0 38 "java/lang/String" "COMPACT_STRINGS" "Z", .fieldLink RJ0 15 "java/lang/String" "coder" "B"])
def wsJ3_checkIndex_8e157 : List Cond := .code yJ3_checkIndex_8e157 cJ3_checkIndex_8e157 3 (some .int) :: ([])
def wsJ0_checkIndex_df160 : List Cond := .code yJ0_checkIndex_df160 cJ0_checkIndex_df160 2 none :: ([.fieldLink RJ0 1053 "jdk/internal/util/Preconditions" "SIOOBE_FORMATTER" "Ljava/util/function/BiFunction;", .methodLink RJ0 1059 yJ3_checkIndex_8e157, .static yJ3_checkIndex_8e157, .initialized RJ3, .code yJ3_checkIndex_8e157 cJ3_checkIndex_8e157 3 (some .int)])
def wsJ1_charAt_3b067 : List Cond := .code yJ1_charAt_3b067 cJ1_charAt_3b067 2 (some .char) :: ([.methodLink RJ1 9 yJ0_checkIndex_df160, .static yJ0_checkIndex_df160, .initialized RJ0, .code yJ0_checkIndex_df160 cJ0_checkIndex_df160 2 none, .fieldLink RJ0 1053 "jdk/internal/util/Preconditions" "SIOOBE_FORMATTER" "Ljava/util/function/BiFunction;", .methodLink RJ0 1059 yJ3_checkIndex_8e157, .static yJ3_checkIndex_8e157, .initialized RJ3, .code yJ3_checkIndex_8e157 cJ3_checkIndex_8e157 3 (some .int)])
def wsJ2_length_9d52b : List Cond := .code yJ2_length_9d52b cJ2_length_9d52b 1 (some .int) :: ([])
def wsJ2_checkIndex_2214a : List Cond := .code yJ2_checkIndex_2214a cJ2_checkIndex_2214a 2 none :: ([.methodLink RJ2 48 yJ2_length_9d52b, .static yJ2_length_9d52b, .initialized RJ2, .code yJ2_length_9d52b cJ2_length_9d52b 1 (some .int), .methodLink RJ2 414 yJ0_checkIndex_df160, .static yJ0_checkIndex_df160, .initialized RJ0, .code yJ0_checkIndex_df160 cJ0_checkIndex_df160 2 none, .fieldLink RJ0 1053 "jdk/internal/util/Preconditions" "SIOOBE_FORMATTER" "Ljava/util/function/BiFunction;", .methodLink RJ0 1059 yJ3_checkIndex_8e157, .static yJ3_checkIndex_8e157, .initialized RJ3, .code yJ3_checkIndex_8e157 cJ3_checkIndex_8e157 3 (some .int)])
def wsJ2_getChar_3b067 : List Cond := .code yJ2_getChar_3b067 cJ2_getChar_3b067 2 (some .char) :: ([.fieldLink RJ2 44 "java/lang/StringUTF16" "$assertionsDisabled" "Z", .fieldLink RJ2 59 "java/lang/StringUTF16" "HI_BYTE_SHIFT" "I", .fieldLink RJ2 63 "java/lang/StringUTF16" "LO_BYTE_SHIFT" "I", .methodLink RJ2 48 yJ2_length_9d52b, .static yJ2_length_9d52b, .initialized RJ2, .code yJ2_length_9d52b cJ2_length_9d52b 1 (some .int)])
def wsJ2_charAt_3b067 : List Cond := .code yJ2_charAt_3b067 cJ2_charAt_3b067 2 (some .char) :: ([.methodLink RJ2 67 yJ2_checkIndex_2214a, .static yJ2_checkIndex_2214a, .initialized RJ2, .code yJ2_checkIndex_2214a cJ2_checkIndex_2214a 2 none, .methodLink RJ2 48 yJ2_length_9d52b, .static yJ2_length_9d52b, .code yJ2_length_9d52b cJ2_length_9d52b 1 (some .int), .methodLink RJ2 414 yJ0_checkIndex_df160, .static yJ0_checkIndex_df160, .initialized RJ0, .code yJ0_checkIndex_df160 cJ0_checkIndex_df160 2 none, .fieldLink RJ0 1053 "jdk/internal/util/Preconditions" "SIOOBE_FORMATTER" "Ljava/util/function/BiFunction;", .methodLink RJ0 1059 yJ3_checkIndex_8e157, .static yJ3_checkIndex_8e157, .initialized RJ3, .code yJ3_checkIndex_8e157 cJ3_checkIndex_8e157 3 (some .int), .methodLink RJ2 71 yJ2_getChar_3b067, .static yJ2_getChar_3b067, .code yJ2_getChar_3b067 cJ2_getChar_3b067 2 (some .char), .fieldLink RJ2 44 "java/lang/StringUTF16" "$assertionsDisabled" "Z", .fieldLink RJ2 59 "java/lang/StringUTF16" "HI_BYTE_SHIFT" "I", .fieldLink RJ2 63 "java/lang/StringUTF16" "LO_BYTE_SHIFT" "I"])
def wsJ0_charAt_5068e_r1 : List Cond := [Cond.fieldLink RJ0 9 "java/lang/String" "value" "[B", Cond.methodLink RJ0 492 yJ0_isLatin1_aae02, Cond.instanceMethod yJ0_isLatin1_aae02, Cond.selects RJ0 yJ0_isLatin1_aae02 yJ0_isLatin1_aae02, Cond.initialized RJ0, Cond.code yJ0_isLatin1_aae02 cJ0_isLatin1_aae02 1 (some .boolean), Cond.fieldLink RJ0 38 "java/lang/String" "COMPACT_STRINGS" "Z", Cond.fieldLink RJ0 15 "java/lang/String" "coder" "B", Cond.methodLink RJ0 495 yJ1_charAt_3b067, Cond.static yJ1_charAt_3b067, Cond.initialized RJ1, Cond.code yJ1_charAt_3b067 cJ1_charAt_3b067 2 (some .char), Cond.methodLink RJ1 9 yJ0_checkIndex_df160, Cond.static yJ0_checkIndex_df160, Cond.code yJ0_checkIndex_df160 cJ0_checkIndex_df160 2 none, Cond.fieldLink RJ0 1053 "jdk/internal/util/Preconditions" "SIOOBE_FORMATTER" "Ljava/util/function/BiFunction;", Cond.methodLink RJ0 1059 yJ3_checkIndex_8e157, Cond.static yJ3_checkIndex_8e157, Cond.initialized RJ3, Cond.code yJ3_checkIndex_8e157 cJ3_checkIndex_8e157 3 (some .int), Cond.methodLink RJ0 498 yJ2_charAt_3b067, Cond.static yJ2_charAt_3b067, Cond.initialized RJ2, Cond.code yJ2_charAt_3b067 cJ2_charAt_3b067 2 (some .char)]
def wsJ0_charAt_5068e_r2 : List Cond := [Cond.methodLink RJ2 67 yJ2_checkIndex_2214a, Cond.static yJ2_checkIndex_2214a, Cond.code yJ2_checkIndex_2214a cJ2_checkIndex_2214a 2 none, Cond.methodLink RJ2 48 yJ2_length_9d52b, Cond.static yJ2_length_9d52b, Cond.code yJ2_length_9d52b cJ2_length_9d52b 1 (some .int), Cond.methodLink RJ2 414 yJ0_checkIndex_df160, Cond.methodLink RJ2 71 yJ2_getChar_3b067, Cond.static yJ2_getChar_3b067, Cond.code yJ2_getChar_3b067 cJ2_getChar_3b067 2 (some .char), Cond.fieldLink RJ2 44 "java/lang/StringUTF16" "$assertionsDisabled" "Z", Cond.fieldLink RJ2 59 "java/lang/StringUTF16" "HI_BYTE_SHIFT" "I", Cond.fieldLink RJ2 63 "java/lang/StringUTF16" "LO_BYTE_SHIFT" "I"]
def wsJ0_charAt_5068e : List Cond := .code yJ0_charAt_5068e cJ0_charAt_5068e 2 (some .char) :: ((wsJ0_charAt_5068e_r1 ++ wsJ0_charAt_5068e_r2))
def wsX4_init_r1 : List Cond := [Cond.methodLink RX4 1 objectInit, Cond.instanceMethod objectInit, Cond.code objectInit ⟨#[0xb1]⟩ 1 none, Cond.classLink RX4 7 RX3, Cond.instantiable RX3 4, Cond.initialized RX3, Cond.fieldLink RX4 10 "HatPins" "text" "LHatPins$Text;", Cond.classLink RX4 16 RX0, Cond.instantiable RX0 13, Cond.initialized RX0, Cond.fieldLink RX4 19 "HatPins" "laid" "LHatPins$Evening;", Cond.fieldLink RX4 23 "HatPins" "draft" "LHatPins$Evening;", Cond.classLink RX4 26 RX2, Cond.instantiable RX2 6, Cond.initialized RX2, Cond.fieldLink RX4 29 "HatPins" "now" "LHatPins$Standing;", Cond.fieldLink RX4 33 "HatPins" "trial" "LHatPins$Standing;", Cond.classLink RX4 36 RX1, Cond.instantiable RX1 2, Cond.initialized RX1, Cond.fieldLink RX4 41 "HatPins" "undoable" "LHatPins$Shelf;", Cond.fieldLink RX4 45 "HatPins" "saved" "LHatPins$Shelf;", Cond.arrayClass .int, Cond.fieldLink RX4 48 "HatPins" "notedMinute" "[I"]
def wsX4_init_r2 : List Cond := [Cond.fieldLink RX4 52 "HatPins" "notedWorth" "[I", Cond.fieldLink RX4 75 "HatPins$Text" "length" "I", Cond.instanceMethod yX3_init, Cond.code yX3_init cX3_init 1 none, Cond.methodLink RX3 3 objectInit, Cond.fieldLink RX3 9 "HatPins$Text" "letters" "[I", Cond.fieldLink RX3 15 "HatPins$Text" "numbers" "[I", Cond.instanceMethod yX0_init, Cond.code yX0_init cX0_init 1 none, Cond.methodLink RX0 3 objectInit, Cond.fieldLink RX0 9 "HatPins$Evening" "kind" "[I", Cond.fieldLink RX0 15 "HatPins$Evening" "begins" "[I", Cond.fieldLink RX0 18 "HatPins$Evening" "interest" "[I", Cond.fieldLink RX0 21 "HatPins$Evening" "wane" "[I", Cond.fieldLink RX0 24 "HatPins$Evening" "minutes" "[I", Cond.fieldLink RX0 27 "HatPins$Evening" "leader" "[I", Cond.fieldLink RX0 30 "HatPins$Evening" "follower" "[I", Cond.fieldLink RX0 33 "HatPins$Evening" "gap" "[I", Cond.fieldLink RX0 36 "HatPins$Evening" "pins" "[I", Cond.fieldLink RX0 39 "HatPins$Evening" "reach" "[I", Cond.instanceMethod yX2_init, Cond.code yX2_init cX2_init 1 none, Cond.methodLink RX2 3 objectInit, Cond.fieldLink RX2 9 "HatPins$Standing" "state" "[I"]
def wsX4_init_r3 : List Cond := [Cond.fieldLink RX2 15 "HatPins$Standing" "due" "[I", Cond.fieldLink RX2 18 "HatPins$Standing" "began" "[I", Cond.fieldLink RX2 21 "HatPins$Standing" "pins" "[I", Cond.methodLink RX4 38 yX1_init, Cond.instanceMethod yX1_init, Cond.code yX1_init cX1_init 3 none, Cond.methodLink RX1 1 objectInit, Cond.methodLink RX1 7 Lib.Math.max.name, Cond.static Lib.Math.max.name, Cond.initialized "java/lang/Math", Cond.code Lib.Math.max.name Lib.Math.max.code 2 (some .int), Cond.classLink RX1 13 RX2, Cond.fieldLink RX1 15 "HatPins$Shelf" "rows" "[LHatPins$Standing;", Cond.methodLink RX4 57 yJ0_length_8abf5, Cond.instanceMethod yJ0_length_8abf5, Cond.selects RJ0 yJ0_length_8abf5 yJ0_length_8abf5, Cond.initialized RJ0, Cond.code yJ0_length_8abf5 cJ0_length_8abf5 1 (some .int), Cond.fieldLink RJ0 9 "java/lang/String" "value" "[B", Cond.methodLink RJ0 335 yJ0_coder_7d493, Cond.instanceMethod yJ0_coder_7d493, Cond.selects RJ0 yJ0_coder_7d493 yJ0_coder_7d493, Cond.code yJ0_coder_7d493 cJ0_coder_7d493 1 (some .byte), Cond.fieldLink RJ0 38 "java/lang/String" "COMPACT_STRINGS" "Z"]
def wsX4_init_r4 : List Cond := [Cond.fieldLink RJ0 15 "java/lang/String" "coder" "B", Cond.methodLink RX4 63 yJ0_charAt_5068e, Cond.instanceMethod yJ0_charAt_5068e, Cond.selects RJ0 yJ0_charAt_5068e yJ0_charAt_5068e, Cond.code yJ0_charAt_5068e cJ0_charAt_5068e 2 (some .char), Cond.methodLink RJ0 492 yJ0_isLatin1_aae02, Cond.instanceMethod yJ0_isLatin1_aae02, Cond.selects RJ0 yJ0_isLatin1_aae02 yJ0_isLatin1_aae02, Cond.code yJ0_isLatin1_aae02 cJ0_isLatin1_aae02 1 (some .boolean), Cond.methodLink RJ0 495 yJ1_charAt_3b067, Cond.static yJ1_charAt_3b067, Cond.initialized RJ1, Cond.code yJ1_charAt_3b067 cJ1_charAt_3b067 2 (some .char), Cond.methodLink RJ1 9 yJ0_checkIndex_df160, Cond.static yJ0_checkIndex_df160, Cond.code yJ0_checkIndex_df160 cJ0_checkIndex_df160 2 none, Cond.fieldLink RJ0 1053 "jdk/internal/util/Preconditions" "SIOOBE_FORMATTER" "Ljava/util/function/BiFunction;", Cond.methodLink RJ0 1059 yJ3_checkIndex_8e157, Cond.static yJ3_checkIndex_8e157, Cond.initialized RJ3, Cond.code yJ3_checkIndex_8e157 cJ3_checkIndex_8e157 3 (some .int), Cond.methodLink RJ0 498 yJ2_charAt_3b067, Cond.static yJ2_charAt_3b067, Cond.initialized RJ2]
def wsX4_init_r5 : List Cond := [Cond.code yJ2_charAt_3b067 cJ2_charAt_3b067 2 (some .char), Cond.methodLink RJ2 67 yJ2_checkIndex_2214a, Cond.static yJ2_checkIndex_2214a, Cond.code yJ2_checkIndex_2214a cJ2_checkIndex_2214a 2 none, Cond.methodLink RJ2 48 yJ2_length_9d52b, Cond.static yJ2_length_9d52b, Cond.code yJ2_length_9d52b cJ2_length_9d52b 1 (some .int), Cond.methodLink RJ2 414 yJ0_checkIndex_df160, Cond.methodLink RJ2 71 yJ2_getChar_3b067, Cond.static yJ2_getChar_3b067, Cond.code yJ2_getChar_3b067 cJ2_getChar_3b067 2 (some .char), Cond.fieldLink RJ2 44 "java/lang/StringUTF16" "$assertionsDisabled" "Z", Cond.fieldLink RJ2 59 "java/lang/StringUTF16" "HI_BYTE_SHIFT" "I", Cond.fieldLink RJ2 63 "java/lang/StringUTF16" "LO_BYTE_SHIFT" "I", Cond.methodLink RX4 67 yX3_append, Cond.instanceMethod yX3_append, Cond.selects RX3 yX3_append yX3_append, Cond.code yX3_append cX3_append 2 (some .boolean), Cond.fieldLink RX3 18 "HatPins$Text" "length" "I", Cond.methodLink RX4 71 yX3_readInto, Cond.instanceMethod yX3_readInto, Cond.selects RX3 yX3_readInto yX3_readInto, Cond.code yX3_readInto cX3_readInto 5 (some .int), Cond.fieldLink RX3 34 "HatPins$Text" "found" "I"]
def wsX4_init_r6 : List Cond := [Cond.methodLink RX3 22 yX0_clear, Cond.instanceMethod yX0_clear, Cond.selects RX0 yX0_clear yX0_clear, Cond.code yX0_clear cX0_clear 1 none, Cond.fieldLink RX0 42 "HatPins$Evening" "goings" "I", Cond.fieldLink RX0 46 "HatPins$Evening" "followings" "I", Cond.fieldLink RX0 49 "HatPins$Evening" "ladies" "I", Cond.methodLink RX3 27 yX3_readNumbers, Cond.instanceMethod yX3_readNumbers, Cond.selects RX3 yX3_readNumbers yX3_readNumbers, Cond.code yX3_readNumbers cX3_readNumbers 6 (some .int), Cond.methodLink RX3 41 yX3_isFigure, Cond.instanceMethod yX3_isFigure, Cond.selects RX3 yX3_isFigure yX3_isFigure, Cond.code yX3_isFigure cX3_isFigure 3 (some .boolean), Cond.methodLink RX3 31 yX3_letterAt, Cond.instanceMethod yX3_letterAt, Cond.selects RX3 yX3_letterAt yX3_letterAt, Cond.code yX3_letterAt cX3_letterAt 2 (some .int), Cond.methodLink RX3 37 yX0_add, Cond.instanceMethod yX0_add, Cond.selects RX0 yX0_add yX0_add, Cond.code yX0_add cX0_add 4 (some .boolean), Cond.methodLink RX0 52 yX0_addGoing]
def wsX4_init_r7 : List Cond := [Cond.instanceMethod yX0_addGoing, Cond.selects RX0 yX0_addGoing yX0_addGoing, Cond.code yX0_addGoing cX0_addGoing 3 (some .boolean), Cond.methodLink RX0 56 yX0_addFollowing, Cond.instanceMethod yX0_addFollowing, Cond.selects RX0 yX0_addFollowing yX0_addFollowing, Cond.code yX0_addFollowing cX0_addFollowing 2 (some .boolean), Cond.methodLink RX0 59 yX0_addLady, Cond.instanceMethod yX0_addLady, Cond.selects RX0 yX0_addLady yX0_addLady, Cond.code yX0_addLady cX0_addLady 5 (some .boolean), Cond.methodLink RX4 78 yX2_start, Cond.instanceMethod yX2_start, Cond.selects RX2 yX2_start yX2_start, Cond.code yX2_start cX2_start 3 none, Cond.fieldLink RX2 24 "HatPins$Standing" "minute" "I", Cond.fieldLink RX2 28 "HatPins$Standing" "had" "I", Cond.fieldLink RX2 31 "HatPins$Evening" "begins" "[I", Cond.constant RX2 36 (1000000), Cond.fieldLink RX2 37 "HatPins$Evening" "pins" "[I", Cond.methodLink RX2 38 arraycopyName, Cond.native arraycopyName, Cond.static arraycopyName, Cond.initialized "java/lang/System"]
def wsX4_init : List Cond := .code yX4_init cX4_init 2 none :: ((wsX4_init_r1 ++ (wsX4_init_r2 ++ (wsX4_init_r3 ++ (wsX4_init_r4 ++ (wsX4_init_r5 ++ (wsX4_init_r6 ++ wsX4_init_r7)))))) ++ wsX30 ++ wsX40 ++ wsX00 ++ wsX20 ++ wsX10)
def wsX4_write : List Cond := .code yX4_write cX4_write 2 (some .int) :: ([.fieldLink RX4 10 "HatPins" "text" "LHatPins$Text;", .fieldLink RX4 75 "HatPins$Text" "length" "I", .methodLink RX4 67 yX3_append, .instanceMethod yX3_append, .selects RX3 yX3_append yX3_append, .initialized RX3, .code yX3_append cX3_append 2 (some .boolean), .fieldLink RX3 18 "HatPins$Text" "length" "I", .fieldLink RX3 9 "HatPins$Text" "letters" "[I"] ++ wsX40 ++ wsX30)
def wsX4_wipe : List Cond := .code yX4_wipe cX4_wipe 2 (some .int) :: ([.fieldLink RX4 10 "HatPins" "text" "LHatPins$Text;", .fieldLink RX4 75 "HatPins$Text" "length" "I"] ++ wsX40 ++ wsX30)
def wsX4_fault_r1 : List Cond := [Cond.fieldLink RX4 10 "HatPins" "text" "LHatPins$Text;", Cond.fieldLink RX4 23 "HatPins" "draft" "LHatPins$Evening;", Cond.methodLink RX4 71 yX3_readInto, Cond.instanceMethod yX3_readInto, Cond.selects RX3 yX3_readInto yX3_readInto, Cond.initialized RX3, Cond.code yX3_readInto cX3_readInto 5 (some .int), Cond.fieldLink RX3 18 "HatPins$Text" "length" "I", Cond.fieldLink RX3 15 "HatPins$Text" "numbers" "[I", Cond.fieldLink RX3 34 "HatPins$Text" "found" "I", Cond.methodLink RX3 22 yX0_clear, Cond.instanceMethod yX0_clear, Cond.selects RX0 yX0_clear yX0_clear, Cond.initialized RX0, Cond.code yX0_clear cX0_clear 1 none, Cond.fieldLink RX0 42 "HatPins$Evening" "goings" "I", Cond.fieldLink RX0 46 "HatPins$Evening" "followings" "I", Cond.fieldLink RX0 49 "HatPins$Evening" "ladies" "I", Cond.methodLink RX3 27 yX3_readNumbers, Cond.instanceMethod yX3_readNumbers, Cond.selects RX3 yX3_readNumbers yX3_readNumbers, Cond.code yX3_readNumbers cX3_readNumbers 6 (some .int), Cond.methodLink RX3 41 yX3_isFigure, Cond.instanceMethod yX3_isFigure]
def wsX4_fault_r2 : List Cond := [Cond.selects RX3 yX3_isFigure yX3_isFigure, Cond.code yX3_isFigure cX3_isFigure 3 (some .boolean), Cond.methodLink RX3 31 yX3_letterAt, Cond.instanceMethod yX3_letterAt, Cond.selects RX3 yX3_letterAt yX3_letterAt, Cond.code yX3_letterAt cX3_letterAt 2 (some .int), Cond.fieldLink RX3 9 "HatPins$Text" "letters" "[I", Cond.methodLink RX3 37 yX0_add, Cond.instanceMethod yX0_add, Cond.selects RX0 yX0_add yX0_add, Cond.code yX0_add cX0_add 4 (some .boolean), Cond.methodLink RX0 52 yX0_addGoing, Cond.instanceMethod yX0_addGoing, Cond.selects RX0 yX0_addGoing yX0_addGoing, Cond.code yX0_addGoing cX0_addGoing 3 (some .boolean), Cond.fieldLink RX0 9 "HatPins$Evening" "kind" "[I", Cond.fieldLink RX0 15 "HatPins$Evening" "begins" "[I", Cond.fieldLink RX0 18 "HatPins$Evening" "interest" "[I", Cond.fieldLink RX0 21 "HatPins$Evening" "wane" "[I", Cond.fieldLink RX0 24 "HatPins$Evening" "minutes" "[I", Cond.methodLink RX0 56 yX0_addFollowing, Cond.instanceMethod yX0_addFollowing, Cond.selects RX0 yX0_addFollowing yX0_addFollowing, Cond.code yX0_addFollowing cX0_addFollowing 2 (some .boolean)]
def wsX4_fault_r3 : List Cond := [Cond.fieldLink RX0 27 "HatPins$Evening" "leader" "[I", Cond.fieldLink RX0 30 "HatPins$Evening" "follower" "[I", Cond.fieldLink RX0 33 "HatPins$Evening" "gap" "[I", Cond.methodLink RX0 59 yX0_addLady, Cond.instanceMethod yX0_addLady, Cond.selects RX0 yX0_addLady yX0_addLady, Cond.code yX0_addLady cX0_addLady 5 (some .boolean), Cond.fieldLink RX0 36 "HatPins$Evening" "pins" "[I", Cond.fieldLink RX0 39 "HatPins$Evening" "reach" "[I"]
def wsX4_fault : List Cond := .code yX4_fault cX4_fault 1 (some .int) :: ((wsX4_fault_r1 ++ (wsX4_fault_r2 ++ wsX4_fault_r3)) ++ wsX40 ++ wsX30 ++ wsX00)
def wsX4_lay_r1 : List Cond := [Cond.fieldLink RX4 10 "HatPins" "text" "LHatPins$Text;", Cond.fieldLink RX4 23 "HatPins" "draft" "LHatPins$Evening;", Cond.fieldLink RX4 82 "HatPins$Evening" "goings" "I", Cond.fieldLink RX4 19 "HatPins" "laid" "LHatPins$Evening;", Cond.fieldLink RX4 29 "HatPins" "now" "LHatPins$Standing;", Cond.fieldLink RX4 41 "HatPins" "undoable" "LHatPins$Shelf;", Cond.fieldLink RX4 85 "HatPins$Shelf" "held" "I", Cond.fieldLink RX4 45 "HatPins" "saved" "LHatPins$Shelf;", Cond.fieldLink RX4 88 "HatPins" "noted" "I", Cond.methodLink RX4 71 yX3_readInto, Cond.instanceMethod yX3_readInto, Cond.selects RX3 yX3_readInto yX3_readInto, Cond.initialized RX3, Cond.code yX3_readInto cX3_readInto 5 (some .int), Cond.fieldLink RX3 18 "HatPins$Text" "length" "I", Cond.fieldLink RX3 15 "HatPins$Text" "numbers" "[I", Cond.fieldLink RX3 34 "HatPins$Text" "found" "I", Cond.methodLink RX3 22 yX0_clear, Cond.instanceMethod yX0_clear, Cond.selects RX0 yX0_clear yX0_clear, Cond.initialized RX0, Cond.code yX0_clear cX0_clear 1 none, Cond.fieldLink RX0 42 "HatPins$Evening" "goings" "I", Cond.fieldLink RX0 46 "HatPins$Evening" "followings" "I"]
def wsX4_lay_r2 : List Cond := [Cond.fieldLink RX0 49 "HatPins$Evening" "ladies" "I", Cond.methodLink RX3 27 yX3_readNumbers, Cond.instanceMethod yX3_readNumbers, Cond.selects RX3 yX3_readNumbers yX3_readNumbers, Cond.code yX3_readNumbers cX3_readNumbers 6 (some .int), Cond.methodLink RX3 41 yX3_isFigure, Cond.instanceMethod yX3_isFigure, Cond.selects RX3 yX3_isFigure yX3_isFigure, Cond.code yX3_isFigure cX3_isFigure 3 (some .boolean), Cond.methodLink RX3 31 yX3_letterAt, Cond.instanceMethod yX3_letterAt, Cond.selects RX3 yX3_letterAt yX3_letterAt, Cond.code yX3_letterAt cX3_letterAt 2 (some .int), Cond.fieldLink RX3 9 "HatPins$Text" "letters" "[I", Cond.methodLink RX3 37 yX0_add, Cond.instanceMethod yX0_add, Cond.selects RX0 yX0_add yX0_add, Cond.code yX0_add cX0_add 4 (some .boolean), Cond.methodLink RX0 52 yX0_addGoing, Cond.instanceMethod yX0_addGoing, Cond.selects RX0 yX0_addGoing yX0_addGoing, Cond.code yX0_addGoing cX0_addGoing 3 (some .boolean), Cond.fieldLink RX0 9 "HatPins$Evening" "kind" "[I", Cond.fieldLink RX0 15 "HatPins$Evening" "begins" "[I"]
def wsX4_lay_r3 : List Cond := [Cond.fieldLink RX0 18 "HatPins$Evening" "interest" "[I", Cond.fieldLink RX0 21 "HatPins$Evening" "wane" "[I", Cond.fieldLink RX0 24 "HatPins$Evening" "minutes" "[I", Cond.methodLink RX0 56 yX0_addFollowing, Cond.instanceMethod yX0_addFollowing, Cond.selects RX0 yX0_addFollowing yX0_addFollowing, Cond.code yX0_addFollowing cX0_addFollowing 2 (some .boolean), Cond.fieldLink RX0 27 "HatPins$Evening" "leader" "[I", Cond.fieldLink RX0 30 "HatPins$Evening" "follower" "[I", Cond.fieldLink RX0 33 "HatPins$Evening" "gap" "[I", Cond.methodLink RX0 59 yX0_addLady, Cond.instanceMethod yX0_addLady, Cond.selects RX0 yX0_addLady yX0_addLady, Cond.code yX0_addLady cX0_addLady 5 (some .boolean), Cond.fieldLink RX0 36 "HatPins$Evening" "pins" "[I", Cond.fieldLink RX0 39 "HatPins$Evening" "reach" "[I", Cond.methodLink RX4 78 yX2_start, Cond.instanceMethod yX2_start, Cond.selects RX2 yX2_start yX2_start, Cond.initialized RX2, Cond.code yX2_start cX2_start 3 none, Cond.fieldLink RX2 24 "HatPins$Standing" "minute" "I", Cond.fieldLink RX2 28 "HatPins$Standing" "had" "I", Cond.fieldLink RX2 9 "HatPins$Standing" "state" "[I"]
def wsX4_lay_r4 : List Cond := [Cond.fieldLink RX2 15 "HatPins$Standing" "due" "[I", Cond.fieldLink RX2 31 "HatPins$Evening" "begins" "[I", Cond.constant RX2 36 (1000000), Cond.fieldLink RX2 18 "HatPins$Standing" "began" "[I", Cond.fieldLink RX2 37 "HatPins$Evening" "pins" "[I", Cond.fieldLink RX2 21 "HatPins$Standing" "pins" "[I", Cond.methodLink RX2 38 arraycopyName, Cond.native arraycopyName, Cond.static arraycopyName, Cond.initialized "java/lang/System"]
def wsX4_lay : List Cond := .code yX4_lay cX4_lay 1 (some .int) :: ((wsX4_lay_r1 ++ (wsX4_lay_r2 ++ (wsX4_lay_r3 ++ wsX4_lay_r4))) ++ wsX40 ++ wsX00 ++ wsX10 ++ wsX30 ++ wsX20)
def wsX4_isGoing : List Cond := .code yX4_isGoing cX4_isGoing 2 (some .boolean) :: ([.fieldLink RX4 19 "HatPins" "laid" "LHatPins$Evening;", .fieldLink RX4 82 "HatPins$Evening" "goings" "I"] ++ wsX40 ++ wsX00)
def wsX4_going_r1 : List Cond := [Cond.fieldLink RX4 19 "HatPins" "laid" "LHatPins$Evening;", Cond.fieldLink RX4 94 "HatPins$Evening" "kind" "[I", Cond.fieldLink RX4 97 "HatPins$Evening" "interest" "[I", Cond.fieldLink RX4 100 "HatPins$Evening" "wane" "[I", Cond.fieldLink RX4 103 "HatPins$Evening" "minutes" "[I", Cond.fieldLink RX4 29 "HatPins" "now" "LHatPins$Standing;", Cond.fieldLink RX4 106 "HatPins$Standing" "state" "[I", Cond.methodLink RX4 91 yX4_isGoing, Cond.instanceMethod yX4_isGoing, Cond.selects RX4 yX4_isGoing yX4_isGoing, Cond.initialized RX4, Cond.code yX4_isGoing cX4_isGoing 2 (some .boolean), Cond.fieldLink RX4 82 "HatPins$Evening" "goings" "I", Cond.methodLink RX4 109 yX2_whenOf, Cond.instanceMethod yX2_whenOf, Cond.selects RX2 yX2_whenOf yX2_whenOf, Cond.initialized RX2, Cond.code yX2_whenOf cX2_whenOf 2 (some .int), Cond.fieldLink RX2 9 "HatPins$Standing" "state" "[I", Cond.fieldLink RX2 18 "HatPins$Standing" "began" "[I", Cond.fieldLink RX2 15 "HatPins$Standing" "due" "[I", Cond.constant RX2 36 (1000000), Cond.methodLink RX4 113 yX2_worthOf, Cond.instanceMethod yX2_worthOf]
def wsX4_going_r2 : List Cond := [Cond.selects RX2 yX2_worthOf yX2_worthOf, Cond.code yX2_worthOf cX2_worthOf 3 (some .int), Cond.fieldLink RX2 62 "HatPins$Evening" "kind" "[I", Cond.fieldLink RX2 65 "HatPins$Evening" "interest" "[I", Cond.fieldLink RX2 68 "HatPins$Evening" "wane" "[I", Cond.fieldLink RX2 24 "HatPins$Standing" "minute" "I", Cond.static yX4_worth, Cond.code yX4_worth cX4_worth 5 (some .int), Cond.methodLink RX4 246 Lib.Math.min.name, Cond.static Lib.Math.min.name, Cond.initialized "java/lang/Math", Cond.code Lib.Math.min.name Lib.Math.min.code 2 (some .int), Cond.methodLink RX4 177 Lib.Math.max.name, Cond.static Lib.Math.max.name, Cond.code Lib.Math.max.name Lib.Math.max.code 2 (some .int)]
def wsX4_going : List Cond := .code yX4_going cX4_going 3 (some .int) :: ((wsX4_going_r1 ++ wsX4_going_r2) ++ wsX40 ++ wsX00 ++ wsX20)
def wsX4_isLady : List Cond := .code yX4_isLady cX4_isLady 2 (some .boolean) :: ([.fieldLink RX4 19 "HatPins" "laid" "LHatPins$Evening;", .fieldLink RX4 193 "HatPins$Evening" "ladies" "I"] ++ wsX40 ++ wsX00)
def wsX4_lady : List Cond := .code yX4_lady cX4_lady 3 (some .int) :: ([.fieldLink RX4 29 "HatPins" "now" "LHatPins$Standing;", .fieldLink RX4 120 "HatPins$Standing" "pins" "[I", .fieldLink RX4 19 "HatPins" "laid" "LHatPins$Evening;", .fieldLink RX4 123 "HatPins$Evening" "reach" "[I", .methodLink RX4 117 yX4_isLady, .instanceMethod yX4_isLady, .selects RX4 yX4_isLady yX4_isLady, .initialized RX4, .code yX4_isLady cX4_isLady 2 (some .boolean), .fieldLink RX4 193 "HatPins$Evening" "ladies" "I", .methodLink RX4 126 yX2_pinnableBy, .instanceMethod yX2_pinnableBy, .selects RX2 yX2_pinnableBy yX2_pinnableBy, .initialized RX2, .code yX2_pinnableBy cX2_pinnableBy 5 (some .int), .fieldLink RX2 55 "HatPins$Evening" "goings" "I", .methodLink RX2 103 yX2_canPin, .instanceMethod yX2_canPin, .selects RX2 yX2_canPin yX2_canPin, .code yX2_canPin cX2_canPin 5 (some .boolean), .fieldLink RX2 100 "HatPins$Evening" "reach" "[I", .fieldLink RX2 62 "HatPins$Evening" "kind" "[I", .fieldLink RX2 21 "HatPins$Standing" "pins" "[I", .fieldLink RX2 9 "HatPins$Standing" "state" "[I"] ++ wsX40 ++ wsX20 ++ wsX00)
def wsX4_pass_r1 : List Cond := [Cond.fieldLink RX4 29 "HatPins" "now" "LHatPins$Standing;", Cond.fieldLink RX4 129 "HatPins$Standing" "minute" "I", Cond.fieldLink RX4 41 "HatPins" "undoable" "LHatPins$Shelf;", Cond.fieldLink RX4 19 "HatPins" "laid" "LHatPins$Evening;", Cond.fieldLink RX4 140 "HatPins$Standing" "had" "I", Cond.methodLink RX4 132 yX1_put, Cond.instanceMethod yX1_put, Cond.selects RX1 yX1_put yX1_put, Cond.initialized RX1, Cond.code yX1_put cX1_put 2 none, Cond.fieldLink RX1 22 "HatPins$Shelf" "held" "I", Cond.fieldLink RX1 15 "HatPins$Shelf" "rows" "[LHatPins$Standing;", Cond.methodLink RX1 26 yX1_dropOldest, Cond.instanceMethod yX1_dropOldest, Cond.selects RX1 yX1_dropOldest yX1_dropOldest, Cond.code yX1_dropOldest cX1_dropOldest 3 none, Cond.methodLink RX1 29 yX2_copyOf, Cond.instanceMethod yX2_copyOf, Cond.selects RX2 yX2_copyOf yX2_copyOf, Cond.initialized RX2, Cond.code yX2_copyOf cX2_copyOf 2 none, Cond.fieldLink RX2 24 "HatPins$Standing" "minute" "I", Cond.fieldLink RX2 28 "HatPins$Standing" "had" "I", Cond.fieldLink RX2 9 "HatPins$Standing" "state" "[I"]
def wsX4_pass_r2 : List Cond := [Cond.methodLink RX2 38 arraycopyName, Cond.native arraycopyName, Cond.static arraycopyName, Cond.initialized "java/lang/System", Cond.fieldLink RX2 15 "HatPins$Standing" "due" "[I", Cond.fieldLink RX2 18 "HatPins$Standing" "began" "[I", Cond.fieldLink RX2 21 "HatPins$Standing" "pins" "[I", Cond.methodLink RX4 136 yX2_goBy, Cond.instanceMethod yX2_goBy, Cond.selects RX2 yX2_goBy yX2_goBy, Cond.code yX2_goBy cX2_goBy 4 none, Cond.methodLink RX2 44 yX2_beginDue, Cond.instanceMethod yX2_beginDue, Cond.selects RX2 yX2_beginDue yX2_beginDue, Cond.code yX2_beginDue cX2_beginDue 3 none, Cond.fieldLink RX2 55 "HatPins$Evening" "goings" "I", Cond.methodLink RX2 48 yX2_worthOfAll, Cond.instanceMethod yX2_worthOfAll, Cond.selects RX2 yX2_worthOfAll yX2_worthOfAll, Cond.code yX2_worthOfAll cX2_worthOfAll 4 (some .int), Cond.methodLink RX2 58 yX2_worthOf, Cond.instanceMethod yX2_worthOf, Cond.selects RX2 yX2_worthOf yX2_worthOf, Cond.code yX2_worthOf cX2_worthOf 3 (some .int)]
def wsX4_pass_r3 : List Cond := [Cond.fieldLink RX2 62 "HatPins$Evening" "kind" "[I", Cond.fieldLink RX2 65 "HatPins$Evening" "interest" "[I", Cond.fieldLink RX2 68 "HatPins$Evening" "wane" "[I", Cond.static yX4_worth, Cond.initialized RX4, Cond.code yX4_worth cX4_worth 5 (some .int), Cond.methodLink RX4 246 Lib.Math.min.name, Cond.static Lib.Math.min.name, Cond.initialized "java/lang/Math", Cond.code Lib.Math.min.name Lib.Math.min.code 2 (some .int), Cond.methodLink RX4 177 Lib.Math.max.name, Cond.static Lib.Math.max.name, Cond.code Lib.Math.max.name Lib.Math.max.code 2 (some .int), Cond.methodLink RX2 52 yX2_endMinute, Cond.instanceMethod yX2_endMinute, Cond.selects RX2 yX2_endMinute yX2_endMinute, Cond.code yX2_endMinute cX2_endMinute 3 none, Cond.fieldLink RX2 75 "HatPins$Evening" "minutes" "[I", Cond.methodLink RX2 78 yX2_finish, Cond.instanceMethod yX2_finish, Cond.selects RX2 yX2_finish yX2_finish, Cond.code yX2_finish cX2_finish 6 none, Cond.fieldLink RX2 82 "HatPins$Evening" "followings" "I", Cond.fieldLink RX2 85 "HatPins$Evening" "follower" "[I"]
def wsX4_pass_r4 : List Cond := [Cond.fieldLink RX2 88 "HatPins$Evening" "leader" "[I", Cond.fieldLink RX2 91 "HatPins$Evening" "gap" "[I", Cond.methodLink RX2 94 Lib.Math.min.name]
def wsX4_pass : List Cond := .code yX4_pass cX4_pass 2 (some .int) :: ((wsX4_pass_r1 ++ (wsX4_pass_r2 ++ (wsX4_pass_r3 ++ wsX4_pass_r4))) ++ wsX40 ++ wsX20 ++ wsX10 ++ wsX00)
def wsX4_pin_r1 : List Cond := [Cond.fieldLink RX4 29 "HatPins" "now" "LHatPins$Standing;", Cond.fieldLink RX4 19 "HatPins" "laid" "LHatPins$Evening;", Cond.fieldLink RX4 41 "HatPins" "undoable" "LHatPins$Shelf;", Cond.fieldLink RX4 120 "HatPins$Standing" "pins" "[I", Cond.methodLink RX4 117 yX4_isLady, Cond.instanceMethod yX4_isLady, Cond.selects RX4 yX4_isLady yX4_isLady, Cond.initialized RX4, Cond.code yX4_isLady cX4_isLady 2 (some .boolean), Cond.fieldLink RX4 193 "HatPins$Evening" "ladies" "I", Cond.methodLink RX4 91 yX4_isGoing, Cond.instanceMethod yX4_isGoing, Cond.selects RX4 yX4_isGoing yX4_isGoing, Cond.code yX4_isGoing cX4_isGoing 2 (some .boolean), Cond.fieldLink RX4 82 "HatPins$Evening" "goings" "I", Cond.methodLink RX4 143 yX2_canPin, Cond.instanceMethod yX2_canPin, Cond.selects RX2 yX2_canPin yX2_canPin, Cond.initialized RX2, Cond.code yX2_canPin cX2_canPin 5 (some .boolean), Cond.fieldLink RX2 100 "HatPins$Evening" "reach" "[I", Cond.fieldLink RX2 62 "HatPins$Evening" "kind" "[I", Cond.fieldLink RX2 21 "HatPins$Standing" "pins" "[I", Cond.fieldLink RX2 9 "HatPins$Standing" "state" "[I"]
def wsX4_pin_r2 : List Cond := [Cond.methodLink RX4 132 yX1_put, Cond.instanceMethod yX1_put, Cond.selects RX1 yX1_put yX1_put, Cond.initialized RX1, Cond.code yX1_put cX1_put 2 none, Cond.fieldLink RX1 22 "HatPins$Shelf" "held" "I", Cond.fieldLink RX1 15 "HatPins$Shelf" "rows" "[LHatPins$Standing;", Cond.methodLink RX1 26 yX1_dropOldest, Cond.instanceMethod yX1_dropOldest, Cond.selects RX1 yX1_dropOldest yX1_dropOldest, Cond.code yX1_dropOldest cX1_dropOldest 3 none, Cond.methodLink RX1 29 yX2_copyOf, Cond.instanceMethod yX2_copyOf, Cond.selects RX2 yX2_copyOf yX2_copyOf, Cond.code yX2_copyOf cX2_copyOf 2 none, Cond.fieldLink RX2 24 "HatPins$Standing" "minute" "I", Cond.fieldLink RX2 28 "HatPins$Standing" "had" "I", Cond.methodLink RX2 38 arraycopyName, Cond.native arraycopyName, Cond.static arraycopyName, Cond.initialized "java/lang/System", Cond.fieldLink RX2 15 "HatPins$Standing" "due" "[I", Cond.fieldLink RX2 18 "HatPins$Standing" "began" "[I", Cond.methodLink RX4 147 yX2_pinBy]
def wsX4_pin_r3 : List Cond := [Cond.instanceMethod yX2_pinBy, Cond.selects RX2 yX2_pinBy yX2_pinBy, Cond.code yX2_pinBy cX2_pinBy 4 none, Cond.methodLink RX2 78 yX2_finish, Cond.instanceMethod yX2_finish, Cond.selects RX2 yX2_finish yX2_finish, Cond.code yX2_finish cX2_finish 6 none, Cond.fieldLink RX2 82 "HatPins$Evening" "followings" "I", Cond.fieldLink RX2 85 "HatPins$Evening" "follower" "[I", Cond.fieldLink RX2 88 "HatPins$Evening" "leader" "[I", Cond.fieldLink RX2 91 "HatPins$Evening" "gap" "[I", Cond.methodLink RX2 94 Lib.Math.min.name, Cond.static Lib.Math.min.name, Cond.initialized "java/lang/Math", Cond.code Lib.Math.min.name Lib.Math.min.code 2 (some .int)]
def wsX4_pin : List Cond := .code yX4_pin cX4_pin 3 (some .int) :: ((wsX4_pin_r1 ++ (wsX4_pin_r2 ++ wsX4_pin_r3)) ++ wsX40 ++ wsX20 ++ wsX00 ++ wsX10)
def wsX4_lend_r1 : List Cond := [Cond.fieldLink RX4 29 "HatPins" "now" "LHatPins$Standing;", Cond.fieldLink RX4 120 "HatPins$Standing" "pins" "[I", Cond.fieldLink RX4 41 "HatPins" "undoable" "LHatPins$Shelf;", Cond.methodLink RX4 117 yX4_isLady, Cond.instanceMethod yX4_isLady, Cond.selects RX4 yX4_isLady yX4_isLady, Cond.initialized RX4, Cond.code yX4_isLady cX4_isLady 2 (some .boolean), Cond.fieldLink RX4 19 "HatPins" "laid" "LHatPins$Evening;", Cond.fieldLink RX4 193 "HatPins$Evening" "ladies" "I", Cond.methodLink RX4 132 yX1_put, Cond.instanceMethod yX1_put, Cond.selects RX1 yX1_put yX1_put, Cond.initialized RX1, Cond.code yX1_put cX1_put 2 none, Cond.fieldLink RX1 22 "HatPins$Shelf" "held" "I", Cond.fieldLink RX1 15 "HatPins$Shelf" "rows" "[LHatPins$Standing;", Cond.methodLink RX1 26 yX1_dropOldest, Cond.instanceMethod yX1_dropOldest, Cond.selects RX1 yX1_dropOldest yX1_dropOldest, Cond.code yX1_dropOldest cX1_dropOldest 3 none, Cond.methodLink RX1 29 yX2_copyOf, Cond.instanceMethod yX2_copyOf, Cond.selects RX2 yX2_copyOf yX2_copyOf]
def wsX4_lend_r2 : List Cond := [Cond.initialized RX2, Cond.code yX2_copyOf cX2_copyOf 2 none, Cond.fieldLink RX2 24 "HatPins$Standing" "minute" "I", Cond.fieldLink RX2 28 "HatPins$Standing" "had" "I", Cond.fieldLink RX2 9 "HatPins$Standing" "state" "[I", Cond.methodLink RX2 38 arraycopyName, Cond.native arraycopyName, Cond.static arraycopyName, Cond.initialized "java/lang/System", Cond.fieldLink RX2 15 "HatPins$Standing" "due" "[I", Cond.fieldLink RX2 18 "HatPins$Standing" "began" "[I", Cond.fieldLink RX2 21 "HatPins$Standing" "pins" "[I", Cond.methodLink RX4 151 yX2_lendPin, Cond.instanceMethod yX2_lendPin, Cond.selects RX2 yX2_lendPin yX2_lendPin, Cond.code yX2_lendPin cX2_lendPin 3 none]
def wsX4_lend : List Cond := .code yX4_lend cX4_lend 3 (some .int) :: ((wsX4_lend_r1 ++ wsX4_lend_r2) ++ wsX40 ++ wsX20 ++ wsX00 ++ wsX10)
def wsX4_undo_r1 : List Cond := [Cond.fieldLink RX4 41 "HatPins" "undoable" "LHatPins$Shelf;", Cond.fieldLink RX4 29 "HatPins" "now" "LHatPins$Standing;", Cond.fieldLink RX4 85 "HatPins$Shelf" "held" "I", Cond.methodLink RX4 155 yX1_takeInto, Cond.instanceMethod yX1_takeInto, Cond.selects RX1 yX1_takeInto yX1_takeInto, Cond.initialized RX1, Cond.code yX1_takeInto cX1_takeInto 2 (some .boolean), Cond.fieldLink RX1 22 "HatPins$Shelf" "held" "I", Cond.fieldLink RX1 15 "HatPins$Shelf" "rows" "[LHatPins$Standing;", Cond.methodLink RX1 29 yX2_copyOf, Cond.instanceMethod yX2_copyOf, Cond.selects RX2 yX2_copyOf yX2_copyOf, Cond.initialized RX2, Cond.code yX2_copyOf cX2_copyOf 2 none, Cond.fieldLink RX2 24 "HatPins$Standing" "minute" "I", Cond.fieldLink RX2 28 "HatPins$Standing" "had" "I", Cond.fieldLink RX2 9 "HatPins$Standing" "state" "[I", Cond.methodLink RX2 38 arraycopyName, Cond.native arraycopyName, Cond.static arraycopyName, Cond.initialized "java/lang/System", Cond.fieldLink RX2 15 "HatPins$Standing" "due" "[I", Cond.fieldLink RX2 18 "HatPins$Standing" "began" "[I"]
def wsX4_undo_r2 : List Cond := [Cond.fieldLink RX2 21 "HatPins$Standing" "pins" "[I"]
def wsX4_undo : List Cond := .code yX4_undo cX4_undo 1 (some .int) :: ((wsX4_undo_r1 ++ wsX4_undo_r2) ++ wsX40 ++ wsX10 ++ wsX20)
def wsX4_isEither : List Cond := .code yX4_isEither cX4_isEither 1 (some .boolean) :: ([])
def wsX4_behind_r1 : List Cond := [Cond.fieldLink RX4 33 "HatPins" "trial" "LHatPins$Standing;", Cond.fieldLink RX4 29 "HatPins" "now" "LHatPins$Standing;", Cond.fieldLink RX4 19 "HatPins" "laid" "LHatPins$Evening;", Cond.fieldLink RX4 140 "HatPins$Standing" "had" "I", Cond.methodLink RX4 159 yX4_isEither, Cond.static yX4_isEither, Cond.initialized RX4, Cond.code yX4_isEither cX4_isEither 1 (some .boolean), Cond.methodLink RX4 162 yX2_copyOf, Cond.instanceMethod yX2_copyOf, Cond.selects RX2 yX2_copyOf yX2_copyOf, Cond.initialized RX2, Cond.code yX2_copyOf cX2_copyOf 2 none, Cond.fieldLink RX2 24 "HatPins$Standing" "minute" "I", Cond.fieldLink RX2 28 "HatPins$Standing" "had" "I", Cond.fieldLink RX2 9 "HatPins$Standing" "state" "[I", Cond.methodLink RX2 38 arraycopyName, Cond.native arraycopyName, Cond.static arraycopyName, Cond.initialized "java/lang/System", Cond.fieldLink RX2 15 "HatPins$Standing" "due" "[I", Cond.fieldLink RX2 18 "HatPins$Standing" "began" "[I", Cond.fieldLink RX2 21 "HatPins$Standing" "pins" "[I", Cond.methodLink RX4 136 yX2_goBy]
def wsX4_behind_r2 : List Cond := [Cond.instanceMethod yX2_goBy, Cond.selects RX2 yX2_goBy yX2_goBy, Cond.code yX2_goBy cX2_goBy 4 none, Cond.methodLink RX2 44 yX2_beginDue, Cond.instanceMethod yX2_beginDue, Cond.selects RX2 yX2_beginDue yX2_beginDue, Cond.code yX2_beginDue cX2_beginDue 3 none, Cond.fieldLink RX2 55 "HatPins$Evening" "goings" "I", Cond.methodLink RX2 48 yX2_worthOfAll, Cond.instanceMethod yX2_worthOfAll, Cond.selects RX2 yX2_worthOfAll yX2_worthOfAll, Cond.code yX2_worthOfAll cX2_worthOfAll 4 (some .int), Cond.methodLink RX2 58 yX2_worthOf, Cond.instanceMethod yX2_worthOf, Cond.selects RX2 yX2_worthOf yX2_worthOf, Cond.code yX2_worthOf cX2_worthOf 3 (some .int), Cond.fieldLink RX2 62 "HatPins$Evening" "kind" "[I", Cond.fieldLink RX2 65 "HatPins$Evening" "interest" "[I", Cond.fieldLink RX2 68 "HatPins$Evening" "wane" "[I", Cond.static yX4_worth, Cond.code yX4_worth cX4_worth 5 (some .int), Cond.methodLink RX4 246 Lib.Math.min.name, Cond.static Lib.Math.min.name, Cond.initialized "java/lang/Math"]
def wsX4_behind_r3 : List Cond := [Cond.code Lib.Math.min.name Lib.Math.min.code 2 (some .int), Cond.methodLink RX4 177 Lib.Math.max.name, Cond.static Lib.Math.max.name, Cond.code Lib.Math.max.name Lib.Math.max.code 2 (some .int), Cond.methodLink RX2 52 yX2_endMinute, Cond.instanceMethod yX2_endMinute, Cond.selects RX2 yX2_endMinute yX2_endMinute, Cond.code yX2_endMinute cX2_endMinute 3 none, Cond.fieldLink RX2 75 "HatPins$Evening" "minutes" "[I", Cond.methodLink RX2 78 yX2_finish, Cond.instanceMethod yX2_finish, Cond.selects RX2 yX2_finish yX2_finish, Cond.code yX2_finish cX2_finish 6 none, Cond.fieldLink RX2 82 "HatPins$Evening" "followings" "I", Cond.fieldLink RX2 85 "HatPins$Evening" "follower" "[I", Cond.fieldLink RX2 88 "HatPins$Evening" "leader" "[I", Cond.fieldLink RX2 91 "HatPins$Evening" "gap" "[I", Cond.methodLink RX2 94 Lib.Math.min.name, Cond.methodLink RX4 165 yX2_onBits, Cond.instanceMethod yX2_onBits, Cond.selects RX2 yX2_onBits yX2_onBits, Cond.code yX2_onBits cX2_onBits 4 (some .int)]
def wsX4_behind : List Cond := .code yX4_behind cX4_behind 3 (some .int) :: ((wsX4_behind_r1 ++ (wsX4_behind_r2 ++ wsX4_behind_r3)) ++ wsX40 ++ wsX20 ++ wsX00)
def wsX4_dull_r1 : List Cond := [Cond.fieldLink RX4 33 "HatPins" "trial" "LHatPins$Standing;", Cond.fieldLink RX4 29 "HatPins" "now" "LHatPins$Standing;", Cond.fieldLink RX4 19 "HatPins" "laid" "LHatPins$Evening;", Cond.methodLink RX4 162 yX2_copyOf, Cond.instanceMethod yX2_copyOf, Cond.selects RX2 yX2_copyOf yX2_copyOf, Cond.initialized RX2, Cond.code yX2_copyOf cX2_copyOf 2 none, Cond.fieldLink RX2 24 "HatPins$Standing" "minute" "I", Cond.fieldLink RX2 28 "HatPins$Standing" "had" "I", Cond.fieldLink RX2 9 "HatPins$Standing" "state" "[I", Cond.methodLink RX2 38 arraycopyName, Cond.native arraycopyName, Cond.static arraycopyName, Cond.initialized "java/lang/System", Cond.fieldLink RX2 15 "HatPins$Standing" "due" "[I", Cond.fieldLink RX2 18 "HatPins$Standing" "began" "[I", Cond.fieldLink RX2 21 "HatPins$Standing" "pins" "[I", Cond.methodLink RX4 168 yX2_beginDue, Cond.instanceMethod yX2_beginDue, Cond.selects RX2 yX2_beginDue yX2_beginDue, Cond.code yX2_beginDue cX2_beginDue 3 none, Cond.fieldLink RX2 55 "HatPins$Evening" "goings" "I", Cond.methodLink RX4 171 yX2_worthOfAll]
def wsX4_dull_r2 : List Cond := [Cond.instanceMethod yX2_worthOfAll, Cond.selects RX2 yX2_worthOfAll yX2_worthOfAll, Cond.code yX2_worthOfAll cX2_worthOfAll 4 (some .int), Cond.methodLink RX2 58 yX2_worthOf, Cond.instanceMethod yX2_worthOf, Cond.selects RX2 yX2_worthOf yX2_worthOf, Cond.code yX2_worthOf cX2_worthOf 3 (some .int), Cond.fieldLink RX2 62 "HatPins$Evening" "kind" "[I", Cond.fieldLink RX2 65 "HatPins$Evening" "interest" "[I", Cond.fieldLink RX2 68 "HatPins$Evening" "wane" "[I", Cond.static yX4_worth, Cond.initialized RX4, Cond.code yX4_worth cX4_worth 5 (some .int), Cond.methodLink RX4 246 Lib.Math.min.name, Cond.static Lib.Math.min.name, Cond.initialized "java/lang/Math", Cond.code Lib.Math.min.name Lib.Math.min.code 2 (some .int), Cond.methodLink RX4 177 Lib.Math.max.name, Cond.static Lib.Math.max.name, Cond.code Lib.Math.max.name Lib.Math.max.code 2 (some .int), Cond.methodLink RX4 174 yX2_endMinute, Cond.instanceMethod yX2_endMinute, Cond.selects RX2 yX2_endMinute yX2_endMinute, Cond.code yX2_endMinute cX2_endMinute 3 none]
def wsX4_dull_r3 : List Cond := [Cond.fieldLink RX2 75 "HatPins$Evening" "minutes" "[I", Cond.methodLink RX2 78 yX2_finish, Cond.instanceMethod yX2_finish, Cond.selects RX2 yX2_finish yX2_finish, Cond.code yX2_finish cX2_finish 6 none, Cond.fieldLink RX2 82 "HatPins$Evening" "followings" "I", Cond.fieldLink RX2 85 "HatPins$Evening" "follower" "[I", Cond.fieldLink RX2 88 "HatPins$Evening" "leader" "[I", Cond.fieldLink RX2 91 "HatPins$Evening" "gap" "[I", Cond.methodLink RX2 94 Lib.Math.min.name]
def wsX4_dull : List Cond := .code yX4_dull cX4_dull 2 (some .int) :: ((wsX4_dull_r1 ++ (wsX4_dull_r2 ++ wsX4_dull_r3)) ++ wsX40 ++ wsX20 ++ wsX00)
def wsX4_quiet_r1 : List Cond := [Cond.fieldLink RX4 33 "HatPins" "trial" "LHatPins$Standing;", Cond.fieldLink RX4 29 "HatPins" "now" "LHatPins$Standing;", Cond.fieldLink RX4 19 "HatPins" "laid" "LHatPins$Evening;", Cond.methodLink RX4 177 Lib.Math.max.name, Cond.static Lib.Math.max.name, Cond.initialized "java/lang/Math", Cond.code Lib.Math.max.name Lib.Math.max.code 2 (some .int), Cond.methodLink RX4 162 yX2_copyOf, Cond.instanceMethod yX2_copyOf, Cond.selects RX2 yX2_copyOf yX2_copyOf, Cond.initialized RX2, Cond.code yX2_copyOf cX2_copyOf 2 none, Cond.fieldLink RX2 24 "HatPins$Standing" "minute" "I", Cond.fieldLink RX2 28 "HatPins$Standing" "had" "I", Cond.fieldLink RX2 9 "HatPins$Standing" "state" "[I", Cond.methodLink RX2 38 arraycopyName, Cond.native arraycopyName, Cond.static arraycopyName, Cond.initialized "java/lang/System", Cond.fieldLink RX2 15 "HatPins$Standing" "due" "[I", Cond.fieldLink RX2 18 "HatPins$Standing" "began" "[I", Cond.fieldLink RX2 21 "HatPins$Standing" "pins" "[I", Cond.methodLink RX4 168 yX2_beginDue, Cond.instanceMethod yX2_beginDue]
def wsX4_quiet_r2 : List Cond := [Cond.selects RX2 yX2_beginDue yX2_beginDue, Cond.code yX2_beginDue cX2_beginDue 3 none, Cond.fieldLink RX2 55 "HatPins$Evening" "goings" "I", Cond.methodLink RX4 165 yX2_onBits, Cond.instanceMethod yX2_onBits, Cond.selects RX2 yX2_onBits yX2_onBits, Cond.code yX2_onBits cX2_onBits 4 (some .int), Cond.methodLink RX4 174 yX2_endMinute, Cond.instanceMethod yX2_endMinute, Cond.selects RX2 yX2_endMinute yX2_endMinute, Cond.code yX2_endMinute cX2_endMinute 3 none, Cond.fieldLink RX2 75 "HatPins$Evening" "minutes" "[I", Cond.methodLink RX2 78 yX2_finish, Cond.instanceMethod yX2_finish, Cond.selects RX2 yX2_finish yX2_finish, Cond.code yX2_finish cX2_finish 6 none, Cond.fieldLink RX2 82 "HatPins$Evening" "followings" "I", Cond.fieldLink RX2 85 "HatPins$Evening" "follower" "[I", Cond.fieldLink RX2 88 "HatPins$Evening" "leader" "[I", Cond.fieldLink RX2 91 "HatPins$Evening" "gap" "[I", Cond.methodLink RX2 94 Lib.Math.min.name, Cond.static Lib.Math.min.name, Cond.code Lib.Math.min.name Lib.Math.min.code 2 (some .int)]
def wsX4_quiet : List Cond := .code yX4_quiet cX4_quiet 4 (some .int) :: ((wsX4_quiet_r1 ++ wsX4_quiet_r2) ++ wsX40 ++ wsX20 ++ wsX00)
def wsX4_hadAsItIs_r1 : List Cond := [Cond.fieldLink RX4 33 "HatPins" "trial" "LHatPins$Standing;", Cond.fieldLink RX4 29 "HatPins" "now" "LHatPins$Standing;", Cond.fieldLink RX4 19 "HatPins" "laid" "LHatPins$Evening;", Cond.fieldLink RX4 140 "HatPins$Standing" "had" "I", Cond.methodLink RX4 162 yX2_copyOf, Cond.instanceMethod yX2_copyOf, Cond.selects RX2 yX2_copyOf yX2_copyOf, Cond.initialized RX2, Cond.code yX2_copyOf cX2_copyOf 2 none, Cond.fieldLink RX2 24 "HatPins$Standing" "minute" "I", Cond.fieldLink RX2 28 "HatPins$Standing" "had" "I", Cond.fieldLink RX2 9 "HatPins$Standing" "state" "[I", Cond.methodLink RX2 38 arraycopyName, Cond.native arraycopyName, Cond.static arraycopyName, Cond.initialized "java/lang/System", Cond.fieldLink RX2 15 "HatPins$Standing" "due" "[I", Cond.fieldLink RX2 18 "HatPins$Standing" "began" "[I", Cond.fieldLink RX2 21 "HatPins$Standing" "pins" "[I", Cond.methodLink RX4 136 yX2_goBy, Cond.instanceMethod yX2_goBy, Cond.selects RX2 yX2_goBy yX2_goBy, Cond.code yX2_goBy cX2_goBy 4 none, Cond.methodLink RX2 44 yX2_beginDue]
def wsX4_hadAsItIs_r2 : List Cond := [Cond.instanceMethod yX2_beginDue, Cond.selects RX2 yX2_beginDue yX2_beginDue, Cond.code yX2_beginDue cX2_beginDue 3 none, Cond.fieldLink RX2 55 "HatPins$Evening" "goings" "I", Cond.methodLink RX2 48 yX2_worthOfAll, Cond.instanceMethod yX2_worthOfAll, Cond.selects RX2 yX2_worthOfAll yX2_worthOfAll, Cond.code yX2_worthOfAll cX2_worthOfAll 4 (some .int), Cond.methodLink RX2 58 yX2_worthOf, Cond.instanceMethod yX2_worthOf, Cond.selects RX2 yX2_worthOf yX2_worthOf, Cond.code yX2_worthOf cX2_worthOf 3 (some .int), Cond.fieldLink RX2 62 "HatPins$Evening" "kind" "[I", Cond.fieldLink RX2 65 "HatPins$Evening" "interest" "[I", Cond.fieldLink RX2 68 "HatPins$Evening" "wane" "[I", Cond.static yX4_worth, Cond.initialized RX4, Cond.code yX4_worth cX4_worth 5 (some .int), Cond.methodLink RX4 246 Lib.Math.min.name, Cond.static Lib.Math.min.name, Cond.initialized "java/lang/Math", Cond.code Lib.Math.min.name Lib.Math.min.code 2 (some .int), Cond.methodLink RX4 177 Lib.Math.max.name, Cond.static Lib.Math.max.name]
def wsX4_hadAsItIs_r3 : List Cond := [Cond.code Lib.Math.max.name Lib.Math.max.code 2 (some .int), Cond.methodLink RX2 52 yX2_endMinute, Cond.instanceMethod yX2_endMinute, Cond.selects RX2 yX2_endMinute yX2_endMinute, Cond.code yX2_endMinute cX2_endMinute 3 none, Cond.fieldLink RX2 75 "HatPins$Evening" "minutes" "[I", Cond.methodLink RX2 78 yX2_finish, Cond.instanceMethod yX2_finish, Cond.selects RX2 yX2_finish yX2_finish, Cond.code yX2_finish cX2_finish 6 none, Cond.fieldLink RX2 82 "HatPins$Evening" "followings" "I", Cond.fieldLink RX2 85 "HatPins$Evening" "follower" "[I", Cond.fieldLink RX2 88 "HatPins$Evening" "leader" "[I", Cond.fieldLink RX2 91 "HatPins$Evening" "gap" "[I", Cond.methodLink RX2 94 Lib.Math.min.name]
def wsX4_hadAsItIs : List Cond := .code yX4_hadAsItIs cX4_hadAsItIs 1 (some .int) :: ((wsX4_hadAsItIs_r1 ++ (wsX4_hadAsItIs_r2 ++ wsX4_hadAsItIs_r3)) ++ wsX40 ++ wsX20 ++ wsX00)
def wsX4_hadStopping_r1 : List Cond := [Cond.fieldLink RX4 33 "HatPins" "trial" "LHatPins$Standing;", Cond.fieldLink RX4 29 "HatPins" "now" "LHatPins$Standing;", Cond.fieldLink RX4 19 "HatPins" "laid" "LHatPins$Evening;", Cond.fieldLink RX4 106 "HatPins$Standing" "state" "[I", Cond.fieldLink RX4 140 "HatPins$Standing" "had" "I", Cond.methodLink RX4 162 yX2_copyOf, Cond.instanceMethod yX2_copyOf, Cond.selects RX2 yX2_copyOf yX2_copyOf, Cond.initialized RX2, Cond.code yX2_copyOf cX2_copyOf 2 none, Cond.fieldLink RX2 24 "HatPins$Standing" "minute" "I", Cond.fieldLink RX2 28 "HatPins$Standing" "had" "I", Cond.fieldLink RX2 9 "HatPins$Standing" "state" "[I", Cond.methodLink RX2 38 arraycopyName, Cond.native arraycopyName, Cond.static arraycopyName, Cond.initialized "java/lang/System", Cond.fieldLink RX2 15 "HatPins$Standing" "due" "[I", Cond.fieldLink RX2 18 "HatPins$Standing" "began" "[I", Cond.fieldLink RX2 21 "HatPins$Standing" "pins" "[I", Cond.methodLink RX4 136 yX2_goBy, Cond.instanceMethod yX2_goBy, Cond.selects RX2 yX2_goBy yX2_goBy, Cond.code yX2_goBy cX2_goBy 4 none]
def wsX4_hadStopping_r2 : List Cond := [Cond.methodLink RX2 44 yX2_beginDue, Cond.instanceMethod yX2_beginDue, Cond.selects RX2 yX2_beginDue yX2_beginDue, Cond.code yX2_beginDue cX2_beginDue 3 none, Cond.fieldLink RX2 55 "HatPins$Evening" "goings" "I", Cond.methodLink RX2 48 yX2_worthOfAll, Cond.instanceMethod yX2_worthOfAll, Cond.selects RX2 yX2_worthOfAll yX2_worthOfAll, Cond.code yX2_worthOfAll cX2_worthOfAll 4 (some .int), Cond.methodLink RX2 58 yX2_worthOf, Cond.instanceMethod yX2_worthOf, Cond.selects RX2 yX2_worthOf yX2_worthOf, Cond.code yX2_worthOf cX2_worthOf 3 (some .int), Cond.fieldLink RX2 62 "HatPins$Evening" "kind" "[I", Cond.fieldLink RX2 65 "HatPins$Evening" "interest" "[I", Cond.fieldLink RX2 68 "HatPins$Evening" "wane" "[I", Cond.static yX4_worth, Cond.initialized RX4, Cond.code yX4_worth cX4_worth 5 (some .int), Cond.methodLink RX4 246 Lib.Math.min.name, Cond.static Lib.Math.min.name, Cond.initialized "java/lang/Math", Cond.code Lib.Math.min.name Lib.Math.min.code 2 (some .int), Cond.methodLink RX4 177 Lib.Math.max.name]
def wsX4_hadStopping_r3 : List Cond := [Cond.static Lib.Math.max.name, Cond.code Lib.Math.max.name Lib.Math.max.code 2 (some .int), Cond.methodLink RX2 52 yX2_endMinute, Cond.instanceMethod yX2_endMinute, Cond.selects RX2 yX2_endMinute yX2_endMinute, Cond.code yX2_endMinute cX2_endMinute 3 none, Cond.fieldLink RX2 75 "HatPins$Evening" "minutes" "[I", Cond.methodLink RX2 78 yX2_finish, Cond.instanceMethod yX2_finish, Cond.selects RX2 yX2_finish yX2_finish, Cond.code yX2_finish cX2_finish 6 none, Cond.fieldLink RX2 82 "HatPins$Evening" "followings" "I", Cond.fieldLink RX2 85 "HatPins$Evening" "follower" "[I", Cond.fieldLink RX2 88 "HatPins$Evening" "leader" "[I", Cond.fieldLink RX2 91 "HatPins$Evening" "gap" "[I", Cond.methodLink RX2 94 Lib.Math.min.name, Cond.methodLink RX4 231 yX2_finish]
def wsX4_hadStopping : List Cond := .code yX4_hadStopping cX4_hadStopping 4 (some .int) :: ((wsX4_hadStopping_r1 ++ (wsX4_hadStopping_r2 ++ wsX4_hadStopping_r3)) ++ wsX40 ++ wsX20 ++ wsX00)
def wsX4_whichOrHad : List Cond := .code yX4_whichOrHad cX4_whichOrHad 3 (some .int) :: ([])
def wsX4_stop_r1 : List Cond := [Cond.fieldLink RX4 29 "HatPins" "now" "LHatPins$Standing;", Cond.fieldLink RX4 106 "HatPins$Standing" "state" "[I", Cond.methodLink RX4 91 yX4_isGoing, Cond.instanceMethod yX4_isGoing, Cond.selects RX4 yX4_isGoing yX4_isGoing, Cond.initialized RX4, Cond.code yX4_isGoing cX4_isGoing 2 (some .boolean), Cond.fieldLink RX4 19 "HatPins" "laid" "LHatPins$Evening;", Cond.fieldLink RX4 82 "HatPins$Evening" "goings" "I", Cond.methodLink RX4 159 yX4_isEither, Cond.static yX4_isEither, Cond.code yX4_isEither cX4_isEither 1 (some .boolean), Cond.methodLink RX4 183 yX4_hadAsItIs, Cond.instanceMethod yX4_hadAsItIs, Cond.selects RX4 yX4_hadAsItIs yX4_hadAsItIs, Cond.code yX4_hadAsItIs cX4_hadAsItIs 1 (some .int), Cond.fieldLink RX4 33 "HatPins" "trial" "LHatPins$Standing;", Cond.fieldLink RX4 140 "HatPins$Standing" "had" "I", Cond.methodLink RX4 162 yX2_copyOf, Cond.instanceMethod yX2_copyOf, Cond.selects RX2 yX2_copyOf yX2_copyOf, Cond.initialized RX2, Cond.code yX2_copyOf cX2_copyOf 2 none, Cond.fieldLink RX2 24 "HatPins$Standing" "minute" "I"]
def wsX4_stop_r2 : List Cond := [Cond.fieldLink RX2 28 "HatPins$Standing" "had" "I", Cond.fieldLink RX2 9 "HatPins$Standing" "state" "[I", Cond.methodLink RX2 38 arraycopyName, Cond.native arraycopyName, Cond.static arraycopyName, Cond.initialized "java/lang/System", Cond.fieldLink RX2 15 "HatPins$Standing" "due" "[I", Cond.fieldLink RX2 18 "HatPins$Standing" "began" "[I", Cond.fieldLink RX2 21 "HatPins$Standing" "pins" "[I", Cond.methodLink RX4 136 yX2_goBy, Cond.instanceMethod yX2_goBy, Cond.selects RX2 yX2_goBy yX2_goBy, Cond.code yX2_goBy cX2_goBy 4 none, Cond.methodLink RX2 44 yX2_beginDue, Cond.instanceMethod yX2_beginDue, Cond.selects RX2 yX2_beginDue yX2_beginDue, Cond.code yX2_beginDue cX2_beginDue 3 none, Cond.fieldLink RX2 55 "HatPins$Evening" "goings" "I", Cond.methodLink RX2 48 yX2_worthOfAll, Cond.instanceMethod yX2_worthOfAll, Cond.selects RX2 yX2_worthOfAll yX2_worthOfAll, Cond.code yX2_worthOfAll cX2_worthOfAll 4 (some .int), Cond.methodLink RX2 58 yX2_worthOf, Cond.instanceMethod yX2_worthOf]
def wsX4_stop_r3 : List Cond := [Cond.selects RX2 yX2_worthOf yX2_worthOf, Cond.code yX2_worthOf cX2_worthOf 3 (some .int), Cond.fieldLink RX2 62 "HatPins$Evening" "kind" "[I", Cond.fieldLink RX2 65 "HatPins$Evening" "interest" "[I", Cond.fieldLink RX2 68 "HatPins$Evening" "wane" "[I", Cond.static yX4_worth, Cond.code yX4_worth cX4_worth 5 (some .int), Cond.methodLink RX4 246 Lib.Math.min.name, Cond.static Lib.Math.min.name, Cond.initialized "java/lang/Math", Cond.code Lib.Math.min.name Lib.Math.min.code 2 (some .int), Cond.methodLink RX4 177 Lib.Math.max.name, Cond.static Lib.Math.max.name, Cond.code Lib.Math.max.name Lib.Math.max.code 2 (some .int), Cond.methodLink RX2 52 yX2_endMinute, Cond.instanceMethod yX2_endMinute, Cond.selects RX2 yX2_endMinute yX2_endMinute, Cond.code yX2_endMinute cX2_endMinute 3 none, Cond.fieldLink RX2 75 "HatPins$Evening" "minutes" "[I", Cond.methodLink RX2 78 yX2_finish, Cond.instanceMethod yX2_finish, Cond.selects RX2 yX2_finish yX2_finish, Cond.code yX2_finish cX2_finish 6 none, Cond.fieldLink RX2 82 "HatPins$Evening" "followings" "I"]
def wsX4_stop_r4 : List Cond := [Cond.fieldLink RX2 85 "HatPins$Evening" "follower" "[I", Cond.fieldLink RX2 88 "HatPins$Evening" "leader" "[I", Cond.fieldLink RX2 91 "HatPins$Evening" "gap" "[I", Cond.methodLink RX2 94 Lib.Math.min.name, Cond.methodLink RX4 186 yX4_hadStopping, Cond.instanceMethod yX4_hadStopping, Cond.selects RX4 yX4_hadStopping yX4_hadStopping, Cond.code yX4_hadStopping cX4_hadStopping 4 (some .int), Cond.methodLink RX4 231 yX2_finish, Cond.methodLink RX4 189 yX4_whichOrHad, Cond.static yX4_whichOrHad, Cond.code yX4_whichOrHad cX4_whichOrHad 3 (some .int)]
def wsX4_stop : List Cond := .code yX4_stop cX4_stop 7 (some .int) :: ((wsX4_stop_r1 ++ (wsX4_stop_r2 ++ (wsX4_stop_r3 ++ wsX4_stop_r4))) ++ wsX40 ++ wsX20 ++ wsX00)
def wsX4_hadPinning_r1 : List Cond := [Cond.fieldLink RX4 33 "HatPins" "trial" "LHatPins$Standing;", Cond.fieldLink RX4 29 "HatPins" "now" "LHatPins$Standing;", Cond.fieldLink RX4 19 "HatPins" "laid" "LHatPins$Evening;", Cond.fieldLink RX4 82 "HatPins$Evening" "goings" "I", Cond.fieldLink RX4 140 "HatPins$Standing" "had" "I", Cond.methodLink RX4 162 yX2_copyOf, Cond.instanceMethod yX2_copyOf, Cond.selects RX2 yX2_copyOf yX2_copyOf, Cond.initialized RX2, Cond.code yX2_copyOf cX2_copyOf 2 none, Cond.fieldLink RX2 24 "HatPins$Standing" "minute" "I", Cond.fieldLink RX2 28 "HatPins$Standing" "had" "I", Cond.fieldLink RX2 9 "HatPins$Standing" "state" "[I", Cond.methodLink RX2 38 arraycopyName, Cond.native arraycopyName, Cond.static arraycopyName, Cond.initialized "java/lang/System", Cond.fieldLink RX2 15 "HatPins$Standing" "due" "[I", Cond.fieldLink RX2 18 "HatPins$Standing" "began" "[I", Cond.fieldLink RX2 21 "HatPins$Standing" "pins" "[I", Cond.methodLink RX4 231 yX2_finish, Cond.instanceMethod yX2_finish, Cond.selects RX2 yX2_finish yX2_finish, Cond.code yX2_finish cX2_finish 6 none]
def wsX4_hadPinning_r2 : List Cond := [Cond.fieldLink RX2 82 "HatPins$Evening" "followings" "I", Cond.fieldLink RX2 85 "HatPins$Evening" "follower" "[I", Cond.fieldLink RX2 88 "HatPins$Evening" "leader" "[I", Cond.fieldLink RX2 91 "HatPins$Evening" "gap" "[I", Cond.methodLink RX2 94 Lib.Math.min.name, Cond.static Lib.Math.min.name, Cond.initialized "java/lang/Math", Cond.code Lib.Math.min.name Lib.Math.min.code 2 (some .int), Cond.methodLink RX4 136 yX2_goBy, Cond.instanceMethod yX2_goBy, Cond.selects RX2 yX2_goBy yX2_goBy, Cond.code yX2_goBy cX2_goBy 4 none, Cond.methodLink RX2 44 yX2_beginDue, Cond.instanceMethod yX2_beginDue, Cond.selects RX2 yX2_beginDue yX2_beginDue, Cond.code yX2_beginDue cX2_beginDue 3 none, Cond.fieldLink RX2 55 "HatPins$Evening" "goings" "I", Cond.methodLink RX2 48 yX2_worthOfAll, Cond.instanceMethod yX2_worthOfAll, Cond.selects RX2 yX2_worthOfAll yX2_worthOfAll, Cond.code yX2_worthOfAll cX2_worthOfAll 4 (some .int), Cond.methodLink RX2 58 yX2_worthOf, Cond.instanceMethod yX2_worthOf, Cond.selects RX2 yX2_worthOf yX2_worthOf]
def wsX4_hadPinning_r3 : List Cond := [Cond.code yX2_worthOf cX2_worthOf 3 (some .int), Cond.fieldLink RX2 62 "HatPins$Evening" "kind" "[I", Cond.fieldLink RX2 65 "HatPins$Evening" "interest" "[I", Cond.fieldLink RX2 68 "HatPins$Evening" "wane" "[I", Cond.static yX4_worth, Cond.initialized RX4, Cond.code yX4_worth cX4_worth 5 (some .int), Cond.methodLink RX4 246 Lib.Math.min.name, Cond.methodLink RX4 177 Lib.Math.max.name, Cond.static Lib.Math.max.name, Cond.code Lib.Math.max.name Lib.Math.max.code 2 (some .int), Cond.methodLink RX2 52 yX2_endMinute, Cond.instanceMethod yX2_endMinute, Cond.selects RX2 yX2_endMinute yX2_endMinute, Cond.code yX2_endMinute cX2_endMinute 3 none, Cond.fieldLink RX2 75 "HatPins$Evening" "minutes" "[I", Cond.methodLink RX2 78 yX2_finish]
def wsX4_hadPinning : List Cond := .code yX4_hadPinning cX4_hadPinning 3 (some .int) :: ((wsX4_hadPinning_r1 ++ (wsX4_hadPinning_r2 ++ wsX4_hadPinning_r3)) ++ wsX40 ++ wsX00 ++ wsX20)
def wsX4_best_r1 : List Cond := [Cond.fieldLink RX4 19 "HatPins" "laid" "LHatPins$Evening;", Cond.fieldLink RX4 193 "HatPins$Evening" "ladies" "I", Cond.fieldLink RX4 82 "HatPins$Evening" "goings" "I", Cond.fieldLink RX4 29 "HatPins" "now" "LHatPins$Standing;", Cond.methodLink RX4 159 yX4_isEither, Cond.static yX4_isEither, Cond.initialized RX4, Cond.code yX4_isEither cX4_isEither 1 (some .boolean), Cond.methodLink RX4 183 yX4_hadAsItIs, Cond.instanceMethod yX4_hadAsItIs, Cond.selects RX4 yX4_hadAsItIs yX4_hadAsItIs, Cond.code yX4_hadAsItIs cX4_hadAsItIs 1 (some .int), Cond.fieldLink RX4 33 "HatPins" "trial" "LHatPins$Standing;", Cond.fieldLink RX4 140 "HatPins$Standing" "had" "I", Cond.methodLink RX4 162 yX2_copyOf, Cond.instanceMethod yX2_copyOf, Cond.selects RX2 yX2_copyOf yX2_copyOf, Cond.initialized RX2, Cond.code yX2_copyOf cX2_copyOf 2 none, Cond.fieldLink RX2 24 "HatPins$Standing" "minute" "I", Cond.fieldLink RX2 28 "HatPins$Standing" "had" "I", Cond.fieldLink RX2 9 "HatPins$Standing" "state" "[I", Cond.methodLink RX2 38 arraycopyName, Cond.native arraycopyName]
def wsX4_best_r2 : List Cond := [Cond.static arraycopyName, Cond.initialized "java/lang/System", Cond.fieldLink RX2 15 "HatPins$Standing" "due" "[I", Cond.fieldLink RX2 18 "HatPins$Standing" "began" "[I", Cond.fieldLink RX2 21 "HatPins$Standing" "pins" "[I", Cond.methodLink RX4 136 yX2_goBy, Cond.instanceMethod yX2_goBy, Cond.selects RX2 yX2_goBy yX2_goBy, Cond.code yX2_goBy cX2_goBy 4 none, Cond.methodLink RX2 44 yX2_beginDue, Cond.instanceMethod yX2_beginDue, Cond.selects RX2 yX2_beginDue yX2_beginDue, Cond.code yX2_beginDue cX2_beginDue 3 none, Cond.fieldLink RX2 55 "HatPins$Evening" "goings" "I", Cond.methodLink RX2 48 yX2_worthOfAll, Cond.instanceMethod yX2_worthOfAll, Cond.selects RX2 yX2_worthOfAll yX2_worthOfAll, Cond.code yX2_worthOfAll cX2_worthOfAll 4 (some .int), Cond.methodLink RX2 58 yX2_worthOf, Cond.instanceMethod yX2_worthOf, Cond.selects RX2 yX2_worthOf yX2_worthOf, Cond.code yX2_worthOf cX2_worthOf 3 (some .int), Cond.fieldLink RX2 62 "HatPins$Evening" "kind" "[I", Cond.fieldLink RX2 65 "HatPins$Evening" "interest" "[I"]
def wsX4_best_r3 : List Cond := [Cond.fieldLink RX2 68 "HatPins$Evening" "wane" "[I", Cond.static yX4_worth, Cond.code yX4_worth cX4_worth 5 (some .int), Cond.methodLink RX4 246 Lib.Math.min.name, Cond.static Lib.Math.min.name, Cond.initialized "java/lang/Math", Cond.code Lib.Math.min.name Lib.Math.min.code 2 (some .int), Cond.methodLink RX4 177 Lib.Math.max.name, Cond.static Lib.Math.max.name, Cond.code Lib.Math.max.name Lib.Math.max.code 2 (some .int), Cond.methodLink RX2 52 yX2_endMinute, Cond.instanceMethod yX2_endMinute, Cond.selects RX2 yX2_endMinute yX2_endMinute, Cond.code yX2_endMinute cX2_endMinute 3 none, Cond.fieldLink RX2 75 "HatPins$Evening" "minutes" "[I", Cond.methodLink RX2 78 yX2_finish, Cond.instanceMethod yX2_finish, Cond.selects RX2 yX2_finish yX2_finish, Cond.code yX2_finish cX2_finish 6 none, Cond.fieldLink RX2 82 "HatPins$Evening" "followings" "I", Cond.fieldLink RX2 85 "HatPins$Evening" "follower" "[I", Cond.fieldLink RX2 88 "HatPins$Evening" "leader" "[I", Cond.fieldLink RX2 91 "HatPins$Evening" "gap" "[I", Cond.methodLink RX2 94 Lib.Math.min.name]
def wsX4_best_r4 : List Cond := [Cond.methodLink RX4 143 yX2_canPin, Cond.instanceMethod yX2_canPin, Cond.selects RX2 yX2_canPin yX2_canPin, Cond.code yX2_canPin cX2_canPin 5 (some .boolean), Cond.fieldLink RX2 100 "HatPins$Evening" "reach" "[I", Cond.methodLink RX4 196 yX4_hadPinning, Cond.instanceMethod yX4_hadPinning, Cond.selects RX4 yX4_hadPinning yX4_hadPinning, Cond.code yX4_hadPinning cX4_hadPinning 3 (some .int), Cond.methodLink RX4 231 yX2_finish, Cond.methodLink RX4 189 yX4_whichOrHad, Cond.static yX4_whichOrHad, Cond.code yX4_whichOrHad cX4_whichOrHad 3 (some .int)]
def wsX4_best : List Cond := .code yX4_best cX4_best 7 (some .int) :: ((wsX4_best_r1 ++ (wsX4_best_r2 ++ (wsX4_best_r3 ++ wsX4_best_r4))) ++ wsX40 ++ wsX00 ++ wsX20)
def wsX4_both_r1 : List Cond := [Cond.fieldLink RX4 19 "HatPins" "laid" "LHatPins$Evening;", Cond.fieldLink RX4 82 "HatPins$Evening" "goings" "I", Cond.fieldLink RX4 29 "HatPins" "now" "LHatPins$Standing;", Cond.fieldLink RX4 106 "HatPins$Standing" "state" "[I", Cond.methodLink RX4 159 yX4_isEither, Cond.static yX4_isEither, Cond.initialized RX4, Cond.code yX4_isEither cX4_isEither 1 (some .boolean), Cond.methodLink RX4 196 yX4_hadPinning, Cond.instanceMethod yX4_hadPinning, Cond.selects RX4 yX4_hadPinning yX4_hadPinning, Cond.code yX4_hadPinning cX4_hadPinning 3 (some .int), Cond.fieldLink RX4 33 "HatPins" "trial" "LHatPins$Standing;", Cond.fieldLink RX4 140 "HatPins$Standing" "had" "I", Cond.methodLink RX4 162 yX2_copyOf, Cond.instanceMethod yX2_copyOf, Cond.selects RX2 yX2_copyOf yX2_copyOf, Cond.initialized RX2, Cond.code yX2_copyOf cX2_copyOf 2 none, Cond.fieldLink RX2 24 "HatPins$Standing" "minute" "I", Cond.fieldLink RX2 28 "HatPins$Standing" "had" "I", Cond.fieldLink RX2 9 "HatPins$Standing" "state" "[I", Cond.methodLink RX2 38 arraycopyName, Cond.native arraycopyName]
def wsX4_both_r2 : List Cond := [Cond.static arraycopyName, Cond.initialized "java/lang/System", Cond.fieldLink RX2 15 "HatPins$Standing" "due" "[I", Cond.fieldLink RX2 18 "HatPins$Standing" "began" "[I", Cond.fieldLink RX2 21 "HatPins$Standing" "pins" "[I", Cond.methodLink RX4 231 yX2_finish, Cond.instanceMethod yX2_finish, Cond.selects RX2 yX2_finish yX2_finish, Cond.code yX2_finish cX2_finish 6 none, Cond.fieldLink RX2 82 "HatPins$Evening" "followings" "I", Cond.fieldLink RX2 85 "HatPins$Evening" "follower" "[I", Cond.fieldLink RX2 88 "HatPins$Evening" "leader" "[I", Cond.fieldLink RX2 91 "HatPins$Evening" "gap" "[I", Cond.methodLink RX2 94 Lib.Math.min.name, Cond.static Lib.Math.min.name, Cond.initialized "java/lang/Math", Cond.code Lib.Math.min.name Lib.Math.min.code 2 (some .int), Cond.methodLink RX4 136 yX2_goBy, Cond.instanceMethod yX2_goBy, Cond.selects RX2 yX2_goBy yX2_goBy, Cond.code yX2_goBy cX2_goBy 4 none, Cond.methodLink RX2 44 yX2_beginDue, Cond.instanceMethod yX2_beginDue, Cond.selects RX2 yX2_beginDue yX2_beginDue]
def wsX4_both_r3 : List Cond := [Cond.code yX2_beginDue cX2_beginDue 3 none, Cond.fieldLink RX2 55 "HatPins$Evening" "goings" "I", Cond.methodLink RX2 48 yX2_worthOfAll, Cond.instanceMethod yX2_worthOfAll, Cond.selects RX2 yX2_worthOfAll yX2_worthOfAll, Cond.code yX2_worthOfAll cX2_worthOfAll 4 (some .int), Cond.methodLink RX2 58 yX2_worthOf, Cond.instanceMethod yX2_worthOf, Cond.selects RX2 yX2_worthOf yX2_worthOf, Cond.code yX2_worthOf cX2_worthOf 3 (some .int), Cond.fieldLink RX2 62 "HatPins$Evening" "kind" "[I", Cond.fieldLink RX2 65 "HatPins$Evening" "interest" "[I", Cond.fieldLink RX2 68 "HatPins$Evening" "wane" "[I", Cond.static yX4_worth, Cond.code yX4_worth cX4_worth 5 (some .int), Cond.methodLink RX4 246 Lib.Math.min.name, Cond.methodLink RX4 177 Lib.Math.max.name, Cond.static Lib.Math.max.name, Cond.code Lib.Math.max.name Lib.Math.max.code 2 (some .int), Cond.methodLink RX2 52 yX2_endMinute, Cond.instanceMethod yX2_endMinute, Cond.selects RX2 yX2_endMinute yX2_endMinute, Cond.code yX2_endMinute cX2_endMinute 3 none, Cond.fieldLink RX2 75 "HatPins$Evening" "minutes" "[I"]
def wsX4_both_r4 : List Cond := [Cond.methodLink RX2 78 yX2_finish, Cond.methodLink RX4 189 yX4_whichOrHad, Cond.static yX4_whichOrHad, Cond.code yX4_whichOrHad cX4_whichOrHad 3 (some .int)]
def wsX4_both : List Cond := .code yX4_both cX4_both 7 (some .int) :: ((wsX4_both_r1 ++ (wsX4_both_r2 ++ (wsX4_both_r3 ++ wsX4_both_r4))) ++ wsX40 ++ wsX00 ++ wsX20)
def wsX4_hadWithout_r1 : List Cond := [Cond.fieldLink RX4 33 "HatPins" "trial" "LHatPins$Standing;", Cond.fieldLink RX4 29 "HatPins" "now" "LHatPins$Standing;", Cond.fieldLink RX4 106 "HatPins$Standing" "state" "[I", Cond.fieldLink RX4 19 "HatPins" "laid" "LHatPins$Evening;", Cond.fieldLink RX4 140 "HatPins$Standing" "had" "I", Cond.methodLink RX4 162 yX2_copyOf, Cond.instanceMethod yX2_copyOf, Cond.selects RX2 yX2_copyOf yX2_copyOf, Cond.initialized RX2, Cond.code yX2_copyOf cX2_copyOf 2 none, Cond.fieldLink RX2 24 "HatPins$Standing" "minute" "I", Cond.fieldLink RX2 28 "HatPins$Standing" "had" "I", Cond.fieldLink RX2 9 "HatPins$Standing" "state" "[I", Cond.methodLink RX2 38 arraycopyName, Cond.native arraycopyName, Cond.static arraycopyName, Cond.initialized "java/lang/System", Cond.fieldLink RX2 15 "HatPins$Standing" "due" "[I", Cond.fieldLink RX2 18 "HatPins$Standing" "began" "[I", Cond.fieldLink RX2 21 "HatPins$Standing" "pins" "[I", Cond.methodLink RX4 136 yX2_goBy, Cond.instanceMethod yX2_goBy, Cond.selects RX2 yX2_goBy yX2_goBy, Cond.code yX2_goBy cX2_goBy 4 none]
def wsX4_hadWithout_r2 : List Cond := [Cond.methodLink RX2 44 yX2_beginDue, Cond.instanceMethod yX2_beginDue, Cond.selects RX2 yX2_beginDue yX2_beginDue, Cond.code yX2_beginDue cX2_beginDue 3 none, Cond.fieldLink RX2 55 "HatPins$Evening" "goings" "I", Cond.methodLink RX2 48 yX2_worthOfAll, Cond.instanceMethod yX2_worthOfAll, Cond.selects RX2 yX2_worthOfAll yX2_worthOfAll, Cond.code yX2_worthOfAll cX2_worthOfAll 4 (some .int), Cond.methodLink RX2 58 yX2_worthOf, Cond.instanceMethod yX2_worthOf, Cond.selects RX2 yX2_worthOf yX2_worthOf, Cond.code yX2_worthOf cX2_worthOf 3 (some .int), Cond.fieldLink RX2 62 "HatPins$Evening" "kind" "[I", Cond.fieldLink RX2 65 "HatPins$Evening" "interest" "[I", Cond.fieldLink RX2 68 "HatPins$Evening" "wane" "[I", Cond.static yX4_worth, Cond.initialized RX4, Cond.code yX4_worth cX4_worth 5 (some .int), Cond.methodLink RX4 246 Lib.Math.min.name, Cond.static Lib.Math.min.name, Cond.initialized "java/lang/Math", Cond.code Lib.Math.min.name Lib.Math.min.code 2 (some .int), Cond.methodLink RX4 177 Lib.Math.max.name]
def wsX4_hadWithout_r3 : List Cond := [Cond.static Lib.Math.max.name, Cond.code Lib.Math.max.name Lib.Math.max.code 2 (some .int), Cond.methodLink RX2 52 yX2_endMinute, Cond.instanceMethod yX2_endMinute, Cond.selects RX2 yX2_endMinute yX2_endMinute, Cond.code yX2_endMinute cX2_endMinute 3 none, Cond.fieldLink RX2 75 "HatPins$Evening" "minutes" "[I", Cond.methodLink RX2 78 yX2_finish, Cond.instanceMethod yX2_finish, Cond.selects RX2 yX2_finish yX2_finish, Cond.code yX2_finish cX2_finish 6 none, Cond.fieldLink RX2 82 "HatPins$Evening" "followings" "I", Cond.fieldLink RX2 85 "HatPins$Evening" "follower" "[I", Cond.fieldLink RX2 88 "HatPins$Evening" "leader" "[I", Cond.fieldLink RX2 91 "HatPins$Evening" "gap" "[I", Cond.methodLink RX2 94 Lib.Math.min.name]
def wsX4_hadWithout : List Cond := .code yX4_hadWithout cX4_hadWithout 2 (some .int) :: ((wsX4_hadWithout_r1 ++ (wsX4_hadWithout_r2 ++ wsX4_hadWithout_r3)) ++ wsX40 ++ wsX20 ++ wsX00)
def wsX4_never_r1 : List Cond := [Cond.fieldLink RX4 19 "HatPins" "laid" "LHatPins$Evening;", Cond.fieldLink RX4 82 "HatPins$Evening" "goings" "I", Cond.fieldLink RX4 29 "HatPins" "now" "LHatPins$Standing;", Cond.fieldLink RX4 106 "HatPins$Standing" "state" "[I", Cond.methodLink RX4 159 yX4_isEither, Cond.static yX4_isEither, Cond.initialized RX4, Cond.code yX4_isEither cX4_isEither 1 (some .boolean), Cond.methodLink RX4 183 yX4_hadAsItIs, Cond.instanceMethod yX4_hadAsItIs, Cond.selects RX4 yX4_hadAsItIs yX4_hadAsItIs, Cond.code yX4_hadAsItIs cX4_hadAsItIs 1 (some .int), Cond.fieldLink RX4 33 "HatPins" "trial" "LHatPins$Standing;", Cond.fieldLink RX4 140 "HatPins$Standing" "had" "I", Cond.methodLink RX4 162 yX2_copyOf, Cond.instanceMethod yX2_copyOf, Cond.selects RX2 yX2_copyOf yX2_copyOf, Cond.initialized RX2, Cond.code yX2_copyOf cX2_copyOf 2 none, Cond.fieldLink RX2 24 "HatPins$Standing" "minute" "I", Cond.fieldLink RX2 28 "HatPins$Standing" "had" "I", Cond.fieldLink RX2 9 "HatPins$Standing" "state" "[I", Cond.methodLink RX2 38 arraycopyName, Cond.native arraycopyName]
def wsX4_never_r2 : List Cond := [Cond.static arraycopyName, Cond.initialized "java/lang/System", Cond.fieldLink RX2 15 "HatPins$Standing" "due" "[I", Cond.fieldLink RX2 18 "HatPins$Standing" "began" "[I", Cond.fieldLink RX2 21 "HatPins$Standing" "pins" "[I", Cond.methodLink RX4 136 yX2_goBy, Cond.instanceMethod yX2_goBy, Cond.selects RX2 yX2_goBy yX2_goBy, Cond.code yX2_goBy cX2_goBy 4 none, Cond.methodLink RX2 44 yX2_beginDue, Cond.instanceMethod yX2_beginDue, Cond.selects RX2 yX2_beginDue yX2_beginDue, Cond.code yX2_beginDue cX2_beginDue 3 none, Cond.fieldLink RX2 55 "HatPins$Evening" "goings" "I", Cond.methodLink RX2 48 yX2_worthOfAll, Cond.instanceMethod yX2_worthOfAll, Cond.selects RX2 yX2_worthOfAll yX2_worthOfAll, Cond.code yX2_worthOfAll cX2_worthOfAll 4 (some .int), Cond.methodLink RX2 58 yX2_worthOf, Cond.instanceMethod yX2_worthOf, Cond.selects RX2 yX2_worthOf yX2_worthOf, Cond.code yX2_worthOf cX2_worthOf 3 (some .int), Cond.fieldLink RX2 62 "HatPins$Evening" "kind" "[I", Cond.fieldLink RX2 65 "HatPins$Evening" "interest" "[I"]
def wsX4_never_r3 : List Cond := [Cond.fieldLink RX2 68 "HatPins$Evening" "wane" "[I", Cond.static yX4_worth, Cond.code yX4_worth cX4_worth 5 (some .int), Cond.methodLink RX4 246 Lib.Math.min.name, Cond.static Lib.Math.min.name, Cond.initialized "java/lang/Math", Cond.code Lib.Math.min.name Lib.Math.min.code 2 (some .int), Cond.methodLink RX4 177 Lib.Math.max.name, Cond.static Lib.Math.max.name, Cond.code Lib.Math.max.name Lib.Math.max.code 2 (some .int), Cond.methodLink RX2 52 yX2_endMinute, Cond.instanceMethod yX2_endMinute, Cond.selects RX2 yX2_endMinute yX2_endMinute, Cond.code yX2_endMinute cX2_endMinute 3 none, Cond.fieldLink RX2 75 "HatPins$Evening" "minutes" "[I", Cond.methodLink RX2 78 yX2_finish, Cond.instanceMethod yX2_finish, Cond.selects RX2 yX2_finish yX2_finish, Cond.code yX2_finish cX2_finish 6 none, Cond.fieldLink RX2 82 "HatPins$Evening" "followings" "I", Cond.fieldLink RX2 85 "HatPins$Evening" "follower" "[I", Cond.fieldLink RX2 88 "HatPins$Evening" "leader" "[I", Cond.fieldLink RX2 91 "HatPins$Evening" "gap" "[I", Cond.methodLink RX2 94 Lib.Math.min.name]
def wsX4_never_r4 : List Cond := [Cond.methodLink RX4 199 yX4_hadWithout, Cond.instanceMethod yX4_hadWithout, Cond.selects RX4 yX4_hadWithout yX4_hadWithout, Cond.code yX4_hadWithout cX4_hadWithout 2 (some .int), Cond.methodLink RX4 189 yX4_whichOrHad, Cond.static yX4_whichOrHad, Cond.code yX4_whichOrHad cX4_whichOrHad 3 (some .int)]
def wsX4_never : List Cond := .code yX4_never cX4_never 6 (some .int) :: ((wsX4_never_r1 ++ (wsX4_never_r2 ++ (wsX4_never_r3 ++ wsX4_never_r4))) ++ wsX40 ++ wsX00 ++ wsX20)
def wsX4_note : List Cond := .code yX4_note cX4_note 3 (some .int) :: ([.fieldLink RX4 88 "HatPins" "noted" "I", .fieldLink RX4 48 "HatPins" "notedMinute" "[I", .fieldLink RX4 52 "HatPins" "notedWorth" "[I"] ++ wsX40)
def wsX4_forget : List Cond := .code yX4_forget cX4_forget 2 (some .int) :: ([.fieldLink RX4 88 "HatPins" "noted" "I"] ++ wsX40)
def wsX4_allNotedSo : List Cond := .code yX4_allNotedSo cX4_allNotedSo 5 (some .boolean) :: ([.fieldLink RX4 88 "HatPins" "noted" "I", .fieldLink RX4 48 "HatPins" "notedMinute" "[I", .fieldLink RX4 52 "HatPins" "notedWorth" "[I", .methodLink RX4 237 yX4_worth, .static yX4_worth, .initialized RX4, .code yX4_worth cX4_worth 5 (some .int), .methodLink RX4 246 Lib.Math.min.name, .static Lib.Math.min.name, .initialized "java/lang/Math", .code Lib.Math.min.name Lib.Math.min.code 2 (some .int), .methodLink RX4 177 Lib.Math.max.name, .static Lib.Math.max.name, .code Lib.Math.max.name Lib.Math.max.code 2 (some .int)] ++ wsX40)
def wsX4_waning : List Cond := .code yX4_waning cX4_waning 6 (some .int) :: ([.methodLink RX4 159 yX4_isEither, .static yX4_isEither, .initialized RX4, .code yX4_isEither cX4_isEither 1 (some .boolean), .methodLink RX4 202 yX4_allNotedSo, .instanceMethod yX4_allNotedSo, .selects RX4 yX4_allNotedSo yX4_allNotedSo, .code yX4_allNotedSo cX4_allNotedSo 5 (some .boolean), .fieldLink RX4 88 "HatPins" "noted" "I", .fieldLink RX4 48 "HatPins" "notedMinute" "[I", .fieldLink RX4 52 "HatPins" "notedWorth" "[I", .methodLink RX4 237 yX4_worth, .static yX4_worth, .code yX4_worth cX4_worth 5 (some .int), .methodLink RX4 246 Lib.Math.min.name, .static Lib.Math.min.name, .initialized "java/lang/Math", .code Lib.Math.min.name Lib.Math.min.code 2 (some .int), .methodLink RX4 177 Lib.Math.max.name, .static Lib.Math.max.name, .code Lib.Math.max.name Lib.Math.max.code 2 (some .int)] ++ wsX40)
def wsX4_kinds_r1 : List Cond := [Cond.fieldLink RX4 19 "HatPins" "laid" "LHatPins$Evening;", Cond.fieldLink RX4 97 "HatPins$Evening" "interest" "[I", Cond.fieldLink RX4 100 "HatPins$Evening" "wane" "[I", Cond.methodLink RX4 91 yX4_isGoing, Cond.instanceMethod yX4_isGoing, Cond.selects RX4 yX4_isGoing yX4_isGoing, Cond.initialized RX4, Cond.code yX4_isGoing cX4_isGoing 2 (some .boolean), Cond.fieldLink RX4 82 "HatPins$Evening" "goings" "I", Cond.methodLink RX4 202 yX4_allNotedSo, Cond.instanceMethod yX4_allNotedSo, Cond.selects RX4 yX4_allNotedSo yX4_allNotedSo, Cond.code yX4_allNotedSo cX4_allNotedSo 5 (some .boolean), Cond.fieldLink RX4 88 "HatPins" "noted" "I", Cond.fieldLink RX4 48 "HatPins" "notedMinute" "[I", Cond.fieldLink RX4 52 "HatPins" "notedWorth" "[I", Cond.methodLink RX4 237 yX4_worth, Cond.static yX4_worth, Cond.code yX4_worth cX4_worth 5 (some .int), Cond.methodLink RX4 246 Lib.Math.min.name, Cond.static Lib.Math.min.name, Cond.initialized "java/lang/Math", Cond.code Lib.Math.min.name Lib.Math.min.code 2 (some .int), Cond.methodLink RX4 177 Lib.Math.max.name]
def wsX4_kinds_r2 : List Cond := [Cond.static Lib.Math.max.name, Cond.code Lib.Math.max.name Lib.Math.max.code 2 (some .int)]
def wsX4_kinds : List Cond := .code yX4_kinds cX4_kinds 4 (some .int) :: ((wsX4_kinds_r1 ++ wsX4_kinds_r2) ++ wsX40 ++ wsX00)
def wsX4_chanceOf : List Cond := .code yX4_chanceOf cX4_chanceOf 6 (some .int) :: ([])
def wsX4_hadLate_r1 : List Cond := [Cond.fieldLink RX4 33 "HatPins" "trial" "LHatPins$Standing;", Cond.fieldLink RX4 29 "HatPins" "now" "LHatPins$Standing;", Cond.fieldLink RX4 19 "HatPins" "laid" "LHatPins$Evening;", Cond.fieldLink RX4 82 "HatPins$Evening" "goings" "I", Cond.fieldLink RX4 234 "HatPins$Standing" "due" "[I", Cond.fieldLink RX4 140 "HatPins$Standing" "had" "I", Cond.methodLink RX4 162 yX2_copyOf, Cond.instanceMethod yX2_copyOf, Cond.selects RX2 yX2_copyOf yX2_copyOf, Cond.initialized RX2, Cond.code yX2_copyOf cX2_copyOf 2 none, Cond.fieldLink RX2 24 "HatPins$Standing" "minute" "I", Cond.fieldLink RX2 28 "HatPins$Standing" "had" "I", Cond.fieldLink RX2 9 "HatPins$Standing" "state" "[I", Cond.methodLink RX2 38 arraycopyName, Cond.native arraycopyName, Cond.static arraycopyName, Cond.initialized "java/lang/System", Cond.fieldLink RX2 15 "HatPins$Standing" "due" "[I", Cond.fieldLink RX2 18 "HatPins$Standing" "began" "[I", Cond.fieldLink RX2 21 "HatPins$Standing" "pins" "[I", Cond.methodLink RX4 136 yX2_goBy, Cond.instanceMethod yX2_goBy, Cond.selects RX2 yX2_goBy yX2_goBy]
def wsX4_hadLate_r2 : List Cond := [Cond.code yX2_goBy cX2_goBy 4 none, Cond.methodLink RX2 44 yX2_beginDue, Cond.instanceMethod yX2_beginDue, Cond.selects RX2 yX2_beginDue yX2_beginDue, Cond.code yX2_beginDue cX2_beginDue 3 none, Cond.fieldLink RX2 55 "HatPins$Evening" "goings" "I", Cond.methodLink RX2 48 yX2_worthOfAll, Cond.instanceMethod yX2_worthOfAll, Cond.selects RX2 yX2_worthOfAll yX2_worthOfAll, Cond.code yX2_worthOfAll cX2_worthOfAll 4 (some .int), Cond.methodLink RX2 58 yX2_worthOf, Cond.instanceMethod yX2_worthOf, Cond.selects RX2 yX2_worthOf yX2_worthOf, Cond.code yX2_worthOf cX2_worthOf 3 (some .int), Cond.fieldLink RX2 62 "HatPins$Evening" "kind" "[I", Cond.fieldLink RX2 65 "HatPins$Evening" "interest" "[I", Cond.fieldLink RX2 68 "HatPins$Evening" "wane" "[I", Cond.static yX4_worth, Cond.initialized RX4, Cond.code yX4_worth cX4_worth 5 (some .int), Cond.methodLink RX4 246 Lib.Math.min.name, Cond.static Lib.Math.min.name, Cond.initialized "java/lang/Math", Cond.code Lib.Math.min.name Lib.Math.min.code 2 (some .int)]
def wsX4_hadLate_r3 : List Cond := [Cond.methodLink RX4 177 Lib.Math.max.name, Cond.static Lib.Math.max.name, Cond.code Lib.Math.max.name Lib.Math.max.code 2 (some .int), Cond.methodLink RX2 52 yX2_endMinute, Cond.instanceMethod yX2_endMinute, Cond.selects RX2 yX2_endMinute yX2_endMinute, Cond.code yX2_endMinute cX2_endMinute 3 none, Cond.fieldLink RX2 75 "HatPins$Evening" "minutes" "[I", Cond.methodLink RX2 78 yX2_finish, Cond.instanceMethod yX2_finish, Cond.selects RX2 yX2_finish yX2_finish, Cond.code yX2_finish cX2_finish 6 none, Cond.fieldLink RX2 82 "HatPins$Evening" "followings" "I", Cond.fieldLink RX2 85 "HatPins$Evening" "follower" "[I", Cond.fieldLink RX2 88 "HatPins$Evening" "leader" "[I", Cond.fieldLink RX2 91 "HatPins$Evening" "gap" "[I", Cond.methodLink RX2 94 Lib.Math.min.name]
def wsX4_hadLate : List Cond := .code yX4_hadLate cX4_hadLate 4 (some .int) :: ((wsX4_hadLate_r1 ++ (wsX4_hadLate_r2 ++ wsX4_hadLate_r3)) ++ wsX40 ++ wsX00 ++ wsX20)
def wsX4_commonDivisor : List Cond := .code yX4_commonDivisor cX4_commonDivisor 6 (some .int) :: ([])
def wsX4_late_r1 : List Cond := [Cond.fieldLink RX4 29 "HatPins" "now" "LHatPins$Standing;", Cond.fieldLink RX4 19 "HatPins" "laid" "LHatPins$Evening;", Cond.fieldLink RX4 82 "HatPins$Evening" "goings" "I", Cond.methodLink RX4 159 yX4_isEither, Cond.static yX4_isEither, Cond.initialized RX4, Cond.code yX4_isEither cX4_isEither 1 (some .boolean), Cond.methodLink RX4 206 yX2_soonBits, Cond.instanceMethod yX2_soonBits, Cond.selects RX2 yX2_soonBits yX2_soonBits, Cond.initialized RX2, Cond.code yX2_soonBits cX2_soonBits 4 (some .int), Cond.fieldLink RX2 55 "HatPins$Evening" "goings" "I", Cond.fieldLink RX2 9 "HatPins$Standing" "state" "[I", Cond.fieldLink RX2 15 "HatPins$Standing" "due" "[I", Cond.fieldLink RX2 24 "HatPins$Standing" "minute" "I", Cond.methodLink RX4 209 yX4_chanceOf, Cond.static yX4_chanceOf, Cond.code yX4_chanceOf cX4_chanceOf 6 (some .int), Cond.methodLink RX4 213 yX4_hadLate, Cond.instanceMethod yX4_hadLate, Cond.selects RX4 yX4_hadLate yX4_hadLate, Cond.code yX4_hadLate cX4_hadLate 4 (some .int), Cond.fieldLink RX4 33 "HatPins" "trial" "LHatPins$Standing;"]
def wsX4_late_r2 : List Cond := [Cond.fieldLink RX4 234 "HatPins$Standing" "due" "[I", Cond.fieldLink RX4 140 "HatPins$Standing" "had" "I", Cond.methodLink RX4 162 yX2_copyOf, Cond.instanceMethod yX2_copyOf, Cond.selects RX2 yX2_copyOf yX2_copyOf, Cond.code yX2_copyOf cX2_copyOf 2 none, Cond.fieldLink RX2 28 "HatPins$Standing" "had" "I", Cond.methodLink RX2 38 arraycopyName, Cond.native arraycopyName, Cond.static arraycopyName, Cond.initialized "java/lang/System", Cond.fieldLink RX2 18 "HatPins$Standing" "began" "[I", Cond.fieldLink RX2 21 "HatPins$Standing" "pins" "[I", Cond.methodLink RX4 136 yX2_goBy, Cond.instanceMethod yX2_goBy, Cond.selects RX2 yX2_goBy yX2_goBy, Cond.code yX2_goBy cX2_goBy 4 none, Cond.methodLink RX2 44 yX2_beginDue, Cond.instanceMethod yX2_beginDue, Cond.selects RX2 yX2_beginDue yX2_beginDue, Cond.code yX2_beginDue cX2_beginDue 3 none, Cond.methodLink RX2 48 yX2_worthOfAll, Cond.instanceMethod yX2_worthOfAll, Cond.selects RX2 yX2_worthOfAll yX2_worthOfAll]
def wsX4_late_r3 : List Cond := [Cond.code yX2_worthOfAll cX2_worthOfAll 4 (some .int), Cond.methodLink RX2 58 yX2_worthOf, Cond.instanceMethod yX2_worthOf, Cond.selects RX2 yX2_worthOf yX2_worthOf, Cond.code yX2_worthOf cX2_worthOf 3 (some .int), Cond.fieldLink RX2 62 "HatPins$Evening" "kind" "[I", Cond.fieldLink RX2 65 "HatPins$Evening" "interest" "[I", Cond.fieldLink RX2 68 "HatPins$Evening" "wane" "[I", Cond.static yX4_worth, Cond.code yX4_worth cX4_worth 5 (some .int), Cond.methodLink RX4 246 Lib.Math.min.name, Cond.static Lib.Math.min.name, Cond.initialized "java/lang/Math", Cond.code Lib.Math.min.name Lib.Math.min.code 2 (some .int), Cond.methodLink RX4 177 Lib.Math.max.name, Cond.static Lib.Math.max.name, Cond.code Lib.Math.max.name Lib.Math.max.code 2 (some .int), Cond.methodLink RX2 52 yX2_endMinute, Cond.instanceMethod yX2_endMinute, Cond.selects RX2 yX2_endMinute yX2_endMinute, Cond.code yX2_endMinute cX2_endMinute 3 none, Cond.fieldLink RX2 75 "HatPins$Evening" "minutes" "[I", Cond.methodLink RX2 78 yX2_finish, Cond.instanceMethod yX2_finish]
def wsX4_late_r4 : List Cond := [Cond.selects RX2 yX2_finish yX2_finish, Cond.code yX2_finish cX2_finish 6 none, Cond.fieldLink RX2 82 "HatPins$Evening" "followings" "I", Cond.fieldLink RX2 85 "HatPins$Evening" "follower" "[I", Cond.fieldLink RX2 88 "HatPins$Evening" "leader" "[I", Cond.fieldLink RX2 91 "HatPins$Evening" "gap" "[I", Cond.methodLink RX2 94 Lib.Math.min.name, Cond.methodLink RX4 216 yX4_commonDivisor, Cond.static yX4_commonDivisor, Cond.code yX4_commonDivisor cX4_commonDivisor 6 (some .int)]
def wsX4_late : List Cond := .code yX4_late cX4_late 9 (some .int) :: ((wsX4_late_r1 ++ (wsX4_late_r2 ++ (wsX4_late_r3 ++ wsX4_late_r4))) ++ wsX40 ++ wsX00 ++ wsX20)
def wsX4_draw : List Cond := .code yX4_draw cX4_draw 4 (some .int) :: ([.constantLong RX4 240 (7919), .constantLong RX4 242 (6151), .constantLong RX4 244 (65521)])
def wsX4_actInTrial_r1 : List Cond := [Cond.fieldLink RX4 19 "HatPins" "laid" "LHatPins$Evening;", Cond.fieldLink RX4 193 "HatPins$Evening" "ladies" "I", Cond.fieldLink RX4 82 "HatPins$Evening" "goings" "I", Cond.fieldLink RX4 33 "HatPins" "trial" "LHatPins$Standing;", Cond.fieldLink RX4 120 "HatPins$Standing" "pins" "[I", Cond.methodLink RX4 143 yX2_canPin, Cond.instanceMethod yX2_canPin, Cond.selects RX2 yX2_canPin yX2_canPin, Cond.initialized RX2, Cond.code yX2_canPin cX2_canPin 5 (some .boolean), Cond.fieldLink RX2 100 "HatPins$Evening" "reach" "[I", Cond.fieldLink RX2 62 "HatPins$Evening" "kind" "[I", Cond.fieldLink RX2 21 "HatPins$Standing" "pins" "[I", Cond.fieldLink RX2 9 "HatPins$Standing" "state" "[I", Cond.methodLink RX4 147 yX2_pinBy, Cond.instanceMethod yX2_pinBy, Cond.selects RX2 yX2_pinBy yX2_pinBy, Cond.code yX2_pinBy cX2_pinBy 4 none, Cond.methodLink RX2 78 yX2_finish, Cond.instanceMethod yX2_finish, Cond.selects RX2 yX2_finish yX2_finish, Cond.code yX2_finish cX2_finish 6 none, Cond.fieldLink RX2 82 "HatPins$Evening" "followings" "I", Cond.fieldLink RX2 85 "HatPins$Evening" "follower" "[I"]
def wsX4_actInTrial_r2 : List Cond := [Cond.fieldLink RX2 88 "HatPins$Evening" "leader" "[I", Cond.fieldLink RX2 15 "HatPins$Standing" "due" "[I", Cond.fieldLink RX2 24 "HatPins$Standing" "minute" "I", Cond.fieldLink RX2 91 "HatPins$Evening" "gap" "[I", Cond.methodLink RX2 94 Lib.Math.min.name, Cond.static Lib.Math.min.name, Cond.initialized "java/lang/Math", Cond.code Lib.Math.min.name Lib.Math.min.code 2 (some .int), Cond.methodLink RX4 151 yX2_lendPin, Cond.instanceMethod yX2_lendPin, Cond.selects RX2 yX2_lendPin yX2_lendPin, Cond.code yX2_lendPin cX2_lendPin 3 none]
def wsX4_actInTrial : List Cond := .code yX4_actInTrial cX4_actInTrial 8 none :: ((wsX4_actInTrial_r1 ++ wsX4_actInTrial_r2) ++ wsX40 ++ wsX00 ++ wsX20)
def wsX4_season_r1 : List Cond := [Cond.fieldLink RX4 33 "HatPins" "trial" "LHatPins$Standing;", Cond.fieldLink RX4 29 "HatPins" "now" "LHatPins$Standing;", Cond.fieldLink RX4 19 "HatPins" "laid" "LHatPins$Evening;", Cond.fieldLink RX4 140 "HatPins$Standing" "had" "I", Cond.methodLink RX4 159 yX4_isEither, Cond.static yX4_isEither, Cond.initialized RX4, Cond.code yX4_isEither cX4_isEither 1 (some .boolean), Cond.methodLink RX4 162 yX2_copyOf, Cond.instanceMethod yX2_copyOf, Cond.selects RX2 yX2_copyOf yX2_copyOf, Cond.initialized RX2, Cond.code yX2_copyOf cX2_copyOf 2 none, Cond.fieldLink RX2 24 "HatPins$Standing" "minute" "I", Cond.fieldLink RX2 28 "HatPins$Standing" "had" "I", Cond.fieldLink RX2 9 "HatPins$Standing" "state" "[I", Cond.methodLink RX2 38 arraycopyName, Cond.native arraycopyName, Cond.static arraycopyName, Cond.initialized "java/lang/System", Cond.fieldLink RX2 15 "HatPins$Standing" "due" "[I", Cond.fieldLink RX2 18 "HatPins$Standing" "began" "[I", Cond.fieldLink RX2 21 "HatPins$Standing" "pins" "[I", Cond.methodLink RX4 219 yX4_draw]
def wsX4_season_r2 : List Cond := [Cond.static yX4_draw, Cond.code yX4_draw cX4_draw 4 (some .int), Cond.constantLong RX4 240 (7919), Cond.constantLong RX4 242 (6151), Cond.constantLong RX4 244 (65521), Cond.methodLink RX4 222 yX4_actInTrial, Cond.instanceMethod yX4_actInTrial, Cond.selects RX4 yX4_actInTrial yX4_actInTrial, Cond.code yX4_actInTrial cX4_actInTrial 8 none, Cond.fieldLink RX4 193 "HatPins$Evening" "ladies" "I", Cond.fieldLink RX4 82 "HatPins$Evening" "goings" "I", Cond.fieldLink RX4 120 "HatPins$Standing" "pins" "[I", Cond.methodLink RX4 143 yX2_canPin, Cond.instanceMethod yX2_canPin, Cond.selects RX2 yX2_canPin yX2_canPin, Cond.code yX2_canPin cX2_canPin 5 (some .boolean), Cond.fieldLink RX2 100 "HatPins$Evening" "reach" "[I", Cond.fieldLink RX2 62 "HatPins$Evening" "kind" "[I", Cond.methodLink RX4 147 yX2_pinBy, Cond.instanceMethod yX2_pinBy, Cond.selects RX2 yX2_pinBy yX2_pinBy, Cond.code yX2_pinBy cX2_pinBy 4 none, Cond.methodLink RX2 78 yX2_finish, Cond.instanceMethod yX2_finish]
def wsX4_season_r3 : List Cond := [Cond.selects RX2 yX2_finish yX2_finish, Cond.code yX2_finish cX2_finish 6 none, Cond.fieldLink RX2 82 "HatPins$Evening" "followings" "I", Cond.fieldLink RX2 85 "HatPins$Evening" "follower" "[I", Cond.fieldLink RX2 88 "HatPins$Evening" "leader" "[I", Cond.fieldLink RX2 91 "HatPins$Evening" "gap" "[I", Cond.methodLink RX2 94 Lib.Math.min.name, Cond.static Lib.Math.min.name, Cond.initialized "java/lang/Math", Cond.code Lib.Math.min.name Lib.Math.min.code 2 (some .int), Cond.methodLink RX4 151 yX2_lendPin, Cond.instanceMethod yX2_lendPin, Cond.selects RX2 yX2_lendPin yX2_lendPin, Cond.code yX2_lendPin cX2_lendPin 3 none, Cond.methodLink RX4 136 yX2_goBy, Cond.instanceMethod yX2_goBy, Cond.selects RX2 yX2_goBy yX2_goBy, Cond.code yX2_goBy cX2_goBy 4 none, Cond.methodLink RX2 44 yX2_beginDue, Cond.instanceMethod yX2_beginDue, Cond.selects RX2 yX2_beginDue yX2_beginDue, Cond.code yX2_beginDue cX2_beginDue 3 none, Cond.fieldLink RX2 55 "HatPins$Evening" "goings" "I", Cond.methodLink RX2 48 yX2_worthOfAll]
def wsX4_season_r4 : List Cond := [Cond.instanceMethod yX2_worthOfAll, Cond.selects RX2 yX2_worthOfAll yX2_worthOfAll, Cond.code yX2_worthOfAll cX2_worthOfAll 4 (some .int), Cond.methodLink RX2 58 yX2_worthOf, Cond.instanceMethod yX2_worthOf, Cond.selects RX2 yX2_worthOf yX2_worthOf, Cond.code yX2_worthOf cX2_worthOf 3 (some .int), Cond.fieldLink RX2 65 "HatPins$Evening" "interest" "[I", Cond.fieldLink RX2 68 "HatPins$Evening" "wane" "[I", Cond.static yX4_worth, Cond.code yX4_worth cX4_worth 5 (some .int), Cond.methodLink RX4 246 Lib.Math.min.name, Cond.methodLink RX4 177 Lib.Math.max.name, Cond.static Lib.Math.max.name, Cond.code Lib.Math.max.name Lib.Math.max.code 2 (some .int), Cond.methodLink RX2 52 yX2_endMinute, Cond.instanceMethod yX2_endMinute, Cond.selects RX2 yX2_endMinute yX2_endMinute, Cond.code yX2_endMinute cX2_endMinute 3 none, Cond.fieldLink RX2 75 "HatPins$Evening" "minutes" "[I", Cond.methodLink RX4 225 yX2_pinsOfAll, Cond.instanceMethod yX2_pinsOfAll, Cond.selects RX2 yX2_pinsOfAll yX2_pinsOfAll, Cond.code yX2_pinsOfAll cX2_pinsOfAll 4 (some .int)]
def wsX4_season_r5 : List Cond := [Cond.fieldLink RX2 107 "HatPins$Evening" "ladies" "I"]
def wsX4_season : List Cond := .code yX4_season cX4_season 5 (some .int) :: ((wsX4_season_r1 ++ (wsX4_season_r2 ++ (wsX4_season_r3 ++ (wsX4_season_r4 ++ wsX4_season_r5)))) ++ wsX40 ++ wsX20 ++ wsX00)
def wsX4_keep_r1 : List Cond := [Cond.fieldLink RX4 45 "HatPins" "saved" "LHatPins$Shelf;", Cond.fieldLink RX4 85 "HatPins$Shelf" "held" "I", Cond.fieldLink RX4 29 "HatPins" "now" "LHatPins$Standing;", Cond.methodLink RX4 132 yX1_put, Cond.instanceMethod yX1_put, Cond.selects RX1 yX1_put yX1_put, Cond.initialized RX1, Cond.code yX1_put cX1_put 2 none, Cond.fieldLink RX1 22 "HatPins$Shelf" "held" "I", Cond.fieldLink RX1 15 "HatPins$Shelf" "rows" "[LHatPins$Standing;", Cond.methodLink RX1 26 yX1_dropOldest, Cond.instanceMethod yX1_dropOldest, Cond.selects RX1 yX1_dropOldest yX1_dropOldest, Cond.code yX1_dropOldest cX1_dropOldest 3 none, Cond.methodLink RX1 29 yX2_copyOf, Cond.instanceMethod yX2_copyOf, Cond.selects RX2 yX2_copyOf yX2_copyOf, Cond.initialized RX2, Cond.code yX2_copyOf cX2_copyOf 2 none, Cond.fieldLink RX2 24 "HatPins$Standing" "minute" "I", Cond.fieldLink RX2 28 "HatPins$Standing" "had" "I", Cond.fieldLink RX2 9 "HatPins$Standing" "state" "[I", Cond.methodLink RX2 38 arraycopyName, Cond.native arraycopyName]
def wsX4_keep_r2 : List Cond := [Cond.static arraycopyName, Cond.initialized "java/lang/System", Cond.fieldLink RX2 15 "HatPins$Standing" "due" "[I", Cond.fieldLink RX2 18 "HatPins$Standing" "began" "[I", Cond.fieldLink RX2 21 "HatPins$Standing" "pins" "[I"]
def wsX4_keep : List Cond := .code yX4_keep cX4_keep 1 (some .int) :: ((wsX4_keep_r1 ++ wsX4_keep_r2) ++ wsX40 ++ wsX10 ++ wsX20)
def wsX4_back_r1 : List Cond := [Cond.fieldLink RX4 45 "HatPins" "saved" "LHatPins$Shelf;", Cond.fieldLink RX4 29 "HatPins" "now" "LHatPins$Standing;", Cond.fieldLink RX4 41 "HatPins" "undoable" "LHatPins$Shelf;", Cond.fieldLink RX4 85 "HatPins$Shelf" "held" "I", Cond.methodLink RX4 155 yX1_takeInto, Cond.instanceMethod yX1_takeInto, Cond.selects RX1 yX1_takeInto yX1_takeInto, Cond.initialized RX1, Cond.code yX1_takeInto cX1_takeInto 2 (some .boolean), Cond.fieldLink RX1 22 "HatPins$Shelf" "held" "I", Cond.fieldLink RX1 15 "HatPins$Shelf" "rows" "[LHatPins$Standing;", Cond.methodLink RX1 29 yX2_copyOf, Cond.instanceMethod yX2_copyOf, Cond.selects RX2 yX2_copyOf yX2_copyOf, Cond.initialized RX2, Cond.code yX2_copyOf cX2_copyOf 2 none, Cond.fieldLink RX2 24 "HatPins$Standing" "minute" "I", Cond.fieldLink RX2 28 "HatPins$Standing" "had" "I", Cond.fieldLink RX2 9 "HatPins$Standing" "state" "[I", Cond.methodLink RX2 38 arraycopyName, Cond.native arraycopyName, Cond.static arraycopyName, Cond.initialized "java/lang/System", Cond.fieldLink RX2 15 "HatPins$Standing" "due" "[I"]
def wsX4_back_r2 : List Cond := [Cond.fieldLink RX2 18 "HatPins$Standing" "began" "[I", Cond.fieldLink RX2 21 "HatPins$Standing" "pins" "[I"]
def wsX4_back : List Cond := .code yX4_back cX4_back 1 (some .int) :: ((wsX4_back_r1 ++ wsX4_back_r2) ++ wsX40 ++ wsX10 ++ wsX20)
def wsX4_count_r1 : List Cond := [Cond.fieldLink RX4 19 "HatPins" "laid" "LHatPins$Evening;", Cond.fieldLink RX4 82 "HatPins$Evening" "goings" "I", Cond.fieldLink RX4 193 "HatPins$Evening" "ladies" "I", Cond.fieldLink RX4 29 "HatPins" "now" "LHatPins$Standing;", Cond.fieldLink RX4 129 "HatPins$Standing" "minute" "I", Cond.fieldLink RX4 140 "HatPins$Standing" "had" "I", Cond.fieldLink RX4 88 "HatPins" "noted" "I", Cond.fieldLink RX4 41 "HatPins" "undoable" "LHatPins$Shelf;", Cond.fieldLink RX4 85 "HatPins$Shelf" "held" "I", Cond.fieldLink RX4 45 "HatPins" "saved" "LHatPins$Shelf;", Cond.fieldLink RX4 10 "HatPins" "text" "LHatPins$Text;", Cond.fieldLink RX4 75 "HatPins$Text" "length" "I", Cond.methodLink RX4 228 yX2_howMany, Cond.instanceMethod yX2_howMany, Cond.selects RX2 yX2_howMany yX2_howMany, Cond.initialized RX2, Cond.code yX2_howMany cX2_howMany 5 (some .int), Cond.fieldLink RX2 55 "HatPins$Evening" "goings" "I", Cond.fieldLink RX2 9 "HatPins$Standing" "state" "[I", Cond.methodLink RX4 225 yX2_pinsOfAll, Cond.instanceMethod yX2_pinsOfAll, Cond.selects RX2 yX2_pinsOfAll yX2_pinsOfAll, Cond.code yX2_pinsOfAll cX2_pinsOfAll 4 (some .int), Cond.fieldLink RX2 107 "HatPins$Evening" "ladies" "I"]
def wsX4_count_r2 : List Cond := [Cond.fieldLink RX2 21 "HatPins$Standing" "pins" "[I"]
def wsX4_count : List Cond := .code yX4_count cX4_count 2 (some .int) :: ((wsX4_count_r1 ++ wsX4_count_r2) ++ wsX40 ++ wsX00 ++ wsX20 ++ wsX10 ++ wsX30)
def wsX5_clears : List Cond := .code yX5_clears cX5_clears 1 none :: ([.fieldLink RX5 104 "HatPinsModel" "newMany" "I", .fieldLink RX5 107 "HatPinsModel" "newFollows" "I", .fieldLink RX5 98 "HatPinsModel" "newLadies" "I"] ++ wsX50)
def wsX5_comes : List Cond := .code yX5_comes cX5_comes 6 none :: ([.fieldLink RX5 40 "HatPinsModel" "newSort" "[I", .fieldLink RX5 104 "HatPinsModel" "newMany" "I", .fieldLink RX5 43 "HatPinsModel" "newBegins" "[I", .fieldLink RX5 46 "HatPinsModel" "newJoy" "[I", .fieldLink RX5 49 "HatPinsModel" "newWane" "[I", .fieldLink RX5 52 "HatPinsModel" "newGoes" "[I"] ++ wsX50)
def wsX5_follow : List Cond := .code yX5_follow cX5_follow 4 none :: ([.fieldLink RX5 55 "HatPinsModel" "newAhead" "[I", .fieldLink RX5 107 "HatPinsModel" "newFollows" "I", .fieldLink RX5 58 "HatPinsModel" "newAfter" "[I", .fieldLink RX5 61 "HatPinsModel" "newLater" "[I"] ++ wsX50)
def wsX5_settles_r1 : List Cond := [Cond.fieldLink RX5 104 "HatPinsModel" "newMany" "I", Cond.fieldLink RX5 110 "HatPinsModel" "many" "I", Cond.fieldLink RX5 107 "HatPinsModel" "newFollows" "I", Cond.fieldLink RX5 113 "HatPinsModel" "follows" "I", Cond.fieldLink RX5 98 "HatPinsModel" "newLadies" "I", Cond.fieldLink RX5 116 "HatPinsModel" "ladies" "I", Cond.fieldLink RX5 7 "HatPinsModel" "sort" "[I", Cond.fieldLink RX5 40 "HatPinsModel" "newSort" "[I", Cond.fieldLink RX5 13 "HatPinsModel" "begins" "[I", Cond.fieldLink RX5 43 "HatPinsModel" "newBegins" "[I", Cond.fieldLink RX5 16 "HatPinsModel" "joy" "[I", Cond.fieldLink RX5 46 "HatPinsModel" "newJoy" "[I", Cond.fieldLink RX5 19 "HatPinsModel" "wane" "[I", Cond.fieldLink RX5 49 "HatPinsModel" "newWane" "[I", Cond.fieldLink RX5 22 "HatPinsModel" "goes" "[I", Cond.fieldLink RX5 52 "HatPinsModel" "newGoes" "[I", Cond.fieldLink RX5 70 "HatPinsModel" "slot" "[I", Cond.fieldLink RX5 25 "HatPinsModel" "ahead" "[I", Cond.fieldLink RX5 55 "HatPinsModel" "newAhead" "[I", Cond.fieldLink RX5 28 "HatPinsModel" "after" "[I", Cond.fieldLink RX5 58 "HatPinsModel" "newAfter" "[I", Cond.fieldLink RX5 31 "HatPinsModel" "later" "[I", Cond.fieldLink RX5 61 "HatPinsModel" "newLater" "[I", Cond.fieldLink RX5 34 "HatPinsModel" "first" "[I"]
def wsX5_settles_r2 : List Cond := [Cond.fieldLink RX5 64 "HatPinsModel" "newFirst" "[I", Cond.fieldLink RX5 37 "HatPinsModel" "reach" "[I", Cond.fieldLink RX5 67 "HatPinsModel" "newReach" "[I"]
def wsX5_settles : List Cond := .code yX5_settles cX5_settles 2 none :: ((wsX5_settles_r1 ++ wsX5_settles_r2) ++ wsX50)
def wsX5_init_r1 : List Cond := [Cond.methodLink RX5 1 objectInit, Cond.instanceMethod objectInit, Cond.code objectInit ⟨#[0xb1]⟩ 1 none, Cond.arrayClass .int, Cond.fieldLink RX5 7 "HatPinsModel" "sort" "[I", Cond.fieldLink RX5 13 "HatPinsModel" "begins" "[I", Cond.fieldLink RX5 16 "HatPinsModel" "joy" "[I", Cond.fieldLink RX5 19 "HatPinsModel" "wane" "[I", Cond.fieldLink RX5 22 "HatPinsModel" "goes" "[I", Cond.fieldLink RX5 25 "HatPinsModel" "ahead" "[I", Cond.fieldLink RX5 28 "HatPinsModel" "after" "[I", Cond.fieldLink RX5 31 "HatPinsModel" "later" "[I", Cond.fieldLink RX5 34 "HatPinsModel" "first" "[I", Cond.fieldLink RX5 37 "HatPinsModel" "reach" "[I", Cond.fieldLink RX5 40 "HatPinsModel" "newSort" "[I", Cond.fieldLink RX5 43 "HatPinsModel" "newBegins" "[I", Cond.fieldLink RX5 46 "HatPinsModel" "newJoy" "[I", Cond.fieldLink RX5 49 "HatPinsModel" "newWane" "[I", Cond.fieldLink RX5 52 "HatPinsModel" "newGoes" "[I", Cond.fieldLink RX5 55 "HatPinsModel" "newAhead" "[I", Cond.fieldLink RX5 58 "HatPinsModel" "newAfter" "[I", Cond.fieldLink RX5 61 "HatPinsModel" "newLater" "[I", Cond.fieldLink RX5 64 "HatPinsModel" "newFirst" "[I", Cond.fieldLink RX5 67 "HatPinsModel" "newReach" "[I"]
def wsX5_init_r2 : List Cond := [Cond.fieldLink RX5 70 "HatPinsModel" "slot" "[I", Cond.arrayClass .byte, Cond.fieldLink RX5 73 "HatPinsModel" "text" "[B", Cond.fieldLink RX5 77 "HatPinsModel" "notedAt" "[I", Cond.fieldLink RX5 80 "HatPinsModel" "notedWorth" "[I", Cond.fieldLink RX5 83 "HatPinsModel" "absent" "I", Cond.fieldLink RX5 98 "HatPinsModel" "newLadies" "I", Cond.methodLink RX5 87 yX5_clears, Cond.instanceMethod yX5_clears, Cond.selects RX5 yX5_clears yX5_clears, Cond.initialized RX5, Cond.code yX5_clears cX5_clears 1 none, Cond.fieldLink RX5 104 "HatPinsModel" "newMany" "I", Cond.fieldLink RX5 107 "HatPinsModel" "newFollows" "I", Cond.methodLink RX5 90 yX5_comes, Cond.instanceMethod yX5_comes, Cond.selects RX5 yX5_comes yX5_comes, Cond.code yX5_comes cX5_comes 6 none, Cond.methodLink RX5 94 yX5_follow, Cond.instanceMethod yX5_follow, Cond.selects RX5 yX5_follow yX5_follow, Cond.code yX5_follow cX5_follow 4 none, Cond.methodLink RX5 101 yX5_settles, Cond.instanceMethod yX5_settles]
def wsX5_init_r3 : List Cond := [Cond.selects RX5 yX5_settles yX5_settles, Cond.code yX5_settles cX5_settles 2 none, Cond.fieldLink RX5 110 "HatPinsModel" "many" "I", Cond.fieldLink RX5 113 "HatPinsModel" "follows" "I", Cond.fieldLink RX5 116 "HatPinsModel" "ladies" "I"]
def wsX5_init : List Cond := .code yX5_init cX5_init 1 none :: ((wsX5_init_r1 ++ (wsX5_init_r2 ++ wsX5_init_r3)) ++ wsX50)
def wsX5_in : List Cond := .code yX5_in cX5_in 6 (some .boolean) :: ([])
def wsX5_has : List Cond := .code yX5_has cX5_has 2 (some .boolean) :: ([])
def wsX5_smaller : List Cond := .code yX5_smaller cX5_smaller 2 (some .int) :: ([])
def wsX5_larger : List Cond := .code yX5_larger cX5_larger 2 (some .int) :: ([])
def wsX5_copies : List Cond := .code yX5_copies cX5_copies 4 none :: ([.fieldLink RX5 70 "HatPinsModel" "slot" "[I"] ++ wsX50)
def wsX5_isGoing : List Cond := .code yX5_isGoing cX5_isGoing 2 (some .boolean) :: ([.fieldLink RX5 110 "HatPinsModel" "many" "I", .methodLink RX5 119 yX5_in, .static yX5_in, .initialized RX5, .code yX5_in cX5_in 6 (some .boolean)] ++ wsX50)
def wsX5_isLady : List Cond := .code yX5_isLady cX5_isLady 2 (some .boolean) :: ([.fieldLink RX5 116 "HatPinsModel" "ladies" "I", .methodLink RX5 119 yX5_in, .static yX5_in, .initialized RX5, .code yX5_in cX5_in 6 (some .boolean)] ++ wsX50)
def wsX5_write : List Cond := .code yX5_write cX5_write 2 (some .int) :: ([.constantLong RX5 123 (32), .constantLong RX5 125 (126), .fieldLink RX5 127 "HatPinsModel" "length" "I", .fieldLink RX5 73 "HatPinsModel" "text" "[B", .methodLink RX5 119 yX5_in, .static yX5_in, .initialized RX5, .code yX5_in cX5_in 6 (some .boolean)] ++ wsX50)
def wsX5_wipe : List Cond := .code yX5_wipe cX5_wipe 2 (some .int) :: ([.fieldLink RX5 127 "HatPinsModel" "length" "I"] ++ wsX50)
def wsX5_next : List Cond := .code yX5_next cX5_next 1 (some .int) :: ([.fieldLink RX5 130 "HatPinsModel" "at" "I", .fieldLink RX5 127 "HatPinsModel" "length" "I", .fieldLink RX5 73 "HatPinsModel" "text" "[B"] ++ wsX50)
def wsX5_number : List Cond := .code yX5_number cX5_number 5 (some .int) :: ([.constantLong RX5 137 (48), .constantLong RX5 139 (57), .fieldLink RX5 130 "HatPinsModel" "at" "I", .fieldLink RX5 141 "HatPinsModel" "isWrong" "Z", .methodLink RX5 133 yX5_next, .instanceMethod yX5_next, .selects RX5 yX5_next yX5_next, .initialized RX5, .code yX5_next cX5_next 1 (some .int), .fieldLink RX5 127 "HatPinsModel" "length" "I", .fieldLink RX5 73 "HatPinsModel" "text" "[B", .methodLink RX5 119 yX5_in, .static yX5_in, .code yX5_in cX5_in 6 (some .boolean)] ++ wsX50)
def wsX5_more : List Cond := .code yX5_more cX5_more 3 (some .int) :: ([.fieldLink RX5 141 "HatPinsModel" "isWrong" "Z", .fieldLink RX5 130 "HatPinsModel" "at" "I", .methodLink RX5 133 yX5_next, .instanceMethod yX5_next, .selects RX5 yX5_next yX5_next, .initialized RX5, .code yX5_next cX5_next 1 (some .int), .fieldLink RX5 127 "HatPinsModel" "length" "I", .fieldLink RX5 73 "HatPinsModel" "text" "[B", .methodLink RX5 145 yX5_number, .instanceMethod yX5_number, .selects RX5 yX5_number yX5_number, .code yX5_number cX5_number 5 (some .int), .constantLong RX5 137 (48), .constantLong RX5 139 (57), .methodLink RX5 119 yX5_in, .static yX5_in, .code yX5_in cX5_in 6 (some .boolean)] ++ wsX50)
def wsX5_goingItem_r1 : List Cond := [Cond.fieldLink RX5 104 "HatPinsModel" "newMany" "I", Cond.fieldLink RX5 141 "HatPinsModel" "isWrong" "Z", Cond.methodLink RX5 145 yX5_number, Cond.instanceMethod yX5_number, Cond.selects RX5 yX5_number yX5_number, Cond.initialized RX5, Cond.code yX5_number cX5_number 5 (some .int), Cond.constantLong RX5 137 (48), Cond.constantLong RX5 139 (57), Cond.fieldLink RX5 130 "HatPinsModel" "at" "I", Cond.methodLink RX5 133 yX5_next, Cond.instanceMethod yX5_next, Cond.selects RX5 yX5_next yX5_next, Cond.code yX5_next cX5_next 1 (some .int), Cond.fieldLink RX5 127 "HatPinsModel" "length" "I", Cond.fieldLink RX5 73 "HatPinsModel" "text" "[B", Cond.methodLink RX5 119 yX5_in, Cond.static yX5_in, Cond.code yX5_in cX5_in 6 (some .boolean), Cond.methodLink RX5 149 yX5_more, Cond.instanceMethod yX5_more, Cond.selects RX5 yX5_more yX5_more, Cond.code yX5_more cX5_more 3 (some .int), Cond.methodLink RX5 90 yX5_comes]
def wsX5_goingItem_r2 : List Cond := [Cond.instanceMethod yX5_comes, Cond.selects RX5 yX5_comes yX5_comes, Cond.code yX5_comes cX5_comes 6 none, Cond.fieldLink RX5 40 "HatPinsModel" "newSort" "[I", Cond.fieldLink RX5 43 "HatPinsModel" "newBegins" "[I", Cond.fieldLink RX5 46 "HatPinsModel" "newJoy" "[I", Cond.fieldLink RX5 49 "HatPinsModel" "newWane" "[I", Cond.fieldLink RX5 52 "HatPinsModel" "newGoes" "[I"]
def wsX5_goingItem : List Cond := .code yX5_goingItem cX5_goingItem 6 none :: ((wsX5_goingItem_r1 ++ wsX5_goingItem_r2) ++ wsX50)
def wsX5_followItem_r1 : List Cond := [Cond.fieldLink RX5 107 "HatPinsModel" "newFollows" "I", Cond.fieldLink RX5 141 "HatPinsModel" "isWrong" "Z", Cond.fieldLink RX5 104 "HatPinsModel" "newMany" "I", Cond.methodLink RX5 145 yX5_number, Cond.instanceMethod yX5_number, Cond.selects RX5 yX5_number yX5_number, Cond.initialized RX5, Cond.code yX5_number cX5_number 5 (some .int), Cond.constantLong RX5 137 (48), Cond.constantLong RX5 139 (57), Cond.fieldLink RX5 130 "HatPinsModel" "at" "I", Cond.methodLink RX5 133 yX5_next, Cond.instanceMethod yX5_next, Cond.selects RX5 yX5_next yX5_next, Cond.code yX5_next cX5_next 1 (some .int), Cond.fieldLink RX5 127 "HatPinsModel" "length" "I", Cond.fieldLink RX5 73 "HatPinsModel" "text" "[B", Cond.methodLink RX5 119 yX5_in, Cond.static yX5_in, Cond.code yX5_in cX5_in 6 (some .boolean), Cond.methodLink RX5 149 yX5_more, Cond.instanceMethod yX5_more, Cond.selects RX5 yX5_more yX5_more, Cond.code yX5_more cX5_more 3 (some .int)]
def wsX5_followItem_r2 : List Cond := [Cond.methodLink RX5 94 yX5_follow, Cond.instanceMethod yX5_follow, Cond.selects RX5 yX5_follow yX5_follow, Cond.code yX5_follow cX5_follow 4 none, Cond.fieldLink RX5 55 "HatPinsModel" "newAhead" "[I", Cond.fieldLink RX5 58 "HatPinsModel" "newAfter" "[I", Cond.fieldLink RX5 61 "HatPinsModel" "newLater" "[I"]
def wsX5_followItem : List Cond := .code yX5_followItem cX5_followItem 4 none :: ((wsX5_followItem_r1 ++ wsX5_followItem_r2) ++ wsX50)
def wsX5_ladyItem_r1 : List Cond := [Cond.fieldLink RX5 98 "HatPinsModel" "newLadies" "I", Cond.fieldLink RX5 141 "HatPinsModel" "isWrong" "Z", Cond.fieldLink RX5 64 "HatPinsModel" "newFirst" "[I", Cond.fieldLink RX5 67 "HatPinsModel" "newReach" "[I", Cond.methodLink RX5 145 yX5_number, Cond.instanceMethod yX5_number, Cond.selects RX5 yX5_number yX5_number, Cond.initialized RX5, Cond.code yX5_number cX5_number 5 (some .int), Cond.constantLong RX5 137 (48), Cond.constantLong RX5 139 (57), Cond.fieldLink RX5 130 "HatPinsModel" "at" "I", Cond.methodLink RX5 133 yX5_next, Cond.instanceMethod yX5_next, Cond.selects RX5 yX5_next yX5_next, Cond.code yX5_next cX5_next 1 (some .int), Cond.fieldLink RX5 127 "HatPinsModel" "length" "I", Cond.fieldLink RX5 73 "HatPinsModel" "text" "[B", Cond.methodLink RX5 119 yX5_in, Cond.static yX5_in, Cond.code yX5_in cX5_in 6 (some .boolean), Cond.methodLink RX5 149 yX5_more, Cond.instanceMethod yX5_more, Cond.selects RX5 yX5_more yX5_more]
def wsX5_ladyItem_r2 : List Cond := [Cond.code yX5_more cX5_more 3 (some .int), Cond.methodLink RX5 152 yX5_has, Cond.static yX5_has, Cond.code yX5_has cX5_has 2 (some .boolean)]
def wsX5_ladyItem : List Cond := .code yX5_ladyItem cX5_ladyItem 4 none :: ((wsX5_ladyItem_r1 ++ wsX5_ladyItem_r2) ++ wsX50)
def wsX5_item_r1 : List Cond := [Cond.fieldLink RX5 141 "HatPinsModel" "isWrong" "Z", Cond.methodLink RX5 156 yX5_goingItem, Cond.instanceMethod yX5_goingItem, Cond.selects RX5 yX5_goingItem yX5_goingItem, Cond.initialized RX5, Cond.code yX5_goingItem cX5_goingItem 6 none, Cond.fieldLink RX5 104 "HatPinsModel" "newMany" "I", Cond.methodLink RX5 145 yX5_number, Cond.instanceMethod yX5_number, Cond.selects RX5 yX5_number yX5_number, Cond.code yX5_number cX5_number 5 (some .int), Cond.constantLong RX5 137 (48), Cond.constantLong RX5 139 (57), Cond.fieldLink RX5 130 "HatPinsModel" "at" "I", Cond.methodLink RX5 133 yX5_next, Cond.instanceMethod yX5_next, Cond.selects RX5 yX5_next yX5_next, Cond.code yX5_next cX5_next 1 (some .int), Cond.fieldLink RX5 127 "HatPinsModel" "length" "I", Cond.fieldLink RX5 73 "HatPinsModel" "text" "[B", Cond.methodLink RX5 119 yX5_in, Cond.static yX5_in, Cond.code yX5_in cX5_in 6 (some .boolean), Cond.methodLink RX5 149 yX5_more]
def wsX5_item_r2 : List Cond := [Cond.instanceMethod yX5_more, Cond.selects RX5 yX5_more yX5_more, Cond.code yX5_more cX5_more 3 (some .int), Cond.methodLink RX5 90 yX5_comes, Cond.instanceMethod yX5_comes, Cond.selects RX5 yX5_comes yX5_comes, Cond.code yX5_comes cX5_comes 6 none, Cond.fieldLink RX5 40 "HatPinsModel" "newSort" "[I", Cond.fieldLink RX5 43 "HatPinsModel" "newBegins" "[I", Cond.fieldLink RX5 46 "HatPinsModel" "newJoy" "[I", Cond.fieldLink RX5 49 "HatPinsModel" "newWane" "[I", Cond.fieldLink RX5 52 "HatPinsModel" "newGoes" "[I", Cond.methodLink RX5 159 yX5_followItem, Cond.instanceMethod yX5_followItem, Cond.selects RX5 yX5_followItem yX5_followItem, Cond.code yX5_followItem cX5_followItem 4 none, Cond.fieldLink RX5 107 "HatPinsModel" "newFollows" "I", Cond.methodLink RX5 94 yX5_follow, Cond.instanceMethod yX5_follow, Cond.selects RX5 yX5_follow yX5_follow, Cond.code yX5_follow cX5_follow 4 none, Cond.fieldLink RX5 55 "HatPinsModel" "newAhead" "[I", Cond.fieldLink RX5 58 "HatPinsModel" "newAfter" "[I", Cond.fieldLink RX5 61 "HatPinsModel" "newLater" "[I"]
def wsX5_item_r3 : List Cond := [Cond.methodLink RX5 162 yX5_ladyItem, Cond.instanceMethod yX5_ladyItem, Cond.selects RX5 yX5_ladyItem yX5_ladyItem, Cond.code yX5_ladyItem cX5_ladyItem 4 none, Cond.fieldLink RX5 98 "HatPinsModel" "newLadies" "I", Cond.fieldLink RX5 64 "HatPinsModel" "newFirst" "[I", Cond.fieldLink RX5 67 "HatPinsModel" "newReach" "[I", Cond.methodLink RX5 152 yX5_has, Cond.static yX5_has, Cond.code yX5_has cX5_has 2 (some .boolean)]
def wsX5_item : List Cond := .code yX5_item cX5_item 2 none :: ((wsX5_item_r1 ++ (wsX5_item_r2 ++ wsX5_item_r3)) ++ wsX50)
def wsX5_reads_r1 : List Cond := [Cond.fieldLink RX5 130 "HatPinsModel" "at" "I", Cond.fieldLink RX5 141 "HatPinsModel" "isWrong" "Z", Cond.fieldLink RX5 127 "HatPinsModel" "length" "I", Cond.fieldLink RX5 165 "HatPinsModel" "begin" "I", Cond.methodLink RX5 87 yX5_clears, Cond.instanceMethod yX5_clears, Cond.selects RX5 yX5_clears yX5_clears, Cond.initialized RX5, Cond.code yX5_clears cX5_clears 1 none, Cond.fieldLink RX5 104 "HatPinsModel" "newMany" "I", Cond.fieldLink RX5 107 "HatPinsModel" "newFollows" "I", Cond.fieldLink RX5 98 "HatPinsModel" "newLadies" "I", Cond.methodLink RX5 133 yX5_next, Cond.instanceMethod yX5_next, Cond.selects RX5 yX5_next yX5_next, Cond.code yX5_next cX5_next 1 (some .int), Cond.fieldLink RX5 73 "HatPinsModel" "text" "[B", Cond.methodLink RX5 168 yX5_item, Cond.instanceMethod yX5_item, Cond.selects RX5 yX5_item yX5_item, Cond.code yX5_item cX5_item 2 none, Cond.methodLink RX5 156 yX5_goingItem, Cond.instanceMethod yX5_goingItem, Cond.selects RX5 yX5_goingItem yX5_goingItem]
def wsX5_reads_r2 : List Cond := [Cond.code yX5_goingItem cX5_goingItem 6 none, Cond.methodLink RX5 145 yX5_number, Cond.instanceMethod yX5_number, Cond.selects RX5 yX5_number yX5_number, Cond.code yX5_number cX5_number 5 (some .int), Cond.constantLong RX5 137 (48), Cond.constantLong RX5 139 (57), Cond.methodLink RX5 119 yX5_in, Cond.static yX5_in, Cond.code yX5_in cX5_in 6 (some .boolean), Cond.methodLink RX5 149 yX5_more, Cond.instanceMethod yX5_more, Cond.selects RX5 yX5_more yX5_more, Cond.code yX5_more cX5_more 3 (some .int), Cond.methodLink RX5 90 yX5_comes, Cond.instanceMethod yX5_comes, Cond.selects RX5 yX5_comes yX5_comes, Cond.code yX5_comes cX5_comes 6 none, Cond.fieldLink RX5 40 "HatPinsModel" "newSort" "[I", Cond.fieldLink RX5 43 "HatPinsModel" "newBegins" "[I", Cond.fieldLink RX5 46 "HatPinsModel" "newJoy" "[I", Cond.fieldLink RX5 49 "HatPinsModel" "newWane" "[I", Cond.fieldLink RX5 52 "HatPinsModel" "newGoes" "[I", Cond.methodLink RX5 159 yX5_followItem]
def wsX5_reads_r3 : List Cond := [Cond.instanceMethod yX5_followItem, Cond.selects RX5 yX5_followItem yX5_followItem, Cond.code yX5_followItem cX5_followItem 4 none, Cond.methodLink RX5 94 yX5_follow, Cond.instanceMethod yX5_follow, Cond.selects RX5 yX5_follow yX5_follow, Cond.code yX5_follow cX5_follow 4 none, Cond.fieldLink RX5 55 "HatPinsModel" "newAhead" "[I", Cond.fieldLink RX5 58 "HatPinsModel" "newAfter" "[I", Cond.fieldLink RX5 61 "HatPinsModel" "newLater" "[I", Cond.methodLink RX5 162 yX5_ladyItem, Cond.instanceMethod yX5_ladyItem, Cond.selects RX5 yX5_ladyItem yX5_ladyItem, Cond.code yX5_ladyItem cX5_ladyItem 4 none, Cond.fieldLink RX5 64 "HatPinsModel" "newFirst" "[I", Cond.fieldLink RX5 67 "HatPinsModel" "newReach" "[I", Cond.methodLink RX5 152 yX5_has, Cond.static yX5_has, Cond.code yX5_has cX5_has 2 (some .boolean)]
def wsX5_reads : List Cond := .code yX5_reads cX5_reads 2 (some .boolean) :: ((wsX5_reads_r1 ++ (wsX5_reads_r2 ++ wsX5_reads_r3)) ++ wsX50)
def wsX5_fault_r1 : List Cond := [Cond.fieldLink RX5 165 "HatPinsModel" "begin" "I", Cond.methodLink RX5 172 yX5_reads, Cond.instanceMethod yX5_reads, Cond.selects RX5 yX5_reads yX5_reads, Cond.initialized RX5, Cond.code yX5_reads cX5_reads 2 (some .boolean), Cond.fieldLink RX5 130 "HatPinsModel" "at" "I", Cond.fieldLink RX5 141 "HatPinsModel" "isWrong" "Z", Cond.fieldLink RX5 127 "HatPinsModel" "length" "I", Cond.methodLink RX5 87 yX5_clears, Cond.instanceMethod yX5_clears, Cond.selects RX5 yX5_clears yX5_clears, Cond.code yX5_clears cX5_clears 1 none, Cond.fieldLink RX5 104 "HatPinsModel" "newMany" "I", Cond.fieldLink RX5 107 "HatPinsModel" "newFollows" "I", Cond.fieldLink RX5 98 "HatPinsModel" "newLadies" "I", Cond.methodLink RX5 133 yX5_next, Cond.instanceMethod yX5_next, Cond.selects RX5 yX5_next yX5_next, Cond.code yX5_next cX5_next 1 (some .int), Cond.fieldLink RX5 73 "HatPinsModel" "text" "[B", Cond.methodLink RX5 168 yX5_item, Cond.instanceMethod yX5_item, Cond.selects RX5 yX5_item yX5_item]
def wsX5_fault_r2 : List Cond := [Cond.code yX5_item cX5_item 2 none, Cond.methodLink RX5 156 yX5_goingItem, Cond.instanceMethod yX5_goingItem, Cond.selects RX5 yX5_goingItem yX5_goingItem, Cond.code yX5_goingItem cX5_goingItem 6 none, Cond.methodLink RX5 145 yX5_number, Cond.instanceMethod yX5_number, Cond.selects RX5 yX5_number yX5_number, Cond.code yX5_number cX5_number 5 (some .int), Cond.constantLong RX5 137 (48), Cond.constantLong RX5 139 (57), Cond.methodLink RX5 119 yX5_in, Cond.static yX5_in, Cond.code yX5_in cX5_in 6 (some .boolean), Cond.methodLink RX5 149 yX5_more, Cond.instanceMethod yX5_more, Cond.selects RX5 yX5_more yX5_more, Cond.code yX5_more cX5_more 3 (some .int), Cond.methodLink RX5 90 yX5_comes, Cond.instanceMethod yX5_comes, Cond.selects RX5 yX5_comes yX5_comes, Cond.code yX5_comes cX5_comes 6 none, Cond.fieldLink RX5 40 "HatPinsModel" "newSort" "[I", Cond.fieldLink RX5 43 "HatPinsModel" "newBegins" "[I"]
def wsX5_fault_r3 : List Cond := [Cond.fieldLink RX5 46 "HatPinsModel" "newJoy" "[I", Cond.fieldLink RX5 49 "HatPinsModel" "newWane" "[I", Cond.fieldLink RX5 52 "HatPinsModel" "newGoes" "[I", Cond.methodLink RX5 159 yX5_followItem, Cond.instanceMethod yX5_followItem, Cond.selects RX5 yX5_followItem yX5_followItem, Cond.code yX5_followItem cX5_followItem 4 none, Cond.methodLink RX5 94 yX5_follow, Cond.instanceMethod yX5_follow, Cond.selects RX5 yX5_follow yX5_follow, Cond.code yX5_follow cX5_follow 4 none, Cond.fieldLink RX5 55 "HatPinsModel" "newAhead" "[I", Cond.fieldLink RX5 58 "HatPinsModel" "newAfter" "[I", Cond.fieldLink RX5 61 "HatPinsModel" "newLater" "[I", Cond.methodLink RX5 162 yX5_ladyItem, Cond.instanceMethod yX5_ladyItem, Cond.selects RX5 yX5_ladyItem yX5_ladyItem, Cond.code yX5_ladyItem cX5_ladyItem 4 none, Cond.fieldLink RX5 64 "HatPinsModel" "newFirst" "[I", Cond.fieldLink RX5 67 "HatPinsModel" "newReach" "[I", Cond.methodLink RX5 152 yX5_has, Cond.static yX5_has, Cond.code yX5_has cX5_has 2 (some .boolean)]
def wsX5_fault : List Cond := .code yX5_fault cX5_fault 1 (some .int) :: ((wsX5_fault_r1 ++ (wsX5_fault_r2 ++ wsX5_fault_r3)) ++ wsX50)
def wsX5_lay_r1 : List Cond := [Cond.fieldLink RX5 104 "HatPinsModel" "newMany" "I", Cond.fieldLink RX5 176 "HatPinsModel" "acts" "I", Cond.fieldLink RX5 179 "HatPinsModel" "keeps" "I", Cond.fieldLink RX5 182 "HatPinsModel" "notes" "I", Cond.fieldLink RX5 110 "HatPinsModel" "many" "I", Cond.methodLink RX5 172 yX5_reads, Cond.instanceMethod yX5_reads, Cond.selects RX5 yX5_reads yX5_reads, Cond.initialized RX5, Cond.code yX5_reads cX5_reads 2 (some .boolean), Cond.fieldLink RX5 130 "HatPinsModel" "at" "I", Cond.fieldLink RX5 141 "HatPinsModel" "isWrong" "Z", Cond.fieldLink RX5 127 "HatPinsModel" "length" "I", Cond.fieldLink RX5 165 "HatPinsModel" "begin" "I", Cond.methodLink RX5 87 yX5_clears, Cond.instanceMethod yX5_clears, Cond.selects RX5 yX5_clears yX5_clears, Cond.code yX5_clears cX5_clears 1 none, Cond.fieldLink RX5 107 "HatPinsModel" "newFollows" "I", Cond.fieldLink RX5 98 "HatPinsModel" "newLadies" "I", Cond.methodLink RX5 133 yX5_next, Cond.instanceMethod yX5_next, Cond.selects RX5 yX5_next yX5_next, Cond.code yX5_next cX5_next 1 (some .int)]
def wsX5_lay_r2 : List Cond := [Cond.fieldLink RX5 73 "HatPinsModel" "text" "[B", Cond.methodLink RX5 168 yX5_item, Cond.instanceMethod yX5_item, Cond.selects RX5 yX5_item yX5_item, Cond.code yX5_item cX5_item 2 none, Cond.methodLink RX5 156 yX5_goingItem, Cond.instanceMethod yX5_goingItem, Cond.selects RX5 yX5_goingItem yX5_goingItem, Cond.code yX5_goingItem cX5_goingItem 6 none, Cond.methodLink RX5 145 yX5_number, Cond.instanceMethod yX5_number, Cond.selects RX5 yX5_number yX5_number, Cond.code yX5_number cX5_number 5 (some .int), Cond.constantLong RX5 137 (48), Cond.constantLong RX5 139 (57), Cond.methodLink RX5 119 yX5_in, Cond.static yX5_in, Cond.code yX5_in cX5_in 6 (some .boolean), Cond.methodLink RX5 149 yX5_more, Cond.instanceMethod yX5_more, Cond.selects RX5 yX5_more yX5_more, Cond.code yX5_more cX5_more 3 (some .int), Cond.methodLink RX5 90 yX5_comes, Cond.instanceMethod yX5_comes]
def wsX5_lay_r3 : List Cond := [Cond.selects RX5 yX5_comes yX5_comes, Cond.code yX5_comes cX5_comes 6 none, Cond.fieldLink RX5 40 "HatPinsModel" "newSort" "[I", Cond.fieldLink RX5 43 "HatPinsModel" "newBegins" "[I", Cond.fieldLink RX5 46 "HatPinsModel" "newJoy" "[I", Cond.fieldLink RX5 49 "HatPinsModel" "newWane" "[I", Cond.fieldLink RX5 52 "HatPinsModel" "newGoes" "[I", Cond.methodLink RX5 159 yX5_followItem, Cond.instanceMethod yX5_followItem, Cond.selects RX5 yX5_followItem yX5_followItem, Cond.code yX5_followItem cX5_followItem 4 none, Cond.methodLink RX5 94 yX5_follow, Cond.instanceMethod yX5_follow, Cond.selects RX5 yX5_follow yX5_follow, Cond.code yX5_follow cX5_follow 4 none, Cond.fieldLink RX5 55 "HatPinsModel" "newAhead" "[I", Cond.fieldLink RX5 58 "HatPinsModel" "newAfter" "[I", Cond.fieldLink RX5 61 "HatPinsModel" "newLater" "[I", Cond.methodLink RX5 162 yX5_ladyItem, Cond.instanceMethod yX5_ladyItem, Cond.selects RX5 yX5_ladyItem yX5_ladyItem, Cond.code yX5_ladyItem cX5_ladyItem 4 none, Cond.fieldLink RX5 64 "HatPinsModel" "newFirst" "[I", Cond.fieldLink RX5 67 "HatPinsModel" "newReach" "[I"]
def wsX5_lay_r4 : List Cond := [Cond.methodLink RX5 152 yX5_has, Cond.static yX5_has, Cond.code yX5_has cX5_has 2 (some .boolean), Cond.methodLink RX5 101 yX5_settles, Cond.instanceMethod yX5_settles, Cond.selects RX5 yX5_settles yX5_settles, Cond.code yX5_settles cX5_settles 2 none, Cond.fieldLink RX5 113 "HatPinsModel" "follows" "I", Cond.fieldLink RX5 116 "HatPinsModel" "ladies" "I", Cond.fieldLink RX5 7 "HatPinsModel" "sort" "[I", Cond.fieldLink RX5 13 "HatPinsModel" "begins" "[I", Cond.fieldLink RX5 16 "HatPinsModel" "joy" "[I", Cond.fieldLink RX5 19 "HatPinsModel" "wane" "[I", Cond.fieldLink RX5 22 "HatPinsModel" "goes" "[I", Cond.fieldLink RX5 70 "HatPinsModel" "slot" "[I", Cond.fieldLink RX5 25 "HatPinsModel" "ahead" "[I", Cond.fieldLink RX5 28 "HatPinsModel" "after" "[I", Cond.fieldLink RX5 31 "HatPinsModel" "later" "[I", Cond.fieldLink RX5 34 "HatPinsModel" "first" "[I", Cond.fieldLink RX5 37 "HatPinsModel" "reach" "[I"]
def wsX5_lay : List Cond := .code yX5_lay cX5_lay 1 (some .int) :: ((wsX5_lay_r1 ++ (wsX5_lay_r2 ++ (wsX5_lay_r3 ++ wsX5_lay_r4))) ++ wsX50)
def wsX5_worthOf : List Cond := .code yX5_worthOf cX5_worthOf 5 (some .int) :: ([.methodLink RX5 185 yX5_smaller, .static yX5_smaller, .initialized RX5, .code yX5_smaller cX5_smaller 2 (some .int), .methodLink RX5 188 yX5_larger, .static yX5_larger, .code yX5_larger cX5_larger 2 (some .int)])
def wsX5_worth : List Cond := .code yX5_worth cX5_worth 3 (some .int) :: ([.fieldLink RX5 70 "HatPinsModel" "slot" "[I", .fieldLink RX5 7 "HatPinsModel" "sort" "[I", .fieldLink RX5 16 "HatPinsModel" "joy" "[I", .fieldLink RX5 19 "HatPinsModel" "wane" "[I", .methodLink RX5 191 yX5_worthOf, .static yX5_worthOf, .initialized RX5, .code yX5_worthOf cX5_worthOf 5 (some .int), .methodLink RX5 185 yX5_smaller, .static yX5_smaller, .code yX5_smaller cX5_smaller 2 (some .int), .methodLink RX5 188 yX5_larger, .static yX5_larger, .code yX5_larger cX5_larger 2 (some .int)] ++ wsX50)
def wsX5_ends : List Cond := .code yX5_ends cX5_ends 8 none :: ([.fieldLink RX5 70 "HatPinsModel" "slot" "[I", .fieldLink RX5 113 "HatPinsModel" "follows" "I", .fieldLink RX5 28 "HatPinsModel" "after" "[I", .fieldLink RX5 25 "HatPinsModel" "ahead" "[I", .fieldLink RX5 83 "HatPinsModel" "absent" "I", .fieldLink RX5 31 "HatPinsModel" "later" "[I", .methodLink RX5 185 yX5_smaller, .static yX5_smaller, .initialized RX5, .code yX5_smaller cX5_smaller 2 (some .int)] ++ wsX50)
def wsX5_starts : List Cond := .code yX5_starts cX5_starts 5 (some .int) :: ([.fieldLink RX5 110 "HatPinsModel" "many" "I", .fieldLink RX5 70 "HatPinsModel" "slot" "[I"] ++ wsX50)
def wsX5_all : List Cond := .code yX5_all cX5_all 4 (some .int) :: ([.fieldLink RX5 110 "HatPinsModel" "many" "I", .methodLink RX5 195 yX5_worth, .instanceMethod yX5_worth, .selects RX5 yX5_worth yX5_worth, .initialized RX5, .code yX5_worth cX5_worth 3 (some .int), .fieldLink RX5 70 "HatPinsModel" "slot" "[I", .fieldLink RX5 7 "HatPinsModel" "sort" "[I", .fieldLink RX5 16 "HatPinsModel" "joy" "[I", .fieldLink RX5 19 "HatPinsModel" "wane" "[I", .methodLink RX5 191 yX5_worthOf, .static yX5_worthOf, .code yX5_worthOf cX5_worthOf 5 (some .int), .methodLink RX5 185 yX5_smaller, .static yX5_smaller, .code yX5_smaller cX5_smaller 2 (some .int), .methodLink RX5 188 yX5_larger, .static yX5_larger, .code yX5_larger cX5_larger 2 (some .int)] ++ wsX50)
def wsX5_goesOn_r1 : List Cond := [Cond.fieldLink RX5 70 "HatPinsModel" "slot" "[I", Cond.fieldLink RX5 110 "HatPinsModel" "many" "I", Cond.fieldLink RX5 22 "HatPinsModel" "goes" "[I", Cond.methodLink RX5 198 yX5_starts, Cond.instanceMethod yX5_starts, Cond.selects RX5 yX5_starts yX5_starts, Cond.initialized RX5, Cond.code yX5_starts cX5_starts 5 (some .int), Cond.methodLink RX5 202 yX5_all, Cond.instanceMethod yX5_all, Cond.selects RX5 yX5_all yX5_all, Cond.code yX5_all cX5_all 4 (some .int), Cond.methodLink RX5 195 yX5_worth, Cond.instanceMethod yX5_worth, Cond.selects RX5 yX5_worth yX5_worth, Cond.code yX5_worth cX5_worth 3 (some .int), Cond.fieldLink RX5 7 "HatPinsModel" "sort" "[I", Cond.fieldLink RX5 16 "HatPinsModel" "joy" "[I", Cond.fieldLink RX5 19 "HatPinsModel" "wane" "[I", Cond.methodLink RX5 191 yX5_worthOf, Cond.static yX5_worthOf, Cond.code yX5_worthOf cX5_worthOf 5 (some .int), Cond.methodLink RX5 185 yX5_smaller, Cond.static yX5_smaller]
def wsX5_goesOn_r2 : List Cond := [Cond.code yX5_smaller cX5_smaller 2 (some .int), Cond.methodLink RX5 188 yX5_larger, Cond.static yX5_larger, Cond.code yX5_larger cX5_larger 2 (some .int), Cond.methodLink RX5 205 yX5_ends, Cond.instanceMethod yX5_ends, Cond.selects RX5 yX5_ends yX5_ends, Cond.code yX5_ends cX5_ends 8 none, Cond.fieldLink RX5 113 "HatPinsModel" "follows" "I", Cond.fieldLink RX5 28 "HatPinsModel" "after" "[I", Cond.fieldLink RX5 25 "HatPinsModel" "ahead" "[I", Cond.fieldLink RX5 83 "HatPinsModel" "absent" "I", Cond.fieldLink RX5 31 "HatPinsModel" "later" "[I"]
def wsX5_goesOn : List Cond := .code yX5_goesOn cX5_goesOn 5 (some .int) :: ((wsX5_goesOn_r1 ++ wsX5_goesOn_r2) ++ wsX50)
def wsX5_onNow : List Cond := .code yX5_onNow cX5_onNow 4 (some .int) :: ([.fieldLink RX5 110 "HatPinsModel" "many" "I", .fieldLink RX5 70 "HatPinsModel" "slot" "[I"] ++ wsX50)
def wsX5_going_r1 : List Cond := [Cond.constantLong RX5 213 (6), Cond.fieldLink RX5 70 "HatPinsModel" "slot" "[I", Cond.fieldLink RX5 7 "HatPinsModel" "sort" "[I", Cond.fieldLink RX5 16 "HatPinsModel" "joy" "[I", Cond.fieldLink RX5 19 "HatPinsModel" "wane" "[I", Cond.fieldLink RX5 22 "HatPinsModel" "goes" "[I", Cond.methodLink RX5 209 yX5_isGoing, Cond.instanceMethod yX5_isGoing, Cond.selects RX5 yX5_isGoing yX5_isGoing, Cond.initialized RX5, Cond.code yX5_isGoing cX5_isGoing 2 (some .boolean), Cond.fieldLink RX5 110 "HatPinsModel" "many" "I", Cond.methodLink RX5 119 yX5_in, Cond.static yX5_in, Cond.code yX5_in cX5_in 6 (some .boolean), Cond.methodLink RX5 195 yX5_worth, Cond.instanceMethod yX5_worth, Cond.selects RX5 yX5_worth yX5_worth, Cond.code yX5_worth cX5_worth 3 (some .int), Cond.methodLink RX5 191 yX5_worthOf, Cond.static yX5_worthOf, Cond.code yX5_worthOf cX5_worthOf 5 (some .int), Cond.methodLink RX5 185 yX5_smaller, Cond.static yX5_smaller]
def wsX5_going_r2 : List Cond := [Cond.code yX5_smaller cX5_smaller 2 (some .int), Cond.methodLink RX5 188 yX5_larger, Cond.static yX5_larger, Cond.code yX5_larger cX5_larger 2 (some .int)]
def wsX5_going : List Cond := .code yX5_going cX5_going 4 (some .int) :: ((wsX5_going_r1 ++ wsX5_going_r2) ++ wsX50)
def wsX5_canPin : List Cond := .code yX5_canPin cX5_canPin 4 (some .boolean) :: ([.fieldLink RX5 70 "HatPinsModel" "slot" "[I", .fieldLink RX5 37 "HatPinsModel" "reach" "[I", .fieldLink RX5 7 "HatPinsModel" "sort" "[I", .methodLink RX5 152 yX5_has, .static yX5_has, .initialized RX5, .code yX5_has cX5_has 2 (some .boolean)] ++ wsX50)
def wsX5_lady : List Cond := .code yX5_lady cX5_lady 5 (some .int) :: ([.constantLong RX5 218 (2), .fieldLink RX5 110 "HatPinsModel" "many" "I", .fieldLink RX5 70 "HatPinsModel" "slot" "[I", .fieldLink RX5 37 "HatPinsModel" "reach" "[I", .methodLink RX5 215 yX5_isLady, .instanceMethod yX5_isLady, .selects RX5 yX5_isLady yX5_isLady, .initialized RX5, .code yX5_isLady cX5_isLady 2 (some .boolean), .fieldLink RX5 116 "HatPinsModel" "ladies" "I", .methodLink RX5 119 yX5_in, .static yX5_in, .code yX5_in cX5_in 6 (some .boolean), .methodLink RX5 220 yX5_canPin, .instanceMethod yX5_canPin, .selects RX5 yX5_canPin yX5_canPin, .code yX5_canPin cX5_canPin 4 (some .boolean), .fieldLink RX5 7 "HatPinsModel" "sort" "[I", .methodLink RX5 152 yX5_has, .static yX5_has, .code yX5_has cX5_has 2 (some .boolean)] ++ wsX50)
def wsX5_known : List Cond := .code yX5_known cX5_known 2 none :: ([.fieldLink RX5 176 "HatPinsModel" "acts" "I", .fieldLink RX5 70 "HatPinsModel" "slot" "[I", .methodLink RX5 224 yX5_copies, .instanceMethod yX5_copies, .selects RX5 yX5_copies yX5_copies, .initialized RX5, .code yX5_copies cX5_copies 4 none] ++ wsX50)
def wsX5_minutes_r1 : List Cond := [Cond.fieldLink RX5 236 "HatPinsModel" "wereOn" "I", Cond.methodLink RX5 239 yX5_goesOn, Cond.instanceMethod yX5_goesOn, Cond.selects RX5 yX5_goesOn yX5_goesOn, Cond.initialized RX5, Cond.code yX5_goesOn cX5_goesOn 5 (some .int), Cond.fieldLink RX5 70 "HatPinsModel" "slot" "[I", Cond.fieldLink RX5 110 "HatPinsModel" "many" "I", Cond.fieldLink RX5 22 "HatPinsModel" "goes" "[I", Cond.methodLink RX5 198 yX5_starts, Cond.instanceMethod yX5_starts, Cond.selects RX5 yX5_starts yX5_starts, Cond.code yX5_starts cX5_starts 5 (some .int), Cond.methodLink RX5 202 yX5_all, Cond.instanceMethod yX5_all, Cond.selects RX5 yX5_all yX5_all, Cond.code yX5_all cX5_all 4 (some .int), Cond.methodLink RX5 195 yX5_worth, Cond.instanceMethod yX5_worth, Cond.selects RX5 yX5_worth yX5_worth, Cond.code yX5_worth cX5_worth 3 (some .int), Cond.fieldLink RX5 7 "HatPinsModel" "sort" "[I", Cond.fieldLink RX5 16 "HatPinsModel" "joy" "[I", Cond.fieldLink RX5 19 "HatPinsModel" "wane" "[I"]
def wsX5_minutes_r2 : List Cond := [Cond.methodLink RX5 191 yX5_worthOf, Cond.static yX5_worthOf, Cond.code yX5_worthOf cX5_worthOf 5 (some .int), Cond.methodLink RX5 185 yX5_smaller, Cond.static yX5_smaller, Cond.code yX5_smaller cX5_smaller 2 (some .int), Cond.methodLink RX5 188 yX5_larger, Cond.static yX5_larger, Cond.code yX5_larger cX5_larger 2 (some .int), Cond.methodLink RX5 205 yX5_ends, Cond.instanceMethod yX5_ends, Cond.selects RX5 yX5_ends yX5_ends, Cond.code yX5_ends cX5_ends 8 none, Cond.fieldLink RX5 113 "HatPinsModel" "follows" "I", Cond.fieldLink RX5 28 "HatPinsModel" "after" "[I", Cond.fieldLink RX5 25 "HatPinsModel" "ahead" "[I", Cond.fieldLink RX5 83 "HatPinsModel" "absent" "I", Cond.fieldLink RX5 31 "HatPinsModel" "later" "[I"]
def wsX5_minutes : List Cond := .code yX5_minutes cX5_minutes 4 none :: ((wsX5_minutes_r1 ++ wsX5_minutes_r2) ++ wsX50)
def wsX5_pass_r1 : List Cond := [Cond.constantLong RX5 228 (24), Cond.fieldLink RX5 70 "HatPinsModel" "slot" "[I", Cond.methodLink RX5 119 yX5_in, Cond.static yX5_in, Cond.initialized RX5, Cond.code yX5_in cX5_in 6 (some .boolean), Cond.methodLink RX5 230 yX5_known, Cond.instanceMethod yX5_known, Cond.selects RX5 yX5_known yX5_known, Cond.code yX5_known cX5_known 2 none, Cond.fieldLink RX5 176 "HatPinsModel" "acts" "I", Cond.methodLink RX5 224 yX5_copies, Cond.instanceMethod yX5_copies, Cond.selects RX5 yX5_copies yX5_copies, Cond.code yX5_copies cX5_copies 4 none, Cond.methodLink RX5 233 yX5_minutes, Cond.instanceMethod yX5_minutes, Cond.selects RX5 yX5_minutes yX5_minutes, Cond.code yX5_minutes cX5_minutes 4 none, Cond.fieldLink RX5 236 "HatPinsModel" "wereOn" "I", Cond.methodLink RX5 239 yX5_goesOn, Cond.instanceMethod yX5_goesOn, Cond.selects RX5 yX5_goesOn yX5_goesOn, Cond.code yX5_goesOn cX5_goesOn 5 (some .int)]
def wsX5_pass_r2 : List Cond := [Cond.fieldLink RX5 110 "HatPinsModel" "many" "I", Cond.fieldLink RX5 22 "HatPinsModel" "goes" "[I", Cond.methodLink RX5 198 yX5_starts, Cond.instanceMethod yX5_starts, Cond.selects RX5 yX5_starts yX5_starts, Cond.code yX5_starts cX5_starts 5 (some .int), Cond.methodLink RX5 202 yX5_all, Cond.instanceMethod yX5_all, Cond.selects RX5 yX5_all yX5_all, Cond.code yX5_all cX5_all 4 (some .int), Cond.methodLink RX5 195 yX5_worth, Cond.instanceMethod yX5_worth, Cond.selects RX5 yX5_worth yX5_worth, Cond.code yX5_worth cX5_worth 3 (some .int), Cond.fieldLink RX5 7 "HatPinsModel" "sort" "[I", Cond.fieldLink RX5 16 "HatPinsModel" "joy" "[I", Cond.fieldLink RX5 19 "HatPinsModel" "wane" "[I", Cond.methodLink RX5 191 yX5_worthOf, Cond.static yX5_worthOf, Cond.code yX5_worthOf cX5_worthOf 5 (some .int), Cond.methodLink RX5 185 yX5_smaller, Cond.static yX5_smaller, Cond.code yX5_smaller cX5_smaller 2 (some .int), Cond.methodLink RX5 188 yX5_larger]
def wsX5_pass_r3 : List Cond := [Cond.static yX5_larger, Cond.code yX5_larger cX5_larger 2 (some .int), Cond.methodLink RX5 205 yX5_ends, Cond.instanceMethod yX5_ends, Cond.selects RX5 yX5_ends yX5_ends, Cond.code yX5_ends cX5_ends 8 none, Cond.fieldLink RX5 113 "HatPinsModel" "follows" "I", Cond.fieldLink RX5 28 "HatPinsModel" "after" "[I", Cond.fieldLink RX5 25 "HatPinsModel" "ahead" "[I", Cond.fieldLink RX5 83 "HatPinsModel" "absent" "I", Cond.fieldLink RX5 31 "HatPinsModel" "later" "[I"]
def wsX5_pass : List Cond := .code yX5_pass cX5_pass 2 (some .int) :: ((wsX5_pass_r1 ++ (wsX5_pass_r2 ++ wsX5_pass_r3)) ++ wsX50)
def wsX5_pin_r1 : List Cond := [Cond.fieldLink RX5 70 "HatPinsModel" "slot" "[I", Cond.methodLink RX5 215 yX5_isLady, Cond.instanceMethod yX5_isLady, Cond.selects RX5 yX5_isLady yX5_isLady, Cond.initialized RX5, Cond.code yX5_isLady cX5_isLady 2 (some .boolean), Cond.fieldLink RX5 116 "HatPinsModel" "ladies" "I", Cond.methodLink RX5 119 yX5_in, Cond.static yX5_in, Cond.code yX5_in cX5_in 6 (some .boolean), Cond.methodLink RX5 209 yX5_isGoing, Cond.instanceMethod yX5_isGoing, Cond.selects RX5 yX5_isGoing yX5_isGoing, Cond.code yX5_isGoing cX5_isGoing 2 (some .boolean), Cond.fieldLink RX5 110 "HatPinsModel" "many" "I", Cond.methodLink RX5 220 yX5_canPin, Cond.instanceMethod yX5_canPin, Cond.selects RX5 yX5_canPin yX5_canPin, Cond.code yX5_canPin cX5_canPin 4 (some .boolean), Cond.fieldLink RX5 37 "HatPinsModel" "reach" "[I", Cond.fieldLink RX5 7 "HatPinsModel" "sort" "[I", Cond.methodLink RX5 152 yX5_has, Cond.static yX5_has, Cond.code yX5_has cX5_has 2 (some .boolean)]
def wsX5_pin_r2 : List Cond := [Cond.methodLink RX5 230 yX5_known, Cond.instanceMethod yX5_known, Cond.selects RX5 yX5_known yX5_known, Cond.code yX5_known cX5_known 2 none, Cond.fieldLink RX5 176 "HatPinsModel" "acts" "I", Cond.methodLink RX5 224 yX5_copies, Cond.instanceMethod yX5_copies, Cond.selects RX5 yX5_copies yX5_copies, Cond.code yX5_copies cX5_copies 4 none, Cond.methodLink RX5 205 yX5_ends, Cond.instanceMethod yX5_ends, Cond.selects RX5 yX5_ends yX5_ends, Cond.code yX5_ends cX5_ends 8 none, Cond.fieldLink RX5 113 "HatPinsModel" "follows" "I", Cond.fieldLink RX5 28 "HatPinsModel" "after" "[I", Cond.fieldLink RX5 25 "HatPinsModel" "ahead" "[I", Cond.fieldLink RX5 83 "HatPinsModel" "absent" "I", Cond.fieldLink RX5 31 "HatPinsModel" "later" "[I", Cond.methodLink RX5 185 yX5_smaller, Cond.static yX5_smaller, Cond.code yX5_smaller cX5_smaller 2 (some .int)]
def wsX5_pin : List Cond := .code yX5_pin cX5_pin 3 (some .int) :: ((wsX5_pin_r1 ++ wsX5_pin_r2) ++ wsX50)
def wsX5_lend : List Cond := .code yX5_lend cX5_lend 3 (some .int) :: ([.fieldLink RX5 70 "HatPinsModel" "slot" "[I", .methodLink RX5 215 yX5_isLady, .instanceMethod yX5_isLady, .selects RX5 yX5_isLady yX5_isLady, .initialized RX5, .code yX5_isLady cX5_isLady 2 (some .boolean), .fieldLink RX5 116 "HatPinsModel" "ladies" "I", .methodLink RX5 119 yX5_in, .static yX5_in, .code yX5_in cX5_in 6 (some .boolean), .methodLink RX5 230 yX5_known, .instanceMethod yX5_known, .selects RX5 yX5_known yX5_known, .code yX5_known cX5_known 2 none, .fieldLink RX5 176 "HatPinsModel" "acts" "I", .methodLink RX5 224 yX5_copies, .instanceMethod yX5_copies, .selects RX5 yX5_copies yX5_copies, .code yX5_copies cX5_copies 4 none] ++ wsX50)
def wsX5_undo : List Cond := .code yX5_undo cX5_undo 1 (some .int) :: ([.fieldLink RX5 176 "HatPinsModel" "acts" "I", .methodLink RX5 224 yX5_copies, .instanceMethod yX5_copies, .selects RX5 yX5_copies yX5_copies, .initialized RX5, .code yX5_copies cX5_copies 4 none, .fieldLink RX5 70 "HatPinsModel" "slot" "[I"] ++ wsX50)
def wsX5_behind_r1 : List Cond := [Cond.constantLong RX5 242 (60), Cond.fieldLink RX5 70 "HatPinsModel" "slot" "[I", Cond.methodLink RX5 119 yX5_in, Cond.static yX5_in, Cond.initialized RX5, Cond.code yX5_in cX5_in 6 (some .boolean), Cond.methodLink RX5 224 yX5_copies, Cond.instanceMethod yX5_copies, Cond.selects RX5 yX5_copies yX5_copies, Cond.code yX5_copies cX5_copies 4 none, Cond.methodLink RX5 233 yX5_minutes, Cond.instanceMethod yX5_minutes, Cond.selects RX5 yX5_minutes yX5_minutes, Cond.code yX5_minutes cX5_minutes 4 none, Cond.fieldLink RX5 236 "HatPinsModel" "wereOn" "I", Cond.methodLink RX5 239 yX5_goesOn, Cond.instanceMethod yX5_goesOn, Cond.selects RX5 yX5_goesOn yX5_goesOn, Cond.code yX5_goesOn cX5_goesOn 5 (some .int), Cond.fieldLink RX5 110 "HatPinsModel" "many" "I", Cond.fieldLink RX5 22 "HatPinsModel" "goes" "[I", Cond.methodLink RX5 198 yX5_starts, Cond.instanceMethod yX5_starts, Cond.selects RX5 yX5_starts yX5_starts]
def wsX5_behind_r2 : List Cond := [Cond.code yX5_starts cX5_starts 5 (some .int), Cond.methodLink RX5 202 yX5_all, Cond.instanceMethod yX5_all, Cond.selects RX5 yX5_all yX5_all, Cond.code yX5_all cX5_all 4 (some .int), Cond.methodLink RX5 195 yX5_worth, Cond.instanceMethod yX5_worth, Cond.selects RX5 yX5_worth yX5_worth, Cond.code yX5_worth cX5_worth 3 (some .int), Cond.fieldLink RX5 7 "HatPinsModel" "sort" "[I", Cond.fieldLink RX5 16 "HatPinsModel" "joy" "[I", Cond.fieldLink RX5 19 "HatPinsModel" "wane" "[I", Cond.methodLink RX5 191 yX5_worthOf, Cond.static yX5_worthOf, Cond.code yX5_worthOf cX5_worthOf 5 (some .int), Cond.methodLink RX5 185 yX5_smaller, Cond.static yX5_smaller, Cond.code yX5_smaller cX5_smaller 2 (some .int), Cond.methodLink RX5 188 yX5_larger, Cond.static yX5_larger, Cond.code yX5_larger cX5_larger 2 (some .int), Cond.methodLink RX5 205 yX5_ends, Cond.instanceMethod yX5_ends, Cond.selects RX5 yX5_ends yX5_ends]
def wsX5_behind_r3 : List Cond := [Cond.code yX5_ends cX5_ends 8 none, Cond.fieldLink RX5 113 "HatPinsModel" "follows" "I", Cond.fieldLink RX5 28 "HatPinsModel" "after" "[I", Cond.fieldLink RX5 25 "HatPinsModel" "ahead" "[I", Cond.fieldLink RX5 83 "HatPinsModel" "absent" "I", Cond.fieldLink RX5 31 "HatPinsModel" "later" "[I", Cond.methodLink RX5 244 yX5_onNow, Cond.instanceMethod yX5_onNow, Cond.selects RX5 yX5_onNow yX5_onNow, Cond.code yX5_onNow cX5_onNow 4 (some .int)]
def wsX5_behind : List Cond := .code yX5_behind cX5_behind 3 (some .int) :: ((wsX5_behind_r1 ++ (wsX5_behind_r2 ++ wsX5_behind_r3)) ++ wsX50)
def wsX5_dull_r1 : List Cond := [Cond.fieldLink RX5 70 "HatPinsModel" "slot" "[I", Cond.methodLink RX5 224 yX5_copies, Cond.instanceMethod yX5_copies, Cond.selects RX5 yX5_copies yX5_copies, Cond.initialized RX5, Cond.code yX5_copies cX5_copies 4 none, Cond.methodLink RX5 233 yX5_minutes, Cond.instanceMethod yX5_minutes, Cond.selects RX5 yX5_minutes yX5_minutes, Cond.code yX5_minutes cX5_minutes 4 none, Cond.fieldLink RX5 236 "HatPinsModel" "wereOn" "I", Cond.methodLink RX5 239 yX5_goesOn, Cond.instanceMethod yX5_goesOn, Cond.selects RX5 yX5_goesOn yX5_goesOn, Cond.code yX5_goesOn cX5_goesOn 5 (some .int), Cond.fieldLink RX5 110 "HatPinsModel" "many" "I", Cond.fieldLink RX5 22 "HatPinsModel" "goes" "[I", Cond.methodLink RX5 198 yX5_starts, Cond.instanceMethod yX5_starts, Cond.selects RX5 yX5_starts yX5_starts, Cond.code yX5_starts cX5_starts 5 (some .int), Cond.methodLink RX5 202 yX5_all, Cond.instanceMethod yX5_all, Cond.selects RX5 yX5_all yX5_all]
def wsX5_dull_r2 : List Cond := [Cond.code yX5_all cX5_all 4 (some .int), Cond.methodLink RX5 195 yX5_worth, Cond.instanceMethod yX5_worth, Cond.selects RX5 yX5_worth yX5_worth, Cond.code yX5_worth cX5_worth 3 (some .int), Cond.fieldLink RX5 7 "HatPinsModel" "sort" "[I", Cond.fieldLink RX5 16 "HatPinsModel" "joy" "[I", Cond.fieldLink RX5 19 "HatPinsModel" "wane" "[I", Cond.methodLink RX5 191 yX5_worthOf, Cond.static yX5_worthOf, Cond.code yX5_worthOf cX5_worthOf 5 (some .int), Cond.methodLink RX5 185 yX5_smaller, Cond.static yX5_smaller, Cond.code yX5_smaller cX5_smaller 2 (some .int), Cond.methodLink RX5 188 yX5_larger, Cond.static yX5_larger, Cond.code yX5_larger cX5_larger 2 (some .int), Cond.methodLink RX5 205 yX5_ends, Cond.instanceMethod yX5_ends, Cond.selects RX5 yX5_ends yX5_ends, Cond.code yX5_ends cX5_ends 8 none, Cond.fieldLink RX5 113 "HatPinsModel" "follows" "I", Cond.fieldLink RX5 28 "HatPinsModel" "after" "[I", Cond.fieldLink RX5 25 "HatPinsModel" "ahead" "[I"]
def wsX5_dull_r3 : List Cond := [Cond.fieldLink RX5 83 "HatPinsModel" "absent" "I", Cond.fieldLink RX5 31 "HatPinsModel" "later" "[I"]
def wsX5_dull : List Cond := .code yX5_dull cX5_dull 3 (some .int) :: ((wsX5_dull_r1 ++ (wsX5_dull_r2 ++ wsX5_dull_r3)) ++ wsX50)
def wsX5_quiet_r1 : List Cond := [Cond.methodLink RX5 224 yX5_copies, Cond.instanceMethod yX5_copies, Cond.selects RX5 yX5_copies yX5_copies, Cond.initialized RX5, Cond.code yX5_copies cX5_copies 4 none, Cond.fieldLink RX5 70 "HatPinsModel" "slot" "[I", Cond.methodLink RX5 239 yX5_goesOn, Cond.instanceMethod yX5_goesOn, Cond.selects RX5 yX5_goesOn yX5_goesOn, Cond.code yX5_goesOn cX5_goesOn 5 (some .int), Cond.fieldLink RX5 110 "HatPinsModel" "many" "I", Cond.fieldLink RX5 22 "HatPinsModel" "goes" "[I", Cond.methodLink RX5 198 yX5_starts, Cond.instanceMethod yX5_starts, Cond.selects RX5 yX5_starts yX5_starts, Cond.code yX5_starts cX5_starts 5 (some .int), Cond.methodLink RX5 202 yX5_all, Cond.instanceMethod yX5_all, Cond.selects RX5 yX5_all yX5_all, Cond.code yX5_all cX5_all 4 (some .int), Cond.methodLink RX5 195 yX5_worth, Cond.instanceMethod yX5_worth, Cond.selects RX5 yX5_worth yX5_worth, Cond.code yX5_worth cX5_worth 3 (some .int)]
def wsX5_quiet_r2 : List Cond := [Cond.fieldLink RX5 7 "HatPinsModel" "sort" "[I", Cond.fieldLink RX5 16 "HatPinsModel" "joy" "[I", Cond.fieldLink RX5 19 "HatPinsModel" "wane" "[I", Cond.methodLink RX5 191 yX5_worthOf, Cond.static yX5_worthOf, Cond.code yX5_worthOf cX5_worthOf 5 (some .int), Cond.methodLink RX5 185 yX5_smaller, Cond.static yX5_smaller, Cond.code yX5_smaller cX5_smaller 2 (some .int), Cond.methodLink RX5 188 yX5_larger, Cond.static yX5_larger, Cond.code yX5_larger cX5_larger 2 (some .int), Cond.methodLink RX5 205 yX5_ends, Cond.instanceMethod yX5_ends, Cond.selects RX5 yX5_ends yX5_ends, Cond.code yX5_ends cX5_ends 8 none, Cond.fieldLink RX5 113 "HatPinsModel" "follows" "I", Cond.fieldLink RX5 28 "HatPinsModel" "after" "[I", Cond.fieldLink RX5 25 "HatPinsModel" "ahead" "[I", Cond.fieldLink RX5 83 "HatPinsModel" "absent" "I", Cond.fieldLink RX5 31 "HatPinsModel" "later" "[I"]
def wsX5_quiet : List Cond := .code yX5_quiet cX5_quiet 4 (some .int) :: ((wsX5_quiet_r1 ++ wsX5_quiet_r2) ++ wsX50)
def wsX5_hadThen_r1 : List Cond := [Cond.fieldLink RX5 70 "HatPinsModel" "slot" "[I", Cond.methodLink RX5 233 yX5_minutes, Cond.instanceMethod yX5_minutes, Cond.selects RX5 yX5_minutes yX5_minutes, Cond.initialized RX5, Cond.code yX5_minutes cX5_minutes 4 none, Cond.fieldLink RX5 236 "HatPinsModel" "wereOn" "I", Cond.methodLink RX5 239 yX5_goesOn, Cond.instanceMethod yX5_goesOn, Cond.selects RX5 yX5_goesOn yX5_goesOn, Cond.code yX5_goesOn cX5_goesOn 5 (some .int), Cond.fieldLink RX5 110 "HatPinsModel" "many" "I", Cond.fieldLink RX5 22 "HatPinsModel" "goes" "[I", Cond.methodLink RX5 198 yX5_starts, Cond.instanceMethod yX5_starts, Cond.selects RX5 yX5_starts yX5_starts, Cond.code yX5_starts cX5_starts 5 (some .int), Cond.methodLink RX5 202 yX5_all, Cond.instanceMethod yX5_all, Cond.selects RX5 yX5_all yX5_all, Cond.code yX5_all cX5_all 4 (some .int), Cond.methodLink RX5 195 yX5_worth, Cond.instanceMethod yX5_worth, Cond.selects RX5 yX5_worth yX5_worth]
def wsX5_hadThen_r2 : List Cond := [Cond.code yX5_worth cX5_worth 3 (some .int), Cond.fieldLink RX5 7 "HatPinsModel" "sort" "[I", Cond.fieldLink RX5 16 "HatPinsModel" "joy" "[I", Cond.fieldLink RX5 19 "HatPinsModel" "wane" "[I", Cond.methodLink RX5 191 yX5_worthOf, Cond.static yX5_worthOf, Cond.code yX5_worthOf cX5_worthOf 5 (some .int), Cond.methodLink RX5 185 yX5_smaller, Cond.static yX5_smaller, Cond.code yX5_smaller cX5_smaller 2 (some .int), Cond.methodLink RX5 188 yX5_larger, Cond.static yX5_larger, Cond.code yX5_larger cX5_larger 2 (some .int), Cond.methodLink RX5 205 yX5_ends, Cond.instanceMethod yX5_ends, Cond.selects RX5 yX5_ends yX5_ends, Cond.code yX5_ends cX5_ends 8 none, Cond.fieldLink RX5 113 "HatPinsModel" "follows" "I", Cond.fieldLink RX5 28 "HatPinsModel" "after" "[I", Cond.fieldLink RX5 25 "HatPinsModel" "ahead" "[I", Cond.fieldLink RX5 83 "HatPinsModel" "absent" "I", Cond.fieldLink RX5 31 "HatPinsModel" "later" "[I"]
def wsX5_hadThen : List Cond := .code yX5_hadThen cX5_hadThen 1 (some .int) :: ((wsX5_hadThen_r1 ++ wsX5_hadThen_r2) ++ wsX50)
def wsX5_hadAsItIs_r1 : List Cond := [Cond.methodLink RX5 224 yX5_copies, Cond.instanceMethod yX5_copies, Cond.selects RX5 yX5_copies yX5_copies, Cond.initialized RX5, Cond.code yX5_copies cX5_copies 4 none, Cond.fieldLink RX5 70 "HatPinsModel" "slot" "[I", Cond.methodLink RX5 247 yX5_hadThen, Cond.instanceMethod yX5_hadThen, Cond.selects RX5 yX5_hadThen yX5_hadThen, Cond.code yX5_hadThen cX5_hadThen 1 (some .int), Cond.methodLink RX5 233 yX5_minutes, Cond.instanceMethod yX5_minutes, Cond.selects RX5 yX5_minutes yX5_minutes, Cond.code yX5_minutes cX5_minutes 4 none, Cond.fieldLink RX5 236 "HatPinsModel" "wereOn" "I", Cond.methodLink RX5 239 yX5_goesOn, Cond.instanceMethod yX5_goesOn, Cond.selects RX5 yX5_goesOn yX5_goesOn, Cond.code yX5_goesOn cX5_goesOn 5 (some .int), Cond.fieldLink RX5 110 "HatPinsModel" "many" "I", Cond.fieldLink RX5 22 "HatPinsModel" "goes" "[I", Cond.methodLink RX5 198 yX5_starts, Cond.instanceMethod yX5_starts, Cond.selects RX5 yX5_starts yX5_starts]
def wsX5_hadAsItIs_r2 : List Cond := [Cond.code yX5_starts cX5_starts 5 (some .int), Cond.methodLink RX5 202 yX5_all, Cond.instanceMethod yX5_all, Cond.selects RX5 yX5_all yX5_all, Cond.code yX5_all cX5_all 4 (some .int), Cond.methodLink RX5 195 yX5_worth, Cond.instanceMethod yX5_worth, Cond.selects RX5 yX5_worth yX5_worth, Cond.code yX5_worth cX5_worth 3 (some .int), Cond.fieldLink RX5 7 "HatPinsModel" "sort" "[I", Cond.fieldLink RX5 16 "HatPinsModel" "joy" "[I", Cond.fieldLink RX5 19 "HatPinsModel" "wane" "[I", Cond.methodLink RX5 191 yX5_worthOf, Cond.static yX5_worthOf, Cond.code yX5_worthOf cX5_worthOf 5 (some .int), Cond.methodLink RX5 185 yX5_smaller, Cond.static yX5_smaller, Cond.code yX5_smaller cX5_smaller 2 (some .int), Cond.methodLink RX5 188 yX5_larger, Cond.static yX5_larger, Cond.code yX5_larger cX5_larger 2 (some .int), Cond.methodLink RX5 205 yX5_ends, Cond.instanceMethod yX5_ends, Cond.selects RX5 yX5_ends yX5_ends]
def wsX5_hadAsItIs_r3 : List Cond := [Cond.code yX5_ends cX5_ends 8 none, Cond.fieldLink RX5 113 "HatPinsModel" "follows" "I", Cond.fieldLink RX5 28 "HatPinsModel" "after" "[I", Cond.fieldLink RX5 25 "HatPinsModel" "ahead" "[I", Cond.fieldLink RX5 83 "HatPinsModel" "absent" "I", Cond.fieldLink RX5 31 "HatPinsModel" "later" "[I"]
def wsX5_hadAsItIs : List Cond := .code yX5_hadAsItIs cX5_hadAsItIs 1 (some .int) :: ((wsX5_hadAsItIs_r1 ++ (wsX5_hadAsItIs_r2 ++ wsX5_hadAsItIs_r3)) ++ wsX50)
def wsX5_hadStopped_r1 : List Cond := [Cond.fieldLink RX5 70 "HatPinsModel" "slot" "[I", Cond.methodLink RX5 224 yX5_copies, Cond.instanceMethod yX5_copies, Cond.selects RX5 yX5_copies yX5_copies, Cond.initialized RX5, Cond.code yX5_copies cX5_copies 4 none, Cond.methodLink RX5 205 yX5_ends, Cond.instanceMethod yX5_ends, Cond.selects RX5 yX5_ends yX5_ends, Cond.code yX5_ends cX5_ends 8 none, Cond.fieldLink RX5 113 "HatPinsModel" "follows" "I", Cond.fieldLink RX5 28 "HatPinsModel" "after" "[I", Cond.fieldLink RX5 25 "HatPinsModel" "ahead" "[I", Cond.fieldLink RX5 83 "HatPinsModel" "absent" "I", Cond.fieldLink RX5 31 "HatPinsModel" "later" "[I", Cond.methodLink RX5 185 yX5_smaller, Cond.static yX5_smaller, Cond.code yX5_smaller cX5_smaller 2 (some .int), Cond.methodLink RX5 233 yX5_minutes, Cond.instanceMethod yX5_minutes, Cond.selects RX5 yX5_minutes yX5_minutes, Cond.code yX5_minutes cX5_minutes 4 none, Cond.fieldLink RX5 236 "HatPinsModel" "wereOn" "I", Cond.methodLink RX5 239 yX5_goesOn]
def wsX5_hadStopped_r2 : List Cond := [Cond.instanceMethod yX5_goesOn, Cond.selects RX5 yX5_goesOn yX5_goesOn, Cond.code yX5_goesOn cX5_goesOn 5 (some .int), Cond.fieldLink RX5 110 "HatPinsModel" "many" "I", Cond.fieldLink RX5 22 "HatPinsModel" "goes" "[I", Cond.methodLink RX5 198 yX5_starts, Cond.instanceMethod yX5_starts, Cond.selects RX5 yX5_starts yX5_starts, Cond.code yX5_starts cX5_starts 5 (some .int), Cond.methodLink RX5 202 yX5_all, Cond.instanceMethod yX5_all, Cond.selects RX5 yX5_all yX5_all, Cond.code yX5_all cX5_all 4 (some .int), Cond.methodLink RX5 195 yX5_worth, Cond.instanceMethod yX5_worth, Cond.selects RX5 yX5_worth yX5_worth, Cond.code yX5_worth cX5_worth 3 (some .int), Cond.fieldLink RX5 7 "HatPinsModel" "sort" "[I", Cond.fieldLink RX5 16 "HatPinsModel" "joy" "[I", Cond.fieldLink RX5 19 "HatPinsModel" "wane" "[I", Cond.methodLink RX5 191 yX5_worthOf, Cond.static yX5_worthOf, Cond.code yX5_worthOf cX5_worthOf 5 (some .int), Cond.methodLink RX5 188 yX5_larger]
def wsX5_hadStopped_r3 : List Cond := [Cond.static yX5_larger, Cond.code yX5_larger cX5_larger 2 (some .int)]
def wsX5_hadStopped : List Cond := .code yX5_hadStopped cX5_hadStopped 4 (some .int) :: ((wsX5_hadStopped_r1 ++ (wsX5_hadStopped_r2 ++ wsX5_hadStopped_r3)) ++ wsX50)
def wsX5_stop_r1 : List Cond := [Cond.fieldLink RX5 70 "HatPinsModel" "slot" "[I", Cond.methodLink RX5 209 yX5_isGoing, Cond.instanceMethod yX5_isGoing, Cond.selects RX5 yX5_isGoing yX5_isGoing, Cond.initialized RX5, Cond.code yX5_isGoing cX5_isGoing 2 (some .boolean), Cond.fieldLink RX5 110 "HatPinsModel" "many" "I", Cond.methodLink RX5 119 yX5_in, Cond.static yX5_in, Cond.code yX5_in cX5_in 6 (some .boolean), Cond.methodLink RX5 250 yX5_hadAsItIs, Cond.instanceMethod yX5_hadAsItIs, Cond.selects RX5 yX5_hadAsItIs yX5_hadAsItIs, Cond.code yX5_hadAsItIs cX5_hadAsItIs 1 (some .int), Cond.methodLink RX5 224 yX5_copies, Cond.instanceMethod yX5_copies, Cond.selects RX5 yX5_copies yX5_copies, Cond.code yX5_copies cX5_copies 4 none, Cond.methodLink RX5 247 yX5_hadThen, Cond.instanceMethod yX5_hadThen, Cond.selects RX5 yX5_hadThen yX5_hadThen, Cond.code yX5_hadThen cX5_hadThen 1 (some .int), Cond.methodLink RX5 233 yX5_minutes, Cond.instanceMethod yX5_minutes]
def wsX5_stop_r2 : List Cond := [Cond.selects RX5 yX5_minutes yX5_minutes, Cond.code yX5_minutes cX5_minutes 4 none, Cond.fieldLink RX5 236 "HatPinsModel" "wereOn" "I", Cond.methodLink RX5 239 yX5_goesOn, Cond.instanceMethod yX5_goesOn, Cond.selects RX5 yX5_goesOn yX5_goesOn, Cond.code yX5_goesOn cX5_goesOn 5 (some .int), Cond.fieldLink RX5 22 "HatPinsModel" "goes" "[I", Cond.methodLink RX5 198 yX5_starts, Cond.instanceMethod yX5_starts, Cond.selects RX5 yX5_starts yX5_starts, Cond.code yX5_starts cX5_starts 5 (some .int), Cond.methodLink RX5 202 yX5_all, Cond.instanceMethod yX5_all, Cond.selects RX5 yX5_all yX5_all, Cond.code yX5_all cX5_all 4 (some .int), Cond.methodLink RX5 195 yX5_worth, Cond.instanceMethod yX5_worth, Cond.selects RX5 yX5_worth yX5_worth, Cond.code yX5_worth cX5_worth 3 (some .int), Cond.fieldLink RX5 7 "HatPinsModel" "sort" "[I", Cond.fieldLink RX5 16 "HatPinsModel" "joy" "[I", Cond.fieldLink RX5 19 "HatPinsModel" "wane" "[I", Cond.methodLink RX5 191 yX5_worthOf]
def wsX5_stop_r3 : List Cond := [Cond.static yX5_worthOf, Cond.code yX5_worthOf cX5_worthOf 5 (some .int), Cond.methodLink RX5 185 yX5_smaller, Cond.static yX5_smaller, Cond.code yX5_smaller cX5_smaller 2 (some .int), Cond.methodLink RX5 188 yX5_larger, Cond.static yX5_larger, Cond.code yX5_larger cX5_larger 2 (some .int), Cond.methodLink RX5 205 yX5_ends, Cond.instanceMethod yX5_ends, Cond.selects RX5 yX5_ends yX5_ends, Cond.code yX5_ends cX5_ends 8 none, Cond.fieldLink RX5 113 "HatPinsModel" "follows" "I", Cond.fieldLink RX5 28 "HatPinsModel" "after" "[I", Cond.fieldLink RX5 25 "HatPinsModel" "ahead" "[I", Cond.fieldLink RX5 83 "HatPinsModel" "absent" "I", Cond.fieldLink RX5 31 "HatPinsModel" "later" "[I", Cond.methodLink RX5 253 yX5_hadStopped, Cond.instanceMethod yX5_hadStopped, Cond.selects RX5 yX5_hadStopped yX5_hadStopped, Cond.code yX5_hadStopped cX5_hadStopped 4 (some .int)]
def wsX5_stop : List Cond := .code yX5_stop cX5_stop 7 (some .int) :: ((wsX5_stop_r1 ++ (wsX5_stop_r2 ++ wsX5_stop_r3)) ++ wsX50)
def wsX5_best_r1 : List Cond := [Cond.fieldLink RX5 116 "HatPinsModel" "ladies" "I", Cond.fieldLink RX5 110 "HatPinsModel" "many" "I", Cond.fieldLink RX5 70 "HatPinsModel" "slot" "[I", Cond.methodLink RX5 119 yX5_in, Cond.static yX5_in, Cond.initialized RX5, Cond.code yX5_in cX5_in 6 (some .boolean), Cond.methodLink RX5 250 yX5_hadAsItIs, Cond.instanceMethod yX5_hadAsItIs, Cond.selects RX5 yX5_hadAsItIs yX5_hadAsItIs, Cond.code yX5_hadAsItIs cX5_hadAsItIs 1 (some .int), Cond.methodLink RX5 224 yX5_copies, Cond.instanceMethod yX5_copies, Cond.selects RX5 yX5_copies yX5_copies, Cond.code yX5_copies cX5_copies 4 none, Cond.methodLink RX5 247 yX5_hadThen, Cond.instanceMethod yX5_hadThen, Cond.selects RX5 yX5_hadThen yX5_hadThen, Cond.code yX5_hadThen cX5_hadThen 1 (some .int), Cond.methodLink RX5 233 yX5_minutes, Cond.instanceMethod yX5_minutes, Cond.selects RX5 yX5_minutes yX5_minutes, Cond.code yX5_minutes cX5_minutes 4 none, Cond.fieldLink RX5 236 "HatPinsModel" "wereOn" "I"]
def wsX5_best_r2 : List Cond := [Cond.methodLink RX5 239 yX5_goesOn, Cond.instanceMethod yX5_goesOn, Cond.selects RX5 yX5_goesOn yX5_goesOn, Cond.code yX5_goesOn cX5_goesOn 5 (some .int), Cond.fieldLink RX5 22 "HatPinsModel" "goes" "[I", Cond.methodLink RX5 198 yX5_starts, Cond.instanceMethod yX5_starts, Cond.selects RX5 yX5_starts yX5_starts, Cond.code yX5_starts cX5_starts 5 (some .int), Cond.methodLink RX5 202 yX5_all, Cond.instanceMethod yX5_all, Cond.selects RX5 yX5_all yX5_all, Cond.code yX5_all cX5_all 4 (some .int), Cond.methodLink RX5 195 yX5_worth, Cond.instanceMethod yX5_worth, Cond.selects RX5 yX5_worth yX5_worth, Cond.code yX5_worth cX5_worth 3 (some .int), Cond.fieldLink RX5 7 "HatPinsModel" "sort" "[I", Cond.fieldLink RX5 16 "HatPinsModel" "joy" "[I", Cond.fieldLink RX5 19 "HatPinsModel" "wane" "[I", Cond.methodLink RX5 191 yX5_worthOf, Cond.static yX5_worthOf, Cond.code yX5_worthOf cX5_worthOf 5 (some .int), Cond.methodLink RX5 185 yX5_smaller]
def wsX5_best_r3 : List Cond := [Cond.static yX5_smaller, Cond.code yX5_smaller cX5_smaller 2 (some .int), Cond.methodLink RX5 188 yX5_larger, Cond.static yX5_larger, Cond.code yX5_larger cX5_larger 2 (some .int), Cond.methodLink RX5 205 yX5_ends, Cond.instanceMethod yX5_ends, Cond.selects RX5 yX5_ends yX5_ends, Cond.code yX5_ends cX5_ends 8 none, Cond.fieldLink RX5 113 "HatPinsModel" "follows" "I", Cond.fieldLink RX5 28 "HatPinsModel" "after" "[I", Cond.fieldLink RX5 25 "HatPinsModel" "ahead" "[I", Cond.fieldLink RX5 83 "HatPinsModel" "absent" "I", Cond.fieldLink RX5 31 "HatPinsModel" "later" "[I", Cond.methodLink RX5 220 yX5_canPin, Cond.instanceMethod yX5_canPin, Cond.selects RX5 yX5_canPin yX5_canPin, Cond.code yX5_canPin cX5_canPin 4 (some .boolean), Cond.fieldLink RX5 37 "HatPinsModel" "reach" "[I", Cond.methodLink RX5 152 yX5_has, Cond.static yX5_has, Cond.code yX5_has cX5_has 2 (some .boolean)]
def wsX5_best : List Cond := .code yX5_best cX5_best 8 (some .int) :: ((wsX5_best_r1 ++ (wsX5_best_r2 ++ wsX5_best_r3)) ++ wsX50)
def wsX5_both_r1 : List Cond := [Cond.fieldLink RX5 110 "HatPinsModel" "many" "I", Cond.fieldLink RX5 70 "HatPinsModel" "slot" "[I", Cond.methodLink RX5 119 yX5_in, Cond.static yX5_in, Cond.initialized RX5, Cond.code yX5_in cX5_in 6 (some .boolean), Cond.methodLink RX5 224 yX5_copies, Cond.instanceMethod yX5_copies, Cond.selects RX5 yX5_copies yX5_copies, Cond.code yX5_copies cX5_copies 4 none, Cond.methodLink RX5 205 yX5_ends, Cond.instanceMethod yX5_ends, Cond.selects RX5 yX5_ends yX5_ends, Cond.code yX5_ends cX5_ends 8 none, Cond.fieldLink RX5 113 "HatPinsModel" "follows" "I", Cond.fieldLink RX5 28 "HatPinsModel" "after" "[I", Cond.fieldLink RX5 25 "HatPinsModel" "ahead" "[I", Cond.fieldLink RX5 83 "HatPinsModel" "absent" "I", Cond.fieldLink RX5 31 "HatPinsModel" "later" "[I", Cond.methodLink RX5 185 yX5_smaller, Cond.static yX5_smaller, Cond.code yX5_smaller cX5_smaller 2 (some .int), Cond.methodLink RX5 247 yX5_hadThen, Cond.instanceMethod yX5_hadThen]
def wsX5_both_r2 : List Cond := [Cond.selects RX5 yX5_hadThen yX5_hadThen, Cond.code yX5_hadThen cX5_hadThen 1 (some .int), Cond.methodLink RX5 233 yX5_minutes, Cond.instanceMethod yX5_minutes, Cond.selects RX5 yX5_minutes yX5_minutes, Cond.code yX5_minutes cX5_minutes 4 none, Cond.fieldLink RX5 236 "HatPinsModel" "wereOn" "I", Cond.methodLink RX5 239 yX5_goesOn, Cond.instanceMethod yX5_goesOn, Cond.selects RX5 yX5_goesOn yX5_goesOn, Cond.code yX5_goesOn cX5_goesOn 5 (some .int), Cond.fieldLink RX5 22 "HatPinsModel" "goes" "[I", Cond.methodLink RX5 198 yX5_starts, Cond.instanceMethod yX5_starts, Cond.selects RX5 yX5_starts yX5_starts, Cond.code yX5_starts cX5_starts 5 (some .int), Cond.methodLink RX5 202 yX5_all, Cond.instanceMethod yX5_all, Cond.selects RX5 yX5_all yX5_all, Cond.code yX5_all cX5_all 4 (some .int), Cond.methodLink RX5 195 yX5_worth, Cond.instanceMethod yX5_worth, Cond.selects RX5 yX5_worth yX5_worth, Cond.code yX5_worth cX5_worth 3 (some .int)]
def wsX5_both_r3 : List Cond := [Cond.fieldLink RX5 7 "HatPinsModel" "sort" "[I", Cond.fieldLink RX5 16 "HatPinsModel" "joy" "[I", Cond.fieldLink RX5 19 "HatPinsModel" "wane" "[I", Cond.methodLink RX5 191 yX5_worthOf, Cond.static yX5_worthOf, Cond.code yX5_worthOf cX5_worthOf 5 (some .int), Cond.methodLink RX5 188 yX5_larger, Cond.static yX5_larger, Cond.code yX5_larger cX5_larger 2 (some .int)]
def wsX5_both : List Cond := .code yX5_both cX5_both 8 (some .int) :: ((wsX5_both_r1 ++ (wsX5_both_r2 ++ wsX5_both_r3)) ++ wsX50)
def wsX5_never_r1 : List Cond := [Cond.fieldLink RX5 110 "HatPinsModel" "many" "I", Cond.fieldLink RX5 70 "HatPinsModel" "slot" "[I", Cond.fieldLink RX5 83 "HatPinsModel" "absent" "I", Cond.methodLink RX5 119 yX5_in, Cond.static yX5_in, Cond.initialized RX5, Cond.code yX5_in cX5_in 6 (some .boolean), Cond.methodLink RX5 250 yX5_hadAsItIs, Cond.instanceMethod yX5_hadAsItIs, Cond.selects RX5 yX5_hadAsItIs yX5_hadAsItIs, Cond.code yX5_hadAsItIs cX5_hadAsItIs 1 (some .int), Cond.methodLink RX5 224 yX5_copies, Cond.instanceMethod yX5_copies, Cond.selects RX5 yX5_copies yX5_copies, Cond.code yX5_copies cX5_copies 4 none, Cond.methodLink RX5 247 yX5_hadThen, Cond.instanceMethod yX5_hadThen, Cond.selects RX5 yX5_hadThen yX5_hadThen, Cond.code yX5_hadThen cX5_hadThen 1 (some .int), Cond.methodLink RX5 233 yX5_minutes, Cond.instanceMethod yX5_minutes, Cond.selects RX5 yX5_minutes yX5_minutes, Cond.code yX5_minutes cX5_minutes 4 none, Cond.fieldLink RX5 236 "HatPinsModel" "wereOn" "I"]
def wsX5_never_r2 : List Cond := [Cond.methodLink RX5 239 yX5_goesOn, Cond.instanceMethod yX5_goesOn, Cond.selects RX5 yX5_goesOn yX5_goesOn, Cond.code yX5_goesOn cX5_goesOn 5 (some .int), Cond.fieldLink RX5 22 "HatPinsModel" "goes" "[I", Cond.methodLink RX5 198 yX5_starts, Cond.instanceMethod yX5_starts, Cond.selects RX5 yX5_starts yX5_starts, Cond.code yX5_starts cX5_starts 5 (some .int), Cond.methodLink RX5 202 yX5_all, Cond.instanceMethod yX5_all, Cond.selects RX5 yX5_all yX5_all, Cond.code yX5_all cX5_all 4 (some .int), Cond.methodLink RX5 195 yX5_worth, Cond.instanceMethod yX5_worth, Cond.selects RX5 yX5_worth yX5_worth, Cond.code yX5_worth cX5_worth 3 (some .int), Cond.fieldLink RX5 7 "HatPinsModel" "sort" "[I", Cond.fieldLink RX5 16 "HatPinsModel" "joy" "[I", Cond.fieldLink RX5 19 "HatPinsModel" "wane" "[I", Cond.methodLink RX5 191 yX5_worthOf, Cond.static yX5_worthOf, Cond.code yX5_worthOf cX5_worthOf 5 (some .int), Cond.methodLink RX5 185 yX5_smaller]
def wsX5_never_r3 : List Cond := [Cond.static yX5_smaller, Cond.code yX5_smaller cX5_smaller 2 (some .int), Cond.methodLink RX5 188 yX5_larger, Cond.static yX5_larger, Cond.code yX5_larger cX5_larger 2 (some .int), Cond.methodLink RX5 205 yX5_ends, Cond.instanceMethod yX5_ends, Cond.selects RX5 yX5_ends yX5_ends, Cond.code yX5_ends cX5_ends 8 none, Cond.fieldLink RX5 113 "HatPinsModel" "follows" "I", Cond.fieldLink RX5 28 "HatPinsModel" "after" "[I", Cond.fieldLink RX5 25 "HatPinsModel" "ahead" "[I", Cond.fieldLink RX5 31 "HatPinsModel" "later" "[I"]
def wsX5_never : List Cond := .code yX5_never cX5_never 6 (some .int) :: ((wsX5_never_r1 ++ (wsX5_never_r2 ++ wsX5_never_r3)) ++ wsX50)
def wsX5_note : List Cond := .code yX5_note cX5_note 3 (some .int) :: ([.constantLong RX5 256 (39), .constantLong RX5 258 (-20), .constantLong RX5 260 (20), .fieldLink RX5 182 "HatPinsModel" "notes" "I", .fieldLink RX5 77 "HatPinsModel" "notedAt" "[I", .fieldLink RX5 80 "HatPinsModel" "notedWorth" "[I", .methodLink RX5 119 yX5_in, .static yX5_in, .initialized RX5, .code yX5_in cX5_in 6 (some .boolean)] ++ wsX50)
def wsX5_forget : List Cond := .code yX5_forget cX5_forget 2 (some .int) :: ([.fieldLink RX5 182 "HatPinsModel" "notes" "I"] ++ wsX50)
def wsX5_isSo : List Cond := .code yX5_isSo cX5_isSo 6 (some .boolean) :: ([.fieldLink RX5 182 "HatPinsModel" "notes" "I", .fieldLink RX5 77 "HatPinsModel" "notedAt" "[I", .fieldLink RX5 80 "HatPinsModel" "notedWorth" "[I", .methodLink RX5 191 yX5_worthOf, .static yX5_worthOf, .initialized RX5, .code yX5_worthOf cX5_worthOf 5 (some .int), .methodLink RX5 185 yX5_smaller, .static yX5_smaller, .code yX5_smaller cX5_smaller 2 (some .int), .methodLink RX5 188 yX5_larger, .static yX5_larger, .code yX5_larger cX5_larger 2 (some .int)] ++ wsX50)
def wsX5_waning : List Cond := .code yX5_waning cX5_waning 6 (some .int) :: ([.methodLink RX5 119 yX5_in, .static yX5_in, .initialized RX5, .code yX5_in cX5_in 6 (some .boolean), .methodLink RX5 262 yX5_isSo, .instanceMethod yX5_isSo, .selects RX5 yX5_isSo yX5_isSo, .code yX5_isSo cX5_isSo 6 (some .boolean), .fieldLink RX5 182 "HatPinsModel" "notes" "I", .fieldLink RX5 77 "HatPinsModel" "notedAt" "[I", .fieldLink RX5 80 "HatPinsModel" "notedWorth" "[I", .methodLink RX5 191 yX5_worthOf, .static yX5_worthOf, .code yX5_worthOf cX5_worthOf 5 (some .int), .methodLink RX5 185 yX5_smaller, .static yX5_smaller, .code yX5_smaller cX5_smaller 2 (some .int), .methodLink RX5 188 yX5_larger, .static yX5_larger, .code yX5_larger cX5_larger 2 (some .int)] ++ wsX50)
def wsX5_kinds_r1 : List Cond := [Cond.fieldLink RX5 16 "HatPinsModel" "joy" "[I", Cond.fieldLink RX5 19 "HatPinsModel" "wane" "[I", Cond.methodLink RX5 209 yX5_isGoing, Cond.instanceMethod yX5_isGoing, Cond.selects RX5 yX5_isGoing yX5_isGoing, Cond.initialized RX5, Cond.code yX5_isGoing cX5_isGoing 2 (some .boolean), Cond.fieldLink RX5 110 "HatPinsModel" "many" "I", Cond.methodLink RX5 119 yX5_in, Cond.static yX5_in, Cond.code yX5_in cX5_in 6 (some .boolean), Cond.methodLink RX5 262 yX5_isSo, Cond.instanceMethod yX5_isSo, Cond.selects RX5 yX5_isSo yX5_isSo, Cond.code yX5_isSo cX5_isSo 6 (some .boolean), Cond.fieldLink RX5 182 "HatPinsModel" "notes" "I", Cond.fieldLink RX5 77 "HatPinsModel" "notedAt" "[I", Cond.fieldLink RX5 80 "HatPinsModel" "notedWorth" "[I", Cond.methodLink RX5 191 yX5_worthOf, Cond.static yX5_worthOf, Cond.code yX5_worthOf cX5_worthOf 5 (some .int), Cond.methodLink RX5 185 yX5_smaller, Cond.static yX5_smaller, Cond.code yX5_smaller cX5_smaller 2 (some .int)]
def wsX5_kinds_r2 : List Cond := [Cond.methodLink RX5 188 yX5_larger, Cond.static yX5_larger, Cond.code yX5_larger cX5_larger 2 (some .int)]
def wsX5_kinds : List Cond := .code yX5_kinds cX5_kinds 4 (some .int) :: ((wsX5_kinds_r1 ++ wsX5_kinds_r2) ++ wsX50)
def wsX5_isSoon : List Cond := .code yX5_isSoon cX5_isSoon 2 (some .boolean) :: ([.fieldLink RX5 70 "HatPinsModel" "slot" "[I"] ++ wsX50)
def wsX5_late_r1 : List Cond := [Cond.constantLong RX5 260 (20), Cond.constantLong RX5 265 (10), Cond.constantLong RX5 267 (999), Cond.fieldLink RX5 110 "HatPinsModel" "many" "I", Cond.fieldLink RX5 70 "HatPinsModel" "slot" "[I", Cond.methodLink RX5 119 yX5_in, Cond.static yX5_in, Cond.initialized RX5, Cond.code yX5_in cX5_in 6 (some .boolean), Cond.methodLink RX5 224 yX5_copies, Cond.instanceMethod yX5_copies, Cond.selects RX5 yX5_copies yX5_copies, Cond.code yX5_copies cX5_copies 4 none, Cond.methodLink RX5 269 yX5_isSoon, Cond.instanceMethod yX5_isSoon, Cond.selects RX5 yX5_isSoon yX5_isSoon, Cond.code yX5_isSoon cX5_isSoon 2 (some .boolean), Cond.methodLink RX5 152 yX5_has, Cond.static yX5_has, Cond.code yX5_has cX5_has 2 (some .boolean), Cond.methodLink RX5 247 yX5_hadThen, Cond.instanceMethod yX5_hadThen, Cond.selects RX5 yX5_hadThen yX5_hadThen, Cond.code yX5_hadThen cX5_hadThen 1 (some .int)]
def wsX5_late_r2 : List Cond := [Cond.methodLink RX5 233 yX5_minutes, Cond.instanceMethod yX5_minutes, Cond.selects RX5 yX5_minutes yX5_minutes, Cond.code yX5_minutes cX5_minutes 4 none, Cond.fieldLink RX5 236 "HatPinsModel" "wereOn" "I", Cond.methodLink RX5 239 yX5_goesOn, Cond.instanceMethod yX5_goesOn, Cond.selects RX5 yX5_goesOn yX5_goesOn, Cond.code yX5_goesOn cX5_goesOn 5 (some .int), Cond.fieldLink RX5 22 "HatPinsModel" "goes" "[I", Cond.methodLink RX5 198 yX5_starts, Cond.instanceMethod yX5_starts, Cond.selects RX5 yX5_starts yX5_starts, Cond.code yX5_starts cX5_starts 5 (some .int), Cond.methodLink RX5 202 yX5_all, Cond.instanceMethod yX5_all, Cond.selects RX5 yX5_all yX5_all, Cond.code yX5_all cX5_all 4 (some .int), Cond.methodLink RX5 195 yX5_worth, Cond.instanceMethod yX5_worth, Cond.selects RX5 yX5_worth yX5_worth, Cond.code yX5_worth cX5_worth 3 (some .int), Cond.fieldLink RX5 7 "HatPinsModel" "sort" "[I", Cond.fieldLink RX5 16 "HatPinsModel" "joy" "[I"]
def wsX5_late_r3 : List Cond := [Cond.fieldLink RX5 19 "HatPinsModel" "wane" "[I", Cond.methodLink RX5 191 yX5_worthOf, Cond.static yX5_worthOf, Cond.code yX5_worthOf cX5_worthOf 5 (some .int), Cond.methodLink RX5 185 yX5_smaller, Cond.static yX5_smaller, Cond.code yX5_smaller cX5_smaller 2 (some .int), Cond.methodLink RX5 188 yX5_larger, Cond.static yX5_larger, Cond.code yX5_larger cX5_larger 2 (some .int), Cond.methodLink RX5 205 yX5_ends, Cond.instanceMethod yX5_ends, Cond.selects RX5 yX5_ends yX5_ends, Cond.code yX5_ends cX5_ends 8 none, Cond.fieldLink RX5 113 "HatPinsModel" "follows" "I", Cond.fieldLink RX5 28 "HatPinsModel" "after" "[I", Cond.fieldLink RX5 25 "HatPinsModel" "ahead" "[I", Cond.fieldLink RX5 83 "HatPinsModel" "absent" "I", Cond.fieldLink RX5 31 "HatPinsModel" "later" "[I"]
def wsX5_late : List Cond := .code yX5_late cX5_late 12 (some .int) :: ((wsX5_late_r1 ++ (wsX5_late_r2 ++ wsX5_late_r3)) ++ wsX50)
def wsX5_does_r1 : List Cond := [Cond.fieldLink RX5 116 "HatPinsModel" "ladies" "I", Cond.fieldLink RX5 110 "HatPinsModel" "many" "I", Cond.fieldLink RX5 70 "HatPinsModel" "slot" "[I", Cond.methodLink RX5 220 yX5_canPin, Cond.instanceMethod yX5_canPin, Cond.selects RX5 yX5_canPin yX5_canPin, Cond.initialized RX5, Cond.code yX5_canPin cX5_canPin 4 (some .boolean), Cond.fieldLink RX5 37 "HatPinsModel" "reach" "[I", Cond.fieldLink RX5 7 "HatPinsModel" "sort" "[I", Cond.methodLink RX5 152 yX5_has, Cond.static yX5_has, Cond.code yX5_has cX5_has 2 (some .boolean), Cond.methodLink RX5 205 yX5_ends, Cond.instanceMethod yX5_ends, Cond.selects RX5 yX5_ends yX5_ends, Cond.code yX5_ends cX5_ends 8 none, Cond.fieldLink RX5 113 "HatPinsModel" "follows" "I", Cond.fieldLink RX5 28 "HatPinsModel" "after" "[I", Cond.fieldLink RX5 25 "HatPinsModel" "ahead" "[I", Cond.fieldLink RX5 83 "HatPinsModel" "absent" "I", Cond.fieldLink RX5 31 "HatPinsModel" "later" "[I", Cond.methodLink RX5 185 yX5_smaller, Cond.static yX5_smaller]
def wsX5_does_r2 : List Cond := [Cond.code yX5_smaller cX5_smaller 2 (some .int)]
def wsX5_does : List Cond := .code yX5_does cX5_does 7 none :: ((wsX5_does_r1 ++ wsX5_does_r2) ++ wsX50)
def wsX5_pins : List Cond := .code yX5_pins cX5_pins 4 (some .int) :: ([.fieldLink RX5 116 "HatPinsModel" "ladies" "I", .fieldLink RX5 70 "HatPinsModel" "slot" "[I"] ++ wsX50)
def wsX5_season_r1 : List Cond := [Cond.constantLong RX5 272 (9999), Cond.constantLong RX5 242 (60), Cond.constantLong RX5 274 (7919), Cond.constantLong RX5 276 (6151), Cond.fieldLink RX5 116 "HatPinsModel" "ladies" "I", Cond.constantLong RX5 278 (65521), Cond.fieldLink RX5 70 "HatPinsModel" "slot" "[I", Cond.methodLink RX5 119 yX5_in, Cond.static yX5_in, Cond.initialized RX5, Cond.code yX5_in cX5_in 6 (some .boolean), Cond.methodLink RX5 224 yX5_copies, Cond.instanceMethod yX5_copies, Cond.selects RX5 yX5_copies yX5_copies, Cond.code yX5_copies cX5_copies 4 none, Cond.methodLink RX5 280 yX5_does, Cond.instanceMethod yX5_does, Cond.selects RX5 yX5_does yX5_does, Cond.code yX5_does cX5_does 7 none, Cond.fieldLink RX5 110 "HatPinsModel" "many" "I", Cond.methodLink RX5 220 yX5_canPin, Cond.instanceMethod yX5_canPin, Cond.selects RX5 yX5_canPin yX5_canPin, Cond.code yX5_canPin cX5_canPin 4 (some .boolean)]
def wsX5_season_r2 : List Cond := [Cond.fieldLink RX5 37 "HatPinsModel" "reach" "[I", Cond.fieldLink RX5 7 "HatPinsModel" "sort" "[I", Cond.methodLink RX5 152 yX5_has, Cond.static yX5_has, Cond.code yX5_has cX5_has 2 (some .boolean), Cond.methodLink RX5 205 yX5_ends, Cond.instanceMethod yX5_ends, Cond.selects RX5 yX5_ends yX5_ends, Cond.code yX5_ends cX5_ends 8 none, Cond.fieldLink RX5 113 "HatPinsModel" "follows" "I", Cond.fieldLink RX5 28 "HatPinsModel" "after" "[I", Cond.fieldLink RX5 25 "HatPinsModel" "ahead" "[I", Cond.fieldLink RX5 83 "HatPinsModel" "absent" "I", Cond.fieldLink RX5 31 "HatPinsModel" "later" "[I", Cond.methodLink RX5 185 yX5_smaller, Cond.static yX5_smaller, Cond.code yX5_smaller cX5_smaller 2 (some .int), Cond.methodLink RX5 233 yX5_minutes, Cond.instanceMethod yX5_minutes, Cond.selects RX5 yX5_minutes yX5_minutes, Cond.code yX5_minutes cX5_minutes 4 none, Cond.fieldLink RX5 236 "HatPinsModel" "wereOn" "I", Cond.methodLink RX5 239 yX5_goesOn, Cond.instanceMethod yX5_goesOn]
def wsX5_season_r3 : List Cond := [Cond.selects RX5 yX5_goesOn yX5_goesOn, Cond.code yX5_goesOn cX5_goesOn 5 (some .int), Cond.fieldLink RX5 22 "HatPinsModel" "goes" "[I", Cond.methodLink RX5 198 yX5_starts, Cond.instanceMethod yX5_starts, Cond.selects RX5 yX5_starts yX5_starts, Cond.code yX5_starts cX5_starts 5 (some .int), Cond.methodLink RX5 202 yX5_all, Cond.instanceMethod yX5_all, Cond.selects RX5 yX5_all yX5_all, Cond.code yX5_all cX5_all 4 (some .int), Cond.methodLink RX5 195 yX5_worth, Cond.instanceMethod yX5_worth, Cond.selects RX5 yX5_worth yX5_worth, Cond.code yX5_worth cX5_worth 3 (some .int), Cond.fieldLink RX5 16 "HatPinsModel" "joy" "[I", Cond.fieldLink RX5 19 "HatPinsModel" "wane" "[I", Cond.methodLink RX5 191 yX5_worthOf, Cond.static yX5_worthOf, Cond.code yX5_worthOf cX5_worthOf 5 (some .int), Cond.methodLink RX5 188 yX5_larger, Cond.static yX5_larger, Cond.code yX5_larger cX5_larger 2 (some .int), Cond.methodLink RX5 283 yX5_pins]
def wsX5_season_r4 : List Cond := [Cond.instanceMethod yX5_pins, Cond.selects RX5 yX5_pins yX5_pins, Cond.code yX5_pins cX5_pins 4 (some .int)]
def wsX5_season : List Cond := .code yX5_season cX5_season 7 (some .int) :: ((wsX5_season_r1 ++ (wsX5_season_r2 ++ (wsX5_season_r3 ++ wsX5_season_r4))) ++ wsX50)
def wsX5_keep : List Cond := .code yX5_keep cX5_keep 1 (some .int) :: ([.fieldLink RX5 179 "HatPinsModel" "keeps" "I", .methodLink RX5 224 yX5_copies, .instanceMethod yX5_copies, .selects RX5 yX5_copies yX5_copies, .initialized RX5, .code yX5_copies cX5_copies 4 none, .fieldLink RX5 70 "HatPinsModel" "slot" "[I"] ++ wsX50)
def wsX5_back : List Cond := .code yX5_back cX5_back 1 (some .int) :: ([.fieldLink RX5 179 "HatPinsModel" "keeps" "I", .fieldLink RX5 176 "HatPinsModel" "acts" "I", .methodLink RX5 224 yX5_copies, .instanceMethod yX5_copies, .selects RX5 yX5_copies yX5_copies, .initialized RX5, .code yX5_copies cX5_copies 4 none, .fieldLink RX5 70 "HatPinsModel" "slot" "[I"] ++ wsX50)
def wsX5_manyOf : List Cond := .code yX5_manyOf cX5_manyOf 4 (some .int) :: ([.fieldLink RX5 110 "HatPinsModel" "many" "I", .fieldLink RX5 70 "HatPinsModel" "slot" "[I"] ++ wsX50)
def wsX5_count : List Cond := .code yX5_count cX5_count 2 (some .int) :: ([.fieldLink RX5 110 "HatPinsModel" "many" "I", .fieldLink RX5 116 "HatPinsModel" "ladies" "I", .fieldLink RX5 70 "HatPinsModel" "slot" "[I", .fieldLink RX5 182 "HatPinsModel" "notes" "I", .fieldLink RX5 176 "HatPinsModel" "acts" "I", .fieldLink RX5 179 "HatPinsModel" "keeps" "I", .fieldLink RX5 127 "HatPinsModel" "length" "I", .methodLink RX5 286 yX5_manyOf, .instanceMethod yX5_manyOf, .selects RX5 yX5_manyOf yX5_manyOf, .initialized RX5, .code yX5_manyOf cX5_manyOf 4 (some .int), .methodLink RX5 283 yX5_pins, .instanceMethod yX5_pins, .selects RX5 yX5_pins yX5_pins, .code yX5_pins cX5_pins 4 (some .int)] ++ wsX50)
def wsJ9_max_7cf53 : List Cond := .code yJ9_max_7cf53 cJ9_max_7cf53 2 (some .int) :: ([])
def wsJ9_min_7cf53 : List Cond := .code yJ9_min_7cf53 cJ9_min_7cf53 2 (some .int) :: ([])
def wsL_law_r1 : List Cond := [Cond.classLink RL 7 RX4, Cond.instantiable RX4 10, Cond.initialized RX4, Cond.classLink RL 10 RX5, Cond.instantiable RX5 39, Cond.initialized RX5, Cond.methodLink RL 9 yX4_init, Cond.instanceMethod yX4_init, Cond.code yX4_init cX4_init 2 none, Cond.methodLink RX4 1 objectInit, Cond.instanceMethod objectInit, Cond.code objectInit ⟨#[0xb1]⟩ 1 none, Cond.classLink RX4 7 RX3, Cond.instantiable RX3 4, Cond.initialized RX3, Cond.fieldLink RX4 10 "HatPins" "text" "LHatPins$Text;", Cond.classLink RX4 16 RX0, Cond.instantiable RX0 13, Cond.initialized RX0, Cond.fieldLink RX4 19 "HatPins" "laid" "LHatPins$Evening;", Cond.fieldLink RX4 23 "HatPins" "draft" "LHatPins$Evening;", Cond.classLink RX4 26 RX2, Cond.instantiable RX2 6, Cond.initialized RX2]
def wsL_law_r2 : List Cond := [Cond.fieldLink RX4 29 "HatPins" "now" "LHatPins$Standing;", Cond.fieldLink RX4 33 "HatPins" "trial" "LHatPins$Standing;", Cond.classLink RX4 36 RX1, Cond.instantiable RX1 2, Cond.initialized RX1, Cond.fieldLink RX4 41 "HatPins" "undoable" "LHatPins$Shelf;", Cond.fieldLink RX4 45 "HatPins" "saved" "LHatPins$Shelf;", Cond.arrayClass .int, Cond.fieldLink RX4 48 "HatPins" "notedMinute" "[I", Cond.fieldLink RX4 52 "HatPins" "notedWorth" "[I", Cond.fieldLink RX4 75 "HatPins$Text" "length" "I", Cond.instanceMethod yX3_init, Cond.code yX3_init cX3_init 1 none, Cond.methodLink RX3 3 objectInit, Cond.fieldLink RX3 9 "HatPins$Text" "letters" "[I", Cond.fieldLink RX3 15 "HatPins$Text" "numbers" "[I", Cond.instanceMethod yX0_init, Cond.code yX0_init cX0_init 1 none, Cond.methodLink RX0 3 objectInit, Cond.fieldLink RX0 9 "HatPins$Evening" "kind" "[I", Cond.fieldLink RX0 15 "HatPins$Evening" "begins" "[I", Cond.fieldLink RX0 18 "HatPins$Evening" "interest" "[I", Cond.fieldLink RX0 21 "HatPins$Evening" "wane" "[I", Cond.fieldLink RX0 24 "HatPins$Evening" "minutes" "[I"]
def wsL_law_r3 : List Cond := [Cond.fieldLink RX0 27 "HatPins$Evening" "leader" "[I", Cond.fieldLink RX0 30 "HatPins$Evening" "follower" "[I", Cond.fieldLink RX0 33 "HatPins$Evening" "gap" "[I", Cond.fieldLink RX0 36 "HatPins$Evening" "pins" "[I", Cond.fieldLink RX0 39 "HatPins$Evening" "reach" "[I", Cond.instanceMethod yX2_init, Cond.code yX2_init cX2_init 1 none, Cond.methodLink RX2 3 objectInit, Cond.fieldLink RX2 9 "HatPins$Standing" "state" "[I", Cond.fieldLink RX2 15 "HatPins$Standing" "due" "[I", Cond.fieldLink RX2 18 "HatPins$Standing" "began" "[I", Cond.fieldLink RX2 21 "HatPins$Standing" "pins" "[I", Cond.methodLink RX4 38 yX1_init, Cond.instanceMethod yX1_init, Cond.code yX1_init cX1_init 3 none, Cond.methodLink RX1 1 objectInit, Cond.methodLink RX1 7 Lib.Math.max.name, Cond.static Lib.Math.max.name, Cond.initialized "java/lang/Math", Cond.code Lib.Math.max.name Lib.Math.max.code 2 (some .int), Cond.classLink RX1 13 RX2, Cond.fieldLink RX1 15 "HatPins$Shelf" "rows" "[LHatPins$Standing;", Cond.methodLink RX4 57 yJ0_length_8abf5, Cond.instanceMethod yJ0_length_8abf5]
def wsL_law_r4 : List Cond := [Cond.selects RJ0 yJ0_length_8abf5 yJ0_length_8abf5, Cond.initialized RJ0, Cond.code yJ0_length_8abf5 cJ0_length_8abf5 1 (some .int), Cond.fieldLink RJ0 9 "java/lang/String" "value" "[B", Cond.methodLink RJ0 335 yJ0_coder_7d493, Cond.instanceMethod yJ0_coder_7d493, Cond.selects RJ0 yJ0_coder_7d493 yJ0_coder_7d493, Cond.code yJ0_coder_7d493 cJ0_coder_7d493 1 (some .byte), Cond.fieldLink RJ0 38 "java/lang/String" "COMPACT_STRINGS" "Z", Cond.fieldLink RJ0 15 "java/lang/String" "coder" "B", Cond.methodLink RX4 63 yJ0_charAt_5068e, Cond.instanceMethod yJ0_charAt_5068e, Cond.selects RJ0 yJ0_charAt_5068e yJ0_charAt_5068e, Cond.code yJ0_charAt_5068e cJ0_charAt_5068e 2 (some .char), Cond.methodLink RJ0 492 yJ0_isLatin1_aae02, Cond.instanceMethod yJ0_isLatin1_aae02, Cond.selects RJ0 yJ0_isLatin1_aae02 yJ0_isLatin1_aae02, Cond.code yJ0_isLatin1_aae02 cJ0_isLatin1_aae02 1 (some .boolean), Cond.methodLink RJ0 495 yJ1_charAt_3b067, Cond.static yJ1_charAt_3b067, Cond.initialized RJ1, Cond.code yJ1_charAt_3b067 cJ1_charAt_3b067 2 (some .char), Cond.methodLink RJ1 9 yJ0_checkIndex_df160, Cond.static yJ0_checkIndex_df160]
def wsL_law_r5 : List Cond := [Cond.code yJ0_checkIndex_df160 cJ0_checkIndex_df160 2 none, Cond.fieldLink RJ0 1053 "jdk/internal/util/Preconditions" "SIOOBE_FORMATTER" "Ljava/util/function/BiFunction;", Cond.methodLink RJ0 1059 yJ3_checkIndex_8e157, Cond.static yJ3_checkIndex_8e157, Cond.initialized RJ3, Cond.code yJ3_checkIndex_8e157 cJ3_checkIndex_8e157 3 (some .int), Cond.methodLink RJ0 498 yJ2_charAt_3b067, Cond.static yJ2_charAt_3b067, Cond.initialized RJ2, Cond.code yJ2_charAt_3b067 cJ2_charAt_3b067 2 (some .char), Cond.methodLink RJ2 67 yJ2_checkIndex_2214a, Cond.static yJ2_checkIndex_2214a, Cond.code yJ2_checkIndex_2214a cJ2_checkIndex_2214a 2 none, Cond.methodLink RJ2 48 yJ2_length_9d52b, Cond.static yJ2_length_9d52b, Cond.code yJ2_length_9d52b cJ2_length_9d52b 1 (some .int), Cond.methodLink RJ2 414 yJ0_checkIndex_df160, Cond.methodLink RJ2 71 yJ2_getChar_3b067, Cond.static yJ2_getChar_3b067, Cond.code yJ2_getChar_3b067 cJ2_getChar_3b067 2 (some .char), Cond.fieldLink RJ2 44 "java/lang/StringUTF16" "$assertionsDisabled" "Z", Cond.fieldLink RJ2 59 "java/lang/StringUTF16" "HI_BYTE_SHIFT" "I", Cond.fieldLink RJ2 63 "java/lang/StringUTF16" "LO_BYTE_SHIFT" "I", Cond.methodLink RX4 67 yX3_append]
def wsL_law_r6 : List Cond := [Cond.instanceMethod yX3_append, Cond.selects RX3 yX3_append yX3_append, Cond.code yX3_append cX3_append 2 (some .boolean), Cond.fieldLink RX3 18 "HatPins$Text" "length" "I", Cond.methodLink RX4 71 yX3_readInto, Cond.instanceMethod yX3_readInto, Cond.selects RX3 yX3_readInto yX3_readInto, Cond.code yX3_readInto cX3_readInto 5 (some .int), Cond.fieldLink RX3 34 "HatPins$Text" "found" "I", Cond.methodLink RX3 22 yX0_clear, Cond.instanceMethod yX0_clear, Cond.selects RX0 yX0_clear yX0_clear, Cond.code yX0_clear cX0_clear 1 none, Cond.fieldLink RX0 42 "HatPins$Evening" "goings" "I", Cond.fieldLink RX0 46 "HatPins$Evening" "followings" "I", Cond.fieldLink RX0 49 "HatPins$Evening" "ladies" "I", Cond.methodLink RX3 27 yX3_readNumbers, Cond.instanceMethod yX3_readNumbers, Cond.selects RX3 yX3_readNumbers yX3_readNumbers, Cond.code yX3_readNumbers cX3_readNumbers 6 (some .int), Cond.methodLink RX3 41 yX3_isFigure, Cond.instanceMethod yX3_isFigure, Cond.selects RX3 yX3_isFigure yX3_isFigure, Cond.code yX3_isFigure cX3_isFigure 3 (some .boolean)]
def wsL_law_r7 : List Cond := [Cond.methodLink RX3 31 yX3_letterAt, Cond.instanceMethod yX3_letterAt, Cond.selects RX3 yX3_letterAt yX3_letterAt, Cond.code yX3_letterAt cX3_letterAt 2 (some .int), Cond.methodLink RX3 37 yX0_add, Cond.instanceMethod yX0_add, Cond.selects RX0 yX0_add yX0_add, Cond.code yX0_add cX0_add 4 (some .boolean), Cond.methodLink RX0 52 yX0_addGoing, Cond.instanceMethod yX0_addGoing, Cond.selects RX0 yX0_addGoing yX0_addGoing, Cond.code yX0_addGoing cX0_addGoing 3 (some .boolean), Cond.methodLink RX0 56 yX0_addFollowing, Cond.instanceMethod yX0_addFollowing, Cond.selects RX0 yX0_addFollowing yX0_addFollowing, Cond.code yX0_addFollowing cX0_addFollowing 2 (some .boolean), Cond.methodLink RX0 59 yX0_addLady, Cond.instanceMethod yX0_addLady, Cond.selects RX0 yX0_addLady yX0_addLady, Cond.code yX0_addLady cX0_addLady 5 (some .boolean), Cond.methodLink RX4 78 yX2_start, Cond.instanceMethod yX2_start, Cond.selects RX2 yX2_start yX2_start, Cond.code yX2_start cX2_start 3 none]
def wsL_law_r8 : List Cond := [Cond.fieldLink RX2 24 "HatPins$Standing" "minute" "I", Cond.fieldLink RX2 28 "HatPins$Standing" "had" "I", Cond.fieldLink RX2 31 "HatPins$Evening" "begins" "[I", Cond.constant RX2 36 (1000000), Cond.fieldLink RX2 37 "HatPins$Evening" "pins" "[I", Cond.methodLink RX2 38 arraycopyName, Cond.native arraycopyName, Cond.static arraycopyName, Cond.initialized "java/lang/System", Cond.methodLink RL 12 yX5_init, Cond.instanceMethod yX5_init, Cond.code yX5_init cX5_init 1 none, Cond.methodLink RX5 1 objectInit, Cond.fieldLink RX5 7 "HatPinsModel" "sort" "[I", Cond.fieldLink RX5 13 "HatPinsModel" "begins" "[I", Cond.fieldLink RX5 16 "HatPinsModel" "joy" "[I", Cond.fieldLink RX5 19 "HatPinsModel" "wane" "[I", Cond.fieldLink RX5 22 "HatPinsModel" "goes" "[I", Cond.fieldLink RX5 25 "HatPinsModel" "ahead" "[I", Cond.fieldLink RX5 28 "HatPinsModel" "after" "[I", Cond.fieldLink RX5 31 "HatPinsModel" "later" "[I", Cond.fieldLink RX5 34 "HatPinsModel" "first" "[I", Cond.fieldLink RX5 37 "HatPinsModel" "reach" "[I", Cond.fieldLink RX5 40 "HatPinsModel" "newSort" "[I"]
def wsL_law_r9 : List Cond := [Cond.fieldLink RX5 43 "HatPinsModel" "newBegins" "[I", Cond.fieldLink RX5 46 "HatPinsModel" "newJoy" "[I", Cond.fieldLink RX5 49 "HatPinsModel" "newWane" "[I", Cond.fieldLink RX5 52 "HatPinsModel" "newGoes" "[I", Cond.fieldLink RX5 55 "HatPinsModel" "newAhead" "[I", Cond.fieldLink RX5 58 "HatPinsModel" "newAfter" "[I", Cond.fieldLink RX5 61 "HatPinsModel" "newLater" "[I", Cond.fieldLink RX5 64 "HatPinsModel" "newFirst" "[I", Cond.fieldLink RX5 67 "HatPinsModel" "newReach" "[I", Cond.fieldLink RX5 70 "HatPinsModel" "slot" "[I", Cond.arrayClass .byte, Cond.fieldLink RX5 73 "HatPinsModel" "text" "[B", Cond.fieldLink RX5 77 "HatPinsModel" "notedAt" "[I", Cond.fieldLink RX5 80 "HatPinsModel" "notedWorth" "[I", Cond.fieldLink RX5 83 "HatPinsModel" "absent" "I", Cond.fieldLink RX5 98 "HatPinsModel" "newLadies" "I", Cond.methodLink RX5 87 yX5_clears, Cond.instanceMethod yX5_clears, Cond.selects RX5 yX5_clears yX5_clears, Cond.code yX5_clears cX5_clears 1 none, Cond.fieldLink RX5 104 "HatPinsModel" "newMany" "I", Cond.fieldLink RX5 107 "HatPinsModel" "newFollows" "I", Cond.methodLink RX5 90 yX5_comes, Cond.instanceMethod yX5_comes]
def wsL_law_r10 : List Cond := [Cond.selects RX5 yX5_comes yX5_comes, Cond.code yX5_comes cX5_comes 6 none, Cond.methodLink RX5 94 yX5_follow, Cond.instanceMethod yX5_follow, Cond.selects RX5 yX5_follow yX5_follow, Cond.code yX5_follow cX5_follow 4 none, Cond.methodLink RX5 101 yX5_settles, Cond.instanceMethod yX5_settles, Cond.selects RX5 yX5_settles yX5_settles, Cond.code yX5_settles cX5_settles 2 none, Cond.fieldLink RX5 110 "HatPinsModel" "many" "I", Cond.fieldLink RX5 113 "HatPinsModel" "follows" "I", Cond.fieldLink RX5 116 "HatPinsModel" "ladies" "I", Cond.methodLink RL 13 yX4_write, Cond.instanceMethod yX4_write, Cond.selects RX4 yX4_write yX4_write, Cond.code yX4_write cX4_write 2 (some .int), Cond.methodLink RL 17 yX5_write, Cond.instanceMethod yX5_write, Cond.selects RX5 yX5_write yX5_write, Cond.code yX5_write cX5_write 2 (some .int), Cond.constantLong RX5 123 (32), Cond.constantLong RX5 125 (126), Cond.fieldLink RX5 127 "HatPinsModel" "length" "I"]
def wsL_law_r11 : List Cond := [Cond.methodLink RX5 119 yX5_in, Cond.static yX5_in, Cond.code yX5_in cX5_in 6 (some .boolean), Cond.methodLink RL 18 yX4_wipe, Cond.instanceMethod yX4_wipe, Cond.selects RX4 yX4_wipe yX4_wipe, Cond.code yX4_wipe cX4_wipe 2 (some .int), Cond.methodLink RL 22 yX5_wipe, Cond.instanceMethod yX5_wipe, Cond.selects RX5 yX5_wipe yX5_wipe, Cond.code yX5_wipe cX5_wipe 2 (some .int), Cond.methodLink RL 23 yX4_fault, Cond.instanceMethod yX4_fault, Cond.selects RX4 yX4_fault yX4_fault, Cond.code yX4_fault cX4_fault 1 (some .int), Cond.methodLink RL 26 yX5_fault, Cond.instanceMethod yX5_fault, Cond.selects RX5 yX5_fault yX5_fault, Cond.code yX5_fault cX5_fault 1 (some .int), Cond.fieldLink RX5 165 "HatPinsModel" "begin" "I", Cond.methodLink RX5 172 yX5_reads, Cond.instanceMethod yX5_reads, Cond.selects RX5 yX5_reads yX5_reads, Cond.code yX5_reads cX5_reads 2 (some .boolean)]
def wsL_law_r12 : List Cond := [Cond.fieldLink RX5 130 "HatPinsModel" "at" "I", Cond.fieldLink RX5 141 "HatPinsModel" "isWrong" "Z", Cond.methodLink RX5 133 yX5_next, Cond.instanceMethod yX5_next, Cond.selects RX5 yX5_next yX5_next, Cond.code yX5_next cX5_next 1 (some .int), Cond.methodLink RX5 168 yX5_item, Cond.instanceMethod yX5_item, Cond.selects RX5 yX5_item yX5_item, Cond.code yX5_item cX5_item 2 none, Cond.methodLink RX5 156 yX5_goingItem, Cond.instanceMethod yX5_goingItem, Cond.selects RX5 yX5_goingItem yX5_goingItem, Cond.code yX5_goingItem cX5_goingItem 6 none, Cond.methodLink RX5 145 yX5_number, Cond.instanceMethod yX5_number, Cond.selects RX5 yX5_number yX5_number, Cond.code yX5_number cX5_number 5 (some .int), Cond.constantLong RX5 137 (48), Cond.constantLong RX5 139 (57), Cond.methodLink RX5 149 yX5_more, Cond.instanceMethod yX5_more, Cond.selects RX5 yX5_more yX5_more, Cond.code yX5_more cX5_more 3 (some .int)]
def wsL_law_r13 : List Cond := [Cond.methodLink RX5 159 yX5_followItem, Cond.instanceMethod yX5_followItem, Cond.selects RX5 yX5_followItem yX5_followItem, Cond.code yX5_followItem cX5_followItem 4 none, Cond.methodLink RX5 162 yX5_ladyItem, Cond.instanceMethod yX5_ladyItem, Cond.selects RX5 yX5_ladyItem yX5_ladyItem, Cond.code yX5_ladyItem cX5_ladyItem 4 none, Cond.methodLink RX5 152 yX5_has, Cond.static yX5_has, Cond.code yX5_has cX5_has 2 (some .boolean), Cond.methodLink RL 27 yX4_lay, Cond.instanceMethod yX4_lay, Cond.selects RX4 yX4_lay yX4_lay, Cond.code yX4_lay cX4_lay 1 (some .int), Cond.fieldLink RX4 82 "HatPins$Evening" "goings" "I", Cond.fieldLink RX4 85 "HatPins$Shelf" "held" "I", Cond.fieldLink RX4 88 "HatPins" "noted" "I", Cond.methodLink RL 30 yX5_lay, Cond.instanceMethod yX5_lay, Cond.selects RX5 yX5_lay yX5_lay, Cond.code yX5_lay cX5_lay 1 (some .int), Cond.fieldLink RX5 176 "HatPinsModel" "acts" "I", Cond.fieldLink RX5 179 "HatPinsModel" "keeps" "I"]
def wsL_law_r14 : List Cond := [Cond.fieldLink RX5 182 "HatPinsModel" "notes" "I", Cond.methodLink RL 31 yX4_going, Cond.instanceMethod yX4_going, Cond.selects RX4 yX4_going yX4_going, Cond.code yX4_going cX4_going 3 (some .int), Cond.fieldLink RX4 94 "HatPins$Evening" "kind" "[I", Cond.fieldLink RX4 97 "HatPins$Evening" "interest" "[I", Cond.fieldLink RX4 100 "HatPins$Evening" "wane" "[I", Cond.fieldLink RX4 103 "HatPins$Evening" "minutes" "[I", Cond.fieldLink RX4 106 "HatPins$Standing" "state" "[I", Cond.methodLink RX4 91 yX4_isGoing, Cond.instanceMethod yX4_isGoing, Cond.selects RX4 yX4_isGoing yX4_isGoing, Cond.code yX4_isGoing cX4_isGoing 2 (some .boolean), Cond.methodLink RX4 109 yX2_whenOf, Cond.instanceMethod yX2_whenOf, Cond.selects RX2 yX2_whenOf yX2_whenOf, Cond.code yX2_whenOf cX2_whenOf 2 (some .int), Cond.methodLink RX4 113 yX2_worthOf, Cond.instanceMethod yX2_worthOf, Cond.selects RX2 yX2_worthOf yX2_worthOf, Cond.code yX2_worthOf cX2_worthOf 3 (some .int), Cond.fieldLink RX2 62 "HatPins$Evening" "kind" "[I", Cond.fieldLink RX2 65 "HatPins$Evening" "interest" "[I"]
def wsL_law_r15 : List Cond := [Cond.fieldLink RX2 68 "HatPins$Evening" "wane" "[I", Cond.static yX4_worth, Cond.code yX4_worth cX4_worth 5 (some .int), Cond.methodLink RX4 246 Lib.Math.min.name, Cond.static Lib.Math.min.name, Cond.code Lib.Math.min.name Lib.Math.min.code 2 (some .int), Cond.methodLink RX4 177 Lib.Math.max.name, Cond.methodLink RL 35 yX5_going, Cond.instanceMethod yX5_going, Cond.selects RX5 yX5_going yX5_going, Cond.code yX5_going cX5_going 4 (some .int), Cond.constantLong RX5 213 (6), Cond.methodLink RX5 209 yX5_isGoing, Cond.instanceMethod yX5_isGoing, Cond.selects RX5 yX5_isGoing yX5_isGoing, Cond.code yX5_isGoing cX5_isGoing 2 (some .boolean), Cond.methodLink RX5 195 yX5_worth, Cond.instanceMethod yX5_worth, Cond.selects RX5 yX5_worth yX5_worth, Cond.code yX5_worth cX5_worth 3 (some .int), Cond.methodLink RX5 191 yX5_worthOf, Cond.static yX5_worthOf, Cond.code yX5_worthOf cX5_worthOf 5 (some .int), Cond.methodLink RX5 185 yX5_smaller]
def wsL_law_r16 : List Cond := [Cond.static yX5_smaller, Cond.code yX5_smaller cX5_smaller 2 (some .int), Cond.methodLink RX5 188 yX5_larger, Cond.static yX5_larger, Cond.code yX5_larger cX5_larger 2 (some .int), Cond.methodLink RL 36 yX4_lady, Cond.instanceMethod yX4_lady, Cond.selects RX4 yX4_lady yX4_lady, Cond.code yX4_lady cX4_lady 3 (some .int), Cond.fieldLink RX4 120 "HatPins$Standing" "pins" "[I", Cond.fieldLink RX4 123 "HatPins$Evening" "reach" "[I", Cond.methodLink RX4 117 yX4_isLady, Cond.instanceMethod yX4_isLady, Cond.selects RX4 yX4_isLady yX4_isLady, Cond.code yX4_isLady cX4_isLady 2 (some .boolean), Cond.fieldLink RX4 193 "HatPins$Evening" "ladies" "I", Cond.methodLink RX4 126 yX2_pinnableBy, Cond.instanceMethod yX2_pinnableBy, Cond.selects RX2 yX2_pinnableBy yX2_pinnableBy, Cond.code yX2_pinnableBy cX2_pinnableBy 5 (some .int), Cond.fieldLink RX2 55 "HatPins$Evening" "goings" "I", Cond.methodLink RX2 103 yX2_canPin, Cond.instanceMethod yX2_canPin, Cond.selects RX2 yX2_canPin yX2_canPin]
def wsL_law_r17 : List Cond := [Cond.code yX2_canPin cX2_canPin 5 (some .boolean), Cond.fieldLink RX2 100 "HatPins$Evening" "reach" "[I", Cond.methodLink RL 39 yX5_lady, Cond.instanceMethod yX5_lady, Cond.selects RX5 yX5_lady yX5_lady, Cond.code yX5_lady cX5_lady 5 (some .int), Cond.constantLong RX5 218 (2), Cond.methodLink RX5 215 yX5_isLady, Cond.instanceMethod yX5_isLady, Cond.selects RX5 yX5_isLady yX5_isLady, Cond.code yX5_isLady cX5_isLady 2 (some .boolean), Cond.methodLink RX5 220 yX5_canPin, Cond.instanceMethod yX5_canPin, Cond.selects RX5 yX5_canPin yX5_canPin, Cond.code yX5_canPin cX5_canPin 4 (some .boolean), Cond.methodLink RL 40 yX4_pass, Cond.instanceMethod yX4_pass, Cond.selects RX4 yX4_pass yX4_pass, Cond.code yX4_pass cX4_pass 2 (some .int), Cond.fieldLink RX4 129 "HatPins$Standing" "minute" "I", Cond.fieldLink RX4 140 "HatPins$Standing" "had" "I", Cond.methodLink RX4 132 yX1_put, Cond.instanceMethod yX1_put, Cond.selects RX1 yX1_put yX1_put]
def wsL_law_r18 : List Cond := [Cond.code yX1_put cX1_put 2 none, Cond.fieldLink RX1 22 "HatPins$Shelf" "held" "I", Cond.methodLink RX1 26 yX1_dropOldest, Cond.instanceMethod yX1_dropOldest, Cond.selects RX1 yX1_dropOldest yX1_dropOldest, Cond.code yX1_dropOldest cX1_dropOldest 3 none, Cond.methodLink RX1 29 yX2_copyOf, Cond.instanceMethod yX2_copyOf, Cond.selects RX2 yX2_copyOf yX2_copyOf, Cond.code yX2_copyOf cX2_copyOf 2 none, Cond.methodLink RX4 136 yX2_goBy, Cond.instanceMethod yX2_goBy, Cond.selects RX2 yX2_goBy yX2_goBy, Cond.code yX2_goBy cX2_goBy 4 none, Cond.methodLink RX2 44 yX2_beginDue, Cond.instanceMethod yX2_beginDue, Cond.selects RX2 yX2_beginDue yX2_beginDue, Cond.code yX2_beginDue cX2_beginDue 3 none, Cond.methodLink RX2 48 yX2_worthOfAll, Cond.instanceMethod yX2_worthOfAll, Cond.selects RX2 yX2_worthOfAll yX2_worthOfAll, Cond.code yX2_worthOfAll cX2_worthOfAll 4 (some .int), Cond.methodLink RX2 58 yX2_worthOf, Cond.methodLink RX2 52 yX2_endMinute]
def wsL_law_r19 : List Cond := [Cond.instanceMethod yX2_endMinute, Cond.selects RX2 yX2_endMinute yX2_endMinute, Cond.code yX2_endMinute cX2_endMinute 3 none, Cond.fieldLink RX2 75 "HatPins$Evening" "minutes" "[I", Cond.methodLink RX2 78 yX2_finish, Cond.instanceMethod yX2_finish, Cond.selects RX2 yX2_finish yX2_finish, Cond.code yX2_finish cX2_finish 6 none, Cond.fieldLink RX2 82 "HatPins$Evening" "followings" "I", Cond.fieldLink RX2 85 "HatPins$Evening" "follower" "[I", Cond.fieldLink RX2 88 "HatPins$Evening" "leader" "[I", Cond.fieldLink RX2 91 "HatPins$Evening" "gap" "[I", Cond.methodLink RX2 94 Lib.Math.min.name, Cond.methodLink RL 43 yX5_pass, Cond.instanceMethod yX5_pass, Cond.selects RX5 yX5_pass yX5_pass, Cond.code yX5_pass cX5_pass 2 (some .int), Cond.constantLong RX5 228 (24), Cond.methodLink RX5 230 yX5_known, Cond.instanceMethod yX5_known, Cond.selects RX5 yX5_known yX5_known, Cond.code yX5_known cX5_known 2 none, Cond.methodLink RX5 224 yX5_copies, Cond.instanceMethod yX5_copies]
def wsL_law_r20 : List Cond := [Cond.selects RX5 yX5_copies yX5_copies, Cond.code yX5_copies cX5_copies 4 none, Cond.methodLink RX5 233 yX5_minutes, Cond.instanceMethod yX5_minutes, Cond.selects RX5 yX5_minutes yX5_minutes, Cond.code yX5_minutes cX5_minutes 4 none, Cond.fieldLink RX5 236 "HatPinsModel" "wereOn" "I", Cond.methodLink RX5 239 yX5_goesOn, Cond.instanceMethod yX5_goesOn, Cond.selects RX5 yX5_goesOn yX5_goesOn, Cond.code yX5_goesOn cX5_goesOn 5 (some .int), Cond.methodLink RX5 198 yX5_starts, Cond.instanceMethod yX5_starts, Cond.selects RX5 yX5_starts yX5_starts, Cond.code yX5_starts cX5_starts 5 (some .int), Cond.methodLink RX5 202 yX5_all, Cond.instanceMethod yX5_all, Cond.selects RX5 yX5_all yX5_all, Cond.code yX5_all cX5_all 4 (some .int), Cond.methodLink RX5 205 yX5_ends, Cond.instanceMethod yX5_ends, Cond.selects RX5 yX5_ends yX5_ends, Cond.code yX5_ends cX5_ends 8 none, Cond.methodLink RL 44 yX4_pin]
def wsL_law_r21 : List Cond := [Cond.instanceMethod yX4_pin, Cond.selects RX4 yX4_pin yX4_pin, Cond.code yX4_pin cX4_pin 3 (some .int), Cond.methodLink RX4 143 yX2_canPin, Cond.methodLink RX4 147 yX2_pinBy, Cond.instanceMethod yX2_pinBy, Cond.selects RX2 yX2_pinBy yX2_pinBy, Cond.code yX2_pinBy cX2_pinBy 4 none, Cond.methodLink RL 47 yX5_pin, Cond.instanceMethod yX5_pin, Cond.selects RX5 yX5_pin yX5_pin, Cond.code yX5_pin cX5_pin 3 (some .int), Cond.methodLink RL 48 yX4_lend, Cond.instanceMethod yX4_lend, Cond.selects RX4 yX4_lend yX4_lend, Cond.code yX4_lend cX4_lend 3 (some .int), Cond.methodLink RX4 151 yX2_lendPin, Cond.instanceMethod yX2_lendPin, Cond.selects RX2 yX2_lendPin yX2_lendPin, Cond.code yX2_lendPin cX2_lendPin 3 none, Cond.methodLink RL 51 yX5_lend, Cond.instanceMethod yX5_lend, Cond.selects RX5 yX5_lend yX5_lend, Cond.code yX5_lend cX5_lend 3 (some .int)]
def wsL_law_r22 : List Cond := [Cond.methodLink RL 52 yX4_undo, Cond.instanceMethod yX4_undo, Cond.selects RX4 yX4_undo yX4_undo, Cond.code yX4_undo cX4_undo 1 (some .int), Cond.methodLink RX4 155 yX1_takeInto, Cond.instanceMethod yX1_takeInto, Cond.selects RX1 yX1_takeInto yX1_takeInto, Cond.code yX1_takeInto cX1_takeInto 2 (some .boolean), Cond.methodLink RL 55 yX5_undo, Cond.instanceMethod yX5_undo, Cond.selects RX5 yX5_undo yX5_undo, Cond.code yX5_undo cX5_undo 1 (some .int), Cond.methodLink RL 56 yX4_behind, Cond.instanceMethod yX4_behind, Cond.selects RX4 yX4_behind yX4_behind, Cond.code yX4_behind cX4_behind 3 (some .int), Cond.methodLink RX4 159 yX4_isEither, Cond.static yX4_isEither, Cond.code yX4_isEither cX4_isEither 1 (some .boolean), Cond.methodLink RX4 162 yX2_copyOf, Cond.methodLink RX4 165 yX2_onBits, Cond.instanceMethod yX2_onBits, Cond.selects RX2 yX2_onBits yX2_onBits, Cond.code yX2_onBits cX2_onBits 4 (some .int)]
def wsL_law_r23 : List Cond := [Cond.methodLink RL 59 yX5_behind, Cond.instanceMethod yX5_behind, Cond.selects RX5 yX5_behind yX5_behind, Cond.code yX5_behind cX5_behind 3 (some .int), Cond.constantLong RX5 242 (60), Cond.methodLink RX5 244 yX5_onNow, Cond.instanceMethod yX5_onNow, Cond.selects RX5 yX5_onNow yX5_onNow, Cond.code yX5_onNow cX5_onNow 4 (some .int), Cond.methodLink RL 60 yX4_dull, Cond.instanceMethod yX4_dull, Cond.selects RX4 yX4_dull yX4_dull, Cond.code yX4_dull cX4_dull 2 (some .int), Cond.methodLink RX4 168 yX2_beginDue, Cond.methodLink RX4 171 yX2_worthOfAll, Cond.methodLink RX4 174 yX2_endMinute, Cond.methodLink RL 63 yX5_dull, Cond.instanceMethod yX5_dull, Cond.selects RX5 yX5_dull yX5_dull, Cond.code yX5_dull cX5_dull 3 (some .int), Cond.methodLink RL 64 yX4_quiet, Cond.instanceMethod yX4_quiet, Cond.selects RX4 yX4_quiet yX4_quiet, Cond.code yX4_quiet cX4_quiet 4 (some .int)]
def wsL_law_r24 : List Cond := [Cond.methodLink RL 67 yX5_quiet, Cond.instanceMethod yX5_quiet, Cond.selects RX5 yX5_quiet yX5_quiet, Cond.code yX5_quiet cX5_quiet 4 (some .int), Cond.methodLink RL 68 yX4_stop, Cond.instanceMethod yX4_stop, Cond.selects RX4 yX4_stop yX4_stop, Cond.code yX4_stop cX4_stop 7 (some .int), Cond.methodLink RX4 183 yX4_hadAsItIs, Cond.instanceMethod yX4_hadAsItIs, Cond.selects RX4 yX4_hadAsItIs yX4_hadAsItIs, Cond.code yX4_hadAsItIs cX4_hadAsItIs 1 (some .int), Cond.methodLink RX4 186 yX4_hadStopping, Cond.instanceMethod yX4_hadStopping, Cond.selects RX4 yX4_hadStopping yX4_hadStopping, Cond.code yX4_hadStopping cX4_hadStopping 4 (some .int), Cond.methodLink RX4 231 yX2_finish, Cond.methodLink RX4 189 yX4_whichOrHad, Cond.static yX4_whichOrHad, Cond.code yX4_whichOrHad cX4_whichOrHad 3 (some .int), Cond.methodLink RL 71 yX5_stop, Cond.instanceMethod yX5_stop, Cond.selects RX5 yX5_stop yX5_stop, Cond.code yX5_stop cX5_stop 7 (some .int)]
def wsL_law_r25 : List Cond := [Cond.methodLink RX5 250 yX5_hadAsItIs, Cond.instanceMethod yX5_hadAsItIs, Cond.selects RX5 yX5_hadAsItIs yX5_hadAsItIs, Cond.code yX5_hadAsItIs cX5_hadAsItIs 1 (some .int), Cond.methodLink RX5 247 yX5_hadThen, Cond.instanceMethod yX5_hadThen, Cond.selects RX5 yX5_hadThen yX5_hadThen, Cond.code yX5_hadThen cX5_hadThen 1 (some .int), Cond.methodLink RX5 253 yX5_hadStopped, Cond.instanceMethod yX5_hadStopped, Cond.selects RX5 yX5_hadStopped yX5_hadStopped, Cond.code yX5_hadStopped cX5_hadStopped 4 (some .int), Cond.methodLink RL 72 yX4_best, Cond.instanceMethod yX4_best, Cond.selects RX4 yX4_best yX4_best, Cond.code yX4_best cX4_best 7 (some .int), Cond.methodLink RX4 196 yX4_hadPinning, Cond.instanceMethod yX4_hadPinning, Cond.selects RX4 yX4_hadPinning yX4_hadPinning, Cond.code yX4_hadPinning cX4_hadPinning 3 (some .int), Cond.methodLink RL 75 yX5_best, Cond.instanceMethod yX5_best, Cond.selects RX5 yX5_best yX5_best, Cond.code yX5_best cX5_best 8 (some .int)]
def wsL_law_r26 : List Cond := [Cond.methodLink RL 76 yX4_both, Cond.instanceMethod yX4_both, Cond.selects RX4 yX4_both yX4_both, Cond.code yX4_both cX4_both 7 (some .int), Cond.methodLink RL 79 yX5_both, Cond.instanceMethod yX5_both, Cond.selects RX5 yX5_both yX5_both, Cond.code yX5_both cX5_both 8 (some .int), Cond.methodLink RL 80 yX4_never, Cond.instanceMethod yX4_never, Cond.selects RX4 yX4_never yX4_never, Cond.code yX4_never cX4_never 6 (some .int), Cond.methodLink RX4 199 yX4_hadWithout, Cond.instanceMethod yX4_hadWithout, Cond.selects RX4 yX4_hadWithout yX4_hadWithout, Cond.code yX4_hadWithout cX4_hadWithout 2 (some .int), Cond.methodLink RL 83 yX5_never, Cond.instanceMethod yX5_never, Cond.selects RX5 yX5_never yX5_never, Cond.code yX5_never cX5_never 6 (some .int), Cond.methodLink RL 84 yX4_note, Cond.instanceMethod yX4_note, Cond.selects RX4 yX4_note yX4_note, Cond.code yX4_note cX4_note 3 (some .int)]
def wsL_law_r27 : List Cond := [Cond.methodLink RL 87 yX5_note, Cond.instanceMethod yX5_note, Cond.selects RX5 yX5_note yX5_note, Cond.code yX5_note cX5_note 3 (some .int), Cond.constantLong RX5 256 (39), Cond.constantLong RX5 258 (-20), Cond.constantLong RX5 260 (20), Cond.methodLink RL 88 yX4_forget, Cond.instanceMethod yX4_forget, Cond.selects RX4 yX4_forget yX4_forget, Cond.code yX4_forget cX4_forget 2 (some .int), Cond.methodLink RL 91 yX5_forget, Cond.instanceMethod yX5_forget, Cond.selects RX5 yX5_forget yX5_forget, Cond.code yX5_forget cX5_forget 2 (some .int), Cond.methodLink RL 92 yX4_waning, Cond.instanceMethod yX4_waning, Cond.selects RX4 yX4_waning yX4_waning, Cond.code yX4_waning cX4_waning 6 (some .int), Cond.methodLink RX4 202 yX4_allNotedSo, Cond.instanceMethod yX4_allNotedSo, Cond.selects RX4 yX4_allNotedSo yX4_allNotedSo, Cond.code yX4_allNotedSo cX4_allNotedSo 5 (some .boolean), Cond.methodLink RX4 237 yX4_worth]
def wsL_law_r28 : List Cond := [Cond.methodLink RL 95 yX5_waning, Cond.instanceMethod yX5_waning, Cond.selects RX5 yX5_waning yX5_waning, Cond.code yX5_waning cX5_waning 6 (some .int), Cond.methodLink RX5 262 yX5_isSo, Cond.instanceMethod yX5_isSo, Cond.selects RX5 yX5_isSo yX5_isSo, Cond.code yX5_isSo cX5_isSo 6 (some .boolean), Cond.methodLink RL 96 yX4_kinds, Cond.instanceMethod yX4_kinds, Cond.selects RX4 yX4_kinds yX4_kinds, Cond.code yX4_kinds cX4_kinds 4 (some .int), Cond.methodLink RL 99 yX5_kinds, Cond.instanceMethod yX5_kinds, Cond.selects RX5 yX5_kinds yX5_kinds, Cond.code yX5_kinds cX5_kinds 4 (some .int), Cond.methodLink RL 100 yX4_late, Cond.instanceMethod yX4_late, Cond.selects RX4 yX4_late yX4_late, Cond.code yX4_late cX4_late 9 (some .int), Cond.methodLink RX4 206 yX2_soonBits, Cond.instanceMethod yX2_soonBits, Cond.selects RX2 yX2_soonBits yX2_soonBits, Cond.code yX2_soonBits cX2_soonBits 4 (some .int)]
def wsL_law_r29 : List Cond := [Cond.methodLink RX4 209 yX4_chanceOf, Cond.static yX4_chanceOf, Cond.code yX4_chanceOf cX4_chanceOf 6 (some .int), Cond.methodLink RX4 213 yX4_hadLate, Cond.instanceMethod yX4_hadLate, Cond.selects RX4 yX4_hadLate yX4_hadLate, Cond.code yX4_hadLate cX4_hadLate 4 (some .int), Cond.fieldLink RX4 234 "HatPins$Standing" "due" "[I", Cond.methodLink RX4 216 yX4_commonDivisor, Cond.static yX4_commonDivisor, Cond.code yX4_commonDivisor cX4_commonDivisor 6 (some .int), Cond.methodLink RL 104 yX5_late, Cond.instanceMethod yX5_late, Cond.selects RX5 yX5_late yX5_late, Cond.code yX5_late cX5_late 12 (some .int), Cond.constantLong RX5 265 (10), Cond.constantLong RX5 267 (999), Cond.methodLink RX5 269 yX5_isSoon, Cond.instanceMethod yX5_isSoon, Cond.selects RX5 yX5_isSoon yX5_isSoon, Cond.code yX5_isSoon cX5_isSoon 2 (some .boolean), Cond.methodLink RL 105 yX4_season, Cond.instanceMethod yX4_season, Cond.selects RX4 yX4_season yX4_season]
def wsL_law_r30 : List Cond := [Cond.code yX4_season cX4_season 5 (some .int), Cond.methodLink RX4 219 yX4_draw, Cond.static yX4_draw, Cond.code yX4_draw cX4_draw 4 (some .int), Cond.constantLong RX4 240 (7919), Cond.constantLong RX4 242 (6151), Cond.constantLong RX4 244 (65521), Cond.methodLink RX4 222 yX4_actInTrial, Cond.instanceMethod yX4_actInTrial, Cond.selects RX4 yX4_actInTrial yX4_actInTrial, Cond.code yX4_actInTrial cX4_actInTrial 8 none, Cond.methodLink RX4 225 yX2_pinsOfAll, Cond.instanceMethod yX2_pinsOfAll, Cond.selects RX2 yX2_pinsOfAll yX2_pinsOfAll, Cond.code yX2_pinsOfAll cX2_pinsOfAll 4 (some .int), Cond.fieldLink RX2 107 "HatPins$Evening" "ladies" "I", Cond.methodLink RL 109 yX5_season, Cond.instanceMethod yX5_season, Cond.selects RX5 yX5_season yX5_season, Cond.code yX5_season cX5_season 7 (some .int), Cond.constantLong RX5 272 (9999), Cond.constantLong RX5 274 (7919), Cond.constantLong RX5 276 (6151), Cond.constantLong RX5 278 (65521)]
def wsL_law_r31 : List Cond := [Cond.methodLink RX5 280 yX5_does, Cond.instanceMethod yX5_does, Cond.selects RX5 yX5_does yX5_does, Cond.code yX5_does cX5_does 7 none, Cond.methodLink RX5 283 yX5_pins, Cond.instanceMethod yX5_pins, Cond.selects RX5 yX5_pins yX5_pins, Cond.code yX5_pins cX5_pins 4 (some .int), Cond.methodLink RL 110 yX4_keep, Cond.instanceMethod yX4_keep, Cond.selects RX4 yX4_keep yX4_keep, Cond.code yX4_keep cX4_keep 1 (some .int), Cond.methodLink RL 113 yX5_keep, Cond.instanceMethod yX5_keep, Cond.selects RX5 yX5_keep yX5_keep, Cond.code yX5_keep cX5_keep 1 (some .int), Cond.methodLink RL 114 yX4_back, Cond.instanceMethod yX4_back, Cond.selects RX4 yX4_back yX4_back, Cond.code yX4_back cX4_back 1 (some .int), Cond.methodLink RL 117 yX5_back, Cond.instanceMethod yX5_back, Cond.selects RX5 yX5_back yX5_back, Cond.code yX5_back cX5_back 1 (some .int)]
def wsL_law_r32 : List Cond := [Cond.methodLink RL 118 yX4_count, Cond.instanceMethod yX4_count, Cond.selects RX4 yX4_count yX4_count, Cond.code yX4_count cX4_count 2 (some .int), Cond.methodLink RX4 228 yX2_howMany, Cond.instanceMethod yX2_howMany, Cond.selects RX2 yX2_howMany yX2_howMany, Cond.code yX2_howMany cX2_howMany 5 (some .int), Cond.methodLink RL 121 yX5_count, Cond.instanceMethod yX5_count, Cond.selects RX5 yX5_count yX5_count, Cond.code yX5_count cX5_count 2 (some .int), Cond.methodLink RX5 286 yX5_manyOf, Cond.instanceMethod yX5_manyOf, Cond.selects RX5 yX5_manyOf yX5_manyOf, Cond.code yX5_manyOf cX5_manyOf 4 (some .int)]
def wsL_law : List Cond := (wsL_law_r1 ++ (wsL_law_r2 ++ (wsL_law_r3 ++ (wsL_law_r4 ++ (wsL_law_r5 ++ (wsL_law_r6 ++ (wsL_law_r7 ++ (wsL_law_r8 ++ (wsL_law_r9 ++ (wsL_law_r10 ++ (wsL_law_r11 ++ (wsL_law_r12 ++ (wsL_law_r13 ++ (wsL_law_r14 ++ (wsL_law_r15 ++ (wsL_law_r16 ++ (wsL_law_r17 ++ (wsL_law_r18 ++ (wsL_law_r19 ++ (wsL_law_r20 ++ (wsL_law_r21 ++ (wsL_law_r22 ++ (wsL_law_r23 ++ (wsL_law_r24 ++ (wsL_law_r25 ++ (wsL_law_r26 ++ (wsL_law_r27 ++ (wsL_law_r28 ++ (wsL_law_r29 ++ (wsL_law_r30 ++ (wsL_law_r31 ++ wsL_law_r32))))))))))))))))))))))))))))))) ++ wsX40 ++ wsX50 ++ wsX30 ++ wsX00 ++ wsX20 ++ wsX10 ++ ([] : List Cond)
set_option maxRecDepth 20000 in
theorem wsL_law_in_r1 : ∀ w ∈ wsL_law_r1, w ∈ lw_tbl := fun w h => (goodIn_p wsL_law_r1 [65, 68] (by decide +kernel) (by decide +kernel) w h).1
set_option maxRecDepth 20000 in
theorem wsL_law_in_r2 : ∀ w ∈ wsL_law_r2, w ∈ lw_tbl := fun w h => (goodIn_p wsL_law_r2 [73, 94] (by decide +kernel) (by decide +kernel) w h).1
set_option maxRecDepth 20000 in
theorem wsL_law_in_r3 : ∀ w ∈ wsL_law_r3, w ∈ lw_tbl := fun w h => (goodIn_p wsL_law_r3 [160, 190, 194] (by decide +kernel) (by decide +kernel) w h).1
set_option maxRecDepth 20000 in
theorem wsL_law_in_r4 : ∀ w ∈ wsL_law_r4, w ∈ lw_tbl := fun w h => (goodIn_p wsL_law_r4 [210, 214, 220, 224, 227] (by decide +kernel) (by decide +kernel) w h).1
set_option maxRecDepth 20000 in
theorem wsL_law_in_r5 : ∀ w ∈ wsL_law_r5, w ∈ lw_tbl := fun w h => (goodIn_p wsL_law_r5 [230, 235, 238, 241, 244, 248] (by decide +kernel) (by decide +kernel) w h).1
set_option maxRecDepth 20000 in
theorem wsL_law_in_r6 : ∀ w ∈ wsL_law_r6, w ∈ lw_tbl := fun w h => (goodIn_p wsL_law_r6 [258, 262, 266, 270, 274] (by decide +kernel) (by decide +kernel) w h).1
set_option maxRecDepth 20000 in
theorem wsL_law_in_r7 : ∀ w ∈ wsL_law_r7, w ∈ lw_tbl := fun w h => (goodIn_p wsL_law_r7 [278, 282, 286, 290, 294, 298] (by decide +kernel) (by decide +kernel) w h).1
set_option maxRecDepth 20000 in
theorem wsL_law_in_r8 : ∀ w ∈ wsL_law_r8, w ∈ lw_tbl := fun w h => (goodIn_p wsL_law_r8 [589] (by decide +kernel) (by decide +kernel) w h).1
set_option maxRecDepth 20000 in
theorem wsL_law_in_r9 : ∀ w ∈ wsL_law_r9, w ∈ lw_tbl := fun w h => (goodIn_p wsL_law_r9 [594] (by decide +kernel) (by decide +kernel) w h).1
set_option maxRecDepth 20000 in
theorem wsL_law_in_r10 : ∀ w ∈ wsL_law_r10, w ∈ lw_tbl := fun w h => (goodIn_p wsL_law_r10 [598, 602, 606, 338, 728] (by decide +kernel) (by decide +kernel) w h).1
set_option maxRecDepth 20000 in
theorem wsL_law_in_r11 : ∀ w ∈ wsL_law_r11, w ∈ lw_tbl := fun w h => (goodIn_p wsL_law_r11 [733, 342, 737, 346, 741, 745] (by decide +kernel) (by decide +kernel) w h).1
set_option maxRecDepth 20000 in
theorem wsL_law_in_r12 : ∀ w ∈ wsL_law_r12, w ∈ lw_tbl := fun w h => (goodIn_p wsL_law_r12 [749, 753, 757, 761, 767] (by decide +kernel) (by decide +kernel) w h).1
set_option maxRecDepth 20000 in
theorem wsL_law_in_r13 : ∀ w ∈ wsL_law_r13, w ∈ lw_tbl := fun w h => (goodIn_p wsL_law_r13 [771, 775, 778, 350, 782] (by decide +kernel) (by decide +kernel) w h).1
set_option maxRecDepth 20000 in
theorem wsL_law_in_r14 : ∀ w ∈ wsL_law_r14, w ∈ lw_tbl := fun w h => (goodIn_p wsL_law_r14 [354, 358, 362, 366] (by decide +kernel) (by decide +kernel) w h).1
set_option maxRecDepth 20000 in
theorem wsL_law_in_r15 : ∀ w ∈ wsL_law_r15, w ∈ lw_tbl := fun w h => (goodIn_p wsL_law_r15 [369, 372, 786, 790, 795, 798] (by decide +kernel) (by decide +kernel) w h).1
set_option maxRecDepth 20000 in
theorem wsL_law_in_r16 : ∀ w ∈ wsL_law_r16, w ∈ lw_tbl := fun w h => (goodIn_p wsL_law_r16 [801, 804, 377, 381, 385] (by decide +kernel) (by decide +kernel) w h).1
set_option maxRecDepth 20000 in
theorem wsL_law_in_r17 : ∀ w ∈ wsL_law_r17, w ∈ lw_tbl := fun w h => (goodIn_p wsL_law_r17 [389, 808, 812, 817, 393] (by decide +kernel) (by decide +kernel) w h).1
set_option maxRecDepth 20000 in
theorem wsL_law_in_r18 : ∀ w ∈ wsL_law_r18, w ∈ lw_tbl := fun w h => (goodIn_p wsL_law_r18 [397, 401, 405, 409, 413, 417] (by decide +kernel) (by decide +kernel) w h).1
set_option maxRecDepth 20000 in
theorem wsL_law_in_r19 : ∀ w ∈ wsL_law_r19, w ∈ lw_tbl := fun w h => (goodIn_p wsL_law_r19 [422, 426, 821, 826] (by decide +kernel) (by decide +kernel) w h).1
set_option maxRecDepth 20000 in
theorem wsL_law_in_r20 : ∀ w ∈ wsL_law_r20, w ∈ lw_tbl := fun w h => (goodIn_p wsL_law_r20 [830, 834, 838, 842, 846, 850] (by decide +kernel) (by decide +kernel) w h).1
set_option maxRecDepth 20000 in
theorem wsL_law_in_r21 : ∀ w ∈ wsL_law_r21, w ∈ lw_tbl := fun w h => (goodIn_p wsL_law_r21 [431, 436, 854, 440, 444, 858] (by decide +kernel) (by decide +kernel) w h).1
set_option maxRecDepth 20000 in
theorem wsL_law_in_r22 : ∀ w ∈ wsL_law_r22, w ∈ lw_tbl := fun w h => (goodIn_p wsL_law_r22 [448, 452, 862, 456, 459, 464] (by decide +kernel) (by decide +kernel) w h).1
set_option maxRecDepth 20000 in
theorem wsL_law_in_r23 : ∀ w ∈ wsL_law_r23, w ∈ lw_tbl := fun w h => (goodIn_p wsL_law_r23 [866, 871, 468, 875, 475] (by decide +kernel) (by decide +kernel) w h).1
set_option maxRecDepth 20000 in
theorem wsL_law_in_r24 : ∀ w ∈ wsL_law_r24, w ∈ lw_tbl := fun w h => (goodIn_p wsL_law_r24 [879, 479, 483, 487, 491, 883] (by decide +kernel) (by decide +kernel) w h).1
set_option maxRecDepth 20000 in
theorem wsL_law_in_r25 : ∀ w ∈ wsL_law_r25, w ∈ lw_tbl := fun w h => (goodIn_p wsL_law_r25 [887, 891, 895, 495, 499, 899] (by decide +kernel) (by decide +kernel) w h).1
set_option maxRecDepth 20000 in
theorem wsL_law_in_r26 : ∀ w ∈ wsL_law_r26, w ∈ lw_tbl := fun w h => (goodIn_p wsL_law_r26 [503, 903, 507, 511, 907, 515] (by decide +kernel) (by decide +kernel) w h).1
set_option maxRecDepth 20000 in
theorem wsL_law_in_r27 : ∀ w ∈ wsL_law_r27, w ∈ lw_tbl := fun w h => (goodIn_p wsL_law_r27 [911, 519, 918, 523, 527] (by decide +kernel) (by decide +kernel) w h).1
set_option maxRecDepth 20000 in
theorem wsL_law_in_r28 : ∀ w ∈ wsL_law_r28, w ∈ lw_tbl := fun w h => (goodIn_p wsL_law_r28 [922, 926, 532, 930, 536, 540] (by decide +kernel) (by decide +kernel) w h).1
set_option maxRecDepth 20000 in
theorem wsL_law_in_r29 : ∀ w ∈ wsL_law_r29, w ∈ lw_tbl := fun w h => (goodIn_p wsL_law_r29 [543, 547, 550, 934, 940] (by decide +kernel) (by decide +kernel) w h).1
set_option maxRecDepth 20000 in
theorem wsL_law_in_r30 : ∀ w ∈ wsL_law_r30, w ∈ lw_tbl := fun w h => (goodIn_p wsL_law_r30 [554, 557, 564, 568, 944] (by decide +kernel) (by decide +kernel) w h).1
set_option maxRecDepth 20000 in
theorem wsL_law_in_r31 : ∀ w ∈ wsL_law_r31, w ∈ lw_tbl := fun w h => (goodIn_p wsL_law_r31 [952, 956, 572, 960, 576, 964] (by decide +kernel) (by decide +kernel) w h).1
set_option maxRecDepth 20000 in
theorem wsL_law_in_r32 : ∀ w ∈ wsL_law_r32, w ∈ lw_tbl := fun w h => (goodIn_p wsL_law_r32 [580, 584, 968, 972] (by decide +kernel) (by decide +kernel) w h).1
set_option maxRecDepth 20000 in
theorem wsL_law_in_wsX40 : ∀ w ∈ wsX40, w ∈ lw_tbl := fun w h => (goodIn_p wsX40 [] (by decide +kernel) (by decide +kernel) w h).1
set_option maxRecDepth 20000 in
theorem wsL_law_in_wsX50 : ∀ w ∈ wsX50, w ∈ lw_tbl := fun w h => (goodIn_p wsX50 [] (by decide +kernel) (by decide +kernel) w h).1
set_option maxRecDepth 20000 in
theorem wsL_law_in_wsX30 : ∀ w ∈ wsX30, w ∈ lw_tbl := fun w h => (goodIn_p wsX30 [] (by decide +kernel) (by decide +kernel) w h).1
set_option maxRecDepth 20000 in
theorem wsL_law_in_wsX00 : ∀ w ∈ wsX00, w ∈ lw_tbl := fun w h => (goodIn_p wsX00 [] (by decide +kernel) (by decide +kernel) w h).1
set_option maxRecDepth 20000 in
theorem wsL_law_in_wsX20 : ∀ w ∈ wsX20, w ∈ lw_tbl := fun w h => (goodIn_p wsX20 [] (by decide +kernel) (by decide +kernel) w h).1
set_option maxRecDepth 20000 in
theorem wsL_law_in_wsX10 : ∀ w ∈ wsX10, w ∈ lw_tbl := fun w h => (goodIn_p wsX10 [] (by decide +kernel) (by decide +kernel) w h).1
theorem wsL_law_in : ∀ w ∈ wsL_law, w ∈ lw_tbl := by
  intro w h
  rcases List.mem_append.mp h with h | h
  rotate_left
  · exact absurd h List.not_mem_nil
  rcases List.mem_append.mp h with h | h
  rotate_left
  · exact wsL_law_in_wsX10 w h
  rcases List.mem_append.mp h with h | h
  rotate_left
  · exact wsL_law_in_wsX20 w h
  rcases List.mem_append.mp h with h | h
  rotate_left
  · exact wsL_law_in_wsX00 w h
  rcases List.mem_append.mp h with h | h
  rotate_left
  · exact wsL_law_in_wsX30 w h
  rcases List.mem_append.mp h with h | h
  rotate_left
  · exact wsL_law_in_wsX50 w h
  rcases List.mem_append.mp h with h | h
  rotate_left
  · exact wsL_law_in_wsX40 w h
  rcases List.mem_append.mp h with h | h
  · exact wsL_law_in_r1 w h
  rcases List.mem_append.mp h with h | h
  · exact wsL_law_in_r2 w h
  rcases List.mem_append.mp h with h | h
  · exact wsL_law_in_r3 w h
  rcases List.mem_append.mp h with h | h
  · exact wsL_law_in_r4 w h
  rcases List.mem_append.mp h with h | h
  · exact wsL_law_in_r5 w h
  rcases List.mem_append.mp h with h | h
  · exact wsL_law_in_r6 w h
  rcases List.mem_append.mp h with h | h
  · exact wsL_law_in_r7 w h
  rcases List.mem_append.mp h with h | h
  · exact wsL_law_in_r8 w h
  rcases List.mem_append.mp h with h | h
  · exact wsL_law_in_r9 w h
  rcases List.mem_append.mp h with h | h
  · exact wsL_law_in_r10 w h
  rcases List.mem_append.mp h with h | h
  · exact wsL_law_in_r11 w h
  rcases List.mem_append.mp h with h | h
  · exact wsL_law_in_r12 w h
  rcases List.mem_append.mp h with h | h
  · exact wsL_law_in_r13 w h
  rcases List.mem_append.mp h with h | h
  · exact wsL_law_in_r14 w h
  rcases List.mem_append.mp h with h | h
  · exact wsL_law_in_r15 w h
  rcases List.mem_append.mp h with h | h
  · exact wsL_law_in_r16 w h
  rcases List.mem_append.mp h with h | h
  · exact wsL_law_in_r17 w h
  rcases List.mem_append.mp h with h | h
  · exact wsL_law_in_r18 w h
  rcases List.mem_append.mp h with h | h
  · exact wsL_law_in_r19 w h
  rcases List.mem_append.mp h with h | h
  · exact wsL_law_in_r20 w h
  rcases List.mem_append.mp h with h | h
  · exact wsL_law_in_r21 w h
  rcases List.mem_append.mp h with h | h
  · exact wsL_law_in_r22 w h
  rcases List.mem_append.mp h with h | h
  · exact wsL_law_in_r23 w h
  rcases List.mem_append.mp h with h | h
  · exact wsL_law_in_r24 w h
  rcases List.mem_append.mp h with h | h
  · exact wsL_law_in_r25 w h
  rcases List.mem_append.mp h with h | h
  · exact wsL_law_in_r26 w h
  rcases List.mem_append.mp h with h | h
  · exact wsL_law_in_r27 w h
  rcases List.mem_append.mp h with h | h
  · exact wsL_law_in_r28 w h
  rcases List.mem_append.mp h with h | h
  · exact wsL_law_in_r29 w h
  rcases List.mem_append.mp h with h | h
  · exact wsL_law_in_r30 w h
  rcases List.mem_append.mp h with h | h
  · exact wsL_law_in_r31 w h
  exact wsL_law_in_r32 w h
theorem inlX0 : ∀ w ∈ wsX00, w ∈ wsL_law := fun _ h => List.mem_append_left _ (List.mem_append_left _ (List.mem_append_left _ (List.mem_append_right _ h)))
theorem inX0 : ∀ w ∈ wsX00, w ∈ lw_tbl := fun w h => wsL_law_in w (inlX0 w h)
theorem inlX1 : ∀ w ∈ wsX10, w ∈ wsL_law := fun _ h => List.mem_append_left _ (List.mem_append_right _ h)
theorem inX1 : ∀ w ∈ wsX10, w ∈ lw_tbl := fun w h => wsL_law_in w (inlX1 w h)
theorem inlX2 : ∀ w ∈ wsX20, w ∈ wsL_law := fun _ h => List.mem_append_left _ (List.mem_append_left _ (List.mem_append_right _ h))
theorem inX2 : ∀ w ∈ wsX20, w ∈ lw_tbl := fun w h => wsL_law_in w (inlX2 w h)
theorem inlX3 : ∀ w ∈ wsX30, w ∈ wsL_law := fun _ h => List.mem_append_left _ (List.mem_append_left _ (List.mem_append_left _ (List.mem_append_left _ (List.mem_append_right _ h))))
theorem inX3 : ∀ w ∈ wsX30, w ∈ lw_tbl := fun w h => wsL_law_in w (inlX3 w h)
theorem inlX4 : ∀ w ∈ wsX40, w ∈ wsL_law := fun _ h => List.mem_append_left _ (List.mem_append_left _ (List.mem_append_left _ (List.mem_append_left _ (List.mem_append_left _ (List.mem_append_left _ (List.mem_append_right _ h))))))
theorem inX4 : ∀ w ∈ wsX40, w ∈ lw_tbl := fun w h => wsL_law_in w (inlX4 w h)
theorem inlX5 : ∀ w ∈ wsX50, w ∈ wsL_law := fun _ h => List.mem_append_left _ (List.mem_append_left _ (List.mem_append_left _ (List.mem_append_left _ (List.mem_append_left _ (List.mem_append_right _ h)))))
theorem inX5 : ∀ w ∈ wsX50, w ∈ lw_tbl := fun w h => wsL_law_in w (inlX5 w h)
theorem inJ9 : ∀ w ∈ wsJ90, w ∈ lw_tbl := by decide +kernel
theorem inJ0 : ∀ w ∈ wsJ00, w ∈ lw_tbl := by decide +kernel
theorem inJ1 : ∀ w ∈ wsJ10, w ∈ lw_tbl := by decide +kernel
theorem inJ2 : ∀ w ∈ wsJ20, w ∈ lw_tbl := by decide +kernel
theorem inJ10 : ∀ w ∈ wsJ100, w ∈ lw_tbl := by decide +kernel
theorem inJ3 : ∀ w ∈ wsJ30, w ∈ lw_tbl := by decide +kernel
theorem dX0_init_0 : decode cX0_init 0 = .ok (.aload_n 0, 1) := by decide +kernel
theorem dX0_init_1 : decode cX0_init 1 = .ok (.invokespecial 3, 3) := by decide +kernel
theorem dX0_init_4 : decode cX0_init 4 = .ok (.aload_n 0, 1) := by decide +kernel
theorem dX0_init_5 : decode cX0_init 5 = .ok (.bipush 7, 2) := by decide +kernel
theorem dX0_init_7 : decode cX0_init 7 = .ok (.newarray .int, 2) := by decide +kernel
theorem dX0_init_9 : decode cX0_init 9 = .ok (.putfield 9, 3) := by decide +kernel
theorem dX0_init_12 : decode cX0_init 12 = .ok (.aload_n 0, 1) := by decide +kernel
theorem dX0_init_13 : decode cX0_init 13 = .ok (.bipush 7, 2) := by decide +kernel
theorem dX0_init_15 : decode cX0_init 15 = .ok (.newarray .int, 2) := by decide +kernel
theorem dX0_init_17 : decode cX0_init 17 = .ok (.putfield 15, 3) := by decide +kernel
theorem dX0_init_20 : decode cX0_init 20 = .ok (.aload_n 0, 1) := by decide +kernel
theorem dX0_init_21 : decode cX0_init 21 = .ok (.bipush 7, 2) := by decide +kernel
theorem dX0_init_23 : decode cX0_init 23 = .ok (.newarray .int, 2) := by decide +kernel
theorem dX0_init_25 : decode cX0_init 25 = .ok (.putfield 18, 3) := by decide +kernel
theorem dX0_init_28 : decode cX0_init 28 = .ok (.aload_n 0, 1) := by decide +kernel
theorem dX0_init_29 : decode cX0_init 29 = .ok (.bipush 7, 2) := by decide +kernel
theorem dX0_init_31 : decode cX0_init 31 = .ok (.newarray .int, 2) := by decide +kernel
theorem dX0_init_33 : decode cX0_init 33 = .ok (.putfield 21, 3) := by decide +kernel
theorem dX0_init_36 : decode cX0_init 36 = .ok (.aload_n 0, 1) := by decide +kernel
theorem dX0_init_37 : decode cX0_init 37 = .ok (.bipush 7, 2) := by decide +kernel
theorem dX0_init_39 : decode cX0_init 39 = .ok (.newarray .int, 2) := by decide +kernel
theorem dX0_init_41 : decode cX0_init 41 = .ok (.putfield 24, 3) := by decide +kernel
theorem dX0_init_44 : decode cX0_init 44 = .ok (.aload_n 0, 1) := by decide +kernel
theorem dX0_init_45 : decode cX0_init 45 = .ok (.bipush 6, 2) := by decide +kernel
theorem dX0_init_47 : decode cX0_init 47 = .ok (.newarray .int, 2) := by decide +kernel
theorem dX0_init_49 : decode cX0_init 49 = .ok (.putfield 27, 3) := by decide +kernel
theorem dX0_init_52 : decode cX0_init 52 = .ok (.aload_n 0, 1) := by decide +kernel
theorem dX0_init_53 : decode cX0_init 53 = .ok (.bipush 6, 2) := by decide +kernel
theorem dX0_init_55 : decode cX0_init 55 = .ok (.newarray .int, 2) := by decide +kernel
theorem dX0_init_57 : decode cX0_init 57 = .ok (.putfield 30, 3) := by decide +kernel
theorem dX0_init_60 : decode cX0_init 60 = .ok (.aload_n 0, 1) := by decide +kernel
theorem dX0_init_61 : decode cX0_init 61 = .ok (.bipush 6, 2) := by decide +kernel
theorem dX0_init_63 : decode cX0_init 63 = .ok (.newarray .int, 2) := by decide +kernel
theorem dX0_init_65 : decode cX0_init 65 = .ok (.putfield 33, 3) := by decide +kernel
theorem dX0_init_68 : decode cX0_init 68 = .ok (.aload_n 0, 1) := by decide +kernel
theorem dX0_init_69 : decode cX0_init 69 = .ok (.iconst 4, 1) := by decide +kernel
theorem dX0_init_70 : decode cX0_init 70 = .ok (.newarray .int, 2) := by decide +kernel
theorem dX0_init_72 : decode cX0_init 72 = .ok (.putfield 36, 3) := by decide +kernel
theorem dX0_init_75 : decode cX0_init 75 = .ok (.aload_n 0, 1) := by decide +kernel
theorem dX0_init_76 : decode cX0_init 76 = .ok (.iconst 4, 1) := by decide +kernel
theorem dX0_init_77 : decode cX0_init 77 = .ok (.newarray .int, 2) := by decide +kernel
theorem dX0_init_79 : decode cX0_init 79 = .ok (.putfield 39, 3) := by decide +kernel
theorem dX0_init_82 : decode cX0_init 82 = .ok (.return_, 1) := by decide +kernel
theorem dX0_clear_0 : decode cX0_clear 0 = .ok (.aload_n 0, 1) := by decide +kernel
theorem dX0_clear_1 : decode cX0_clear 1 = .ok (.iconst 0, 1) := by decide +kernel
theorem dX0_clear_2 : decode cX0_clear 2 = .ok (.putfield 42, 3) := by decide +kernel
theorem dX0_clear_5 : decode cX0_clear 5 = .ok (.aload_n 0, 1) := by decide +kernel
theorem dX0_clear_6 : decode cX0_clear 6 = .ok (.iconst 0, 1) := by decide +kernel
theorem dX0_clear_7 : decode cX0_clear 7 = .ok (.putfield 46, 3) := by decide +kernel
theorem dX0_clear_10 : decode cX0_clear 10 = .ok (.aload_n 0, 1) := by decide +kernel
theorem dX0_clear_11 : decode cX0_clear 11 = .ok (.iconst 0, 1) := by decide +kernel
theorem dX0_clear_12 : decode cX0_clear 12 = .ok (.putfield 49, 3) := by decide +kernel
theorem dX0_clear_15 : decode cX0_clear 15 = .ok (.return_, 1) := by decide +kernel
set_option maxRecDepth 20000 in
theorem ggX0_add_X0_addGoing : GoodIn wsX0_add wsX0_addGoing := goodIn_r _ [5, 6, 7, 8, 9, 10, 11, 27, 28, 29, 30, 31, 32, 33, 34, 35, 36, 37, 38, 39] (by decide +kernel) (by decide +kernel)
set_option maxRecDepth 20000 in
theorem gX0_add_X0_addGoing : GoodIn wsX0_add (wsV RX0 52 RX0 yX0_addGoing wsX0_addGoing) := goodIn_app (goodIn_of _ (by decide +kernel)) ggX0_add_X0_addGoing
set_option maxRecDepth 20000 in
theorem ggX0_add_X0_addFollowing : GoodIn wsX0_add wsX0_addFollowing := goodIn_r _ [15, 16, 6, 17, 18, 19, 27, 28, 29, 30, 31, 32, 33, 34, 35, 36, 37, 38, 39] (by decide +kernel) (by decide +kernel)
set_option maxRecDepth 20000 in
theorem gX0_add_X0_addFollowing : GoodIn wsX0_add (wsV RX0 56 RX0 yX0_addFollowing wsX0_addFollowing) := goodIn_app (goodIn_of _ (by decide +kernel)) ggX0_add_X0_addFollowing
set_option maxRecDepth 20000 in
theorem ggX0_add_X0_addLady : GoodIn wsX0_add wsX0_addLady := goodIn_r _ [23, 24, 25, 26, 27, 28, 29, 30, 31, 32, 33, 34, 35, 36, 37, 38, 39] (by decide +kernel) (by decide +kernel)
set_option maxRecDepth 20000 in
theorem gX0_add_X0_addLady : GoodIn wsX0_add (wsV RX0 59 RX0 yX0_addLady wsX0_addLady) := goodIn_app (goodIn_of _ (by decide +kernel)) ggX0_add_X0_addLady
theorem dX0_add_0 : decode cX0_add 0 = .ok (.iload_n 3, 1) := by decide +kernel
theorem dX0_add_1 : decode cX0_add 1 = .ok (.ifCond .lt 9, 3) := by decide +kernel
theorem dX0_add_4 : decode cX0_add 4 = .ok (.iload_n 3, 1) := by decide +kernel
theorem dX0_add_5 : decode cX0_add 5 = .ok (.aload_n 2, 1) := by decide +kernel
theorem dX0_add_6 : decode cX0_add 6 = .ok (.arraylength, 1) := by decide +kernel
theorem dX0_add_7 : decode cX0_add 7 = .ok (.if_icmp .le 5, 3) := by decide +kernel
theorem dX0_add_10 : decode cX0_add 10 = .ok (.iconst 0, 1) := by decide +kernel
theorem dX0_add_11 : decode cX0_add 11 = .ok (.ireturn, 1) := by decide +kernel
theorem dX0_add_12 : decode cX0_add 12 = .ok (.iload_n 1, 1) := by decide +kernel
theorem dX0_add_13 : decode cX0_add 13 = .ok (.lookupswitch 93 #[(102, 54), (103, 35), (108, 73)], 35) := by decide +kernel
theorem dX0_add_48 : decode cX0_add 48 = .ok (.iload_n 3, 1) := by decide +kernel
theorem dX0_add_49 : decode cX0_add 49 = .ok (.iconst 5, 1) := by decide +kernel
theorem dX0_add_50 : decode cX0_add 50 = .ok (.if_icmp .ne 15, 3) := by decide +kernel
theorem dX0_add_53 : decode cX0_add 53 = .ok (.aload_n 0, 1) := by decide +kernel
theorem dX0_add_54 : decode cX0_add 54 = .ok (.aload_n 2, 1) := by decide +kernel
theorem dX0_add_55 : decode cX0_add 55 = .ok (.invokevirtual 52, 3) := by decide +kernel
theorem dX0_add_58 : decode cX0_add 58 = .ok (.ifCond .eq 7, 3) := by decide +kernel
theorem dX0_add_61 : decode cX0_add 61 = .ok (.iconst 1, 1) := by decide +kernel
theorem dX0_add_62 : decode cX0_add 62 = .ok (.goto 4, 3) := by decide +kernel
theorem dX0_add_65 : decode cX0_add 65 = .ok (.iconst 0, 1) := by decide +kernel
theorem dX0_add_66 : decode cX0_add 66 = .ok (.ireturn, 1) := by decide +kernel
theorem dX0_add_67 : decode cX0_add 67 = .ok (.iload_n 3, 1) := by decide +kernel
theorem dX0_add_68 : decode cX0_add 68 = .ok (.iconst 3, 1) := by decide +kernel
theorem dX0_add_69 : decode cX0_add 69 = .ok (.if_icmp .ne 15, 3) := by decide +kernel
theorem dX0_add_72 : decode cX0_add 72 = .ok (.aload_n 0, 1) := by decide +kernel
theorem dX0_add_73 : decode cX0_add 73 = .ok (.aload_n 2, 1) := by decide +kernel
theorem dX0_add_74 : decode cX0_add 74 = .ok (.invokevirtual 56, 3) := by decide +kernel
theorem dX0_add_77 : decode cX0_add 77 = .ok (.ifCond .eq 7, 3) := by decide +kernel
theorem dX0_add_80 : decode cX0_add 80 = .ok (.iconst 1, 1) := by decide +kernel
theorem dX0_add_81 : decode cX0_add 81 = .ok (.goto 4, 3) := by decide +kernel
theorem dX0_add_84 : decode cX0_add 84 = .ok (.iconst 0, 1) := by decide +kernel
theorem dX0_add_85 : decode cX0_add 85 = .ok (.ireturn, 1) := by decide +kernel
theorem dX0_add_86 : decode cX0_add 86 = .ok (.iload_n 3, 1) := by decide +kernel
theorem dX0_add_87 : decode cX0_add 87 = .ok (.iconst 2, 1) := by decide +kernel
theorem dX0_add_88 : decode cX0_add 88 = .ok (.if_icmp .lt 16, 3) := by decide +kernel
theorem dX0_add_91 : decode cX0_add 91 = .ok (.aload_n 0, 1) := by decide +kernel
theorem dX0_add_92 : decode cX0_add 92 = .ok (.aload_n 2, 1) := by decide +kernel
theorem dX0_add_93 : decode cX0_add 93 = .ok (.iload_n 3, 1) := by decide +kernel
theorem dX0_add_94 : decode cX0_add 94 = .ok (.invokevirtual 59, 3) := by decide +kernel
theorem dX0_add_97 : decode cX0_add 97 = .ok (.ifCond .eq 7, 3) := by decide +kernel
theorem dX0_add_100 : decode cX0_add 100 = .ok (.iconst 1, 1) := by decide +kernel
theorem dX0_add_101 : decode cX0_add 101 = .ok (.goto 4, 3) := by decide +kernel
theorem dX0_add_104 : decode cX0_add 104 = .ok (.iconst 0, 1) := by decide +kernel
theorem dX0_add_105 : decode cX0_add 105 = .ok (.ireturn, 1) := by decide +kernel
theorem dX0_add_106 : decode cX0_add 106 = .ok (.iconst 0, 1) := by decide +kernel
theorem dX0_add_107 : decode cX0_add 107 = .ok (.ireturn, 1) := by decide +kernel
theorem dX0_addGoing_0 : decode cX0_addGoing 0 = .ok (.aload_n 0, 1) := by decide +kernel
theorem dX0_addGoing_1 : decode cX0_addGoing 1 = .ok (.getfield 42, 3) := by decide +kernel
theorem dX0_addGoing_4 : decode cX0_addGoing 4 = .ok (.bipush 7, 2) := by decide +kernel
theorem dX0_addGoing_6 : decode cX0_addGoing 6 = .ok (.if_icmp .ge 9, 3) := by decide +kernel
theorem dX0_addGoing_9 : decode cX0_addGoing 9 = .ok (.aload_n 1, 1) := by decide +kernel
theorem dX0_addGoing_10 : decode cX0_addGoing 10 = .ok (.arraylength, 1) := by decide +kernel
theorem dX0_addGoing_11 : decode cX0_addGoing 11 = .ok (.iconst 5, 1) := by decide +kernel
theorem dX0_addGoing_12 : decode cX0_addGoing 12 = .ok (.if_icmp .ge 5, 3) := by decide +kernel
theorem dX0_addGoing_15 : decode cX0_addGoing 15 = .ok (.iconst 0, 1) := by decide +kernel
theorem dX0_addGoing_16 : decode cX0_addGoing 16 = .ok (.ireturn, 1) := by decide +kernel
theorem dX0_addGoing_17 : decode cX0_addGoing 17 = .ok (.aload_n 1, 1) := by decide +kernel
theorem dX0_addGoing_18 : decode cX0_addGoing 18 = .ok (.iconst 1, 1) := by decide +kernel
theorem dX0_addGoing_19 : decode cX0_addGoing 19 = .ok (.iaload, 1) := by decide +kernel
theorem dX0_addGoing_20 : decode cX0_addGoing 20 = .ok (.bipush 60, 2) := by decide +kernel
theorem dX0_addGoing_22 : decode cX0_addGoing 22 = .ok (.if_icmp .le 11, 3) := by decide +kernel
theorem dX0_addGoing_25 : decode cX0_addGoing 25 = .ok (.aload_n 1, 1) := by decide +kernel
theorem dX0_addGoing_26 : decode cX0_addGoing 26 = .ok (.iconst 1, 1) := by decide +kernel
theorem dX0_addGoing_27 : decode cX0_addGoing 27 = .ok (.iaload, 1) := by decide +kernel
theorem dX0_addGoing_28 : decode cX0_addGoing 28 = .ok (.bipush 99, 2) := by decide +kernel
theorem dX0_addGoing_30 : decode cX0_addGoing 30 = .ok (.if_icmp .ne 7, 3) := by decide +kernel
theorem dX0_addGoing_33 : decode cX0_addGoing 33 = .ok (.iconst 1, 1) := by decide +kernel
theorem dX0_addGoing_34 : decode cX0_addGoing 34 = .ok (.goto 4, 3) := by decide +kernel
theorem dX0_addGoing_37 : decode cX0_addGoing 37 = .ok (.iconst 0, 1) := by decide +kernel
theorem dX0_addGoing_38 : decode cX0_addGoing 38 = .ok (.istore_n 2, 1) := by decide +kernel
theorem dX0_addGoing_39 : decode cX0_addGoing 39 = .ok (.aload_n 1, 1) := by decide +kernel
theorem dX0_addGoing_40 : decode cX0_addGoing 40 = .ok (.iconst 0, 1) := by decide +kernel
theorem dX0_addGoing_41 : decode cX0_addGoing 41 = .ok (.iaload, 1) := by decide +kernel
theorem dX0_addGoing_42 : decode cX0_addGoing 42 = .ok (.iconst 4, 1) := by decide +kernel
theorem dX0_addGoing_43 : decode cX0_addGoing 43 = .ok (.if_icmp .ge 22, 3) := by decide +kernel
theorem dX0_addGoing_46 : decode cX0_addGoing 46 = .ok (.iload_n 2, 1) := by decide +kernel
theorem dX0_addGoing_47 : decode cX0_addGoing 47 = .ok (.ifCond .eq 18, 3) := by decide +kernel
theorem dX0_addGoing_50 : decode cX0_addGoing 50 = .ok (.aload_n 1, 1) := by decide +kernel
theorem dX0_addGoing_51 : decode cX0_addGoing 51 = .ok (.iconst 2, 1) := by decide +kernel
theorem dX0_addGoing_52 : decode cX0_addGoing 52 = .ok (.iaload, 1) := by decide +kernel
theorem dX0_addGoing_53 : decode cX0_addGoing 53 = .ok (.bipush 20, 2) := by decide +kernel
theorem dX0_addGoing_55 : decode cX0_addGoing 55 = .ok (.if_icmp .gt 10, 3) := by decide +kernel
theorem dX0_addGoing_58 : decode cX0_addGoing 58 = .ok (.aload_n 1, 1) := by decide +kernel
theorem dX0_addGoing_59 : decode cX0_addGoing 59 = .ok (.iconst 3, 1) := by decide +kernel
theorem dX0_addGoing_60 : decode cX0_addGoing 60 = .ok (.iaload, 1) := by decide +kernel
theorem dX0_addGoing_61 : decode cX0_addGoing 61 = .ok (.iconst 5, 1) := by decide +kernel
theorem dX0_addGoing_62 : decode cX0_addGoing 62 = .ok (.if_icmp .le 5, 3) := by decide +kernel
theorem dX0_addGoing_65 : decode cX0_addGoing 65 = .ok (.iconst 0, 1) := by decide +kernel
theorem dX0_addGoing_66 : decode cX0_addGoing 66 = .ok (.ireturn, 1) := by decide +kernel
theorem dX0_addGoing_67 : decode cX0_addGoing 67 = .ok (.aload_n 1, 1) := by decide +kernel
theorem dX0_addGoing_68 : decode cX0_addGoing 68 = .ok (.iconst 4, 1) := by decide +kernel
theorem dX0_addGoing_69 : decode cX0_addGoing 69 = .ok (.iaload, 1) := by decide +kernel
theorem dX0_addGoing_70 : decode cX0_addGoing 70 = .ok (.iconst 1, 1) := by decide +kernel
theorem dX0_addGoing_71 : decode cX0_addGoing 71 = .ok (.if_icmp .lt 11, 3) := by decide +kernel
theorem dX0_addGoing_74 : decode cX0_addGoing 74 = .ok (.aload_n 1, 1) := by decide +kernel
theorem dX0_addGoing_75 : decode cX0_addGoing 75 = .ok (.iconst 4, 1) := by decide +kernel
theorem dX0_addGoing_76 : decode cX0_addGoing 76 = .ok (.iaload, 1) := by decide +kernel
theorem dX0_addGoing_77 : decode cX0_addGoing 77 = .ok (.bipush 40, 2) := by decide +kernel
theorem dX0_addGoing_79 : decode cX0_addGoing 79 = .ok (.if_icmp .le 5, 3) := by decide +kernel
theorem dX0_addGoing_82 : decode cX0_addGoing 82 = .ok (.iconst 0, 1) := by decide +kernel
theorem dX0_addGoing_83 : decode cX0_addGoing 83 = .ok (.ireturn, 1) := by decide +kernel
theorem dX0_addGoing_84 : decode cX0_addGoing 84 = .ok (.aload_n 0, 1) := by decide +kernel
theorem dX0_addGoing_85 : decode cX0_addGoing 85 = .ok (.getfield 9, 3) := by decide +kernel
theorem dX0_addGoing_88 : decode cX0_addGoing 88 = .ok (.aload_n 0, 1) := by decide +kernel
theorem dX0_addGoing_89 : decode cX0_addGoing 89 = .ok (.getfield 42, 3) := by decide +kernel
theorem dX0_addGoing_92 : decode cX0_addGoing 92 = .ok (.aload_n 1, 1) := by decide +kernel
theorem dX0_addGoing_93 : decode cX0_addGoing 93 = .ok (.iconst 0, 1) := by decide +kernel
theorem dX0_addGoing_94 : decode cX0_addGoing 94 = .ok (.iaload, 1) := by decide +kernel
theorem dX0_addGoing_95 : decode cX0_addGoing 95 = .ok (.iastore, 1) := by decide +kernel
theorem dX0_addGoing_96 : decode cX0_addGoing 96 = .ok (.aload_n 0, 1) := by decide +kernel
theorem dX0_addGoing_97 : decode cX0_addGoing 97 = .ok (.getfield 15, 3) := by decide +kernel
theorem dX0_addGoing_100 : decode cX0_addGoing 100 = .ok (.aload_n 0, 1) := by decide +kernel
theorem dX0_addGoing_101 : decode cX0_addGoing 101 = .ok (.getfield 42, 3) := by decide +kernel
theorem dX0_addGoing_104 : decode cX0_addGoing 104 = .ok (.aload_n 1, 1) := by decide +kernel
theorem dX0_addGoing_105 : decode cX0_addGoing 105 = .ok (.iconst 1, 1) := by decide +kernel
theorem dX0_addGoing_106 : decode cX0_addGoing 106 = .ok (.iaload, 1) := by decide +kernel
theorem dX0_addGoing_107 : decode cX0_addGoing 107 = .ok (.iastore, 1) := by decide +kernel
theorem dX0_addGoing_108 : decode cX0_addGoing 108 = .ok (.aload_n 0, 1) := by decide +kernel
theorem dX0_addGoing_109 : decode cX0_addGoing 109 = .ok (.getfield 18, 3) := by decide +kernel
theorem dX0_addGoing_112 : decode cX0_addGoing 112 = .ok (.aload_n 0, 1) := by decide +kernel
theorem dX0_addGoing_113 : decode cX0_addGoing 113 = .ok (.getfield 42, 3) := by decide +kernel
theorem dX0_addGoing_116 : decode cX0_addGoing 116 = .ok (.aload_n 1, 1) := by decide +kernel
theorem dX0_addGoing_117 : decode cX0_addGoing 117 = .ok (.iconst 2, 1) := by decide +kernel
theorem dX0_addGoing_118 : decode cX0_addGoing 118 = .ok (.iaload, 1) := by decide +kernel
theorem dX0_addGoing_119 : decode cX0_addGoing 119 = .ok (.iastore, 1) := by decide +kernel
theorem dX0_addGoing_120 : decode cX0_addGoing 120 = .ok (.aload_n 0, 1) := by decide +kernel
theorem dX0_addGoing_121 : decode cX0_addGoing 121 = .ok (.getfield 21, 3) := by decide +kernel
theorem dX0_addGoing_124 : decode cX0_addGoing 124 = .ok (.aload_n 0, 1) := by decide +kernel
theorem dX0_addGoing_125 : decode cX0_addGoing 125 = .ok (.getfield 42, 3) := by decide +kernel
theorem dX0_addGoing_128 : decode cX0_addGoing 128 = .ok (.aload_n 1, 1) := by decide +kernel
theorem dX0_addGoing_129 : decode cX0_addGoing 129 = .ok (.iconst 3, 1) := by decide +kernel
theorem dX0_addGoing_130 : decode cX0_addGoing 130 = .ok (.iaload, 1) := by decide +kernel
theorem dX0_addGoing_131 : decode cX0_addGoing 131 = .ok (.iastore, 1) := by decide +kernel
theorem dX0_addGoing_132 : decode cX0_addGoing 132 = .ok (.aload_n 0, 1) := by decide +kernel
theorem dX0_addGoing_133 : decode cX0_addGoing 133 = .ok (.getfield 24, 3) := by decide +kernel
theorem dX0_addGoing_136 : decode cX0_addGoing 136 = .ok (.aload_n 0, 1) := by decide +kernel
theorem dX0_addGoing_137 : decode cX0_addGoing 137 = .ok (.getfield 42, 3) := by decide +kernel
theorem dX0_addGoing_140 : decode cX0_addGoing 140 = .ok (.aload_n 1, 1) := by decide +kernel
theorem dX0_addGoing_141 : decode cX0_addGoing 141 = .ok (.iconst 4, 1) := by decide +kernel
theorem dX0_addGoing_142 : decode cX0_addGoing 142 = .ok (.iaload, 1) := by decide +kernel
theorem dX0_addGoing_143 : decode cX0_addGoing 143 = .ok (.iastore, 1) := by decide +kernel
theorem dX0_addGoing_144 : decode cX0_addGoing 144 = .ok (.aload_n 0, 1) := by decide +kernel
theorem dX0_addGoing_145 : decode cX0_addGoing 145 = .ok (.dup, 1) := by decide +kernel
theorem dX0_addGoing_146 : decode cX0_addGoing 146 = .ok (.getfield 42, 3) := by decide +kernel
theorem dX0_addGoing_149 : decode cX0_addGoing 149 = .ok (.iconst 1, 1) := by decide +kernel
theorem dX0_addGoing_150 : decode cX0_addGoing 150 = .ok (.iadd, 1) := by decide +kernel
theorem dX0_addGoing_151 : decode cX0_addGoing 151 = .ok (.putfield 42, 3) := by decide +kernel
theorem dX0_addGoing_154 : decode cX0_addGoing 154 = .ok (.iconst 1, 1) := by decide +kernel
theorem dX0_addGoing_155 : decode cX0_addGoing 155 = .ok (.ireturn, 1) := by decide +kernel
theorem dX0_addFollowing_0 : decode cX0_addFollowing 0 = .ok (.aload_n 0, 1) := by decide +kernel
theorem dX0_addFollowing_1 : decode cX0_addFollowing 1 = .ok (.getfield 46, 3) := by decide +kernel
theorem dX0_addFollowing_4 : decode cX0_addFollowing 4 = .ok (.bipush 6, 2) := by decide +kernel
theorem dX0_addFollowing_6 : decode cX0_addFollowing 6 = .ok (.if_icmp .ge 9, 3) := by decide +kernel
theorem dX0_addFollowing_9 : decode cX0_addFollowing 9 = .ok (.aload_n 1, 1) := by decide +kernel
theorem dX0_addFollowing_10 : decode cX0_addFollowing 10 = .ok (.arraylength, 1) := by decide +kernel
theorem dX0_addFollowing_11 : decode cX0_addFollowing 11 = .ok (.iconst 3, 1) := by decide +kernel
theorem dX0_addFollowing_12 : decode cX0_addFollowing 12 = .ok (.if_icmp .ge 5, 3) := by decide +kernel
theorem dX0_addFollowing_15 : decode cX0_addFollowing 15 = .ok (.iconst 0, 1) := by decide +kernel
theorem dX0_addFollowing_16 : decode cX0_addFollowing 16 = .ok (.ireturn, 1) := by decide +kernel
theorem dX0_addFollowing_17 : decode cX0_addFollowing 17 = .ok (.aload_n 1, 1) := by decide +kernel
theorem dX0_addFollowing_18 : decode cX0_addFollowing 18 = .ok (.iconst 0, 1) := by decide +kernel
theorem dX0_addFollowing_19 : decode cX0_addFollowing 19 = .ok (.iaload, 1) := by decide +kernel
theorem dX0_addFollowing_20 : decode cX0_addFollowing 20 = .ok (.aload_n 0, 1) := by decide +kernel
theorem dX0_addFollowing_21 : decode cX0_addFollowing 21 = .ok (.getfield 42, 3) := by decide +kernel
theorem dX0_addFollowing_24 : decode cX0_addFollowing 24 = .ok (.if_icmp .ge 30, 3) := by decide +kernel
theorem dX0_addFollowing_27 : decode cX0_addFollowing 27 = .ok (.aload_n 1, 1) := by decide +kernel
theorem dX0_addFollowing_28 : decode cX0_addFollowing 28 = .ok (.iconst 1, 1) := by decide +kernel
theorem dX0_addFollowing_29 : decode cX0_addFollowing 29 = .ok (.iaload, 1) := by decide +kernel
theorem dX0_addFollowing_30 : decode cX0_addFollowing 30 = .ok (.aload_n 0, 1) := by decide +kernel
theorem dX0_addFollowing_31 : decode cX0_addFollowing 31 = .ok (.getfield 42, 3) := by decide +kernel
theorem dX0_addFollowing_34 : decode cX0_addFollowing 34 = .ok (.if_icmp .ge 20, 3) := by decide +kernel
theorem dX0_addFollowing_37 : decode cX0_addFollowing 37 = .ok (.aload_n 1, 1) := by decide +kernel
theorem dX0_addFollowing_38 : decode cX0_addFollowing 38 = .ok (.iconst 0, 1) := by decide +kernel
theorem dX0_addFollowing_39 : decode cX0_addFollowing 39 = .ok (.iaload, 1) := by decide +kernel
theorem dX0_addFollowing_40 : decode cX0_addFollowing 40 = .ok (.aload_n 1, 1) := by decide +kernel
theorem dX0_addFollowing_41 : decode cX0_addFollowing 41 = .ok (.iconst 1, 1) := by decide +kernel
theorem dX0_addFollowing_42 : decode cX0_addFollowing 42 = .ok (.iaload, 1) := by decide +kernel
theorem dX0_addFollowing_43 : decode cX0_addFollowing 43 = .ok (.if_icmp .eq 11, 3) := by decide +kernel
theorem dX0_addFollowing_46 : decode cX0_addFollowing 46 = .ok (.aload_n 1, 1) := by decide +kernel
theorem dX0_addFollowing_47 : decode cX0_addFollowing 47 = .ok (.iconst 2, 1) := by decide +kernel
theorem dX0_addFollowing_48 : decode cX0_addFollowing 48 = .ok (.iaload, 1) := by decide +kernel
theorem dX0_addFollowing_49 : decode cX0_addFollowing 49 = .ok (.bipush 20, 2) := by decide +kernel
theorem dX0_addFollowing_51 : decode cX0_addFollowing 51 = .ok (.if_icmp .le 5, 3) := by decide +kernel
theorem dX0_addFollowing_54 : decode cX0_addFollowing 54 = .ok (.iconst 0, 1) := by decide +kernel
theorem dX0_addFollowing_55 : decode cX0_addFollowing 55 = .ok (.ireturn, 1) := by decide +kernel
theorem dX0_addFollowing_56 : decode cX0_addFollowing 56 = .ok (.aload_n 0, 1) := by decide +kernel
theorem dX0_addFollowing_57 : decode cX0_addFollowing 57 = .ok (.getfield 27, 3) := by decide +kernel
theorem dX0_addFollowing_60 : decode cX0_addFollowing 60 = .ok (.aload_n 0, 1) := by decide +kernel
theorem dX0_addFollowing_61 : decode cX0_addFollowing 61 = .ok (.getfield 46, 3) := by decide +kernel
theorem dX0_addFollowing_64 : decode cX0_addFollowing 64 = .ok (.aload_n 1, 1) := by decide +kernel
theorem dX0_addFollowing_65 : decode cX0_addFollowing 65 = .ok (.iconst 0, 1) := by decide +kernel
theorem dX0_addFollowing_66 : decode cX0_addFollowing 66 = .ok (.iaload, 1) := by decide +kernel
theorem dX0_addFollowing_67 : decode cX0_addFollowing 67 = .ok (.iastore, 1) := by decide +kernel
theorem dX0_addFollowing_68 : decode cX0_addFollowing 68 = .ok (.aload_n 0, 1) := by decide +kernel
theorem dX0_addFollowing_69 : decode cX0_addFollowing 69 = .ok (.getfield 30, 3) := by decide +kernel
theorem dX0_addFollowing_72 : decode cX0_addFollowing 72 = .ok (.aload_n 0, 1) := by decide +kernel
theorem dX0_addFollowing_73 : decode cX0_addFollowing 73 = .ok (.getfield 46, 3) := by decide +kernel
theorem dX0_addFollowing_76 : decode cX0_addFollowing 76 = .ok (.aload_n 1, 1) := by decide +kernel
theorem dX0_addFollowing_77 : decode cX0_addFollowing 77 = .ok (.iconst 1, 1) := by decide +kernel
end
section
theorem dX0_addFollowing_78 : decode cX0_addFollowing 78 = .ok (.iaload, 1) := by decide +kernel
theorem dX0_addFollowing_79 : decode cX0_addFollowing 79 = .ok (.iastore, 1) := by decide +kernel
theorem dX0_addFollowing_80 : decode cX0_addFollowing 80 = .ok (.aload_n 0, 1) := by decide +kernel
theorem dX0_addFollowing_81 : decode cX0_addFollowing 81 = .ok (.getfield 33, 3) := by decide +kernel
theorem dX0_addFollowing_84 : decode cX0_addFollowing 84 = .ok (.aload_n 0, 1) := by decide +kernel
theorem dX0_addFollowing_85 : decode cX0_addFollowing 85 = .ok (.getfield 46, 3) := by decide +kernel
theorem dX0_addFollowing_88 : decode cX0_addFollowing 88 = .ok (.aload_n 1, 1) := by decide +kernel
theorem dX0_addFollowing_89 : decode cX0_addFollowing 89 = .ok (.iconst 2, 1) := by decide +kernel
theorem dX0_addFollowing_90 : decode cX0_addFollowing 90 = .ok (.iaload, 1) := by decide +kernel
theorem dX0_addFollowing_91 : decode cX0_addFollowing 91 = .ok (.iastore, 1) := by decide +kernel
theorem dX0_addFollowing_92 : decode cX0_addFollowing 92 = .ok (.aload_n 0, 1) := by decide +kernel
theorem dX0_addFollowing_93 : decode cX0_addFollowing 93 = .ok (.dup, 1) := by decide +kernel
theorem dX0_addFollowing_94 : decode cX0_addFollowing 94 = .ok (.getfield 46, 3) := by decide +kernel
theorem dX0_addFollowing_97 : decode cX0_addFollowing 97 = .ok (.iconst 1, 1) := by decide +kernel
theorem dX0_addFollowing_98 : decode cX0_addFollowing 98 = .ok (.iadd, 1) := by decide +kernel
theorem dX0_addFollowing_99 : decode cX0_addFollowing 99 = .ok (.putfield 46, 3) := by decide +kernel
theorem dX0_addFollowing_102 : decode cX0_addFollowing 102 = .ok (.iconst 1, 1) := by decide +kernel
theorem dX0_addFollowing_103 : decode cX0_addFollowing 103 = .ok (.ireturn, 1) := by decide +kernel
theorem dX0_addLady_0 : decode cX0_addLady 0 = .ok (.aload_n 0, 1) := by decide +kernel
theorem dX0_addLady_1 : decode cX0_addLady 1 = .ok (.getfield 49, 3) := by decide +kernel
theorem dX0_addLady_4 : decode cX0_addLady 4 = .ok (.iconst 4, 1) := by decide +kernel
theorem dX0_addLady_5 : decode cX0_addLady 5 = .ok (.if_icmp .ge 11, 3) := by decide +kernel
theorem dX0_addLady_8 : decode cX0_addLady 8 = .ok (.aload_n 1, 1) := by decide +kernel
theorem dX0_addLady_9 : decode cX0_addLady 9 = .ok (.iconst 0, 1) := by decide +kernel
theorem dX0_addLady_10 : decode cX0_addLady 10 = .ok (.iaload, 1) := by decide +kernel
theorem dX0_addLady_11 : decode cX0_addLady 11 = .ok (.bipush 9, 2) := by decide +kernel
theorem dX0_addLady_13 : decode cX0_addLady 13 = .ok (.if_icmp .le 5, 3) := by decide +kernel
theorem dX0_addLady_16 : decode cX0_addLady 16 = .ok (.iconst 0, 1) := by decide +kernel
theorem dX0_addLady_17 : decode cX0_addLady 17 = .ok (.ireturn, 1) := by decide +kernel
theorem dX0_addLady_18 : decode cX0_addLady 18 = .ok (.iconst 0, 1) := by decide +kernel
theorem dX0_addLady_19 : decode cX0_addLady 19 = .ok (.istore_n 3, 1) := by decide +kernel
theorem dX0_addLady_20 : decode cX0_addLady 20 = .ok (.iconst 1, 1) := by decide +kernel
theorem dX0_addLady_21 : decode cX0_addLady 21 = .ok (.istore 4, 2) := by decide +kernel
theorem dX0_addLady_23 : decode cX0_addLady 23 = .ok (.iload 4, 2) := by decide +kernel
theorem dX0_addLady_25 : decode cX0_addLady 25 = .ok (.iload_n 2, 1) := by decide +kernel
theorem dX0_addLady_26 : decode cX0_addLady 26 = .ok (.if_icmp .ge 47, 3) := by decide +kernel
theorem dX0_addLady_29 : decode cX0_addLady 29 = .ok (.iload 4, 2) := by decide +kernel
theorem dX0_addLady_31 : decode cX0_addLady 31 = .ok (.aload_n 1, 1) := by decide +kernel
theorem dX0_addLady_32 : decode cX0_addLady 32 = .ok (.arraylength, 1) := by decide +kernel
theorem dX0_addLady_33 : decode cX0_addLady 33 = .ok (.if_icmp .ge 40, 3) := by decide +kernel
theorem dX0_addLady_36 : decode cX0_addLady 36 = .ok (.aload_n 1, 1) := by decide +kernel
theorem dX0_addLady_37 : decode cX0_addLady 37 = .ok (.iload 4, 2) := by decide +kernel
theorem dX0_addLady_39 : decode cX0_addLady 39 = .ok (.iaload, 1) := by decide +kernel
theorem dX0_addLady_40 : decode cX0_addLady 40 = .ok (.iconst 4, 1) := by decide +kernel
theorem dX0_addLady_41 : decode cX0_addLady 41 = .ok (.if_icmp .ge 15, 3) := by decide +kernel
theorem dX0_addLady_44 : decode cX0_addLady 44 = .ok (.iload_n 3, 1) := by decide +kernel
theorem dX0_addLady_45 : decode cX0_addLady 45 = .ok (.aload_n 1, 1) := by decide +kernel
theorem dX0_addLady_46 : decode cX0_addLady 46 = .ok (.iload 4, 2) := by decide +kernel
theorem dX0_addLady_48 : decode cX0_addLady 48 = .ok (.iaload, 1) := by decide +kernel
theorem dX0_addLady_49 : decode cX0_addLady 49 = .ok (.ishr, 1) := by decide +kernel
theorem dX0_addLady_50 : decode cX0_addLady 50 = .ok (.iconst 1, 1) := by decide +kernel
theorem dX0_addLady_51 : decode cX0_addLady 51 = .ok (.iand, 1) := by decide +kernel
theorem dX0_addLady_52 : decode cX0_addLady 52 = .ok (.iconst 1, 1) := by decide +kernel
theorem dX0_addLady_53 : decode cX0_addLady 53 = .ok (.if_icmp .ne 5, 3) := by decide +kernel
theorem dX0_addLady_56 : decode cX0_addLady 56 = .ok (.iconst 0, 1) := by decide +kernel
theorem dX0_addLady_57 : decode cX0_addLady 57 = .ok (.ireturn, 1) := by decide +kernel
theorem dX0_addLady_58 : decode cX0_addLady 58 = .ok (.iload_n 3, 1) := by decide +kernel
theorem dX0_addLady_59 : decode cX0_addLady 59 = .ok (.iconst 1, 1) := by decide +kernel
theorem dX0_addLady_60 : decode cX0_addLady 60 = .ok (.aload_n 1, 1) := by decide +kernel
theorem dX0_addLady_61 : decode cX0_addLady 61 = .ok (.iload 4, 2) := by decide +kernel
theorem dX0_addLady_63 : decode cX0_addLady 63 = .ok (.iaload, 1) := by decide +kernel
theorem dX0_addLady_64 : decode cX0_addLady 64 = .ok (.ishl, 1) := by decide +kernel
theorem dX0_addLady_65 : decode cX0_addLady 65 = .ok (.ior, 1) := by decide +kernel
theorem dX0_addLady_66 : decode cX0_addLady 66 = .ok (.istore_n 3, 1) := by decide +kernel
theorem dX0_addLady_67 : decode cX0_addLady 67 = .ok (.iinc 4 1, 3) := by decide +kernel
theorem dX0_addLady_70 : decode cX0_addLady 70 = .ok (.goto (-47), 3) := by decide +kernel
theorem dX0_addLady_73 : decode cX0_addLady 73 = .ok (.aload_n 0, 1) := by decide +kernel
theorem dX0_addLady_74 : decode cX0_addLady 74 = .ok (.getfield 36, 3) := by decide +kernel
theorem dX0_addLady_77 : decode cX0_addLady 77 = .ok (.aload_n 0, 1) := by decide +kernel
theorem dX0_addLady_78 : decode cX0_addLady 78 = .ok (.getfield 49, 3) := by decide +kernel
theorem dX0_addLady_81 : decode cX0_addLady 81 = .ok (.aload_n 1, 1) := by decide +kernel
theorem dX0_addLady_82 : decode cX0_addLady 82 = .ok (.iconst 0, 1) := by decide +kernel
theorem dX0_addLady_83 : decode cX0_addLady 83 = .ok (.iaload, 1) := by decide +kernel
theorem dX0_addLady_84 : decode cX0_addLady 84 = .ok (.iastore, 1) := by decide +kernel
theorem dX0_addLady_85 : decode cX0_addLady 85 = .ok (.aload_n 0, 1) := by decide +kernel
theorem dX0_addLady_86 : decode cX0_addLady 86 = .ok (.getfield 39, 3) := by decide +kernel
theorem dX0_addLady_89 : decode cX0_addLady 89 = .ok (.aload_n 0, 1) := by decide +kernel
theorem dX0_addLady_90 : decode cX0_addLady 90 = .ok (.getfield 49, 3) := by decide +kernel
theorem dX0_addLady_93 : decode cX0_addLady 93 = .ok (.iload_n 3, 1) := by decide +kernel
theorem dX0_addLady_94 : decode cX0_addLady 94 = .ok (.iastore, 1) := by decide +kernel
theorem dX0_addLady_95 : decode cX0_addLady 95 = .ok (.aload_n 0, 1) := by decide +kernel
theorem dX0_addLady_96 : decode cX0_addLady 96 = .ok (.dup, 1) := by decide +kernel
theorem dX0_addLady_97 : decode cX0_addLady 97 = .ok (.getfield 49, 3) := by decide +kernel
theorem dX0_addLady_100 : decode cX0_addLady 100 = .ok (.iconst 1, 1) := by decide +kernel
theorem dX0_addLady_101 : decode cX0_addLady 101 = .ok (.iadd, 1) := by decide +kernel
theorem dX0_addLady_102 : decode cX0_addLady 102 = .ok (.putfield 49, 3) := by decide +kernel
theorem dX0_addLady_105 : decode cX0_addLady 105 = .ok (.iconst 1, 1) := by decide +kernel
theorem dX0_addLady_106 : decode cX0_addLady 106 = .ok (.ireturn, 1) := by decide +kernel
set_option maxRecDepth 20000 in
theorem ggX1_init_X2_init : GoodIn wsX1_init wsX2_init := goodIn_r _ [13, 14, 2, 3, 15, 16, 17, 18, 19, 22, 23, 24, 25, 26, 27] (by decide +kernel) (by decide +kernel)
set_option maxRecDepth 20000 in
theorem gX1_init_X2_init_n21 : GoodIn wsX1_init (wsX2_init) := ggX1_init_X2_init
theorem dX1_init_0 : decode cX1_init 0 = .ok (.aload_n 0, 1) := by decide +kernel
theorem dX1_init_1 : decode cX1_init 1 = .ok (.invokespecial 1, 3) := by decide +kernel
theorem dX1_init_4 : decode cX1_init 4 = .ok (.aload_n 0, 1) := by decide +kernel
theorem dX1_init_5 : decode cX1_init 5 = .ok (.iload_n 1, 1) := by decide +kernel
theorem dX1_init_6 : decode cX1_init 6 = .ok (.iconst 1, 1) := by decide +kernel
theorem dX1_init_7 : decode cX1_init 7 = .ok (.invokestatic 7, 3) := by decide +kernel
theorem dX1_init_10 : decode cX1_init 10 = .ok (.anewarray 13, 3) := by decide +kernel
theorem dX1_init_13 : decode cX1_init 13 = .ok (.putfield 15, 3) := by decide +kernel
theorem dX1_init_16 : decode cX1_init 16 = .ok (.iconst 0, 1) := by decide +kernel
theorem dX1_init_17 : decode cX1_init 17 = .ok (.istore_n 2, 1) := by decide +kernel
theorem dX1_init_18 : decode cX1_init 18 = .ok (.iload_n 2, 1) := by decide +kernel
theorem dX1_init_19 : decode cX1_init 19 = .ok (.aload_n 0, 1) := by decide +kernel
theorem dX1_init_20 : decode cX1_init 20 = .ok (.getfield 15, 3) := by decide +kernel
theorem dX1_init_23 : decode cX1_init 23 = .ok (.arraylength, 1) := by decide +kernel
theorem dX1_init_24 : decode cX1_init 24 = .ok (.if_icmp .ge 22, 3) := by decide +kernel
theorem dX1_init_27 : decode cX1_init 27 = .ok (.aload_n 0, 1) := by decide +kernel
theorem dX1_init_28 : decode cX1_init 28 = .ok (.getfield 15, 3) := by decide +kernel
theorem dX1_init_31 : decode cX1_init 31 = .ok (.iload_n 2, 1) := by decide +kernel
theorem dX1_init_32 : decode cX1_init 32 = .ok (.new 13, 3) := by decide +kernel
theorem dX1_init_35 : decode cX1_init 35 = .ok (.dup, 1) := by decide +kernel
theorem dX1_init_36 : decode cX1_init 36 = .ok (.invokespecial 21, 3) := by decide +kernel
theorem dX1_init_39 : decode cX1_init 39 = .ok (.aastore, 1) := by decide +kernel
theorem dX1_init_40 : decode cX1_init 40 = .ok (.iinc 2 1, 3) := by decide +kernel
theorem dX1_init_43 : decode cX1_init 43 = .ok (.goto (-25), 3) := by decide +kernel
theorem dX1_init_46 : decode cX1_init 46 = .ok (.return_, 1) := by decide +kernel
set_option maxRecDepth 20000 in
theorem ggX1_put_X1_dropOldest : GoodIn wsX1_put wsX1_dropOldest := goodIn_r _ [7, 2, 1, 23, 24] (by decide +kernel) (by decide +kernel)
set_option maxRecDepth 20000 in
theorem gX1_put_X1_dropOldest : GoodIn wsX1_put (wsV RX1 26 RX1 yX1_dropOldest wsX1_dropOldest) := goodIn_app (goodIn_of _ (by decide +kernel)) ggX1_put_X1_dropOldest
set_option maxRecDepth 20000 in
theorem ggX1_put_X2_copyOf : GoodIn wsX1_put wsX2_copyOf := goodIn_r _ [12, 13, 14, 15, 16, 17, 18, 19, 20, 21, 22, 25, 26, 27, 28, 29, 30] (by decide +kernel) (by decide +kernel)
set_option maxRecDepth 20000 in
theorem gX1_put_X2_copyOf : GoodIn wsX1_put (wsV RX1 29 RX2 yX2_copyOf wsX2_copyOf) := goodIn_app (goodIn_of _ (by decide +kernel)) ggX1_put_X2_copyOf
theorem dX1_put_0 : decode cX1_put 0 = .ok (.aload_n 0, 1) := by decide +kernel
theorem dX1_put_1 : decode cX1_put 1 = .ok (.getfield 22, 3) := by decide +kernel
theorem dX1_put_4 : decode cX1_put 4 = .ok (.aload_n 0, 1) := by decide +kernel
theorem dX1_put_5 : decode cX1_put 5 = .ok (.getfield 15, 3) := by decide +kernel
theorem dX1_put_8 : decode cX1_put 8 = .ok (.arraylength, 1) := by decide +kernel
theorem dX1_put_9 : decode cX1_put 9 = .ok (.if_icmp .lt 7, 3) := by decide +kernel
theorem dX1_put_12 : decode cX1_put 12 = .ok (.aload_n 0, 1) := by decide +kernel
theorem dX1_put_13 : decode cX1_put 13 = .ok (.invokevirtual 26, 3) := by decide +kernel
theorem dX1_put_16 : decode cX1_put 16 = .ok (.aload_n 0, 1) := by decide +kernel
theorem dX1_put_17 : decode cX1_put 17 = .ok (.getfield 15, 3) := by decide +kernel
theorem dX1_put_20 : decode cX1_put 20 = .ok (.aload_n 0, 1) := by decide +kernel
theorem dX1_put_21 : decode cX1_put 21 = .ok (.getfield 22, 3) := by decide +kernel
theorem dX1_put_24 : decode cX1_put 24 = .ok (.aaload, 1) := by decide +kernel
theorem dX1_put_25 : decode cX1_put 25 = .ok (.aload_n 1, 1) := by decide +kernel
theorem dX1_put_26 : decode cX1_put 26 = .ok (.invokevirtual 29, 3) := by decide +kernel
theorem dX1_put_29 : decode cX1_put 29 = .ok (.aload_n 0, 1) := by decide +kernel
theorem dX1_put_30 : decode cX1_put 30 = .ok (.dup, 1) := by decide +kernel
theorem dX1_put_31 : decode cX1_put 31 = .ok (.getfield 22, 3) := by decide +kernel
theorem dX1_put_34 : decode cX1_put 34 = .ok (.iconst 1, 1) := by decide +kernel
theorem dX1_put_35 : decode cX1_put 35 = .ok (.iadd, 1) := by decide +kernel
theorem dX1_put_36 : decode cX1_put 36 = .ok (.putfield 22, 3) := by decide +kernel
theorem dX1_put_39 : decode cX1_put 39 = .ok (.return_, 1) := by decide +kernel
theorem dX1_dropOldest_0 : decode cX1_dropOldest 0 = .ok (.aload_n 0, 1) := by decide +kernel
theorem dX1_dropOldest_1 : decode cX1_dropOldest 1 = .ok (.getfield 15, 3) := by decide +kernel
theorem dX1_dropOldest_4 : decode cX1_dropOldest 4 = .ok (.iconst 0, 1) := by decide +kernel
theorem dX1_dropOldest_5 : decode cX1_dropOldest 5 = .ok (.aaload, 1) := by decide +kernel
theorem dX1_dropOldest_6 : decode cX1_dropOldest 6 = .ok (.astore_n 1, 1) := by decide +kernel
theorem dX1_dropOldest_7 : decode cX1_dropOldest 7 = .ok (.iconst 1, 1) := by decide +kernel
theorem dX1_dropOldest_8 : decode cX1_dropOldest 8 = .ok (.istore_n 2, 1) := by decide +kernel
theorem dX1_dropOldest_9 : decode cX1_dropOldest 9 = .ok (.iload_n 2, 1) := by decide +kernel
theorem dX1_dropOldest_10 : decode cX1_dropOldest 10 = .ok (.aload_n 0, 1) := by decide +kernel
theorem dX1_dropOldest_11 : decode cX1_dropOldest 11 = .ok (.getfield 15, 3) := by decide +kernel
theorem dX1_dropOldest_14 : decode cX1_dropOldest 14 = .ok (.arraylength, 1) := by decide +kernel
theorem dX1_dropOldest_15 : decode cX1_dropOldest 15 = .ok (.if_icmp .ge 23, 3) := by decide +kernel
theorem dX1_dropOldest_18 : decode cX1_dropOldest 18 = .ok (.aload_n 0, 1) := by decide +kernel
theorem dX1_dropOldest_19 : decode cX1_dropOldest 19 = .ok (.getfield 15, 3) := by decide +kernel
theorem dX1_dropOldest_22 : decode cX1_dropOldest 22 = .ok (.iload_n 2, 1) := by decide +kernel
theorem dX1_dropOldest_23 : decode cX1_dropOldest 23 = .ok (.iconst 1, 1) := by decide +kernel
theorem dX1_dropOldest_24 : decode cX1_dropOldest 24 = .ok (.isub, 1) := by decide +kernel
theorem dX1_dropOldest_25 : decode cX1_dropOldest 25 = .ok (.aload_n 0, 1) := by decide +kernel
theorem dX1_dropOldest_26 : decode cX1_dropOldest 26 = .ok (.getfield 15, 3) := by decide +kernel
theorem dX1_dropOldest_29 : decode cX1_dropOldest 29 = .ok (.iload_n 2, 1) := by decide +kernel
theorem dX1_dropOldest_30 : decode cX1_dropOldest 30 = .ok (.aaload, 1) := by decide +kernel
theorem dX1_dropOldest_31 : decode cX1_dropOldest 31 = .ok (.aastore, 1) := by decide +kernel
theorem dX1_dropOldest_32 : decode cX1_dropOldest 32 = .ok (.iinc 2 1, 3) := by decide +kernel
theorem dX1_dropOldest_35 : decode cX1_dropOldest 35 = .ok (.goto (-26), 3) := by decide +kernel
theorem dX1_dropOldest_38 : decode cX1_dropOldest 38 = .ok (.aload_n 0, 1) := by decide +kernel
theorem dX1_dropOldest_39 : decode cX1_dropOldest 39 = .ok (.getfield 15, 3) := by decide +kernel
theorem dX1_dropOldest_42 : decode cX1_dropOldest 42 = .ok (.aload_n 0, 1) := by decide +kernel
theorem dX1_dropOldest_43 : decode cX1_dropOldest 43 = .ok (.getfield 15, 3) := by decide +kernel
theorem dX1_dropOldest_46 : decode cX1_dropOldest 46 = .ok (.arraylength, 1) := by decide +kernel
theorem dX1_dropOldest_47 : decode cX1_dropOldest 47 = .ok (.iconst 1, 1) := by decide +kernel
theorem dX1_dropOldest_48 : decode cX1_dropOldest 48 = .ok (.isub, 1) := by decide +kernel
theorem dX1_dropOldest_49 : decode cX1_dropOldest 49 = .ok (.aload_n 1, 1) := by decide +kernel
theorem dX1_dropOldest_50 : decode cX1_dropOldest 50 = .ok (.aastore, 1) := by decide +kernel
theorem dX1_dropOldest_51 : decode cX1_dropOldest 51 = .ok (.aload_n 0, 1) := by decide +kernel
theorem dX1_dropOldest_52 : decode cX1_dropOldest 52 = .ok (.aload_n 0, 1) := by decide +kernel
theorem dX1_dropOldest_53 : decode cX1_dropOldest 53 = .ok (.getfield 15, 3) := by decide +kernel
theorem dX1_dropOldest_56 : decode cX1_dropOldest 56 = .ok (.arraylength, 1) := by decide +kernel
theorem dX1_dropOldest_57 : decode cX1_dropOldest 57 = .ok (.iconst 1, 1) := by decide +kernel
theorem dX1_dropOldest_58 : decode cX1_dropOldest 58 = .ok (.isub, 1) := by decide +kernel
theorem dX1_dropOldest_59 : decode cX1_dropOldest 59 = .ok (.putfield 22, 3) := by decide +kernel
theorem dX1_dropOldest_62 : decode cX1_dropOldest 62 = .ok (.return_, 1) := by decide +kernel
set_option maxRecDepth 20000 in
theorem ggX1_takeInto_X2_copyOf : GoodIn wsX1_takeInto wsX2_copyOf := goodIn_r _ [7, 8, 9, 10, 11, 12, 13, 14, 15, 16, 17, 20, 21, 22, 23, 24, 25] (by decide +kernel) (by decide +kernel)
set_option maxRecDepth 20000 in
theorem gX1_takeInto_X2_copyOf : GoodIn wsX1_takeInto (wsV RX1 29 RX2 yX2_copyOf wsX2_copyOf) := goodIn_app (goodIn_of _ (by decide +kernel)) ggX1_takeInto_X2_copyOf
theorem dX1_takeInto_0 : decode cX1_takeInto 0 = .ok (.aload_n 0, 1) := by decide +kernel
theorem dX1_takeInto_1 : decode cX1_takeInto 1 = .ok (.getfield 22, 3) := by decide +kernel
theorem dX1_takeInto_4 : decode cX1_takeInto 4 = .ok (.iconst 1, 1) := by decide +kernel
theorem dX1_takeInto_5 : decode cX1_takeInto 5 = .ok (.if_icmp .lt 15, 3) := by decide +kernel
theorem dX1_takeInto_8 : decode cX1_takeInto 8 = .ok (.aload_n 0, 1) := by decide +kernel
theorem dX1_takeInto_9 : decode cX1_takeInto 9 = .ok (.getfield 22, 3) := by decide +kernel
theorem dX1_takeInto_12 : decode cX1_takeInto 12 = .ok (.aload_n 0, 1) := by decide +kernel
theorem dX1_takeInto_13 : decode cX1_takeInto 13 = .ok (.getfield 15, 3) := by decide +kernel
theorem dX1_takeInto_16 : decode cX1_takeInto 16 = .ok (.arraylength, 1) := by decide +kernel
theorem dX1_takeInto_17 : decode cX1_takeInto 17 = .ok (.if_icmp .le 5, 3) := by decide +kernel
theorem dX1_takeInto_20 : decode cX1_takeInto 20 = .ok (.iconst 0, 1) := by decide +kernel
theorem dX1_takeInto_21 : decode cX1_takeInto 21 = .ok (.ireturn, 1) := by decide +kernel
theorem dX1_takeInto_22 : decode cX1_takeInto 22 = .ok (.aload_n 0, 1) := by decide +kernel
theorem dX1_takeInto_23 : decode cX1_takeInto 23 = .ok (.dup, 1) := by decide +kernel
theorem dX1_takeInto_24 : decode cX1_takeInto 24 = .ok (.getfield 22, 3) := by decide +kernel
theorem dX1_takeInto_27 : decode cX1_takeInto 27 = .ok (.iconst 1, 1) := by decide +kernel
theorem dX1_takeInto_28 : decode cX1_takeInto 28 = .ok (.isub, 1) := by decide +kernel
theorem dX1_takeInto_29 : decode cX1_takeInto 29 = .ok (.putfield 22, 3) := by decide +kernel
theorem dX1_takeInto_32 : decode cX1_takeInto 32 = .ok (.aload_n 1, 1) := by decide +kernel
theorem dX1_takeInto_33 : decode cX1_takeInto 33 = .ok (.aload_n 0, 1) := by decide +kernel
theorem dX1_takeInto_34 : decode cX1_takeInto 34 = .ok (.getfield 15, 3) := by decide +kernel
theorem dX1_takeInto_37 : decode cX1_takeInto 37 = .ok (.aload_n 0, 1) := by decide +kernel
theorem dX1_takeInto_38 : decode cX1_takeInto 38 = .ok (.getfield 22, 3) := by decide +kernel
theorem dX1_takeInto_41 : decode cX1_takeInto 41 = .ok (.aaload, 1) := by decide +kernel
theorem dX1_takeInto_42 : decode cX1_takeInto 42 = .ok (.invokevirtual 29, 3) := by decide +kernel
theorem dX1_takeInto_45 : decode cX1_takeInto 45 = .ok (.iconst 1, 1) := by decide +kernel
theorem dX1_takeInto_46 : decode cX1_takeInto 46 = .ok (.ireturn, 1) := by decide +kernel
theorem dX2_init_0 : decode cX2_init 0 = .ok (.aload_n 0, 1) := by decide +kernel
theorem dX2_init_1 : decode cX2_init 1 = .ok (.invokespecial 3, 3) := by decide +kernel
theorem dX2_init_4 : decode cX2_init 4 = .ok (.aload_n 0, 1) := by decide +kernel
theorem dX2_init_5 : decode cX2_init 5 = .ok (.bipush 7, 2) := by decide +kernel
theorem dX2_init_7 : decode cX2_init 7 = .ok (.newarray .int, 2) := by decide +kernel
theorem dX2_init_9 : decode cX2_init 9 = .ok (.putfield 9, 3) := by decide +kernel
theorem dX2_init_12 : decode cX2_init 12 = .ok (.aload_n 0, 1) := by decide +kernel
theorem dX2_init_13 : decode cX2_init 13 = .ok (.bipush 7, 2) := by decide +kernel
theorem dX2_init_15 : decode cX2_init 15 = .ok (.newarray .int, 2) := by decide +kernel
theorem dX2_init_17 : decode cX2_init 17 = .ok (.putfield 15, 3) := by decide +kernel
theorem dX2_init_20 : decode cX2_init 20 = .ok (.aload_n 0, 1) := by decide +kernel
theorem dX2_init_21 : decode cX2_init 21 = .ok (.bipush 7, 2) := by decide +kernel
theorem dX2_init_23 : decode cX2_init 23 = .ok (.newarray .int, 2) := by decide +kernel
theorem dX2_init_25 : decode cX2_init 25 = .ok (.putfield 18, 3) := by decide +kernel
theorem dX2_init_28 : decode cX2_init 28 = .ok (.aload_n 0, 1) := by decide +kernel
theorem dX2_init_29 : decode cX2_init 29 = .ok (.iconst 4, 1) := by decide +kernel
theorem dX2_init_30 : decode cX2_init 30 = .ok (.newarray .int, 2) := by decide +kernel
theorem dX2_init_32 : decode cX2_init 32 = .ok (.putfield 21, 3) := by decide +kernel
theorem dX2_init_35 : decode cX2_init 35 = .ok (.return_, 1) := by decide +kernel
theorem dX2_start_0 : decode cX2_start 0 = .ok (.aload_n 0, 1) := by decide +kernel
theorem dX2_start_1 : decode cX2_start 1 = .ok (.iconst 0, 1) := by decide +kernel
theorem dX2_start_2 : decode cX2_start 2 = .ok (.putfield 24, 3) := by decide +kernel
theorem dX2_start_5 : decode cX2_start 5 = .ok (.aload_n 0, 1) := by decide +kernel
theorem dX2_start_6 : decode cX2_start 6 = .ok (.iconst 0, 1) := by decide +kernel
theorem dX2_start_7 : decode cX2_start 7 = .ok (.putfield 28, 3) := by decide +kernel
theorem dX2_start_10 : decode cX2_start 10 = .ok (.iconst 0, 1) := by decide +kernel
theorem dX2_start_11 : decode cX2_start 11 = .ok (.istore_n 2, 1) := by decide +kernel
theorem dX2_start_12 : decode cX2_start 12 = .ok (.iload_n 2, 1) := by decide +kernel
theorem dX2_start_13 : decode cX2_start 13 = .ok (.bipush 7, 2) := by decide +kernel
theorem dX2_start_15 : decode cX2_start 15 = .ok (.if_icmp .ge 51, 3) := by decide +kernel
theorem dX2_start_18 : decode cX2_start 18 = .ok (.aload_n 0, 1) := by decide +kernel
theorem dX2_start_19 : decode cX2_start 19 = .ok (.getfield 9, 3) := by decide +kernel
theorem dX2_start_22 : decode cX2_start 22 = .ok (.iload_n 2, 1) := by decide +kernel
theorem dX2_start_23 : decode cX2_start 23 = .ok (.iconst 0, 1) := by decide +kernel
theorem dX2_start_24 : decode cX2_start 24 = .ok (.iastore, 1) := by decide +kernel
theorem dX2_start_25 : decode cX2_start 25 = .ok (.aload_n 0, 1) := by decide +kernel
theorem dX2_start_26 : decode cX2_start 26 = .ok (.getfield 15, 3) := by decide +kernel
theorem dX2_start_29 : decode cX2_start 29 = .ok (.iload_n 2, 1) := by decide +kernel
theorem dX2_start_30 : decode cX2_start 30 = .ok (.aload_n 1, 1) := by decide +kernel
theorem dX2_start_31 : decode cX2_start 31 = .ok (.getfield 31, 3) := by decide +kernel
theorem dX2_start_34 : decode cX2_start 34 = .ok (.iload_n 2, 1) := by decide +kernel
theorem dX2_start_35 : decode cX2_start 35 = .ok (.iaload, 1) := by decide +kernel
theorem dX2_start_36 : decode cX2_start 36 = .ok (.bipush 99, 2) := by decide +kernel
theorem dX2_start_38 : decode cX2_start 38 = .ok (.if_icmp .ne 8, 3) := by decide +kernel
theorem dX2_start_41 : decode cX2_start 41 = .ok (.ldc 36, 2) := by decide +kernel
theorem dX2_start_43 : decode cX2_start 43 = .ok (.goto 9, 3) := by decide +kernel
theorem dX2_start_46 : decode cX2_start 46 = .ok (.aload_n 1, 1) := by decide +kernel
theorem dX2_start_47 : decode cX2_start 47 = .ok (.getfield 31, 3) := by decide +kernel
theorem dX2_start_50 : decode cX2_start 50 = .ok (.iload_n 2, 1) := by decide +kernel
theorem dX2_start_51 : decode cX2_start 51 = .ok (.iaload, 1) := by decide +kernel
theorem dX2_start_52 : decode cX2_start 52 = .ok (.iastore, 1) := by decide +kernel
theorem dX2_start_53 : decode cX2_start 53 = .ok (.aload_n 0, 1) := by decide +kernel
theorem dX2_start_54 : decode cX2_start 54 = .ok (.getfield 18, 3) := by decide +kernel
theorem dX2_start_57 : decode cX2_start 57 = .ok (.iload_n 2, 1) := by decide +kernel
theorem dX2_start_58 : decode cX2_start 58 = .ok (.iconst 0, 1) := by decide +kernel
theorem dX2_start_59 : decode cX2_start 59 = .ok (.iastore, 1) := by decide +kernel
theorem dX2_start_60 : decode cX2_start 60 = .ok (.iinc 2 1, 3) := by decide +kernel
theorem dX2_start_63 : decode cX2_start 63 = .ok (.goto (-51), 3) := by decide +kernel
theorem dX2_start_66 : decode cX2_start 66 = .ok (.aload_n 1, 1) := by decide +kernel
theorem dX2_start_67 : decode cX2_start 67 = .ok (.getfield 37, 3) := by decide +kernel
theorem dX2_start_70 : decode cX2_start 70 = .ok (.iconst 0, 1) := by decide +kernel
theorem dX2_start_71 : decode cX2_start 71 = .ok (.aload_n 0, 1) := by decide +kernel
theorem dX2_start_72 : decode cX2_start 72 = .ok (.getfield 21, 3) := by decide +kernel
theorem dX2_start_75 : decode cX2_start 75 = .ok (.iconst 0, 1) := by decide +kernel
theorem dX2_start_76 : decode cX2_start 76 = .ok (.iconst 4, 1) := by decide +kernel
theorem dX2_start_77 : decode cX2_start 77 = .ok (.invokestatic 38, 3) := by decide +kernel
theorem dX2_start_80 : decode cX2_start 80 = .ok (.return_, 1) := by decide +kernel
theorem dX2_copyOf_0 : decode cX2_copyOf 0 = .ok (.aload_n 0, 1) := by decide +kernel
theorem dX2_copyOf_1 : decode cX2_copyOf 1 = .ok (.aload_n 1, 1) := by decide +kernel
theorem dX2_copyOf_2 : decode cX2_copyOf 2 = .ok (.getfield 24, 3) := by decide +kernel
theorem dX2_copyOf_5 : decode cX2_copyOf 5 = .ok (.putfield 24, 3) := by decide +kernel
theorem dX2_copyOf_8 : decode cX2_copyOf 8 = .ok (.aload_n 0, 1) := by decide +kernel
theorem dX2_copyOf_9 : decode cX2_copyOf 9 = .ok (.aload_n 1, 1) := by decide +kernel
theorem dX2_copyOf_10 : decode cX2_copyOf 10 = .ok (.getfield 28, 3) := by decide +kernel
theorem dX2_copyOf_13 : decode cX2_copyOf 13 = .ok (.putfield 28, 3) := by decide +kernel
theorem dX2_copyOf_16 : decode cX2_copyOf 16 = .ok (.aload_n 1, 1) := by decide +kernel
theorem dX2_copyOf_17 : decode cX2_copyOf 17 = .ok (.getfield 9, 3) := by decide +kernel
theorem dX2_copyOf_20 : decode cX2_copyOf 20 = .ok (.iconst 0, 1) := by decide +kernel
theorem dX2_copyOf_21 : decode cX2_copyOf 21 = .ok (.aload_n 0, 1) := by decide +kernel
theorem dX2_copyOf_22 : decode cX2_copyOf 22 = .ok (.getfield 9, 3) := by decide +kernel
theorem dX2_copyOf_25 : decode cX2_copyOf 25 = .ok (.iconst 0, 1) := by decide +kernel
theorem dX2_copyOf_26 : decode cX2_copyOf 26 = .ok (.bipush 7, 2) := by decide +kernel
theorem dX2_copyOf_28 : decode cX2_copyOf 28 = .ok (.invokestatic 38, 3) := by decide +kernel
theorem dX2_copyOf_31 : decode cX2_copyOf 31 = .ok (.aload_n 1, 1) := by decide +kernel
theorem dX2_copyOf_32 : decode cX2_copyOf 32 = .ok (.getfield 15, 3) := by decide +kernel
theorem dX2_copyOf_35 : decode cX2_copyOf 35 = .ok (.iconst 0, 1) := by decide +kernel
theorem dX2_copyOf_36 : decode cX2_copyOf 36 = .ok (.aload_n 0, 1) := by decide +kernel
theorem dX2_copyOf_37 : decode cX2_copyOf 37 = .ok (.getfield 15, 3) := by decide +kernel
theorem dX2_copyOf_40 : decode cX2_copyOf 40 = .ok (.iconst 0, 1) := by decide +kernel
theorem dX2_copyOf_41 : decode cX2_copyOf 41 = .ok (.bipush 7, 2) := by decide +kernel
theorem dX2_copyOf_43 : decode cX2_copyOf 43 = .ok (.invokestatic 38, 3) := by decide +kernel
theorem dX2_copyOf_46 : decode cX2_copyOf 46 = .ok (.aload_n 1, 1) := by decide +kernel
theorem dX2_copyOf_47 : decode cX2_copyOf 47 = .ok (.getfield 18, 3) := by decide +kernel
theorem dX2_copyOf_50 : decode cX2_copyOf 50 = .ok (.iconst 0, 1) := by decide +kernel
theorem dX2_copyOf_51 : decode cX2_copyOf 51 = .ok (.aload_n 0, 1) := by decide +kernel
theorem dX2_copyOf_52 : decode cX2_copyOf 52 = .ok (.getfield 18, 3) := by decide +kernel
theorem dX2_copyOf_55 : decode cX2_copyOf 55 = .ok (.iconst 0, 1) := by decide +kernel
theorem dX2_copyOf_56 : decode cX2_copyOf 56 = .ok (.bipush 7, 2) := by decide +kernel
theorem dX2_copyOf_58 : decode cX2_copyOf 58 = .ok (.invokestatic 38, 3) := by decide +kernel
theorem dX2_copyOf_61 : decode cX2_copyOf 61 = .ok (.aload_n 1, 1) := by decide +kernel
theorem dX2_copyOf_62 : decode cX2_copyOf 62 = .ok (.getfield 21, 3) := by decide +kernel
theorem dX2_copyOf_65 : decode cX2_copyOf 65 = .ok (.iconst 0, 1) := by decide +kernel
theorem dX2_copyOf_66 : decode cX2_copyOf 66 = .ok (.aload_n 0, 1) := by decide +kernel
theorem dX2_copyOf_67 : decode cX2_copyOf 67 = .ok (.getfield 21, 3) := by decide +kernel
theorem dX2_copyOf_70 : decode cX2_copyOf 70 = .ok (.iconst 0, 1) := by decide +kernel
theorem dX2_copyOf_71 : decode cX2_copyOf 71 = .ok (.iconst 4, 1) := by decide +kernel
theorem dX2_copyOf_72 : decode cX2_copyOf 72 = .ok (.invokestatic 38, 3) := by decide +kernel
theorem dX2_copyOf_75 : decode cX2_copyOf 75 = .ok (.return_, 1) := by decide +kernel
set_option maxRecDepth 20000 in
theorem ggX2_goBy_X2_beginDue : GoodIn wsX2_goBy wsX2_beginDue := goodIn_r _ [6, 7, 8, 9, 10, 11, 53, 54, 55, 56, 57, 58, 59, 60, 61, 62, 63, 64, 65, 47, 48, 49, 50, 51, 52] (by decide +kernel) (by decide +kernel)
set_option maxRecDepth 20000 in
theorem gX2_goBy_X2_beginDue : GoodIn wsX2_goBy (wsV RX2 44 RX2 yX2_beginDue wsX2_beginDue) := goodIn_app (goodIn_of _ (by decide +kernel)) ggX2_goBy_X2_beginDue
set_option maxRecDepth 20000 in
theorem ggX2_goBy_X2_worthOfAll : GoodIn wsX2_goBy wsX2_worthOfAll := goodIn_r _ [15, 7, 8, 16, 17, 18, 5, 19, 20, 21, 22, 10, 11, 23, 24, 25, 26, 27, 28, 29, 30, 31, 32, 53, 54, 55, 56, 57, 58, 59, 60, 61, 62, 63, 64, 65, 47, 48, 49, 50, 51, 52] (by decide +kernel) (by decide +kernel)
set_option maxRecDepth 20000 in
theorem gX2_goBy_X2_worthOfAll : GoodIn wsX2_goBy (wsV RX2 48 RX2 yX2_worthOfAll wsX2_worthOfAll) := goodIn_app (goodIn_of _ (by decide +kernel)) ggX2_goBy_X2_worthOfAll
set_option maxRecDepth 20000 in
theorem ggX2_goBy_X2_endMinute : GoodIn wsX2_goBy wsX2_endMinute := goodIn_r _ [36, 10, 7, 8, 11, 37, 38, 39, 40, 5, 41, 42, 43, 44, 9, 45, 46, 27, 28, 29, 47, 48, 49, 50, 51, 52, 53, 54, 55, 56, 57, 58, 59, 60, 61, 62, 63, 64, 65] (by decide +kernel) (by decide +kernel)
set_option maxRecDepth 20000 in
theorem gX2_goBy_X2_endMinute : GoodIn wsX2_goBy (wsV RX2 52 RX2 yX2_endMinute wsX2_endMinute) := goodIn_app (goodIn_of _ (by decide +kernel)) ggX2_goBy_X2_endMinute
theorem dX2_goBy_0 : decode cX2_goBy 0 = .ok (.iconst 0, 1) := by decide +kernel
theorem dX2_goBy_1 : decode cX2_goBy 1 = .ok (.istore_n 3, 1) := by decide +kernel
theorem dX2_goBy_2 : decode cX2_goBy 2 = .ok (.iload_n 3, 1) := by decide +kernel
theorem dX2_goBy_3 : decode cX2_goBy 3 = .ok (.iload_n 2, 1) := by decide +kernel
theorem dX2_goBy_4 : decode cX2_goBy 4 = .ok (.if_icmp .ge 33, 3) := by decide +kernel
theorem dX2_goBy_7 : decode cX2_goBy 7 = .ok (.aload_n 0, 1) := by decide +kernel
theorem dX2_goBy_8 : decode cX2_goBy 8 = .ok (.aload_n 1, 1) := by decide +kernel
theorem dX2_goBy_9 : decode cX2_goBy 9 = .ok (.invokevirtual 44, 3) := by decide +kernel
theorem dX2_goBy_12 : decode cX2_goBy 12 = .ok (.aload_n 0, 1) := by decide +kernel
theorem dX2_goBy_13 : decode cX2_goBy 13 = .ok (.dup, 1) := by decide +kernel
theorem dX2_goBy_14 : decode cX2_goBy 14 = .ok (.getfield 28, 3) := by decide +kernel
theorem dX2_goBy_17 : decode cX2_goBy 17 = .ok (.aload_n 0, 1) := by decide +kernel
theorem dX2_goBy_18 : decode cX2_goBy 18 = .ok (.aload_n 1, 1) := by decide +kernel
theorem dX2_goBy_19 : decode cX2_goBy 19 = .ok (.invokevirtual 48, 3) := by decide +kernel
theorem dX2_goBy_22 : decode cX2_goBy 22 = .ok (.iadd, 1) := by decide +kernel
theorem dX2_goBy_23 : decode cX2_goBy 23 = .ok (.putfield 28, 3) := by decide +kernel
theorem dX2_goBy_26 : decode cX2_goBy 26 = .ok (.aload_n 0, 1) := by decide +kernel
theorem dX2_goBy_27 : decode cX2_goBy 27 = .ok (.aload_n 1, 1) := by decide +kernel
theorem dX2_goBy_28 : decode cX2_goBy 28 = .ok (.invokevirtual 52, 3) := by decide +kernel
theorem dX2_goBy_31 : decode cX2_goBy 31 = .ok (.iinc 3 1, 3) := by decide +kernel
theorem dX2_goBy_34 : decode cX2_goBy 34 = .ok (.goto (-32), 3) := by decide +kernel
theorem dX2_goBy_37 : decode cX2_goBy 37 = .ok (.return_, 1) := by decide +kernel
theorem dX2_beginDue_0 : decode cX2_beginDue 0 = .ok (.iconst 0, 1) := by decide +kernel
theorem dX2_beginDue_1 : decode cX2_beginDue 1 = .ok (.istore_n 2, 1) := by decide +kernel
theorem dX2_beginDue_2 : decode cX2_beginDue 2 = .ok (.iload_n 2, 1) := by decide +kernel
theorem dX2_beginDue_3 : decode cX2_beginDue 3 = .ok (.aload_n 1, 1) := by decide +kernel
theorem dX2_beginDue_4 : decode cX2_beginDue 4 = .ok (.getfield 55, 3) := by decide +kernel
theorem dX2_beginDue_7 : decode cX2_beginDue 7 = .ok (.if_icmp .ge 48, 3) := by decide +kernel
theorem dX2_beginDue_10 : decode cX2_beginDue 10 = .ok (.aload_n 0, 1) := by decide +kernel
theorem dX2_beginDue_11 : decode cX2_beginDue 11 = .ok (.getfield 9, 3) := by decide +kernel
theorem dX2_beginDue_14 : decode cX2_beginDue 14 = .ok (.iload_n 2, 1) := by decide +kernel
theorem dX2_beginDue_15 : decode cX2_beginDue 15 = .ok (.iaload, 1) := by decide +kernel
theorem dX2_beginDue_16 : decode cX2_beginDue 16 = .ok (.ifCond .ne 33, 3) := by decide +kernel
theorem dX2_beginDue_19 : decode cX2_beginDue 19 = .ok (.aload_n 0, 1) := by decide +kernel
theorem dX2_beginDue_20 : decode cX2_beginDue 20 = .ok (.getfield 15, 3) := by decide +kernel
theorem dX2_beginDue_23 : decode cX2_beginDue 23 = .ok (.iload_n 2, 1) := by decide +kernel
theorem dX2_beginDue_24 : decode cX2_beginDue 24 = .ok (.iaload, 1) := by decide +kernel
theorem dX2_beginDue_25 : decode cX2_beginDue 25 = .ok (.aload_n 0, 1) := by decide +kernel
theorem dX2_beginDue_26 : decode cX2_beginDue 26 = .ok (.getfield 24, 3) := by decide +kernel
theorem dX2_beginDue_29 : decode cX2_beginDue 29 = .ok (.if_icmp .gt 20, 3) := by decide +kernel
theorem dX2_beginDue_32 : decode cX2_beginDue 32 = .ok (.aload_n 0, 1) := by decide +kernel
theorem dX2_beginDue_33 : decode cX2_beginDue 33 = .ok (.getfield 9, 3) := by decide +kernel
theorem dX2_beginDue_36 : decode cX2_beginDue 36 = .ok (.iload_n 2, 1) := by decide +kernel
theorem dX2_beginDue_37 : decode cX2_beginDue 37 = .ok (.iconst 1, 1) := by decide +kernel
theorem dX2_beginDue_38 : decode cX2_beginDue 38 = .ok (.iastore, 1) := by decide +kernel
theorem dX2_beginDue_39 : decode cX2_beginDue 39 = .ok (.aload_n 0, 1) := by decide +kernel
theorem dX2_beginDue_40 : decode cX2_beginDue 40 = .ok (.getfield 18, 3) := by decide +kernel
theorem dX2_beginDue_43 : decode cX2_beginDue 43 = .ok (.iload_n 2, 1) := by decide +kernel
theorem dX2_beginDue_44 : decode cX2_beginDue 44 = .ok (.aload_n 0, 1) := by decide +kernel
theorem dX2_beginDue_45 : decode cX2_beginDue 45 = .ok (.getfield 24, 3) := by decide +kernel
theorem dX2_beginDue_48 : decode cX2_beginDue 48 = .ok (.iastore, 1) := by decide +kernel
theorem dX2_beginDue_49 : decode cX2_beginDue 49 = .ok (.iinc 2 1, 3) := by decide +kernel
theorem dX2_beginDue_52 : decode cX2_beginDue 52 = .ok (.goto (-50), 3) := by decide +kernel
theorem dX2_beginDue_55 : decode cX2_beginDue 55 = .ok (.return_, 1) := by decide +kernel
set_option maxRecDepth 20000 in
theorem ggX2_worthOfAll_X2_worthOf : GoodIn wsX2_worthOfAll wsX2_worthOf := goodIn_r _ [7, 8, 9, 10, 11, 12, 13, 14, 15, 16, 17, 18, 19, 20, 21, 22, 23, 24, 25, 26, 27, 28, 29, 30, 31, 32, 33, 34, 35, 36, 37, 38, 39, 40, 41] (by decide +kernel) (by decide +kernel)
set_option maxRecDepth 20000 in
theorem gX2_worthOfAll_X2_worthOf : GoodIn wsX2_worthOfAll (wsV RX2 58 RX2 yX2_worthOf wsX2_worthOf) := goodIn_app (goodIn_of _ (by decide +kernel)) ggX2_worthOfAll_X2_worthOf
theorem dX2_worthOfAll_0 : decode cX2_worthOfAll 0 = .ok (.iconst 0, 1) := by decide +kernel
theorem dX2_worthOfAll_1 : decode cX2_worthOfAll 1 = .ok (.istore_n 2, 1) := by decide +kernel
theorem dX2_worthOfAll_2 : decode cX2_worthOfAll 2 = .ok (.iconst 0, 1) := by decide +kernel
theorem dX2_worthOfAll_3 : decode cX2_worthOfAll 3 = .ok (.istore_n 3, 1) := by decide +kernel
theorem dX2_worthOfAll_4 : decode cX2_worthOfAll 4 = .ok (.iload_n 3, 1) := by decide +kernel
theorem dX2_worthOfAll_5 : decode cX2_worthOfAll 5 = .ok (.aload_n 1, 1) := by decide +kernel
theorem dX2_worthOfAll_6 : decode cX2_worthOfAll 6 = .ok (.getfield 55, 3) := by decide +kernel
theorem dX2_worthOfAll_9 : decode cX2_worthOfAll 9 = .ok (.if_icmp .ge 28, 3) := by decide +kernel
theorem dX2_worthOfAll_12 : decode cX2_worthOfAll 12 = .ok (.aload_n 0, 1) := by decide +kernel
theorem dX2_worthOfAll_13 : decode cX2_worthOfAll 13 = .ok (.getfield 9, 3) := by decide +kernel
theorem dX2_worthOfAll_16 : decode cX2_worthOfAll 16 = .ok (.iload_n 3, 1) := by decide +kernel
theorem dX2_worthOfAll_17 : decode cX2_worthOfAll 17 = .ok (.iaload, 1) := by decide +kernel
theorem dX2_worthOfAll_18 : decode cX2_worthOfAll 18 = .ok (.iconst 1, 1) := by decide +kernel
theorem dX2_worthOfAll_19 : decode cX2_worthOfAll 19 = .ok (.if_icmp .ne 12, 3) := by decide +kernel
theorem dX2_worthOfAll_22 : decode cX2_worthOfAll 22 = .ok (.iload_n 2, 1) := by decide +kernel
theorem dX2_worthOfAll_23 : decode cX2_worthOfAll 23 = .ok (.aload_n 0, 1) := by decide +kernel
theorem dX2_worthOfAll_24 : decode cX2_worthOfAll 24 = .ok (.aload_n 1, 1) := by decide +kernel
theorem dX2_worthOfAll_25 : decode cX2_worthOfAll 25 = .ok (.iload_n 3, 1) := by decide +kernel
theorem dX2_worthOfAll_26 : decode cX2_worthOfAll 26 = .ok (.invokevirtual 58, 3) := by decide +kernel
theorem dX2_worthOfAll_29 : decode cX2_worthOfAll 29 = .ok (.iadd, 1) := by decide +kernel
theorem dX2_worthOfAll_30 : decode cX2_worthOfAll 30 = .ok (.istore_n 2, 1) := by decide +kernel
theorem dX2_worthOfAll_31 : decode cX2_worthOfAll 31 = .ok (.iinc 3 1, 3) := by decide +kernel
theorem dX2_worthOfAll_34 : decode cX2_worthOfAll 34 = .ok (.goto (-30), 3) := by decide +kernel
theorem dX2_worthOfAll_37 : decode cX2_worthOfAll 37 = .ok (.iload_n 2, 1) := by decide +kernel
theorem dX2_worthOfAll_38 : decode cX2_worthOfAll 38 = .ok (.ireturn, 1) := by decide +kernel
set_option maxRecDepth 20000 in
theorem ggX2_worthOf_X4_worth : GoodIn wsX2_worthOf wsX4_worth := goodIn_r _ [8, 9, 10, 11, 12, 13, 14, 15] (by decide +kernel) (by decide +kernel)
set_option maxRecDepth 20000 in
theorem gX2_worthOf_X4_worth_n71 : GoodIn wsX2_worthOf (wsX4_worth) := ggX2_worthOf_X4_worth
theorem dX2_worthOf_0 : decode cX2_worthOf 0 = .ok (.aload_n 1, 1) := by decide +kernel
theorem dX2_worthOf_1 : decode cX2_worthOf 1 = .ok (.getfield 62, 3) := by decide +kernel
theorem dX2_worthOf_4 : decode cX2_worthOf 4 = .ok (.iload_n 2, 1) := by decide +kernel
theorem dX2_worthOf_5 : decode cX2_worthOf 5 = .ok (.iaload, 1) := by decide +kernel
theorem dX2_worthOf_6 : decode cX2_worthOf 6 = .ok (.aload_n 1, 1) := by decide +kernel
theorem dX2_worthOf_7 : decode cX2_worthOf 7 = .ok (.getfield 65, 3) := by decide +kernel
theorem dX2_worthOf_10 : decode cX2_worthOf 10 = .ok (.iload_n 2, 1) := by decide +kernel
theorem dX2_worthOf_11 : decode cX2_worthOf 11 = .ok (.iaload, 1) := by decide +kernel
theorem dX2_worthOf_12 : decode cX2_worthOf 12 = .ok (.aload_n 1, 1) := by decide +kernel
theorem dX2_worthOf_13 : decode cX2_worthOf 13 = .ok (.getfield 68, 3) := by decide +kernel
theorem dX2_worthOf_16 : decode cX2_worthOf 16 = .ok (.iload_n 2, 1) := by decide +kernel
theorem dX2_worthOf_17 : decode cX2_worthOf 17 = .ok (.iaload, 1) := by decide +kernel
theorem dX2_worthOf_18 : decode cX2_worthOf 18 = .ok (.aload_n 0, 1) := by decide +kernel
theorem dX2_worthOf_19 : decode cX2_worthOf 19 = .ok (.getfield 24, 3) := by decide +kernel
theorem dX2_worthOf_22 : decode cX2_worthOf 22 = .ok (.aload_n 0, 1) := by decide +kernel
theorem dX2_worthOf_23 : decode cX2_worthOf 23 = .ok (.getfield 18, 3) := by decide +kernel
theorem dX2_worthOf_26 : decode cX2_worthOf 26 = .ok (.iload_n 2, 1) := by decide +kernel
theorem dX2_worthOf_27 : decode cX2_worthOf 27 = .ok (.iaload, 1) := by decide +kernel
theorem dX2_worthOf_28 : decode cX2_worthOf 28 = .ok (.isub, 1) := by decide +kernel
theorem dX2_worthOf_29 : decode cX2_worthOf 29 = .ok (.invokestatic 71, 3) := by decide +kernel
theorem dX2_worthOf_32 : decode cX2_worthOf 32 = .ok (.ireturn, 1) := by decide +kernel
set_option maxRecDepth 20000 in
theorem ggX2_endMinute_X2_finish : GoodIn wsX2_endMinute wsX2_finish := goodIn_r _ [10, 3, 11, 12, 13, 14, 1, 15, 16, 17, 18, 19, 20, 21, 22, 23, 24, 25, 26, 27, 28, 29, 30, 31, 32, 33, 34, 35, 36, 37, 38] (by decide +kernel) (by decide +kernel)
set_option maxRecDepth 20000 in
theorem gX2_endMinute_X2_finish : GoodIn wsX2_endMinute (wsV RX2 78 RX2 yX2_finish wsX2_finish) := goodIn_app (goodIn_of _ (by decide +kernel)) ggX2_endMinute_X2_finish
theorem dX2_endMinute_0 : decode cX2_endMinute 0 = .ok (.aload_n 0, 1) := by decide +kernel
theorem dX2_endMinute_1 : decode cX2_endMinute 1 = .ok (.dup, 1) := by decide +kernel
theorem dX2_endMinute_2 : decode cX2_endMinute 2 = .ok (.getfield 24, 3) := by decide +kernel
theorem dX2_endMinute_5 : decode cX2_endMinute 5 = .ok (.iconst 1, 1) := by decide +kernel
theorem dX2_endMinute_6 : decode cX2_endMinute 6 = .ok (.iadd, 1) := by decide +kernel
theorem dX2_endMinute_7 : decode cX2_endMinute 7 = .ok (.putfield 24, 3) := by decide +kernel
theorem dX2_endMinute_10 : decode cX2_endMinute 10 = .ok (.iconst 0, 1) := by decide +kernel
theorem dX2_endMinute_11 : decode cX2_endMinute 11 = .ok (.istore_n 2, 1) := by decide +kernel
theorem dX2_endMinute_12 : decode cX2_endMinute 12 = .ok (.iload_n 2, 1) := by decide +kernel
theorem dX2_endMinute_13 : decode cX2_endMinute 13 = .ok (.aload_n 1, 1) := by decide +kernel
theorem dX2_endMinute_14 : decode cX2_endMinute 14 = .ok (.getfield 55, 3) := by decide +kernel
theorem dX2_endMinute_17 : decode cX2_endMinute 17 = .ok (.if_icmp .ge 46, 3) := by decide +kernel
theorem dX2_endMinute_20 : decode cX2_endMinute 20 = .ok (.aload_n 0, 1) := by decide +kernel
theorem dX2_endMinute_21 : decode cX2_endMinute 21 = .ok (.getfield 9, 3) := by decide +kernel
theorem dX2_endMinute_24 : decode cX2_endMinute 24 = .ok (.iload_n 2, 1) := by decide +kernel
theorem dX2_endMinute_25 : decode cX2_endMinute 25 = .ok (.iaload, 1) := by decide +kernel
theorem dX2_endMinute_26 : decode cX2_endMinute 26 = .ok (.iconst 1, 1) := by decide +kernel
theorem dX2_endMinute_27 : decode cX2_endMinute 27 = .ok (.if_icmp .ne 30, 3) := by decide +kernel
theorem dX2_endMinute_30 : decode cX2_endMinute 30 = .ok (.aload_n 0, 1) := by decide +kernel
theorem dX2_endMinute_31 : decode cX2_endMinute 31 = .ok (.getfield 24, 3) := by decide +kernel
theorem dX2_endMinute_34 : decode cX2_endMinute 34 = .ok (.aload_n 0, 1) := by decide +kernel
theorem dX2_endMinute_35 : decode cX2_endMinute 35 = .ok (.getfield 18, 3) := by decide +kernel
theorem dX2_endMinute_38 : decode cX2_endMinute 38 = .ok (.iload_n 2, 1) := by decide +kernel
theorem dX2_endMinute_39 : decode cX2_endMinute 39 = .ok (.iaload, 1) := by decide +kernel
theorem dX2_endMinute_40 : decode cX2_endMinute 40 = .ok (.isub, 1) := by decide +kernel
theorem dX2_endMinute_41 : decode cX2_endMinute 41 = .ok (.aload_n 1, 1) := by decide +kernel
theorem dX2_endMinute_42 : decode cX2_endMinute 42 = .ok (.getfield 75, 3) := by decide +kernel
theorem dX2_endMinute_45 : decode cX2_endMinute 45 = .ok (.iload_n 2, 1) := by decide +kernel
theorem dX2_endMinute_46 : decode cX2_endMinute 46 = .ok (.iaload, 1) := by decide +kernel
theorem dX2_endMinute_47 : decode cX2_endMinute 47 = .ok (.if_icmp .lt 10, 3) := by decide +kernel
theorem dX2_endMinute_50 : decode cX2_endMinute 50 = .ok (.aload_n 0, 1) := by decide +kernel
theorem dX2_endMinute_51 : decode cX2_endMinute 51 = .ok (.aload_n 1, 1) := by decide +kernel
theorem dX2_endMinute_52 : decode cX2_endMinute 52 = .ok (.iload_n 2, 1) := by decide +kernel
theorem dX2_endMinute_53 : decode cX2_endMinute 53 = .ok (.iconst 2, 1) := by decide +kernel
theorem dX2_endMinute_54 : decode cX2_endMinute 54 = .ok (.invokevirtual 78, 3) := by decide +kernel
theorem dX2_endMinute_57 : decode cX2_endMinute 57 = .ok (.iinc 2 1, 3) := by decide +kernel
theorem dX2_endMinute_60 : decode cX2_endMinute 60 = .ok (.goto (-48), 3) := by decide +kernel
theorem dX2_endMinute_63 : decode cX2_endMinute 63 = .ok (.return_, 1) := by decide +kernel
theorem dX2_finish_0 : decode cX2_finish 0 = .ok (.aload_n 0, 1) := by decide +kernel
theorem dX2_finish_1 : decode cX2_finish 1 = .ok (.getfield 9, 3) := by decide +kernel
theorem dX2_finish_4 : decode cX2_finish 4 = .ok (.iload_n 2, 1) := by decide +kernel
theorem dX2_finish_5 : decode cX2_finish 5 = .ok (.iload_n 3, 1) := by decide +kernel
theorem dX2_finish_6 : decode cX2_finish 6 = .ok (.iastore, 1) := by decide +kernel
theorem dX2_finish_7 : decode cX2_finish 7 = .ok (.iconst 0, 1) := by decide +kernel
theorem dX2_finish_8 : decode cX2_finish 8 = .ok (.istore 4, 2) := by decide +kernel
theorem dX2_finish_10 : decode cX2_finish 10 = .ok (.iload 4, 2) := by decide +kernel
theorem dX2_finish_12 : decode cX2_finish 12 = .ok (.aload_n 1, 1) := by decide +kernel
theorem dX2_finish_13 : decode cX2_finish 13 = .ok (.getfield 82, 3) := by decide +kernel
theorem dX2_finish_16 : decode cX2_finish 16 = .ok (.if_icmp .ge 68, 3) := by decide +kernel
theorem dX2_finish_19 : decode cX2_finish 19 = .ok (.aload_n 1, 1) := by decide +kernel
theorem dX2_finish_20 : decode cX2_finish 20 = .ok (.getfield 85, 3) := by decide +kernel
theorem dX2_finish_23 : decode cX2_finish 23 = .ok (.iload 4, 2) := by decide +kernel
theorem dX2_finish_25 : decode cX2_finish 25 = .ok (.iaload, 1) := by decide +kernel
theorem dX2_finish_26 : decode cX2_finish 26 = .ok (.istore 5, 2) := by decide +kernel
theorem dX2_finish_28 : decode cX2_finish 28 = .ok (.aload_n 1, 1) := by decide +kernel
theorem dX2_finish_29 : decode cX2_finish 29 = .ok (.getfield 88, 3) := by decide +kernel
theorem dX2_finish_32 : decode cX2_finish 32 = .ok (.iload 4, 2) := by decide +kernel
theorem dX2_finish_34 : decode cX2_finish 34 = .ok (.iaload, 1) := by decide +kernel
theorem dX2_finish_35 : decode cX2_finish 35 = .ok (.iload_n 2, 1) := by decide +kernel
theorem dX2_finish_36 : decode cX2_finish 36 = .ok (.if_icmp .ne 42, 3) := by decide +kernel
theorem dX2_finish_39 : decode cX2_finish 39 = .ok (.aload_n 0, 1) := by decide +kernel
theorem dX2_finish_40 : decode cX2_finish 40 = .ok (.getfield 9, 3) := by decide +kernel
theorem dX2_finish_43 : decode cX2_finish 43 = .ok (.iload 5, 2) := by decide +kernel
theorem dX2_finish_45 : decode cX2_finish 45 = .ok (.iaload, 1) := by decide +kernel
theorem dX2_finish_46 : decode cX2_finish 46 = .ok (.ifCond .ne 32, 3) := by decide +kernel
theorem dX2_finish_49 : decode cX2_finish 49 = .ok (.aload_n 0, 1) := by decide +kernel
theorem dX2_finish_50 : decode cX2_finish 50 = .ok (.getfield 15, 3) := by decide +kernel
theorem dX2_finish_53 : decode cX2_finish 53 = .ok (.iload 5, 2) := by decide +kernel
theorem dX2_finish_55 : decode cX2_finish 55 = .ok (.aload_n 0, 1) := by decide +kernel
theorem dX2_finish_56 : decode cX2_finish 56 = .ok (.getfield 15, 3) := by decide +kernel
theorem dX2_finish_59 : decode cX2_finish 59 = .ok (.iload 5, 2) := by decide +kernel
theorem dX2_finish_61 : decode cX2_finish 61 = .ok (.iaload, 1) := by decide +kernel
theorem dX2_finish_62 : decode cX2_finish 62 = .ok (.aload_n 0, 1) := by decide +kernel
theorem dX2_finish_63 : decode cX2_finish 63 = .ok (.getfield 24, 3) := by decide +kernel
theorem dX2_finish_66 : decode cX2_finish 66 = .ok (.aload_n 1, 1) := by decide +kernel
theorem dX2_finish_67 : decode cX2_finish 67 = .ok (.getfield 91, 3) := by decide +kernel
theorem dX2_finish_70 : decode cX2_finish 70 = .ok (.iload 4, 2) := by decide +kernel
theorem dX2_finish_72 : decode cX2_finish 72 = .ok (.iaload, 1) := by decide +kernel
theorem dX2_finish_73 : decode cX2_finish 73 = .ok (.iadd, 1) := by decide +kernel
theorem dX2_finish_74 : decode cX2_finish 74 = .ok (.invokestatic 94, 3) := by decide +kernel
theorem dX2_finish_77 : decode cX2_finish 77 = .ok (.iastore, 1) := by decide +kernel
theorem dX2_finish_78 : decode cX2_finish 78 = .ok (.iinc 4 1, 3) := by decide +kernel
theorem dX2_finish_81 : decode cX2_finish 81 = .ok (.goto (-71), 3) := by decide +kernel
theorem dX2_finish_84 : decode cX2_finish 84 = .ok (.return_, 1) := by decide +kernel
theorem dX2_canPin_0 : decode cX2_canPin 0 = .ok (.aload_n 1, 1) := by decide +kernel
theorem dX2_canPin_1 : decode cX2_canPin 1 = .ok (.getfield 100, 3) := by decide +kernel
theorem dX2_canPin_4 : decode cX2_canPin 4 = .ok (.iload_n 2, 1) := by decide +kernel
theorem dX2_canPin_5 : decode cX2_canPin 5 = .ok (.iaload, 1) := by decide +kernel
theorem dX2_canPin_6 : decode cX2_canPin 6 = .ok (.aload_n 1, 1) := by decide +kernel
theorem dX2_canPin_7 : decode cX2_canPin 7 = .ok (.getfield 62, 3) := by decide +kernel
theorem dX2_canPin_10 : decode cX2_canPin 10 = .ok (.iload_n 3, 1) := by decide +kernel
theorem dX2_canPin_11 : decode cX2_canPin 11 = .ok (.iaload, 1) := by decide +kernel
theorem dX2_canPin_12 : decode cX2_canPin 12 = .ok (.ishr, 1) := by decide +kernel
theorem dX2_canPin_13 : decode cX2_canPin 13 = .ok (.iconst 1, 1) := by decide +kernel
theorem dX2_canPin_14 : decode cX2_canPin 14 = .ok (.iand, 1) := by decide +kernel
theorem dX2_canPin_15 : decode cX2_canPin 15 = .ok (.iconst 1, 1) := by decide +kernel
theorem dX2_canPin_16 : decode cX2_canPin 16 = .ok (.if_icmp .ne 7, 3) := by decide +kernel
theorem dX2_canPin_19 : decode cX2_canPin 19 = .ok (.iconst 1, 1) := by decide +kernel
theorem dX2_canPin_20 : decode cX2_canPin 20 = .ok (.goto 4, 3) := by decide +kernel
theorem dX2_canPin_23 : decode cX2_canPin 23 = .ok (.iconst 0, 1) := by decide +kernel
theorem dX2_canPin_24 : decode cX2_canPin 24 = .ok (.istore 4, 2) := by decide +kernel
theorem dX2_canPin_26 : decode cX2_canPin 26 = .ok (.aload_n 0, 1) := by decide +kernel
theorem dX2_canPin_27 : decode cX2_canPin 27 = .ok (.getfield 21, 3) := by decide +kernel
theorem dX2_canPin_30 : decode cX2_canPin 30 = .ok (.iload_n 2, 1) := by decide +kernel
theorem dX2_canPin_31 : decode cX2_canPin 31 = .ok (.iaload, 1) := by decide +kernel
theorem dX2_canPin_32 : decode cX2_canPin 32 = .ok (.ifCond .le 22, 3) := by decide +kernel
theorem dX2_canPin_35 : decode cX2_canPin 35 = .ok (.aload_n 0, 1) := by decide +kernel
theorem dX2_canPin_36 : decode cX2_canPin 36 = .ok (.getfield 9, 3) := by decide +kernel
theorem dX2_canPin_39 : decode cX2_canPin 39 = .ok (.iload_n 3, 1) := by decide +kernel
theorem dX2_canPin_40 : decode cX2_canPin 40 = .ok (.iaload, 1) := by decide +kernel
theorem dX2_canPin_41 : decode cX2_canPin 41 = .ok (.iconst 1, 1) := by decide +kernel
theorem dX2_canPin_42 : decode cX2_canPin 42 = .ok (.if_icmp .ne 12, 3) := by decide +kernel
theorem dX2_canPin_45 : decode cX2_canPin 45 = .ok (.iload 4, 2) := by decide +kernel
theorem dX2_canPin_47 : decode cX2_canPin 47 = .ok (.ifCond .eq 7, 3) := by decide +kernel
theorem dX2_canPin_50 : decode cX2_canPin 50 = .ok (.iconst 1, 1) := by decide +kernel
theorem dX2_canPin_51 : decode cX2_canPin 51 = .ok (.goto 4, 3) := by decide +kernel
theorem dX2_canPin_54 : decode cX2_canPin 54 = .ok (.iconst 0, 1) := by decide +kernel
theorem dX2_canPin_55 : decode cX2_canPin 55 = .ok (.ireturn, 1) := by decide +kernel
set_option maxRecDepth 20000 in
theorem ggX2_pinBy_X2_finish : GoodIn wsX2_pinBy wsX2_finish := goodIn_r _ [6, 7, 8, 9, 10, 11, 12, 13, 14, 15, 16, 17, 18, 19, 20, 21, 22, 23, 24, 25, 26, 27, 28, 29, 30, 31, 32, 33, 34, 35, 36] (by decide +kernel) (by decide +kernel)
set_option maxRecDepth 20000 in
theorem gX2_pinBy_X2_finish : GoodIn wsX2_pinBy (wsV RX2 78 RX2 yX2_finish wsX2_finish) := goodIn_app (goodIn_of _ (by decide +kernel)) ggX2_pinBy_X2_finish
theorem dX2_pinBy_0 : decode cX2_pinBy 0 = .ok (.aload_n 0, 1) := by decide +kernel
theorem dX2_pinBy_1 : decode cX2_pinBy 1 = .ok (.getfield 21, 3) := by decide +kernel
theorem dX2_pinBy_4 : decode cX2_pinBy 4 = .ok (.iload_n 2, 1) := by decide +kernel
theorem dX2_pinBy_5 : decode cX2_pinBy 5 = .ok (.dup2, 1) := by decide +kernel
theorem dX2_pinBy_6 : decode cX2_pinBy 6 = .ok (.iaload, 1) := by decide +kernel
theorem dX2_pinBy_7 : decode cX2_pinBy 7 = .ok (.iconst 1, 1) := by decide +kernel
theorem dX2_pinBy_8 : decode cX2_pinBy 8 = .ok (.isub, 1) := by decide +kernel
theorem dX2_pinBy_9 : decode cX2_pinBy 9 = .ok (.iastore, 1) := by decide +kernel
theorem dX2_pinBy_10 : decode cX2_pinBy 10 = .ok (.aload_n 0, 1) := by decide +kernel
theorem dX2_pinBy_11 : decode cX2_pinBy 11 = .ok (.aload_n 1, 1) := by decide +kernel
theorem dX2_pinBy_12 : decode cX2_pinBy 12 = .ok (.iload_n 3, 1) := by decide +kernel
theorem dX2_pinBy_13 : decode cX2_pinBy 13 = .ok (.iconst 3, 1) := by decide +kernel
theorem dX2_pinBy_14 : decode cX2_pinBy 14 = .ok (.invokevirtual 78, 3) := by decide +kernel
theorem dX2_pinBy_17 : decode cX2_pinBy 17 = .ok (.return_, 1) := by decide +kernel
theorem dX2_lendPin_0 : decode cX2_lendPin 0 = .ok (.aload_n 0, 1) := by decide +kernel
theorem dX2_lendPin_1 : decode cX2_lendPin 1 = .ok (.getfield 21, 3) := by decide +kernel
theorem dX2_lendPin_4 : decode cX2_lendPin 4 = .ok (.iload_n 1, 1) := by decide +kernel
theorem dX2_lendPin_5 : decode cX2_lendPin 5 = .ok (.dup2, 1) := by decide +kernel
theorem dX2_lendPin_6 : decode cX2_lendPin 6 = .ok (.iaload, 1) := by decide +kernel
theorem dX2_lendPin_7 : decode cX2_lendPin 7 = .ok (.iconst 1, 1) := by decide +kernel
theorem dX2_lendPin_8 : decode cX2_lendPin 8 = .ok (.isub, 1) := by decide +kernel
theorem dX2_lendPin_9 : decode cX2_lendPin 9 = .ok (.iastore, 1) := by decide +kernel
theorem dX2_lendPin_10 : decode cX2_lendPin 10 = .ok (.aload_n 0, 1) := by decide +kernel
theorem dX2_lendPin_11 : decode cX2_lendPin 11 = .ok (.getfield 21, 3) := by decide +kernel
theorem dX2_lendPin_14 : decode cX2_lendPin 14 = .ok (.iload_n 2, 1) := by decide +kernel
theorem dX2_lendPin_15 : decode cX2_lendPin 15 = .ok (.dup2, 1) := by decide +kernel
theorem dX2_lendPin_16 : decode cX2_lendPin 16 = .ok (.iaload, 1) := by decide +kernel
theorem dX2_lendPin_17 : decode cX2_lendPin 17 = .ok (.iconst 1, 1) := by decide +kernel
theorem dX2_lendPin_18 : decode cX2_lendPin 18 = .ok (.iadd, 1) := by decide +kernel
theorem dX2_lendPin_19 : decode cX2_lendPin 19 = .ok (.iastore, 1) := by decide +kernel
theorem dX2_lendPin_20 : decode cX2_lendPin 20 = .ok (.return_, 1) := by decide +kernel
set_option maxRecDepth 20000 in
theorem ggX2_pinnableBy_X2_canPin : GoodIn wsX2_pinnableBy wsX2_canPin := goodIn_r _ [6, 7, 8, 9, 10, 11, 12, 13, 14, 15, 16, 17, 18, 19, 20, 21, 22, 23, 24, 25, 26, 27, 28, 29] (by decide +kernel) (by decide +kernel)
set_option maxRecDepth 20000 in
theorem gX2_pinnableBy_X2_canPin : GoodIn wsX2_pinnableBy (wsV RX2 103 RX2 yX2_canPin wsX2_canPin) := goodIn_app (goodIn_of _ (by decide +kernel)) ggX2_pinnableBy_X2_canPin
theorem dX2_pinnableBy_0 : decode cX2_pinnableBy 0 = .ok (.iconst 0, 1) := by decide +kernel
theorem dX2_pinnableBy_1 : decode cX2_pinnableBy 1 = .ok (.istore_n 3, 1) := by decide +kernel
theorem dX2_pinnableBy_2 : decode cX2_pinnableBy 2 = .ok (.iconst 0, 1) := by decide +kernel
theorem dX2_pinnableBy_3 : decode cX2_pinnableBy 3 = .ok (.istore 4, 2) := by decide +kernel
theorem dX2_pinnableBy_5 : decode cX2_pinnableBy 5 = .ok (.iload 4, 2) := by decide +kernel
theorem dX2_pinnableBy_7 : decode cX2_pinnableBy 7 = .ok (.aload_n 1, 1) := by decide +kernel
theorem dX2_pinnableBy_8 : decode cX2_pinnableBy 8 = .ok (.getfield 55, 3) := by decide +kernel
theorem dX2_pinnableBy_11 : decode cX2_pinnableBy 11 = .ok (.if_icmp .ge 27, 3) := by decide +kernel
theorem dX2_pinnableBy_14 : decode cX2_pinnableBy 14 = .ok (.aload_n 0, 1) := by decide +kernel
theorem dX2_pinnableBy_15 : decode cX2_pinnableBy 15 = .ok (.aload_n 1, 1) := by decide +kernel
theorem dX2_pinnableBy_16 : decode cX2_pinnableBy 16 = .ok (.iload_n 2, 1) := by decide +kernel
theorem dX2_pinnableBy_17 : decode cX2_pinnableBy 17 = .ok (.iload 4, 2) := by decide +kernel
theorem dX2_pinnableBy_19 : decode cX2_pinnableBy 19 = .ok (.invokevirtual 103, 3) := by decide +kernel
theorem dX2_pinnableBy_22 : decode cX2_pinnableBy 22 = .ok (.ifCond .eq 10, 3) := by decide +kernel
theorem dX2_pinnableBy_25 : decode cX2_pinnableBy 25 = .ok (.iload_n 3, 1) := by decide +kernel
theorem dX2_pinnableBy_26 : decode cX2_pinnableBy 26 = .ok (.iconst 1, 1) := by decide +kernel
theorem dX2_pinnableBy_27 : decode cX2_pinnableBy 27 = .ok (.iload 4, 2) := by decide +kernel
theorem dX2_pinnableBy_29 : decode cX2_pinnableBy 29 = .ok (.ishl, 1) := by decide +kernel
theorem dX2_pinnableBy_30 : decode cX2_pinnableBy 30 = .ok (.ior, 1) := by decide +kernel
theorem dX2_pinnableBy_31 : decode cX2_pinnableBy 31 = .ok (.istore_n 3, 1) := by decide +kernel
theorem dX2_pinnableBy_32 : decode cX2_pinnableBy 32 = .ok (.iinc 4 1, 3) := by decide +kernel
theorem dX2_pinnableBy_35 : decode cX2_pinnableBy 35 = .ok (.goto (-30), 3) := by decide +kernel
theorem dX2_pinnableBy_38 : decode cX2_pinnableBy 38 = .ok (.iload_n 3, 1) := by decide +kernel
theorem dX2_pinnableBy_39 : decode cX2_pinnableBy 39 = .ok (.ireturn, 1) := by decide +kernel
theorem dX2_onBits_0 : decode cX2_onBits 0 = .ok (.iconst 0, 1) := by decide +kernel
theorem dX2_onBits_1 : decode cX2_onBits 1 = .ok (.istore_n 2, 1) := by decide +kernel
theorem dX2_onBits_2 : decode cX2_onBits 2 = .ok (.iconst 0, 1) := by decide +kernel
theorem dX2_onBits_3 : decode cX2_onBits 3 = .ok (.istore_n 3, 1) := by decide +kernel
theorem dX2_onBits_4 : decode cX2_onBits 4 = .ok (.iload_n 3, 1) := by decide +kernel
theorem dX2_onBits_5 : decode cX2_onBits 5 = .ok (.aload_n 1, 1) := by decide +kernel
theorem dX2_onBits_6 : decode cX2_onBits 6 = .ok (.getfield 55, 3) := by decide +kernel
theorem dX2_onBits_9 : decode cX2_onBits 9 = .ok (.if_icmp .ge 25, 3) := by decide +kernel
theorem dX2_onBits_12 : decode cX2_onBits 12 = .ok (.aload_n 0, 1) := by decide +kernel
theorem dX2_onBits_13 : decode cX2_onBits 13 = .ok (.getfield 9, 3) := by decide +kernel
theorem dX2_onBits_16 : decode cX2_onBits 16 = .ok (.iload_n 3, 1) := by decide +kernel
theorem dX2_onBits_17 : decode cX2_onBits 17 = .ok (.iaload, 1) := by decide +kernel
theorem dX2_onBits_18 : decode cX2_onBits 18 = .ok (.iconst 1, 1) := by decide +kernel
theorem dX2_onBits_19 : decode cX2_onBits 19 = .ok (.if_icmp .ne 9, 3) := by decide +kernel
theorem dX2_onBits_22 : decode cX2_onBits 22 = .ok (.iload_n 2, 1) := by decide +kernel
theorem dX2_onBits_23 : decode cX2_onBits 23 = .ok (.iconst 1, 1) := by decide +kernel
theorem dX2_onBits_24 : decode cX2_onBits 24 = .ok (.iload_n 3, 1) := by decide +kernel
theorem dX2_onBits_25 : decode cX2_onBits 25 = .ok (.ishl, 1) := by decide +kernel
theorem dX2_onBits_26 : decode cX2_onBits 26 = .ok (.ior, 1) := by decide +kernel
theorem dX2_onBits_27 : decode cX2_onBits 27 = .ok (.istore_n 2, 1) := by decide +kernel
theorem dX2_onBits_28 : decode cX2_onBits 28 = .ok (.iinc 3 1, 3) := by decide +kernel
theorem dX2_onBits_31 : decode cX2_onBits 31 = .ok (.goto (-27), 3) := by decide +kernel
theorem dX2_onBits_34 : decode cX2_onBits 34 = .ok (.iload_n 2, 1) := by decide +kernel
theorem dX2_onBits_35 : decode cX2_onBits 35 = .ok (.ireturn, 1) := by decide +kernel
theorem dX2_soonBits_0 : decode cX2_soonBits 0 = .ok (.iconst 0, 1) := by decide +kernel
theorem dX2_soonBits_1 : decode cX2_soonBits 1 = .ok (.istore_n 2, 1) := by decide +kernel
theorem dX2_soonBits_2 : decode cX2_soonBits 2 = .ok (.iconst 0, 1) := by decide +kernel
theorem dX2_soonBits_3 : decode cX2_soonBits 3 = .ok (.istore_n 3, 1) := by decide +kernel
theorem dX2_soonBits_4 : decode cX2_soonBits 4 = .ok (.iload_n 3, 1) := by decide +kernel
theorem dX2_soonBits_5 : decode cX2_soonBits 5 = .ok (.aload_n 1, 1) := by decide +kernel
theorem dX2_soonBits_6 : decode cX2_soonBits 6 = .ok (.getfield 55, 3) := by decide +kernel
theorem dX2_soonBits_9 : decode cX2_soonBits 9 = .ok (.if_icmp .ge 40, 3) := by decide +kernel
theorem dX2_soonBits_12 : decode cX2_soonBits 12 = .ok (.aload_n 0, 1) := by decide +kernel
theorem dX2_soonBits_13 : decode cX2_soonBits 13 = .ok (.getfield 9, 3) := by decide +kernel
theorem dX2_soonBits_16 : decode cX2_soonBits 16 = .ok (.iload_n 3, 1) := by decide +kernel
theorem dX2_soonBits_17 : decode cX2_soonBits 17 = .ok (.iaload, 1) := by decide +kernel
theorem dX2_soonBits_18 : decode cX2_soonBits 18 = .ok (.ifCond .ne 25, 3) := by decide +kernel
theorem dX2_soonBits_21 : decode cX2_soonBits 21 = .ok (.aload_n 0, 1) := by decide +kernel
theorem dX2_soonBits_22 : decode cX2_soonBits 22 = .ok (.getfield 15, 3) := by decide +kernel
theorem dX2_soonBits_25 : decode cX2_soonBits 25 = .ok (.iload_n 3, 1) := by decide +kernel
theorem dX2_soonBits_26 : decode cX2_soonBits 26 = .ok (.iaload, 1) := by decide +kernel
theorem dX2_soonBits_27 : decode cX2_soonBits 27 = .ok (.aload_n 0, 1) := by decide +kernel
theorem dX2_soonBits_28 : decode cX2_soonBits 28 = .ok (.getfield 24, 3) := by decide +kernel
theorem dX2_soonBits_31 : decode cX2_soonBits 31 = .ok (.bipush 9, 2) := by decide +kernel
theorem dX2_soonBits_33 : decode cX2_soonBits 33 = .ok (.iadd, 1) := by decide +kernel
theorem dX2_soonBits_34 : decode cX2_soonBits 34 = .ok (.if_icmp .ge 9, 3) := by decide +kernel
theorem dX2_soonBits_37 : decode cX2_soonBits 37 = .ok (.iload_n 2, 1) := by decide +kernel
theorem dX2_soonBits_38 : decode cX2_soonBits 38 = .ok (.iconst 1, 1) := by decide +kernel
theorem dX2_soonBits_39 : decode cX2_soonBits 39 = .ok (.iload_n 3, 1) := by decide +kernel
theorem dX2_soonBits_40 : decode cX2_soonBits 40 = .ok (.ishl, 1) := by decide +kernel
theorem dX2_soonBits_41 : decode cX2_soonBits 41 = .ok (.ior, 1) := by decide +kernel
theorem dX2_soonBits_42 : decode cX2_soonBits 42 = .ok (.istore_n 2, 1) := by decide +kernel
theorem dX2_soonBits_43 : decode cX2_soonBits 43 = .ok (.iinc 3 1, 3) := by decide +kernel
theorem dX2_soonBits_46 : decode cX2_soonBits 46 = .ok (.goto (-42), 3) := by decide +kernel
theorem dX2_soonBits_49 : decode cX2_soonBits 49 = .ok (.iload_n 2, 1) := by decide +kernel
theorem dX2_soonBits_50 : decode cX2_soonBits 50 = .ok (.ireturn, 1) := by decide +kernel
theorem dX2_whenOf_0 : decode cX2_whenOf 0 = .ok (.aload_n 0, 1) := by decide +kernel
theorem dX2_whenOf_1 : decode cX2_whenOf 1 = .ok (.getfield 9, 3) := by decide +kernel
theorem dX2_whenOf_4 : decode cX2_whenOf 4 = .ok (.iload_n 1, 1) := by decide +kernel
theorem dX2_whenOf_5 : decode cX2_whenOf 5 = .ok (.iaload, 1) := by decide +kernel
theorem dX2_whenOf_6 : decode cX2_whenOf 6 = .ok (.ifCond .eq 10, 3) := by decide +kernel
theorem dX2_whenOf_9 : decode cX2_whenOf 9 = .ok (.aload_n 0, 1) := by decide +kernel
theorem dX2_whenOf_10 : decode cX2_whenOf 10 = .ok (.getfield 18, 3) := by decide +kernel
theorem dX2_whenOf_13 : decode cX2_whenOf 13 = .ok (.iload_n 1, 1) := by decide +kernel
theorem dX2_whenOf_14 : decode cX2_whenOf 14 = .ok (.iaload, 1) := by decide +kernel
theorem dX2_whenOf_15 : decode cX2_whenOf 15 = .ok (.ireturn, 1) := by decide +kernel
theorem dX2_whenOf_16 : decode cX2_whenOf 16 = .ok (.aload_n 0, 1) := by decide +kernel
theorem dX2_whenOf_17 : decode cX2_whenOf 17 = .ok (.getfield 15, 3) := by decide +kernel
theorem dX2_whenOf_20 : decode cX2_whenOf 20 = .ok (.iload_n 1, 1) := by decide +kernel
theorem dX2_whenOf_21 : decode cX2_whenOf 21 = .ok (.iaload, 1) := by decide +kernel
theorem dX2_whenOf_22 : decode cX2_whenOf 22 = .ok (.ldc 36, 2) := by decide +kernel
theorem dX2_whenOf_24 : decode cX2_whenOf 24 = .ok (.if_icmp .ne 8, 3) := by decide +kernel
theorem dX2_whenOf_27 : decode cX2_whenOf 27 = .ok (.bipush (-4), 2) := by decide +kernel
theorem dX2_whenOf_29 : decode cX2_whenOf 29 = .ok (.goto 9, 3) := by decide +kernel
theorem dX2_whenOf_32 : decode cX2_whenOf 32 = .ok (.aload_n 0, 1) := by decide +kernel
theorem dX2_whenOf_33 : decode cX2_whenOf 33 = .ok (.getfield 15, 3) := by decide +kernel
theorem dX2_whenOf_36 : decode cX2_whenOf 36 = .ok (.iload_n 1, 1) := by decide +kernel
theorem dX2_whenOf_37 : decode cX2_whenOf 37 = .ok (.iaload, 1) := by decide +kernel
theorem dX2_whenOf_38 : decode cX2_whenOf 38 = .ok (.ireturn, 1) := by decide +kernel
theorem dX2_howMany_0 : decode cX2_howMany 0 = .ok (.iconst 0, 1) := by decide +kernel
theorem dX2_howMany_1 : decode cX2_howMany 1 = .ok (.istore_n 3, 1) := by decide +kernel
theorem dX2_howMany_2 : decode cX2_howMany 2 = .ok (.iconst 0, 1) := by decide +kernel
theorem dX2_howMany_3 : decode cX2_howMany 3 = .ok (.istore 4, 2) := by decide +kernel
theorem dX2_howMany_5 : decode cX2_howMany 5 = .ok (.iload 4, 2) := by decide +kernel
theorem dX2_howMany_7 : decode cX2_howMany 7 = .ok (.aload_n 1, 1) := by decide +kernel
theorem dX2_howMany_8 : decode cX2_howMany 8 = .ok (.getfield 55, 3) := by decide +kernel
theorem dX2_howMany_11 : decode cX2_howMany 11 = .ok (.if_icmp .ge 23, 3) := by decide +kernel
theorem dX2_howMany_14 : decode cX2_howMany 14 = .ok (.aload_n 0, 1) := by decide +kernel
theorem dX2_howMany_15 : decode cX2_howMany 15 = .ok (.getfield 9, 3) := by decide +kernel
theorem dX2_howMany_18 : decode cX2_howMany 18 = .ok (.iload 4, 2) := by decide +kernel
theorem dX2_howMany_20 : decode cX2_howMany 20 = .ok (.iaload, 1) := by decide +kernel
theorem dX2_howMany_21 : decode cX2_howMany 21 = .ok (.iload_n 2, 1) := by decide +kernel
theorem dX2_howMany_22 : decode cX2_howMany 22 = .ok (.if_icmp .ne 6, 3) := by decide +kernel
theorem dX2_howMany_25 : decode cX2_howMany 25 = .ok (.iinc 3 1, 3) := by decide +kernel
theorem dX2_howMany_28 : decode cX2_howMany 28 = .ok (.iinc 4 1, 3) := by decide +kernel
theorem dX2_howMany_31 : decode cX2_howMany 31 = .ok (.goto (-26), 3) := by decide +kernel
theorem dX2_howMany_34 : decode cX2_howMany 34 = .ok (.iload_n 3, 1) := by decide +kernel
theorem dX2_howMany_35 : decode cX2_howMany 35 = .ok (.ireturn, 1) := by decide +kernel
theorem dX2_pinsOfAll_0 : decode cX2_pinsOfAll 0 = .ok (.iconst 0, 1) := by decide +kernel
theorem dX2_pinsOfAll_1 : decode cX2_pinsOfAll 1 = .ok (.istore_n 2, 1) := by decide +kernel
theorem dX2_pinsOfAll_2 : decode cX2_pinsOfAll 2 = .ok (.iconst 0, 1) := by decide +kernel
theorem dX2_pinsOfAll_3 : decode cX2_pinsOfAll 3 = .ok (.istore_n 3, 1) := by decide +kernel
theorem dX2_pinsOfAll_4 : decode cX2_pinsOfAll 4 = .ok (.iload_n 3, 1) := by decide +kernel
theorem dX2_pinsOfAll_5 : decode cX2_pinsOfAll 5 = .ok (.aload_n 1, 1) := by decide +kernel
theorem dX2_pinsOfAll_6 : decode cX2_pinsOfAll 6 = .ok (.getfield 107, 3) := by decide +kernel
theorem dX2_pinsOfAll_9 : decode cX2_pinsOfAll 9 = .ok (.if_icmp .ge 18, 3) := by decide +kernel
theorem dX2_pinsOfAll_12 : decode cX2_pinsOfAll 12 = .ok (.iload_n 2, 1) := by decide +kernel
theorem dX2_pinsOfAll_13 : decode cX2_pinsOfAll 13 = .ok (.aload_n 0, 1) := by decide +kernel
theorem dX2_pinsOfAll_14 : decode cX2_pinsOfAll 14 = .ok (.getfield 21, 3) := by decide +kernel
theorem dX2_pinsOfAll_17 : decode cX2_pinsOfAll 17 = .ok (.iload_n 3, 1) := by decide +kernel
theorem dX2_pinsOfAll_18 : decode cX2_pinsOfAll 18 = .ok (.iaload, 1) := by decide +kernel
theorem dX2_pinsOfAll_19 : decode cX2_pinsOfAll 19 = .ok (.iadd, 1) := by decide +kernel
theorem dX2_pinsOfAll_20 : decode cX2_pinsOfAll 20 = .ok (.istore_n 2, 1) := by decide +kernel
theorem dX2_pinsOfAll_21 : decode cX2_pinsOfAll 21 = .ok (.iinc 3 1, 3) := by decide +kernel
theorem dX2_pinsOfAll_24 : decode cX2_pinsOfAll 24 = .ok (.goto (-20), 3) := by decide +kernel
theorem dX2_pinsOfAll_27 : decode cX2_pinsOfAll 27 = .ok (.iload_n 2, 1) := by decide +kernel
theorem dX2_pinsOfAll_28 : decode cX2_pinsOfAll 28 = .ok (.ireturn, 1) := by decide +kernel
theorem dX3_init_0 : decode cX3_init 0 = .ok (.aload_n 0, 1) := by decide +kernel
theorem dX3_init_1 : decode cX3_init 1 = .ok (.invokespecial 3, 3) := by decide +kernel
theorem dX3_init_4 : decode cX3_init 4 = .ok (.aload_n 0, 1) := by decide +kernel
theorem dX3_init_5 : decode cX3_init 5 = .ok (.sipush 200, 3) := by decide +kernel
theorem dX3_init_8 : decode cX3_init 8 = .ok (.newarray .int, 2) := by decide +kernel
theorem dX3_init_10 : decode cX3_init 10 = .ok (.putfield 9, 3) := by decide +kernel
theorem dX3_init_13 : decode cX3_init 13 = .ok (.aload_n 0, 1) := by decide +kernel
theorem dX3_init_14 : decode cX3_init 14 = .ok (.iconst 5, 1) := by decide +kernel
theorem dX3_init_15 : decode cX3_init 15 = .ok (.newarray .int, 2) := by decide +kernel
theorem dX3_init_17 : decode cX3_init 17 = .ok (.putfield 15, 3) := by decide +kernel
theorem dX3_init_20 : decode cX3_init 20 = .ok (.return_, 1) := by decide +kernel
theorem dX3_append_0 : decode cX3_append 0 = .ok (.aload_n 0, 1) := by decide +kernel
theorem dX3_append_1 : decode cX3_append 1 = .ok (.getfield 18, 3) := by decide +kernel
theorem dX3_append_4 : decode cX3_append 4 = .ok (.ifCond .lt 13, 3) := by decide +kernel
theorem dX3_append_7 : decode cX3_append 7 = .ok (.aload_n 0, 1) := by decide +kernel
theorem dX3_append_8 : decode cX3_append 8 = .ok (.getfield 18, 3) := by decide +kernel
theorem dX3_append_11 : decode cX3_append 11 = .ok (.sipush 200, 3) := by decide +kernel
theorem dX3_append_14 : decode cX3_append 14 = .ok (.if_icmp .lt 5, 3) := by decide +kernel
theorem dX3_append_17 : decode cX3_append 17 = .ok (.iconst 0, 1) := by decide +kernel
theorem dX3_append_18 : decode cX3_append 18 = .ok (.ireturn, 1) := by decide +kernel
theorem dX3_append_19 : decode cX3_append 19 = .ok (.aload_n 0, 1) := by decide +kernel
theorem dX3_append_20 : decode cX3_append 20 = .ok (.getfield 9, 3) := by decide +kernel
theorem dX3_append_23 : decode cX3_append 23 = .ok (.aload_n 0, 1) := by decide +kernel
theorem dX3_append_24 : decode cX3_append 24 = .ok (.getfield 18, 3) := by decide +kernel
theorem dX3_append_27 : decode cX3_append 27 = .ok (.iload_n 1, 1) := by decide +kernel
theorem dX3_append_28 : decode cX3_append 28 = .ok (.iastore, 1) := by decide +kernel
theorem dX3_append_29 : decode cX3_append 29 = .ok (.aload_n 0, 1) := by decide +kernel
theorem dX3_append_30 : decode cX3_append 30 = .ok (.dup, 1) := by decide +kernel
theorem dX3_append_31 : decode cX3_append 31 = .ok (.getfield 18, 3) := by decide +kernel
theorem dX3_append_34 : decode cX3_append 34 = .ok (.iconst 1, 1) := by decide +kernel
theorem dX3_append_35 : decode cX3_append 35 = .ok (.iadd, 1) := by decide +kernel
theorem dX3_append_36 : decode cX3_append 36 = .ok (.putfield 18, 3) := by decide +kernel
theorem dX3_append_39 : decode cX3_append 39 = .ok (.iconst 1, 1) := by decide +kernel
theorem dX3_append_40 : decode cX3_append 40 = .ok (.ireturn, 1) := by decide +kernel
set_option maxRecDepth 20000 in
theorem ggX3_readInto_X0_clear : GoodIn wsX3_readInto wsX0_clear := goodIn_r _ [8, 9, 10, 11, 56, 57, 58, 59, 60, 61, 62, 63, 64, 65, 66, 67, 68] (by decide +kernel) (by decide +kernel)
set_option maxRecDepth 20000 in
theorem gX3_readInto_X0_clear : GoodIn wsX3_readInto (wsV RX3 22 RX0 yX0_clear wsX0_clear) := goodIn_app (goodIn_of _ (by decide +kernel)) ggX3_readInto_X0_clear
set_option maxRecDepth 20000 in
theorem ggX3_readInto_X3_readNumbers : GoodIn wsX3_readInto wsX3_readNumbers := goodIn_r _ [16, 2, 3, 17, 18, 19, 15, 20, 21, 22, 23, 24, 1, 25, 52, 53, 54, 55] (by decide +kernel) (by decide +kernel)
set_option maxRecDepth 20000 in
theorem gX3_readInto_X3_readNumbers : GoodIn wsX3_readInto (wsV RX3 27 RX3 yX3_readNumbers wsX3_readNumbers) := goodIn_app (goodIn_of _ (by decide +kernel)) ggX3_readInto_X3_readNumbers
set_option maxRecDepth 20000 in
theorem ggX3_readInto_X3_letterAt : GoodIn wsX3_readInto wsX3_letterAt := goodIn_r _ [24, 1, 25, 52, 53, 54, 55] (by decide +kernel) (by decide +kernel)
set_option maxRecDepth 20000 in
theorem gX3_readInto_X3_letterAt : GoodIn wsX3_readInto (wsV RX3 31 RX3 yX3_letterAt wsX3_letterAt) := goodIn_app (goodIn_of _ (by decide +kernel)) ggX3_readInto_X3_letterAt
set_option maxRecDepth 20000 in
theorem ggX3_readInto_X0_add : GoodIn wsX3_readInto wsX0_add := goodIn_r _ [29, 30, 31, 32, 7, 33, 9, 34, 35, 36, 37, 38, 39, 40, 41, 42, 10, 43, 44, 45, 46, 47, 48, 49, 11, 50, 51, 56, 57, 58, 59, 60, 61, 62, 63, 64, 65, 66, 67, 68] (by decide +kernel) (by decide +kernel)
set_option maxRecDepth 20000 in
theorem gX3_readInto_X0_add : GoodIn wsX3_readInto (wsV RX3 37 RX0 yX0_add wsX0_add) := goodIn_app (goodIn_of _ (by decide +kernel)) ggX3_readInto_X0_add
theorem dX3_readInto_0 : decode cX3_readInto 0 = .ok (.aload_n 1, 1) := by decide +kernel
theorem dX3_readInto_1 : decode cX3_readInto 1 = .ok (.invokevirtual 22, 3) := by decide +kernel
theorem dX3_readInto_4 : decode cX3_readInto 4 = .ok (.iconst 0, 1) := by decide +kernel
theorem dX3_readInto_5 : decode cX3_readInto 5 = .ok (.istore_n 2, 1) := by decide +kernel
theorem dX3_readInto_6 : decode cX3_readInto 6 = .ok (.iconst 0, 1) := by decide +kernel
theorem dX3_readInto_7 : decode cX3_readInto 7 = .ok (.istore_n 3, 1) := by decide +kernel
theorem dX3_readInto_8 : decode cX3_readInto 8 = .ok (.iload_n 3, 1) := by decide +kernel
theorem dX3_readInto_9 : decode cX3_readInto 9 = .ok (.sipush 200, 3) := by decide +kernel
theorem dX3_readInto_12 : decode cX3_readInto 12 = .ok (.if_icmp .ge 58, 3) := by decide +kernel
theorem dX3_readInto_15 : decode cX3_readInto 15 = .ok (.iload_n 2, 1) := by decide +kernel
theorem dX3_readInto_16 : decode cX3_readInto 16 = .ok (.aload_n 0, 1) := by decide +kernel
theorem dX3_readInto_17 : decode cX3_readInto 17 = .ok (.getfield 18, 3) := by decide +kernel
theorem dX3_readInto_20 : decode cX3_readInto 20 = .ok (.if_icmp .ge 50, 3) := by decide +kernel
theorem dX3_readInto_23 : decode cX3_readInto 23 = .ok (.aload_n 0, 1) := by decide +kernel
theorem dX3_readInto_24 : decode cX3_readInto 24 = .ok (.iload_n 2, 1) := by decide +kernel
theorem dX3_readInto_25 : decode cX3_readInto 25 = .ok (.iconst 1, 1) := by decide +kernel
theorem dX3_readInto_26 : decode cX3_readInto 26 = .ok (.iadd, 1) := by decide +kernel
theorem dX3_readInto_27 : decode cX3_readInto 27 = .ok (.invokevirtual 27, 3) := by decide +kernel
theorem dX3_readInto_30 : decode cX3_readInto 30 = .ok (.istore 4, 2) := by decide +kernel
theorem dX3_readInto_32 : decode cX3_readInto 32 = .ok (.iload 4, 2) := by decide +kernel
theorem dX3_readInto_34 : decode cX3_readInto 34 = .ok (.bipush (-4), 2) := by decide +kernel
theorem dX3_readInto_36 : decode cX3_readInto 36 = .ok (.if_icmp .eq 23, 3) := by decide +kernel
theorem dX3_readInto_39 : decode cX3_readInto 39 = .ok (.aload_n 1, 1) := by decide +kernel
theorem dX3_readInto_40 : decode cX3_readInto 40 = .ok (.aload_n 0, 1) := by decide +kernel
theorem dX3_readInto_41 : decode cX3_readInto 41 = .ok (.iload_n 2, 1) := by decide +kernel
theorem dX3_readInto_42 : decode cX3_readInto 42 = .ok (.invokevirtual 31, 3) := by decide +kernel
theorem dX3_readInto_45 : decode cX3_readInto 45 = .ok (.aload_n 0, 1) := by decide +kernel
theorem dX3_readInto_46 : decode cX3_readInto 46 = .ok (.getfield 15, 3) := by decide +kernel
theorem dX3_readInto_49 : decode cX3_readInto 49 = .ok (.aload_n 0, 1) := by decide +kernel
theorem dX3_readInto_50 : decode cX3_readInto 50 = .ok (.getfield 34, 3) := by decide +kernel
theorem dX3_readInto_53 : decode cX3_readInto 53 = .ok (.invokevirtual 37, 3) := by decide +kernel
theorem dX3_readInto_56 : decode cX3_readInto 56 = .ok (.ifCond .ne 5, 3) := by decide +kernel
theorem dX3_readInto_59 : decode cX3_readInto 59 = .ok (.iload_n 2, 1) := by decide +kernel
theorem dX3_readInto_60 : decode cX3_readInto 60 = .ok (.ireturn, 1) := by decide +kernel
theorem dX3_readInto_61 : decode cX3_readInto 61 = .ok (.iload 4, 2) := by decide +kernel
theorem dX3_readInto_63 : decode cX3_readInto 63 = .ok (.istore_n 2, 1) := by decide +kernel
theorem dX3_readInto_64 : decode cX3_readInto 64 = .ok (.iinc 3 1, 3) := by decide +kernel
theorem dX3_readInto_67 : decode cX3_readInto 67 = .ok (.goto (-59), 3) := by decide +kernel
theorem dX3_readInto_70 : decode cX3_readInto 70 = .ok (.bipush (-4), 2) := by decide +kernel
theorem dX3_readInto_72 : decode cX3_readInto 72 = .ok (.ireturn, 1) := by decide +kernel
set_option maxRecDepth 20000 in
theorem ggX3_readNumbers_X3_isFigure : GoodIn wsX3_readNumbers wsX3_isFigure := goodIn_r _ [7, 8, 9, 10, 6, 11, 12, 13, 14, 15, 16, 17] (by decide +kernel) (by decide +kernel)
set_option maxRecDepth 20000 in
theorem gX3_readNumbers_X3_isFigure : GoodIn wsX3_readNumbers (wsV RX3 41 RX3 yX3_isFigure wsX3_isFigure) := goodIn_app (goodIn_of _ (by decide +kernel)) ggX3_readNumbers_X3_isFigure
set_option maxRecDepth 20000 in
theorem ggX3_readNumbers_X3_letterAt : GoodIn wsX3_readNumbers wsX3_letterAt := goodIn_r _ [11, 12, 13, 14, 15, 16, 17] (by decide +kernel) (by decide +kernel)
set_option maxRecDepth 20000 in
theorem gX3_readNumbers_X3_letterAt : GoodIn wsX3_readNumbers (wsV RX3 31 RX3 yX3_letterAt wsX3_letterAt) := goodIn_app (goodIn_of _ (by decide +kernel)) ggX3_readNumbers_X3_letterAt
theorem dX3_readNumbers_0 : decode cX3_readNumbers 0 = .ok (.iload_n 1, 1) := by decide +kernel
theorem dX3_readNumbers_1 : decode cX3_readNumbers 1 = .ok (.istore_n 2, 1) := by decide +kernel
theorem dX3_readNumbers_2 : decode cX3_readNumbers 2 = .ok (.iconst 0, 1) := by decide +kernel
theorem dX3_readNumbers_3 : decode cX3_readNumbers 3 = .ok (.istore_n 3, 1) := by decide +kernel
theorem dX3_readNumbers_4 : decode cX3_readNumbers 4 = .ok (.iload_n 3, 1) := by decide +kernel
theorem dX3_readNumbers_5 : decode cX3_readNumbers 5 = .ok (.iconst 5, 1) := by decide +kernel
theorem dX3_readNumbers_6 : decode cX3_readNumbers 6 = .ok (.if_icmp .ge 104, 3) := by decide +kernel
theorem dX3_readNumbers_9 : decode cX3_readNumbers 9 = .ok (.aload_n 0, 1) := by decide +kernel
theorem dX3_readNumbers_10 : decode cX3_readNumbers 10 = .ok (.iload_n 2, 1) := by decide +kernel
theorem dX3_readNumbers_11 : decode cX3_readNumbers 11 = .ok (.invokevirtual 41, 3) := by decide +kernel
theorem dX3_readNumbers_14 : decode cX3_readNumbers 14 = .ok (.ifCond .ne 6, 3) := by decide +kernel
theorem dX3_readNumbers_17 : decode cX3_readNumbers 17 = .ok (.bipush (-4), 2) := by decide +kernel
theorem dX3_readNumbers_19 : decode cX3_readNumbers 19 = .ok (.ireturn, 1) := by decide +kernel
theorem dX3_readNumbers_20 : decode cX3_readNumbers 20 = .ok (.aload_n 0, 1) := by decide +kernel
theorem dX3_readNumbers_21 : decode cX3_readNumbers 21 = .ok (.iload_n 2, 1) := by decide +kernel
theorem dX3_readNumbers_22 : decode cX3_readNumbers 22 = .ok (.invokevirtual 31, 3) := by decide +kernel
theorem dX3_readNumbers_25 : decode cX3_readNumbers 25 = .ok (.bipush 48, 2) := by decide +kernel
theorem dX3_readNumbers_27 : decode cX3_readNumbers 27 = .ok (.isub, 1) := by decide +kernel
theorem dX3_readNumbers_28 : decode cX3_readNumbers 28 = .ok (.istore 4, 2) := by decide +kernel
theorem dX3_readNumbers_30 : decode cX3_readNumbers 30 = .ok (.iinc 2 1, 3) := by decide +kernel
theorem dX3_readNumbers_33 : decode cX3_readNumbers 33 = .ok (.aload_n 0, 1) := by decide +kernel
theorem dX3_readNumbers_34 : decode cX3_readNumbers 34 = .ok (.iload_n 2, 1) := by decide +kernel
theorem dX3_readNumbers_35 : decode cX3_readNumbers 35 = .ok (.invokevirtual 41, 3) := by decide +kernel
theorem dX3_readNumbers_38 : decode cX3_readNumbers 38 = .ok (.ifCond .eq 22, 3) := by decide +kernel
theorem dX3_readNumbers_41 : decode cX3_readNumbers 41 = .ok (.bipush 10, 2) := by decide +kernel
theorem dX3_readNumbers_43 : decode cX3_readNumbers 43 = .ok (.iload 4, 2) := by decide +kernel
theorem dX3_readNumbers_45 : decode cX3_readNumbers 45 = .ok (.imul, 1) := by decide +kernel
theorem dX3_readNumbers_46 : decode cX3_readNumbers 46 = .ok (.aload_n 0, 1) := by decide +kernel
theorem dX3_readNumbers_47 : decode cX3_readNumbers 47 = .ok (.iload_n 2, 1) := by decide +kernel
theorem dX3_readNumbers_48 : decode cX3_readNumbers 48 = .ok (.invokevirtual 31, 3) := by decide +kernel
theorem dX3_readNumbers_51 : decode cX3_readNumbers 51 = .ok (.iadd, 1) := by decide +kernel
theorem dX3_readNumbers_52 : decode cX3_readNumbers 52 = .ok (.bipush 48, 2) := by decide +kernel
theorem dX3_readNumbers_54 : decode cX3_readNumbers 54 = .ok (.isub, 1) := by decide +kernel
theorem dX3_readNumbers_55 : decode cX3_readNumbers 55 = .ok (.istore 4, 2) := by decide +kernel
theorem dX3_readNumbers_57 : decode cX3_readNumbers 57 = .ok (.iinc 2 1, 3) := by decide +kernel
theorem dX3_readNumbers_60 : decode cX3_readNumbers 60 = .ok (.aload_n 0, 1) := by decide +kernel
theorem dX3_readNumbers_61 : decode cX3_readNumbers 61 = .ok (.getfield 15, 3) := by decide +kernel
theorem dX3_readNumbers_64 : decode cX3_readNumbers 64 = .ok (.iload_n 3, 1) := by decide +kernel
theorem dX3_readNumbers_65 : decode cX3_readNumbers 65 = .ok (.iload 4, 2) := by decide +kernel
theorem dX3_readNumbers_67 : decode cX3_readNumbers 67 = .ok (.iastore, 1) := by decide +kernel
theorem dX3_readNumbers_68 : decode cX3_readNumbers 68 = .ok (.aload_n 0, 1) := by decide +kernel
theorem dX3_readNumbers_69 : decode cX3_readNumbers 69 = .ok (.iload_n 3, 1) := by decide +kernel
theorem dX3_readNumbers_70 : decode cX3_readNumbers 70 = .ok (.iconst 1, 1) := by decide +kernel
theorem dX3_readNumbers_71 : decode cX3_readNumbers 71 = .ok (.iadd, 1) := by decide +kernel
theorem dX3_readNumbers_72 : decode cX3_readNumbers 72 = .ok (.putfield 34, 3) := by decide +kernel
theorem dX3_readNumbers_75 : decode cX3_readNumbers 75 = .ok (.aload_n 0, 1) := by decide +kernel
theorem dX3_readNumbers_76 : decode cX3_readNumbers 76 = .ok (.iload_n 2, 1) := by decide +kernel
theorem dX3_readNumbers_77 : decode cX3_readNumbers 77 = .ok (.invokevirtual 31, 3) := by decide +kernel
theorem dX3_readNumbers_80 : decode cX3_readNumbers 80 = .ok (.istore 5, 2) := by decide +kernel
theorem dX3_readNumbers_82 : decode cX3_readNumbers 82 = .ok (.iinc 2 1, 3) := by decide +kernel
theorem dX3_readNumbers_85 : decode cX3_readNumbers 85 = .ok (.iload 5, 2) := by decide +kernel
theorem dX3_readNumbers_87 : decode cX3_readNumbers 87 = .ok (.bipush 59, 2) := by decide +kernel
theorem dX3_readNumbers_89 : decode cX3_readNumbers 89 = .ok (.if_icmp .ne 5, 3) := by decide +kernel
theorem dX3_readNumbers_92 : decode cX3_readNumbers 92 = .ok (.iload_n 2, 1) := by decide +kernel
theorem dX3_readNumbers_93 : decode cX3_readNumbers 93 = .ok (.ireturn, 1) := by decide +kernel
theorem dX3_readNumbers_94 : decode cX3_readNumbers 94 = .ok (.iload 5, 2) := by decide +kernel
theorem dX3_readNumbers_96 : decode cX3_readNumbers 96 = .ok (.bipush 44, 2) := by decide +kernel
theorem dX3_readNumbers_98 : decode cX3_readNumbers 98 = .ok (.if_icmp .eq 6, 3) := by decide +kernel
theorem dX3_readNumbers_101 : decode cX3_readNumbers 101 = .ok (.bipush (-4), 2) := by decide +kernel
theorem dX3_readNumbers_103 : decode cX3_readNumbers 103 = .ok (.ireturn, 1) := by decide +kernel
theorem dX3_readNumbers_104 : decode cX3_readNumbers 104 = .ok (.iinc 3 1, 3) := by decide +kernel
theorem dX3_readNumbers_107 : decode cX3_readNumbers 107 = .ok (.goto (-103), 3) := by decide +kernel
theorem dX3_readNumbers_110 : decode cX3_readNumbers 110 = .ok (.bipush (-4), 2) := by decide +kernel
theorem dX3_readNumbers_112 : decode cX3_readNumbers 112 = .ok (.ireturn, 1) := by decide +kernel
theorem dX3_letterAt_0 : decode cX3_letterAt 0 = .ok (.iload_n 1, 1) := by decide +kernel
theorem dX3_letterAt_1 : decode cX3_letterAt 1 = .ok (.ifCond .lt 27, 3) := by decide +kernel
theorem dX3_letterAt_4 : decode cX3_letterAt 4 = .ok (.iload_n 1, 1) := by decide +kernel
theorem dX3_letterAt_5 : decode cX3_letterAt 5 = .ok (.aload_n 0, 1) := by decide +kernel
theorem dX3_letterAt_6 : decode cX3_letterAt 6 = .ok (.getfield 18, 3) := by decide +kernel
theorem dX3_letterAt_9 : decode cX3_letterAt 9 = .ok (.if_icmp .ge 19, 3) := by decide +kernel
theorem dX3_letterAt_12 : decode cX3_letterAt 12 = .ok (.iload_n 1, 1) := by decide +kernel
theorem dX3_letterAt_13 : decode cX3_letterAt 13 = .ok (.sipush 200, 3) := by decide +kernel
theorem dX3_letterAt_16 : decode cX3_letterAt 16 = .ok (.if_icmp .ge 12, 3) := by decide +kernel
theorem dX3_letterAt_19 : decode cX3_letterAt 19 = .ok (.aload_n 0, 1) := by decide +kernel
theorem dX3_letterAt_20 : decode cX3_letterAt 20 = .ok (.getfield 9, 3) := by decide +kernel
theorem dX3_letterAt_23 : decode cX3_letterAt 23 = .ok (.iload_n 1, 1) := by decide +kernel
theorem dX3_letterAt_24 : decode cX3_letterAt 24 = .ok (.iaload, 1) := by decide +kernel
theorem dX3_letterAt_25 : decode cX3_letterAt 25 = .ok (.goto 4, 3) := by decide +kernel
theorem dX3_letterAt_28 : decode cX3_letterAt 28 = .ok (.iconst 0, 1) := by decide +kernel
theorem dX3_letterAt_29 : decode cX3_letterAt 29 = .ok (.ireturn, 1) := by decide +kernel
set_option maxRecDepth 20000 in
theorem ggX3_isFigure_X3_letterAt : GoodIn wsX3_isFigure wsX3_letterAt := goodIn_r _ [5, 6, 7, 8, 9, 10, 11] (by decide +kernel) (by decide +kernel)
set_option maxRecDepth 20000 in
theorem gX3_isFigure_X3_letterAt : GoodIn wsX3_isFigure (wsV RX3 31 RX3 yX3_letterAt wsX3_letterAt) := goodIn_app (goodIn_of _ (by decide +kernel)) ggX3_isFigure_X3_letterAt
theorem dX3_isFigure_0 : decode cX3_isFigure 0 = .ok (.aload_n 0, 1) := by decide +kernel
theorem dX3_isFigure_1 : decode cX3_isFigure 1 = .ok (.iload_n 1, 1) := by decide +kernel
theorem dX3_isFigure_2 : decode cX3_isFigure 2 = .ok (.invokevirtual 31, 3) := by decide +kernel
theorem dX3_isFigure_5 : decode cX3_isFigure 5 = .ok (.istore_n 2, 1) := by decide +kernel
theorem dX3_isFigure_6 : decode cX3_isFigure 6 = .ok (.iload_n 2, 1) := by decide +kernel
theorem dX3_isFigure_7 : decode cX3_isFigure 7 = .ok (.bipush 48, 2) := by decide +kernel
theorem dX3_isFigure_9 : decode cX3_isFigure 9 = .ok (.if_icmp .lt 13, 3) := by decide +kernel
theorem dX3_isFigure_12 : decode cX3_isFigure 12 = .ok (.iload_n 2, 1) := by decide +kernel
theorem dX3_isFigure_13 : decode cX3_isFigure 13 = .ok (.bipush 57, 2) := by decide +kernel
theorem dX3_isFigure_15 : decode cX3_isFigure 15 = .ok (.if_icmp .gt 7, 3) := by decide +kernel
theorem dX3_isFigure_18 : decode cX3_isFigure 18 = .ok (.iconst 1, 1) := by decide +kernel
theorem dX3_isFigure_19 : decode cX3_isFigure 19 = .ok (.goto 4, 3) := by decide +kernel
theorem dX3_isFigure_22 : decode cX3_isFigure 22 = .ok (.iconst 0, 1) := by decide +kernel
theorem dX3_isFigure_23 : decode cX3_isFigure 23 = .ok (.ireturn, 1) := by decide +kernel
set_option maxRecDepth 20000 in
theorem ggX4_init_X3_init : GoodIn wsX4_init wsX3_init := goodIn_r _ [28, 29, 2, 3, 23, 30, 31, 169, 170, 171, 172] (by decide +kernel) (by decide +kernel)
set_option maxRecDepth 20000 in
theorem gX4_init_X3_init_n9 : GoodIn wsX4_init (wsX3_init) := ggX4_init_X3_init
set_option maxRecDepth 20000 in
theorem ggX4_init_X0_init : GoodIn wsX4_init wsX0_init := goodIn_r _ [33, 34, 2, 3, 23, 35, 36, 37, 38, 39, 40, 41, 42, 43, 44, 183, 184, 185, 186, 187, 188, 189, 190, 191, 192, 193, 194, 195] (by decide +kernel) (by decide +kernel)
set_option maxRecDepth 20000 in
theorem gX4_init_X0_init_n18 : GoodIn wsX4_init (wsX0_init) := ggX4_init_X0_init
set_option maxRecDepth 20000 in
theorem ggX4_init_X2_init : GoodIn wsX4_init wsX2_init := goodIn_r _ [46, 47, 2, 3, 23, 48, 49, 50, 51, 196, 197, 198, 199, 200, 201] (by decide +kernel) (by decide +kernel)
set_option maxRecDepth 20000 in
theorem gX4_init_X2_init_n28 : GoodIn wsX4_init (wsX2_init) := ggX4_init_X2_init
set_option maxRecDepth 20000 in
theorem ggX4_init_X1_init : GoodIn wsX4_init wsX1_init := goodIn_r _ [54, 55, 2, 3, 56, 57, 58, 59, 60, 61, 14, 15, 45, 46, 47, 23, 48, 49, 50, 51, 202, 203, 196, 197, 198, 199, 200, 201] (by decide +kernel) (by decide +kernel)
set_option maxRecDepth 20000 in
theorem gX4_init_X1_init : GoodIn wsX4_init (wsX1_init) := ggX4_init_X1_init
set_option maxRecDepth 20000 in
theorem ggX4_init_J0_length_8abf5 : GoodIn wsX4_init wsJ0_length_8abf5 := goodIn_r _ [66, 67, 68, 69, 70, 65, 71, 72, 73] (by decide +kernel) (by decide +kernel)
set_option maxRecDepth 20000 in
theorem gX4_init_J0_length_8abf5 : GoodIn wsX4_init (wsV RX4 57 RJ0 yJ0_length_8abf5 wsJ0_length_8abf5) := goodIn_app (goodIn_of _ (by decide +kernel)) ggX4_init_J0_length_8abf5
set_option maxRecDepth 20000 in
theorem ggX4_init_J0_charAt_5068e : GoodIn wsX4_init wsJ0_charAt_5068e := goodIn_r _ [77, 67, 78, 79, 80, 65, 81, 72, 73, 82, 83, 84, 85, 86, 87, 88, 89, 90, 91, 92, 93, 94, 95, 96, 97, 98, 99, 100, 101, 102, 103, 104, 105, 106, 107, 108, 109, 110] (by decide +kernel) (by decide +kernel)
set_option maxRecDepth 20000 in
theorem gX4_init_J0_charAt_5068e : GoodIn wsX4_init (wsV RX4 63 RJ0 yJ0_charAt_5068e wsJ0_charAt_5068e) := goodIn_app (goodIn_of _ (by decide +kernel)) ggX4_init_J0_charAt_5068e
set_option maxRecDepth 20000 in
theorem ggX4_init_X3_append : GoodIn wsX4_init wsX3_append := goodIn_r _ [114, 115, 30, 169, 170, 171, 172] (by decide +kernel) (by decide +kernel)
set_option maxRecDepth 20000 in
theorem gX4_init_X3_append : GoodIn wsX4_init (wsV RX4 67 RX3 yX3_append wsX3_append) := goodIn_app (goodIn_of _ (by decide +kernel)) ggX4_init_X3_append
set_option maxRecDepth 20000 in
theorem ggX4_init_X3_readInto : GoodIn wsX4_init wsX3_readInto := goodIn_r _ [119, 115, 31, 120, 121, 122, 123, 10, 124, 125, 126, 127, 128, 129, 130, 6, 131, 132, 133, 134, 135, 136, 137, 138, 139, 30, 140, 141, 142, 143, 144, 145, 146, 147, 35, 36, 37, 38, 39, 148, 149, 150, 151, 40, 41, 42, 152, 153, 154, 155, 43, 44, 169, 170, 171, 172, 183, 184, 185, 186, 187, 188, 189, 190, 191, 192, 193, 194, 195] (by decide +kernel) (by decide +kernel)
set_option maxRecDepth 20000 in
theorem gX4_init_X3_readInto : GoodIn wsX4_init (wsV RX4 71 RX3 yX3_readInto wsX3_readInto) := goodIn_app (goodIn_of _ (by decide +kernel)) ggX4_init_X3_readInto
set_option maxRecDepth 20000 in
theorem ggX4_init_X2_start : GoodIn wsX4_init wsX2_start := goodIn_r _ [159, 160, 161, 48, 49, 162, 163, 50, 164, 51, 165, 166, 167, 168, 196, 197, 198, 199, 200, 201, 183, 184, 185, 186, 187, 188, 189, 190, 191, 192, 193, 194, 195] (by decide +kernel) (by decide +kernel)
set_option maxRecDepth 20000 in
theorem gX4_init_X2_start : GoodIn wsX4_init (wsV RX4 78 RX2 yX2_start wsX2_start) := goodIn_app (goodIn_of _ (by decide +kernel)) ggX4_init_X2_start
theorem dX4_init_0 : decode cX4_init 0 = .ok (.aload_n 0, 1) := by decide +kernel
theorem dX4_init_1 : decode cX4_init 1 = .ok (.invokespecial 1, 3) := by decide +kernel
theorem dX4_init_4 : decode cX4_init 4 = .ok (.aload_n 0, 1) := by decide +kernel
theorem dX4_init_5 : decode cX4_init 5 = .ok (.new 7, 3) := by decide +kernel
theorem dX4_init_8 : decode cX4_init 8 = .ok (.dup, 1) := by decide +kernel
theorem dX4_init_9 : decode cX4_init 9 = .ok (.invokespecial 9, 3) := by decide +kernel
theorem dX4_init_12 : decode cX4_init 12 = .ok (.putfield 10, 3) := by decide +kernel
theorem dX4_init_15 : decode cX4_init 15 = .ok (.aload_n 0, 1) := by decide +kernel
theorem dX4_init_16 : decode cX4_init 16 = .ok (.new 16, 3) := by decide +kernel
theorem dX4_init_19 : decode cX4_init 19 = .ok (.dup, 1) := by decide +kernel
theorem dX4_init_20 : decode cX4_init 20 = .ok (.invokespecial 18, 3) := by decide +kernel
theorem dX4_init_23 : decode cX4_init 23 = .ok (.putfield 19, 3) := by decide +kernel
theorem dX4_init_26 : decode cX4_init 26 = .ok (.aload_n 0, 1) := by decide +kernel
theorem dX4_init_27 : decode cX4_init 27 = .ok (.new 16, 3) := by decide +kernel
theorem dX4_init_30 : decode cX4_init 30 = .ok (.dup, 1) := by decide +kernel
theorem dX4_init_31 : decode cX4_init 31 = .ok (.invokespecial 18, 3) := by decide +kernel
theorem dX4_init_34 : decode cX4_init 34 = .ok (.putfield 23, 3) := by decide +kernel
theorem dX4_init_37 : decode cX4_init 37 = .ok (.aload_n 0, 1) := by decide +kernel
theorem dX4_init_38 : decode cX4_init 38 = .ok (.new 26, 3) := by decide +kernel
theorem dX4_init_41 : decode cX4_init 41 = .ok (.dup, 1) := by decide +kernel
theorem dX4_init_42 : decode cX4_init 42 = .ok (.invokespecial 28, 3) := by decide +kernel
theorem dX4_init_45 : decode cX4_init 45 = .ok (.putfield 29, 3) := by decide +kernel
theorem dX4_init_48 : decode cX4_init 48 = .ok (.aload_n 0, 1) := by decide +kernel
theorem dX4_init_49 : decode cX4_init 49 = .ok (.new 26, 3) := by decide +kernel
theorem dX4_init_52 : decode cX4_init 52 = .ok (.dup, 1) := by decide +kernel
theorem dX4_init_53 : decode cX4_init 53 = .ok (.invokespecial 28, 3) := by decide +kernel
theorem dX4_init_56 : decode cX4_init 56 = .ok (.putfield 33, 3) := by decide +kernel
theorem dX4_init_59 : decode cX4_init 59 = .ok (.aload_n 0, 1) := by decide +kernel
theorem dX4_init_60 : decode cX4_init 60 = .ok (.new 36, 3) := by decide +kernel
theorem dX4_init_63 : decode cX4_init 63 = .ok (.dup, 1) := by decide +kernel
theorem dX4_init_64 : decode cX4_init 64 = .ok (.bipush 8, 2) := by decide +kernel
theorem dX4_init_66 : decode cX4_init 66 = .ok (.invokespecial 38, 3) := by decide +kernel
theorem dX4_init_69 : decode cX4_init 69 = .ok (.putfield 41, 3) := by decide +kernel
theorem dX4_init_72 : decode cX4_init 72 = .ok (.aload_n 0, 1) := by decide +kernel
theorem dX4_init_73 : decode cX4_init 73 = .ok (.new 36, 3) := by decide +kernel
theorem dX4_init_76 : decode cX4_init 76 = .ok (.dup, 1) := by decide +kernel
theorem dX4_init_77 : decode cX4_init 77 = .ok (.iconst 2, 1) := by decide +kernel
theorem dX4_init_78 : decode cX4_init 78 = .ok (.invokespecial 38, 3) := by decide +kernel
theorem dX4_init_81 : decode cX4_init 81 = .ok (.putfield 45, 3) := by decide +kernel
theorem dX4_init_84 : decode cX4_init 84 = .ok (.aload_n 0, 1) := by decide +kernel
theorem dX4_init_85 : decode cX4_init 85 = .ok (.bipush 8, 2) := by decide +kernel
theorem dX4_init_87 : decode cX4_init 87 = .ok (.newarray .int, 2) := by decide +kernel
theorem dX4_init_89 : decode cX4_init 89 = .ok (.putfield 48, 3) := by decide +kernel
theorem dX4_init_92 : decode cX4_init 92 = .ok (.aload_n 0, 1) := by decide +kernel
theorem dX4_init_93 : decode cX4_init 93 = .ok (.bipush 8, 2) := by decide +kernel
theorem dX4_init_95 : decode cX4_init 95 = .ok (.newarray .int, 2) := by decide +kernel
theorem dX4_init_97 : decode cX4_init 97 = .ok (.putfield 52, 3) := by decide +kernel
theorem dX4_init_100 : decode cX4_init 100 = .ok (.iconst 0, 1) := by decide +kernel
theorem dX4_init_101 : decode cX4_init 101 = .ok (.istore_n 1, 1) := by decide +kernel
theorem dX4_init_102 : decode cX4_init 102 = .ok (.iload_n 1, 1) := by decide +kernel
theorem dX4_init_103 : decode cX4_init 103 = .ok (.ldc 55, 2) := by decide +kernel
theorem dX4_init_105 : decode cX4_init 105 = .ok (.invokevirtual 57, 3) := by decide +kernel
theorem dX4_init_108 : decode cX4_init 108 = .ok (.if_icmp .ge 23, 3) := by decide +kernel
theorem dX4_init_111 : decode cX4_init 111 = .ok (.aload_n 0, 1) := by decide +kernel
theorem dX4_init_112 : decode cX4_init 112 = .ok (.getfield 10, 3) := by decide +kernel
theorem dX4_init_115 : decode cX4_init 115 = .ok (.ldc 55, 2) := by decide +kernel
theorem dX4_init_117 : decode cX4_init 117 = .ok (.iload_n 1, 1) := by decide +kernel
theorem dX4_init_118 : decode cX4_init 118 = .ok (.invokevirtual 63, 3) := by decide +kernel
theorem dX4_init_121 : decode cX4_init 121 = .ok (.invokevirtual 67, 3) := by decide +kernel
theorem dX4_init_124 : decode cX4_init 124 = .ok (.pop, 1) := by decide +kernel
theorem dX4_init_125 : decode cX4_init 125 = .ok (.iinc 1 1, 3) := by decide +kernel
theorem dX4_init_128 : decode cX4_init 128 = .ok (.goto (-26), 3) := by decide +kernel
theorem dX4_init_131 : decode cX4_init 131 = .ok (.aload_n 0, 1) := by decide +kernel
theorem dX4_init_132 : decode cX4_init 132 = .ok (.getfield 10, 3) := by decide +kernel
theorem dX4_init_135 : decode cX4_init 135 = .ok (.aload_n 0, 1) := by decide +kernel
theorem dX4_init_136 : decode cX4_init 136 = .ok (.getfield 19, 3) := by decide +kernel
theorem dX4_init_139 : decode cX4_init 139 = .ok (.invokevirtual 71, 3) := by decide +kernel
theorem dX4_init_142 : decode cX4_init 142 = .ok (.pop, 1) := by decide +kernel
theorem dX4_init_143 : decode cX4_init 143 = .ok (.aload_n 0, 1) := by decide +kernel
theorem dX4_init_144 : decode cX4_init 144 = .ok (.getfield 10, 3) := by decide +kernel
theorem dX4_init_147 : decode cX4_init 147 = .ok (.iconst 0, 1) := by decide +kernel
theorem dX4_init_148 : decode cX4_init 148 = .ok (.putfield 75, 3) := by decide +kernel
theorem dX4_init_151 : decode cX4_init 151 = .ok (.aload_n 0, 1) := by decide +kernel
theorem dX4_init_152 : decode cX4_init 152 = .ok (.getfield 29, 3) := by decide +kernel
theorem dX4_init_155 : decode cX4_init 155 = .ok (.aload_n 0, 1) := by decide +kernel
theorem dX4_init_156 : decode cX4_init 156 = .ok (.getfield 19, 3) := by decide +kernel
theorem dX4_init_159 : decode cX4_init 159 = .ok (.invokevirtual 78, 3) := by decide +kernel
theorem dX4_init_162 : decode cX4_init 162 = .ok (.return_, 1) := by decide +kernel
set_option maxRecDepth 20000 in
theorem ggX4_write_X3_append : GoodIn wsX4_write wsX3_append := goodIn_r _ [7, 8, 9, 20, 21, 22, 23] (by decide +kernel) (by decide +kernel)
set_option maxRecDepth 20000 in
theorem gX4_write_X3_append : GoodIn wsX4_write (wsV RX4 67 RX3 yX3_append wsX3_append) := goodIn_app (goodIn_of _ (by decide +kernel)) ggX4_write_X3_append
theorem dX4_write_0 : decode cX4_write 0 = .ok (.iload_n 1, 1) := by decide +kernel
theorem dX4_write_1 : decode cX4_write 1 = .ok (.bipush 32, 2) := by decide +kernel
theorem dX4_write_3 : decode cX4_write 3 = .ok (.if_icmp .lt 9, 3) := by decide +kernel
theorem dX4_write_6 : decode cX4_write 6 = .ok (.iload_n 1, 1) := by decide +kernel
theorem dX4_write_7 : decode cX4_write 7 = .ok (.bipush 126, 2) := by decide +kernel
theorem dX4_write_9 : decode cX4_write 9 = .ok (.if_icmp .le 5, 3) := by decide +kernel
theorem dX4_write_12 : decode cX4_write 12 = .ok (.iconst (-1), 1) := by decide +kernel
theorem dX4_write_13 : decode cX4_write 13 = .ok (.ireturn, 1) := by decide +kernel
theorem dX4_write_14 : decode cX4_write 14 = .ok (.aload_n 0, 1) := by decide +kernel
theorem dX4_write_15 : decode cX4_write 15 = .ok (.getfield 10, 3) := by decide +kernel
theorem dX4_write_18 : decode cX4_write 18 = .ok (.iload_n 1, 1) := by decide +kernel
theorem dX4_write_19 : decode cX4_write 19 = .ok (.invokevirtual 67, 3) := by decide +kernel
theorem dX4_write_22 : decode cX4_write 22 = .ok (.ifCond .eq 13, 3) := by decide +kernel
theorem dX4_write_25 : decode cX4_write 25 = .ok (.aload_n 0, 1) := by decide +kernel
theorem dX4_write_26 : decode cX4_write 26 = .ok (.getfield 10, 3) := by decide +kernel
theorem dX4_write_29 : decode cX4_write 29 = .ok (.getfield 75, 3) := by decide +kernel
theorem dX4_write_32 : decode cX4_write 32 = .ok (.goto 5, 3) := by decide +kernel
theorem dX4_write_35 : decode cX4_write 35 = .ok (.bipush (-3), 2) := by decide +kernel
theorem dX4_write_37 : decode cX4_write 37 = .ok (.ireturn, 1) := by decide +kernel
theorem dX4_wipe_0 : decode cX4_wipe 0 = .ok (.aload_n 0, 1) := by decide +kernel
theorem dX4_wipe_1 : decode cX4_wipe 1 = .ok (.getfield 10, 3) := by decide +kernel
theorem dX4_wipe_4 : decode cX4_wipe 4 = .ok (.getfield 75, 3) := by decide +kernel
theorem dX4_wipe_7 : decode cX4_wipe 7 = .ok (.istore_n 1, 1) := by decide +kernel
theorem dX4_wipe_8 : decode cX4_wipe 8 = .ok (.aload_n 0, 1) := by decide +kernel
theorem dX4_wipe_9 : decode cX4_wipe 9 = .ok (.getfield 10, 3) := by decide +kernel
theorem dX4_wipe_12 : decode cX4_wipe 12 = .ok (.iconst 0, 1) := by decide +kernel
theorem dX4_wipe_13 : decode cX4_wipe 13 = .ok (.putfield 75, 3) := by decide +kernel
theorem dX4_wipe_16 : decode cX4_wipe 16 = .ok (.iload_n 1, 1) := by decide +kernel
theorem dX4_wipe_17 : decode cX4_wipe 17 = .ok (.ireturn, 1) := by decide +kernel
set_option maxRecDepth 20000 in
theorem ggX4_fault_X3_readInto : GoodIn wsX4_fault wsX3_readInto := goodIn_r _ [7, 8, 9, 10, 11, 12, 13, 14, 15, 16, 17, 18, 19, 20, 21, 6, 22, 23, 24, 25, 26, 27, 28, 29, 30, 31, 32, 33, 34, 35, 36, 37, 38, 39, 40, 41, 42, 43, 44, 45, 46, 47, 48, 49, 50, 51, 52, 53, 54, 55, 56, 57, 68, 69, 70, 71, 72, 73, 74, 75, 76, 77, 78, 79, 80, 81, 82, 83, 84] (by decide +kernel) (by decide +kernel)
set_option maxRecDepth 20000 in
theorem gX4_fault_X3_readInto : GoodIn wsX4_fault (wsV RX4 71 RX3 yX3_readInto wsX3_readInto) := goodIn_app (goodIn_of _ (by decide +kernel)) ggX4_fault_X3_readInto
theorem dX4_fault_0 : decode cX4_fault 0 = .ok (.aload_n 0, 1) := by decide +kernel
theorem dX4_fault_1 : decode cX4_fault 1 = .ok (.getfield 10, 3) := by decide +kernel
theorem dX4_fault_4 : decode cX4_fault 4 = .ok (.aload_n 0, 1) := by decide +kernel
theorem dX4_fault_5 : decode cX4_fault 5 = .ok (.getfield 23, 3) := by decide +kernel
theorem dX4_fault_8 : decode cX4_fault 8 = .ok (.invokevirtual 71, 3) := by decide +kernel
theorem dX4_fault_11 : decode cX4_fault 11 = .ok (.ireturn, 1) := by decide +kernel
set_option maxRecDepth 20000 in
theorem ggX4_lay_X3_readInto : GoodIn wsX4_lay wsX3_readInto := goodIn_r _ [14, 15, 16, 17, 18, 19, 20, 21, 22, 23, 24, 25, 26, 27, 28, 13, 29, 30, 31, 32, 33, 34, 35, 36, 37, 38, 39, 40, 41, 42, 43, 44, 45, 46, 47, 48, 49, 50, 51, 52, 53, 54, 55, 56, 57, 58, 59, 60, 61, 62, 63, 64, 108, 109, 110, 111, 93, 94, 95, 96, 97, 98, 99, 100, 101, 102, 103, 104, 105] (by decide +kernel) (by decide +kernel)
set_option maxRecDepth 20000 in
theorem gX4_lay_X3_readInto : GoodIn wsX4_lay (wsV RX4 71 RX3 yX3_readInto wsX3_readInto) := goodIn_app (goodIn_of _ (by decide +kernel)) ggX4_lay_X3_readInto
set_option maxRecDepth 20000 in
theorem ggX4_lay_X2_start : GoodIn wsX4_lay wsX2_start := goodIn_r _ [69, 70, 71, 72, 73, 74, 75, 76, 77, 78, 79, 80, 81, 82, 112, 113, 114, 115, 116, 117, 93, 94, 95, 96, 97, 98, 99, 100, 101, 102, 103, 104, 105] (by decide +kernel) (by decide +kernel)
set_option maxRecDepth 20000 in
theorem gX4_lay_X2_start : GoodIn wsX4_lay (wsV RX4 78 RX2 yX2_start wsX2_start) := goodIn_app (goodIn_of _ (by decide +kernel)) ggX4_lay_X2_start
theorem dX4_lay_0 : decode cX4_lay 0 = .ok (.aload_n 0, 1) := by decide +kernel
theorem dX4_lay_1 : decode cX4_lay 1 = .ok (.getfield 10, 3) := by decide +kernel
theorem dX4_lay_4 : decode cX4_lay 4 = .ok (.aload_n 0, 1) := by decide +kernel
theorem dX4_lay_5 : decode cX4_lay 5 = .ok (.getfield 23, 3) := by decide +kernel
theorem dX4_lay_8 : decode cX4_lay 8 = .ok (.invokevirtual 71, 3) := by decide +kernel
theorem dX4_lay_11 : decode cX4_lay 11 = .ok (.bipush (-4), 2) := by decide +kernel
theorem dX4_lay_13 : decode cX4_lay 13 = .ok (.if_icmp .ne 13, 3) := by decide +kernel
theorem dX4_lay_16 : decode cX4_lay 16 = .ok (.aload_n 0, 1) := by decide +kernel
theorem dX4_lay_17 : decode cX4_lay 17 = .ok (.getfield 23, 3) := by decide +kernel
theorem dX4_lay_20 : decode cX4_lay 20 = .ok (.getfield 82, 3) := by decide +kernel
theorem dX4_lay_23 : decode cX4_lay 23 = .ok (.ifCond .ne 6, 3) := by decide +kernel
theorem dX4_lay_26 : decode cX4_lay 26 = .ok (.bipush (-2), 2) := by decide +kernel
theorem dX4_lay_28 : decode cX4_lay 28 = .ok (.ireturn, 1) := by decide +kernel
theorem dX4_lay_29 : decode cX4_lay 29 = .ok (.aload_n 0, 1) := by decide +kernel
theorem dX4_lay_30 : decode cX4_lay 30 = .ok (.getfield 10, 3) := by decide +kernel
theorem dX4_lay_33 : decode cX4_lay 33 = .ok (.aload_n 0, 1) := by decide +kernel
theorem dX4_lay_34 : decode cX4_lay 34 = .ok (.getfield 19, 3) := by decide +kernel
theorem dX4_lay_37 : decode cX4_lay 37 = .ok (.invokevirtual 71, 3) := by decide +kernel
theorem dX4_lay_40 : decode cX4_lay 40 = .ok (.pop, 1) := by decide +kernel
theorem dX4_lay_41 : decode cX4_lay 41 = .ok (.aload_n 0, 1) := by decide +kernel
theorem dX4_lay_42 : decode cX4_lay 42 = .ok (.getfield 29, 3) := by decide +kernel
theorem dX4_lay_45 : decode cX4_lay 45 = .ok (.aload_n 0, 1) := by decide +kernel
theorem dX4_lay_46 : decode cX4_lay 46 = .ok (.getfield 19, 3) := by decide +kernel
theorem dX4_lay_49 : decode cX4_lay 49 = .ok (.invokevirtual 78, 3) := by decide +kernel
theorem dX4_lay_52 : decode cX4_lay 52 = .ok (.aload_n 0, 1) := by decide +kernel
theorem dX4_lay_53 : decode cX4_lay 53 = .ok (.getfield 41, 3) := by decide +kernel
theorem dX4_lay_56 : decode cX4_lay 56 = .ok (.iconst 0, 1) := by decide +kernel
theorem dX4_lay_57 : decode cX4_lay 57 = .ok (.putfield 85, 3) := by decide +kernel
theorem dX4_lay_60 : decode cX4_lay 60 = .ok (.aload_n 0, 1) := by decide +kernel
theorem dX4_lay_61 : decode cX4_lay 61 = .ok (.getfield 45, 3) := by decide +kernel
theorem dX4_lay_64 : decode cX4_lay 64 = .ok (.iconst 0, 1) := by decide +kernel
theorem dX4_lay_65 : decode cX4_lay 65 = .ok (.putfield 85, 3) := by decide +kernel
theorem dX4_lay_68 : decode cX4_lay 68 = .ok (.aload_n 0, 1) := by decide +kernel
theorem dX4_lay_69 : decode cX4_lay 69 = .ok (.iconst 0, 1) := by decide +kernel
theorem dX4_lay_70 : decode cX4_lay 70 = .ok (.putfield 88, 3) := by decide +kernel
theorem dX4_lay_73 : decode cX4_lay 73 = .ok (.aload_n 0, 1) := by decide +kernel
theorem dX4_lay_74 : decode cX4_lay 74 = .ok (.getfield 19, 3) := by decide +kernel
theorem dX4_lay_77 : decode cX4_lay 77 = .ok (.getfield 82, 3) := by decide +kernel
theorem dX4_lay_80 : decode cX4_lay 80 = .ok (.ireturn, 1) := by decide +kernel
set_option maxRecDepth 20000 in
theorem ggX4_going_X4_isGoing : GoodIn wsX4_going wsX4_isGoing := goodIn_r _ [12, 1, 13, 40, 41, 42, 43, 44, 45, 46, 47, 48, 49, 50, 51, 52, 53, 54, 55, 56, 57, 58, 59, 60, 61, 62] (by decide +kernel) (by decide +kernel)
set_option maxRecDepth 20000 in
theorem gX4_going_X4_isGoing : GoodIn wsX4_going (wsV RX4 91 RX4 yX4_isGoing wsX4_isGoing) := goodIn_app (goodIn_of _ (by decide +kernel)) ggX4_going_X4_isGoing
set_option maxRecDepth 20000 in
theorem ggX4_going_X2_whenOf : GoodIn wsX4_going wsX2_whenOf := goodIn_r _ [18, 19, 20, 21, 22, 63, 64, 65, 66, 67, 68] (by decide +kernel) (by decide +kernel)
set_option maxRecDepth 20000 in
theorem gX4_going_X2_whenOf : GoodIn wsX4_going (wsV RX4 109 RX2 yX2_whenOf wsX2_whenOf) := goodIn_app (goodIn_of _ (by decide +kernel)) ggX4_going_X2_whenOf
set_option maxRecDepth 20000 in
theorem ggX4_going_X2_worthOf : GoodIn wsX4_going wsX2_worthOf := goodIn_r _ [26, 27, 28, 29, 30, 20, 31, 11, 32, 33, 34, 35, 36, 37, 38, 39, 50, 51, 52, 53, 54, 55, 56, 57, 58, 59, 60, 61, 62, 63, 64, 65, 66, 67, 68] (by decide +kernel) (by decide +kernel)
set_option maxRecDepth 20000 in
theorem gX4_going_X2_worthOf : GoodIn wsX4_going (wsV RX4 113 RX2 yX2_worthOf wsX2_worthOf) := goodIn_app (goodIn_of _ (by decide +kernel)) ggX4_going_X2_worthOf
theorem dX4_going_0 : decode cX4_going 0 = .ok (.aload_n 0, 1) := by decide +kernel
theorem dX4_going_1 : decode cX4_going 1 = .ok (.iload_n 1, 1) := by decide +kernel
theorem dX4_going_2 : decode cX4_going 2 = .ok (.invokevirtual 91, 3) := by decide +kernel
theorem dX4_going_5 : decode cX4_going 5 = .ok (.ifCond .ne 5, 3) := by decide +kernel
theorem dX4_going_8 : decode cX4_going 8 = .ok (.iconst (-1), 1) := by decide +kernel
theorem dX4_going_9 : decode cX4_going 9 = .ok (.ireturn, 1) := by decide +kernel
theorem dX4_going_10 : decode cX4_going 10 = .ok (.iload_n 2, 1) := by decide +kernel
theorem dX4_going_11 : decode cX4_going 11 = .ok (.tableswitch 134 0 6 #[41, 51, 61, 71, 81, 91, 100], 41) := by decide +kernel
theorem dX4_going_52 : decode cX4_going 52 = .ok (.aload_n 0, 1) := by decide +kernel
theorem dX4_going_53 : decode cX4_going 53 = .ok (.getfield 19, 3) := by decide +kernel
theorem dX4_going_56 : decode cX4_going 56 = .ok (.getfield 94, 3) := by decide +kernel
theorem dX4_going_59 : decode cX4_going 59 = .ok (.iload_n 1, 1) := by decide +kernel
theorem dX4_going_60 : decode cX4_going 60 = .ok (.iaload, 1) := by decide +kernel
theorem dX4_going_61 : decode cX4_going 61 = .ok (.ireturn, 1) := by decide +kernel
theorem dX4_going_62 : decode cX4_going 62 = .ok (.aload_n 0, 1) := by decide +kernel
theorem dX4_going_63 : decode cX4_going 63 = .ok (.getfield 19, 3) := by decide +kernel
theorem dX4_going_66 : decode cX4_going 66 = .ok (.getfield 97, 3) := by decide +kernel
theorem dX4_going_69 : decode cX4_going 69 = .ok (.iload_n 1, 1) := by decide +kernel
theorem dX4_going_70 : decode cX4_going 70 = .ok (.iaload, 1) := by decide +kernel
theorem dX4_going_71 : decode cX4_going 71 = .ok (.ireturn, 1) := by decide +kernel
theorem dX4_going_72 : decode cX4_going 72 = .ok (.aload_n 0, 1) := by decide +kernel
theorem dX4_going_73 : decode cX4_going 73 = .ok (.getfield 19, 3) := by decide +kernel
theorem dX4_going_76 : decode cX4_going 76 = .ok (.getfield 100, 3) := by decide +kernel
theorem dX4_going_79 : decode cX4_going 79 = .ok (.iload_n 1, 1) := by decide +kernel
theorem dX4_going_80 : decode cX4_going 80 = .ok (.iaload, 1) := by decide +kernel
theorem dX4_going_81 : decode cX4_going 81 = .ok (.ireturn, 1) := by decide +kernel
theorem dX4_going_82 : decode cX4_going 82 = .ok (.aload_n 0, 1) := by decide +kernel
theorem dX4_going_83 : decode cX4_going 83 = .ok (.getfield 19, 3) := by decide +kernel
theorem dX4_going_86 : decode cX4_going 86 = .ok (.getfield 103, 3) := by decide +kernel
theorem dX4_going_89 : decode cX4_going 89 = .ok (.iload_n 1, 1) := by decide +kernel
theorem dX4_going_90 : decode cX4_going 90 = .ok (.iaload, 1) := by decide +kernel
theorem dX4_going_91 : decode cX4_going 91 = .ok (.ireturn, 1) := by decide +kernel
theorem dX4_going_92 : decode cX4_going 92 = .ok (.aload_n 0, 1) := by decide +kernel
theorem dX4_going_93 : decode cX4_going 93 = .ok (.getfield 29, 3) := by decide +kernel
theorem dX4_going_96 : decode cX4_going 96 = .ok (.getfield 106, 3) := by decide +kernel
theorem dX4_going_99 : decode cX4_going 99 = .ok (.iload_n 1, 1) := by decide +kernel
theorem dX4_going_100 : decode cX4_going 100 = .ok (.iaload, 1) := by decide +kernel
theorem dX4_going_101 : decode cX4_going 101 = .ok (.ireturn, 1) := by decide +kernel
theorem dX4_going_102 : decode cX4_going 102 = .ok (.aload_n 0, 1) := by decide +kernel
theorem dX4_going_103 : decode cX4_going 103 = .ok (.getfield 29, 3) := by decide +kernel
theorem dX4_going_106 : decode cX4_going 106 = .ok (.iload_n 1, 1) := by decide +kernel
theorem dX4_going_107 : decode cX4_going 107 = .ok (.invokevirtual 109, 3) := by decide +kernel
theorem dX4_going_110 : decode cX4_going 110 = .ok (.ireturn, 1) := by decide +kernel
theorem dX4_going_111 : decode cX4_going 111 = .ok (.aload_n 0, 1) := by decide +kernel
theorem dX4_going_112 : decode cX4_going 112 = .ok (.getfield 29, 3) := by decide +kernel
theorem dX4_going_115 : decode cX4_going 115 = .ok (.getfield 106, 3) := by decide +kernel
theorem dX4_going_118 : decode cX4_going 118 = .ok (.iload_n 1, 1) := by decide +kernel
theorem dX4_going_119 : decode cX4_going 119 = .ok (.iaload, 1) := by decide +kernel
theorem dX4_going_120 : decode cX4_going 120 = .ok (.iconst 1, 1) := by decide +kernel
theorem dX4_going_121 : decode cX4_going 121 = .ok (.if_icmp .ne 21, 3) := by decide +kernel
theorem dX4_going_124 : decode cX4_going 124 = .ok (.aload_n 0, 1) := by decide +kernel
theorem dX4_going_125 : decode cX4_going 125 = .ok (.getfield 29, 3) := by decide +kernel
theorem dX4_going_128 : decode cX4_going 128 = .ok (.aload_n 0, 1) := by decide +kernel
theorem dX4_going_129 : decode cX4_going 129 = .ok (.getfield 19, 3) := by decide +kernel
theorem dX4_going_132 : decode cX4_going 132 = .ok (.iload_n 1, 1) := by decide +kernel
theorem dX4_going_133 : decode cX4_going 133 = .ok (.invokevirtual 113, 3) := by decide +kernel
theorem dX4_going_136 : decode cX4_going 136 = .ok (.bipush 20, 2) := by decide +kernel
theorem dX4_going_138 : decode cX4_going 138 = .ok (.iadd, 1) := by decide +kernel
theorem dX4_going_139 : decode cX4_going 139 = .ok (.goto 5, 3) := by decide +kernel
theorem dX4_going_142 : decode cX4_going 142 = .ok (.bipush 20, 2) := by decide +kernel
theorem dX4_going_144 : decode cX4_going 144 = .ok (.ireturn, 1) := by decide +kernel
theorem dX4_going_145 : decode cX4_going 145 = .ok (.iconst (-1), 1) := by decide +kernel
theorem dX4_going_146 : decode cX4_going 146 = .ok (.ireturn, 1) := by decide +kernel
set_option maxRecDepth 20000 in
theorem ggX4_lady_X4_isLady : GoodIn wsX4_lady wsX4_isLady := goodIn_r _ [9, 3, 10, 25, 26, 27, 28, 29, 30, 31, 32, 33, 34, 41, 42, 43, 44, 45, 46, 47, 48, 49, 50, 51, 52, 53] (by decide +kernel) (by decide +kernel)
set_option maxRecDepth 20000 in
theorem gX4_lady_X4_isLady : GoodIn wsX4_lady (wsV RX4 117 RX4 yX4_isLady wsX4_isLady) := goodIn_app (goodIn_of _ (by decide +kernel)) ggX4_lady_X4_isLady
set_option maxRecDepth 20000 in
theorem ggX4_lady_X2_pinnableBy : GoodIn wsX4_lady wsX2_pinnableBy := goodIn_r _ [15, 16, 17, 18, 19, 14, 20, 21, 22, 23, 24, 41, 42, 43, 44, 45, 46, 47, 48, 49, 50, 51, 52, 53, 35, 36, 37, 38, 39, 40] (by decide +kernel) (by decide +kernel)
set_option maxRecDepth 20000 in
theorem gX4_lady_X2_pinnableBy : GoodIn wsX4_lady (wsV RX4 126 RX2 yX2_pinnableBy wsX2_pinnableBy) := goodIn_app (goodIn_of _ (by decide +kernel)) ggX4_lady_X2_pinnableBy
theorem dX4_lady_0 : decode cX4_lady 0 = .ok (.aload_n 0, 1) := by decide +kernel
theorem dX4_lady_1 : decode cX4_lady 1 = .ok (.iload_n 1, 1) := by decide +kernel
theorem dX4_lady_2 : decode cX4_lady 2 = .ok (.invokevirtual 117, 3) := by decide +kernel
theorem dX4_lady_5 : decode cX4_lady 5 = .ok (.ifCond .ne 5, 3) := by decide +kernel
theorem dX4_lady_8 : decode cX4_lady 8 = .ok (.iconst (-1), 1) := by decide +kernel
theorem dX4_lady_9 : decode cX4_lady 9 = .ok (.ireturn, 1) := by decide +kernel
theorem dX4_lady_10 : decode cX4_lady 10 = .ok (.iload_n 2, 1) := by decide +kernel
theorem dX4_lady_11 : decode cX4_lady 11 = .ok (.tableswitch 58 0 2 #[25, 35, 45], 25) := by decide +kernel
theorem dX4_lady_36 : decode cX4_lady 36 = .ok (.aload_n 0, 1) := by decide +kernel
theorem dX4_lady_37 : decode cX4_lady 37 = .ok (.getfield 29, 3) := by decide +kernel
theorem dX4_lady_40 : decode cX4_lady 40 = .ok (.getfield 120, 3) := by decide +kernel
theorem dX4_lady_43 : decode cX4_lady 43 = .ok (.iload_n 1, 1) := by decide +kernel
theorem dX4_lady_44 : decode cX4_lady 44 = .ok (.iaload, 1) := by decide +kernel
theorem dX4_lady_45 : decode cX4_lady 45 = .ok (.ireturn, 1) := by decide +kernel
theorem dX4_lady_46 : decode cX4_lady 46 = .ok (.aload_n 0, 1) := by decide +kernel
theorem dX4_lady_47 : decode cX4_lady 47 = .ok (.getfield 19, 3) := by decide +kernel
theorem dX4_lady_50 : decode cX4_lady 50 = .ok (.getfield 123, 3) := by decide +kernel
theorem dX4_lady_53 : decode cX4_lady 53 = .ok (.iload_n 1, 1) := by decide +kernel
theorem dX4_lady_54 : decode cX4_lady 54 = .ok (.iaload, 1) := by decide +kernel
theorem dX4_lady_55 : decode cX4_lady 55 = .ok (.ireturn, 1) := by decide +kernel
theorem dX4_lady_56 : decode cX4_lady 56 = .ok (.aload_n 0, 1) := by decide +kernel
theorem dX4_lady_57 : decode cX4_lady 57 = .ok (.getfield 29, 3) := by decide +kernel
theorem dX4_lady_60 : decode cX4_lady 60 = .ok (.aload_n 0, 1) := by decide +kernel
theorem dX4_lady_61 : decode cX4_lady 61 = .ok (.getfield 19, 3) := by decide +kernel
theorem dX4_lady_64 : decode cX4_lady 64 = .ok (.iload_n 1, 1) := by decide +kernel
theorem dX4_lady_65 : decode cX4_lady 65 = .ok (.invokevirtual 126, 3) := by decide +kernel
theorem dX4_lady_68 : decode cX4_lady 68 = .ok (.ireturn, 1) := by decide +kernel
theorem dX4_lady_69 : decode cX4_lady 69 = .ok (.iconst (-1), 1) := by decide +kernel
theorem dX4_lady_70 : decode cX4_lady 70 = .ok (.ireturn, 1) := by decide +kernel
set_option maxRecDepth 20000 in
theorem ggX4_pass_X1_put : GoodIn wsX4_pass wsX1_put := goodIn_r _ [10, 11, 12, 13, 14, 15, 9, 16, 17, 18, 19, 20, 21, 22, 23, 24, 25, 26, 27, 28, 29, 30, 31, 92, 93, 86, 87, 88, 89, 90, 91] (by decide +kernel) (by decide +kernel)
set_option maxRecDepth 20000 in
theorem gX4_pass_X1_put : GoodIn wsX4_pass (wsV RX4 132 RX1 yX1_put wsX1_put) := goodIn_app (goodIn_of _ (by decide +kernel)) ggX4_pass_X1_put
set_option maxRecDepth 20000 in
theorem ggX4_pass_X2_goBy : GoodIn wsX4_pass wsX2_goBy := goodIn_r _ [35, 23, 36, 37, 38, 20, 39, 40, 24, 29, 22, 30, 41, 42, 43, 44, 45, 46, 47, 48, 49, 50, 51, 52, 53, 54, 55, 56, 57, 58, 59, 60, 61, 62, 63, 64, 65, 66, 67, 68, 69, 70, 71, 72, 73, 74, 75, 86, 87, 88, 89, 90, 91, 94, 95, 96, 97, 98, 99, 100, 101, 102, 103, 104, 105, 106] (by decide +kernel) (by decide +kernel)
set_option maxRecDepth 20000 in
theorem gX4_pass_X2_goBy : GoodIn wsX4_pass (wsV RX4 136 RX2 yX2_goBy wsX2_goBy) := goodIn_app (goodIn_of _ (by decide +kernel)) ggX4_pass_X2_goBy
theorem dX4_pass_0 : decode cX4_pass 0 = .ok (.iload_n 1, 1) := by decide +kernel
theorem dX4_pass_1 : decode cX4_pass 1 = .ok (.iconst 1, 1) := by decide +kernel
theorem dX4_pass_2 : decode cX4_pass 2 = .ok (.if_icmp .lt 9, 3) := by decide +kernel
theorem dX4_pass_5 : decode cX4_pass 5 = .ok (.iload_n 1, 1) := by decide +kernel
theorem dX4_pass_6 : decode cX4_pass 6 = .ok (.bipush 24, 2) := by decide +kernel
theorem dX4_pass_8 : decode cX4_pass 8 = .ok (.if_icmp .le 5, 3) := by decide +kernel
theorem dX4_pass_11 : decode cX4_pass 11 = .ok (.iconst (-1), 1) := by decide +kernel
theorem dX4_pass_12 : decode cX4_pass 12 = .ok (.ireturn, 1) := by decide +kernel
theorem dX4_pass_13 : decode cX4_pass 13 = .ok (.aload_n 0, 1) := by decide +kernel
theorem dX4_pass_14 : decode cX4_pass 14 = .ok (.getfield 29, 3) := by decide +kernel
theorem dX4_pass_17 : decode cX4_pass 17 = .ok (.getfield 129, 3) := by decide +kernel
theorem dX4_pass_20 : decode cX4_pass 20 = .ok (.iload_n 1, 1) := by decide +kernel
theorem dX4_pass_21 : decode cX4_pass 21 = .ok (.iadd, 1) := by decide +kernel
theorem dX4_pass_22 : decode cX4_pass 22 = .ok (.sipush 999, 3) := by decide +kernel
theorem dX4_pass_25 : decode cX4_pass 25 = .ok (.if_icmp .le 6, 3) := by decide +kernel
theorem dX4_pass_28 : decode cX4_pass 28 = .ok (.bipush (-2), 2) := by decide +kernel
theorem dX4_pass_30 : decode cX4_pass 30 = .ok (.ireturn, 1) := by decide +kernel
theorem dX4_pass_31 : decode cX4_pass 31 = .ok (.aload_n 0, 1) := by decide +kernel
theorem dX4_pass_32 : decode cX4_pass 32 = .ok (.getfield 41, 3) := by decide +kernel
theorem dX4_pass_35 : decode cX4_pass 35 = .ok (.aload_n 0, 1) := by decide +kernel
theorem dX4_pass_36 : decode cX4_pass 36 = .ok (.getfield 29, 3) := by decide +kernel
theorem dX4_pass_39 : decode cX4_pass 39 = .ok (.invokevirtual 132, 3) := by decide +kernel
theorem dX4_pass_42 : decode cX4_pass 42 = .ok (.aload_n 0, 1) := by decide +kernel
theorem dX4_pass_43 : decode cX4_pass 43 = .ok (.getfield 29, 3) := by decide +kernel
theorem dX4_pass_46 : decode cX4_pass 46 = .ok (.aload_n 0, 1) := by decide +kernel
theorem dX4_pass_47 : decode cX4_pass 47 = .ok (.getfield 19, 3) := by decide +kernel
theorem dX4_pass_50 : decode cX4_pass 50 = .ok (.iload_n 1, 1) := by decide +kernel
theorem dX4_pass_51 : decode cX4_pass 51 = .ok (.invokevirtual 136, 3) := by decide +kernel
theorem dX4_pass_54 : decode cX4_pass 54 = .ok (.aload_n 0, 1) := by decide +kernel
theorem dX4_pass_55 : decode cX4_pass 55 = .ok (.getfield 29, 3) := by decide +kernel
theorem dX4_pass_58 : decode cX4_pass 58 = .ok (.getfield 140, 3) := by decide +kernel
theorem dX4_pass_61 : decode cX4_pass 61 = .ok (.sipush 10000, 3) := by decide +kernel
theorem dX4_pass_64 : decode cX4_pass 64 = .ok (.iadd, 1) := by decide +kernel
theorem dX4_pass_65 : decode cX4_pass 65 = .ok (.ireturn, 1) := by decide +kernel
set_option maxRecDepth 20000 in
theorem ggX4_pin_X4_isLady : GoodIn wsX4_pin wsX4_isLady := goodIn_r _ [9, 2, 10, 64, 65, 66, 67, 68, 69, 70, 71, 72, 73, 80, 81, 82, 83, 84, 85, 86, 87, 88, 89, 90, 91, 92] (by decide +kernel) (by decide +kernel)
set_option maxRecDepth 20000 in
theorem gX4_pin_X4_isLady : GoodIn wsX4_pin (wsV RX4 117 RX4 yX4_isLady wsX4_isLady) := goodIn_app (goodIn_of _ (by decide +kernel)) ggX4_pin_X4_isLady
set_option maxRecDepth 20000 in
theorem ggX4_pin_X4_isGoing : GoodIn wsX4_pin wsX4_isGoing := goodIn_r _ [14, 2, 15, 64, 65, 66, 67, 68, 69, 70, 71, 72, 73, 80, 81, 82, 83, 84, 85, 86, 87, 88, 89, 90, 91, 92] (by decide +kernel) (by decide +kernel)
set_option maxRecDepth 20000 in
theorem gX4_pin_X4_isGoing : GoodIn wsX4_pin (wsV RX4 91 RX4 yX4_isGoing wsX4_isGoing) := goodIn_app (goodIn_of _ (by decide +kernel)) ggX4_pin_X4_isGoing
set_option maxRecDepth 20000 in
theorem ggX4_pin_X2_canPin : GoodIn wsX4_pin wsX2_canPin := goodIn_r _ [20, 21, 22, 23, 24, 80, 81, 82, 83, 84, 85, 86, 87, 88, 89, 90, 91, 92, 74, 75, 76, 77, 78, 79] (by decide +kernel) (by decide +kernel)
set_option maxRecDepth 20000 in
theorem gX4_pin_X2_canPin : GoodIn wsX4_pin (wsV RX4 143 RX2 yX2_canPin wsX2_canPin) := goodIn_app (goodIn_of _ (by decide +kernel)) ggX4_pin_X2_canPin
set_option maxRecDepth 20000 in
theorem ggX4_pin_X1_put : GoodIn wsX4_pin wsX1_put := goodIn_r _ [29, 30, 31, 32, 33, 34, 28, 35, 36, 37, 38, 19, 39, 40, 41, 24, 42, 43, 44, 45, 46, 47, 23, 93, 94, 74, 75, 76, 77, 78, 79] (by decide +kernel) (by decide +kernel)
set_option maxRecDepth 20000 in
theorem gX4_pin_X1_put : GoodIn wsX4_pin (wsV RX4 132 RX1 yX1_put wsX1_put) := goodIn_app (goodIn_of _ (by decide +kernel)) ggX4_pin_X1_put
set_option maxRecDepth 20000 in
theorem ggX4_pin_X2_pinBy : GoodIn wsX4_pin wsX2_pinBy := goodIn_r _ [51, 23, 52, 53, 54, 19, 55, 24, 56, 57, 58, 46, 40, 59, 60, 61, 62, 63, 74, 75, 76, 77, 78, 79, 80, 81, 82, 83, 84, 85, 86, 87, 88, 89, 90, 91, 92] (by decide +kernel) (by decide +kernel)
set_option maxRecDepth 20000 in
theorem gX4_pin_X2_pinBy : GoodIn wsX4_pin (wsV RX4 147 RX2 yX2_pinBy wsX2_pinBy) := goodIn_app (goodIn_of _ (by decide +kernel)) ggX4_pin_X2_pinBy
theorem dX4_pin_0 : decode cX4_pin 0 = .ok (.aload_n 0, 1) := by decide +kernel
theorem dX4_pin_1 : decode cX4_pin 1 = .ok (.iload_n 1, 1) := by decide +kernel
theorem dX4_pin_2 : decode cX4_pin 2 = .ok (.invokevirtual 117, 3) := by decide +kernel
theorem dX4_pin_5 : decode cX4_pin 5 = .ok (.ifCond .eq 11, 3) := by decide +kernel
theorem dX4_pin_8 : decode cX4_pin 8 = .ok (.aload_n 0, 1) := by decide +kernel
theorem dX4_pin_9 : decode cX4_pin 9 = .ok (.iload_n 2, 1) := by decide +kernel
theorem dX4_pin_10 : decode cX4_pin 10 = .ok (.invokevirtual 91, 3) := by decide +kernel
theorem dX4_pin_13 : decode cX4_pin 13 = .ok (.ifCond .ne 5, 3) := by decide +kernel
theorem dX4_pin_16 : decode cX4_pin 16 = .ok (.iconst (-1), 1) := by decide +kernel
theorem dX4_pin_17 : decode cX4_pin 17 = .ok (.ireturn, 1) := by decide +kernel
theorem dX4_pin_18 : decode cX4_pin 18 = .ok (.aload_n 0, 1) := by decide +kernel
theorem dX4_pin_19 : decode cX4_pin 19 = .ok (.getfield 29, 3) := by decide +kernel
theorem dX4_pin_22 : decode cX4_pin 22 = .ok (.aload_n 0, 1) := by decide +kernel
theorem dX4_pin_23 : decode cX4_pin 23 = .ok (.getfield 19, 3) := by decide +kernel
theorem dX4_pin_26 : decode cX4_pin 26 = .ok (.iload_n 1, 1) := by decide +kernel
theorem dX4_pin_27 : decode cX4_pin 27 = .ok (.iload_n 2, 1) := by decide +kernel
theorem dX4_pin_28 : decode cX4_pin 28 = .ok (.invokevirtual 143, 3) := by decide +kernel
theorem dX4_pin_31 : decode cX4_pin 31 = .ok (.ifCond .ne 6, 3) := by decide +kernel
theorem dX4_pin_34 : decode cX4_pin 34 = .ok (.bipush (-2), 2) := by decide +kernel
theorem dX4_pin_36 : decode cX4_pin 36 = .ok (.ireturn, 1) := by decide +kernel
theorem dX4_pin_37 : decode cX4_pin 37 = .ok (.aload_n 0, 1) := by decide +kernel
theorem dX4_pin_38 : decode cX4_pin 38 = .ok (.getfield 41, 3) := by decide +kernel
theorem dX4_pin_41 : decode cX4_pin 41 = .ok (.aload_n 0, 1) := by decide +kernel
theorem dX4_pin_42 : decode cX4_pin 42 = .ok (.getfield 29, 3) := by decide +kernel
theorem dX4_pin_45 : decode cX4_pin 45 = .ok (.invokevirtual 132, 3) := by decide +kernel
theorem dX4_pin_48 : decode cX4_pin 48 = .ok (.aload_n 0, 1) := by decide +kernel
theorem dX4_pin_49 : decode cX4_pin 49 = .ok (.getfield 29, 3) := by decide +kernel
theorem dX4_pin_52 : decode cX4_pin 52 = .ok (.aload_n 0, 1) := by decide +kernel
theorem dX4_pin_53 : decode cX4_pin 53 = .ok (.getfield 19, 3) := by decide +kernel
theorem dX4_pin_56 : decode cX4_pin 56 = .ok (.iload_n 1, 1) := by decide +kernel
theorem dX4_pin_57 : decode cX4_pin 57 = .ok (.iload_n 2, 1) := by decide +kernel
theorem dX4_pin_58 : decode cX4_pin 58 = .ok (.invokevirtual 147, 3) := by decide +kernel
theorem dX4_pin_61 : decode cX4_pin 61 = .ok (.aload_n 0, 1) := by decide +kernel
theorem dX4_pin_62 : decode cX4_pin 62 = .ok (.getfield 29, 3) := by decide +kernel
theorem dX4_pin_65 : decode cX4_pin 65 = .ok (.getfield 120, 3) := by decide +kernel
theorem dX4_pin_68 : decode cX4_pin 68 = .ok (.iload_n 1, 1) := by decide +kernel
theorem dX4_pin_69 : decode cX4_pin 69 = .ok (.iaload, 1) := by decide +kernel
theorem dX4_pin_70 : decode cX4_pin 70 = .ok (.ireturn, 1) := by decide +kernel
set_option maxRecDepth 20000 in
theorem ggX4_lend_X4_isLady : GoodIn wsX4_lend wsX4_isLady := goodIn_r _ [8, 9, 10, 41, 42, 43, 44, 45, 46, 47, 48, 49, 50, 57, 58, 59, 60, 61, 62, 63, 64, 65, 66, 67, 68, 69] (by decide +kernel) (by decide +kernel)
set_option maxRecDepth 20000 in
theorem gX4_lend_X4_isLady : GoodIn wsX4_lend (wsV RX4 117 RX4 yX4_isLady wsX4_isLady) := goodIn_app (goodIn_of _ (by decide +kernel)) ggX4_lend_X4_isLady
set_option maxRecDepth 20000 in
theorem ggX4_lend_X1_put : GoodIn wsX4_lend wsX1_put := goodIn_r _ [15, 16, 17, 18, 19, 20, 14, 21, 22, 23, 24, 25, 26, 27, 28, 29, 30, 31, 32, 33, 34, 35, 36, 70, 71, 51, 52, 53, 54, 55, 56] (by decide +kernel) (by decide +kernel)
set_option maxRecDepth 20000 in
theorem gX4_lend_X1_put : GoodIn wsX4_lend (wsV RX4 132 RX1 yX1_put wsX1_put) := goodIn_app (goodIn_of _ (by decide +kernel)) ggX4_lend_X1_put
set_option maxRecDepth 20000 in
theorem ggX4_lend_X2_lendPin : GoodIn wsX4_lend wsX2_lendPin := goodIn_r _ [40, 36, 51, 52, 53, 54, 55, 56] (by decide +kernel) (by decide +kernel)
set_option maxRecDepth 20000 in
theorem gX4_lend_X2_lendPin : GoodIn wsX4_lend (wsV RX4 151 RX2 yX2_lendPin wsX2_lendPin) := goodIn_app (goodIn_of _ (by decide +kernel)) ggX4_lend_X2_lendPin
theorem dX4_lend_0 : decode cX4_lend 0 = .ok (.aload_n 0, 1) := by decide +kernel
theorem dX4_lend_1 : decode cX4_lend 1 = .ok (.iload_n 1, 1) := by decide +kernel
theorem dX4_lend_2 : decode cX4_lend 2 = .ok (.invokevirtual 117, 3) := by decide +kernel
theorem dX4_lend_5 : decode cX4_lend 5 = .ok (.ifCond .eq 16, 3) := by decide +kernel
theorem dX4_lend_8 : decode cX4_lend 8 = .ok (.aload_n 0, 1) := by decide +kernel
theorem dX4_lend_9 : decode cX4_lend 9 = .ok (.iload_n 2, 1) := by decide +kernel
theorem dX4_lend_10 : decode cX4_lend 10 = .ok (.invokevirtual 117, 3) := by decide +kernel
theorem dX4_lend_13 : decode cX4_lend 13 = .ok (.ifCond .eq 8, 3) := by decide +kernel
theorem dX4_lend_16 : decode cX4_lend 16 = .ok (.iload_n 1, 1) := by decide +kernel
theorem dX4_lend_17 : decode cX4_lend 17 = .ok (.iload_n 2, 1) := by decide +kernel
theorem dX4_lend_18 : decode cX4_lend 18 = .ok (.if_icmp .ne 5, 3) := by decide +kernel
theorem dX4_lend_21 : decode cX4_lend 21 = .ok (.iconst (-1), 1) := by decide +kernel
theorem dX4_lend_22 : decode cX4_lend 22 = .ok (.ireturn, 1) := by decide +kernel
theorem dX4_lend_23 : decode cX4_lend 23 = .ok (.aload_n 0, 1) := by decide +kernel
theorem dX4_lend_24 : decode cX4_lend 24 = .ok (.getfield 29, 3) := by decide +kernel
theorem dX4_lend_27 : decode cX4_lend 27 = .ok (.getfield 120, 3) := by decide +kernel
theorem dX4_lend_30 : decode cX4_lend 30 = .ok (.iload_n 1, 1) := by decide +kernel
theorem dX4_lend_31 : decode cX4_lend 31 = .ok (.iaload, 1) := by decide +kernel
theorem dX4_lend_32 : decode cX4_lend 32 = .ok (.iconst 1, 1) := by decide +kernel
theorem dX4_lend_33 : decode cX4_lend 33 = .ok (.if_icmp .ge 6, 3) := by decide +kernel
theorem dX4_lend_36 : decode cX4_lend 36 = .ok (.bipush (-2), 2) := by decide +kernel
theorem dX4_lend_38 : decode cX4_lend 38 = .ok (.ireturn, 1) := by decide +kernel
theorem dX4_lend_39 : decode cX4_lend 39 = .ok (.aload_n 0, 1) := by decide +kernel
theorem dX4_lend_40 : decode cX4_lend 40 = .ok (.getfield 29, 3) := by decide +kernel
theorem dX4_lend_43 : decode cX4_lend 43 = .ok (.getfield 120, 3) := by decide +kernel
theorem dX4_lend_46 : decode cX4_lend 46 = .ok (.iload_n 2, 1) := by decide +kernel
theorem dX4_lend_47 : decode cX4_lend 47 = .ok (.iaload, 1) := by decide +kernel
theorem dX4_lend_48 : decode cX4_lend 48 = .ok (.bipush 9, 2) := by decide +kernel
theorem dX4_lend_50 : decode cX4_lend 50 = .ok (.if_icmp .lt 6, 3) := by decide +kernel
theorem dX4_lend_53 : decode cX4_lend 53 = .ok (.bipush (-3), 2) := by decide +kernel
theorem dX4_lend_55 : decode cX4_lend 55 = .ok (.ireturn, 1) := by decide +kernel
theorem dX4_lend_56 : decode cX4_lend 56 = .ok (.aload_n 0, 1) := by decide +kernel
theorem dX4_lend_57 : decode cX4_lend 57 = .ok (.getfield 41, 3) := by decide +kernel
theorem dX4_lend_60 : decode cX4_lend 60 = .ok (.aload_n 0, 1) := by decide +kernel
theorem dX4_lend_61 : decode cX4_lend 61 = .ok (.getfield 29, 3) := by decide +kernel
theorem dX4_lend_64 : decode cX4_lend 64 = .ok (.invokevirtual 132, 3) := by decide +kernel
theorem dX4_lend_67 : decode cX4_lend 67 = .ok (.aload_n 0, 1) := by decide +kernel
theorem dX4_lend_68 : decode cX4_lend 68 = .ok (.getfield 29, 3) := by decide +kernel
end
section
theorem dX4_lend_71 : decode cX4_lend 71 = .ok (.iload_n 1, 1) := by decide +kernel
theorem dX4_lend_72 : decode cX4_lend 72 = .ok (.iload_n 2, 1) := by decide +kernel
theorem dX4_lend_73 : decode cX4_lend 73 = .ok (.invokevirtual 151, 3) := by decide +kernel
theorem dX4_lend_76 : decode cX4_lend 76 = .ok (.aload_n 0, 1) := by decide +kernel
theorem dX4_lend_77 : decode cX4_lend 77 = .ok (.getfield 29, 3) := by decide +kernel
theorem dX4_lend_80 : decode cX4_lend 80 = .ok (.getfield 120, 3) := by decide +kernel
theorem dX4_lend_83 : decode cX4_lend 83 = .ok (.iload_n 2, 1) := by decide +kernel
theorem dX4_lend_84 : decode cX4_lend 84 = .ok (.iaload, 1) := by decide +kernel
theorem dX4_lend_85 : decode cX4_lend 85 = .ok (.ireturn, 1) := by decide +kernel
set_option maxRecDepth 20000 in
theorem ggX4_undo_X1_takeInto : GoodIn wsX4_undo wsX1_takeInto := goodIn_r _ [8, 9, 10, 11, 12, 13, 14, 15, 16, 17, 18, 19, 20, 21, 22, 23, 24, 25, 36, 37, 38, 39, 40, 41, 42, 43] (by decide +kernel) (by decide +kernel)
set_option maxRecDepth 20000 in
theorem gX4_undo_X1_takeInto : GoodIn wsX4_undo (wsV RX4 155 RX1 yX1_takeInto wsX1_takeInto) := goodIn_app (goodIn_of _ (by decide +kernel)) ggX4_undo_X1_takeInto
theorem dX4_undo_0 : decode cX4_undo 0 = .ok (.aload_n 0, 1) := by decide +kernel
theorem dX4_undo_1 : decode cX4_undo 1 = .ok (.getfield 41, 3) := by decide +kernel
theorem dX4_undo_4 : decode cX4_undo 4 = .ok (.aload_n 0, 1) := by decide +kernel
theorem dX4_undo_5 : decode cX4_undo 5 = .ok (.getfield 29, 3) := by decide +kernel
theorem dX4_undo_8 : decode cX4_undo 8 = .ok (.invokevirtual 155, 3) := by decide +kernel
theorem dX4_undo_11 : decode cX4_undo 11 = .ok (.ifCond .eq 13, 3) := by decide +kernel
theorem dX4_undo_14 : decode cX4_undo 14 = .ok (.aload_n 0, 1) := by decide +kernel
theorem dX4_undo_15 : decode cX4_undo 15 = .ok (.getfield 41, 3) := by decide +kernel
theorem dX4_undo_18 : decode cX4_undo 18 = .ok (.getfield 85, 3) := by decide +kernel
theorem dX4_undo_21 : decode cX4_undo 21 = .ok (.goto 5, 3) := by decide +kernel
theorem dX4_undo_24 : decode cX4_undo 24 = .ok (.bipush (-2), 2) := by decide +kernel
theorem dX4_undo_26 : decode cX4_undo 26 = .ok (.ireturn, 1) := by decide +kernel
set_option maxRecDepth 20000 in
theorem ggX4_behind_X4_isEither : GoodIn wsX4_behind wsX4_isEither := goodIn_r _ [8] (by decide +kernel) (by decide +kernel)
set_option maxRecDepth 20000 in
theorem gX4_behind_X4_isEither : GoodIn wsX4_behind (va_wsS RX4 159 yX4_isEither wsX4_isEither) := goodIn_app (goodIn_of _ (by decide +kernel)) ggX4_behind_X4_isEither
set_option maxRecDepth 20000 in
theorem ggX4_behind_X2_copyOf : GoodIn wsX4_behind wsX2_copyOf := goodIn_r _ [13, 14, 15, 16, 17, 18, 19, 20, 21, 22, 23, 81, 82, 83, 84, 85, 86] (by decide +kernel) (by decide +kernel)
set_option maxRecDepth 20000 in
theorem gX4_behind_X2_copyOf : GoodIn wsX4_behind (wsV RX4 162 RX2 yX2_copyOf wsX2_copyOf) := goodIn_app (goodIn_of _ (by decide +kernel)) ggX4_behind_X2_copyOf
set_option maxRecDepth 20000 in
theorem ggX4_behind_X2_goBy : GoodIn wsX4_behind wsX2_goBy := goodIn_r _ [27, 15, 28, 29, 30, 12, 31, 32, 16, 21, 14, 22, 33, 34, 35, 36, 37, 38, 39, 40, 41, 42, 43, 44, 7, 45, 46, 47, 48, 49, 50, 51, 52, 53, 54, 55, 56, 57, 58, 59, 60, 61, 62, 63, 64, 65, 66, 81, 82, 83, 84, 85, 86, 87, 88, 89, 90, 91, 92, 93, 94, 95, 96, 97, 98, 99] (by decide +kernel) (by decide +kernel)
set_option maxRecDepth 20000 in
theorem gX4_behind_X2_goBy : GoodIn wsX4_behind (wsV RX4 136 RX2 yX2_goBy wsX2_goBy) := goodIn_app (goodIn_of _ (by decide +kernel)) ggX4_behind_X2_goBy
set_option maxRecDepth 20000 in
theorem ggX4_behind_X2_onBits : GoodIn wsX4_behind wsX2_onBits := goodIn_r _ [70, 32, 16, 87, 88, 89, 90, 91, 92, 93, 94, 95, 96, 97, 98, 99, 81, 82, 83, 84, 85, 86] (by decide +kernel) (by decide +kernel)
set_option maxRecDepth 20000 in
theorem gX4_behind_X2_onBits : GoodIn wsX4_behind (wsV RX4 165 RX2 yX2_onBits wsX2_onBits) := goodIn_app (goodIn_of _ (by decide +kernel)) ggX4_behind_X2_onBits
theorem dX4_behind_0 : decode cX4_behind 0 = .ok (.iload_n 1, 1) := by decide +kernel
theorem dX4_behind_1 : decode cX4_behind 1 = .ok (.ifCond .lt 16, 3) := by decide +kernel
theorem dX4_behind_4 : decode cX4_behind 4 = .ok (.iload_n 1, 1) := by decide +kernel
theorem dX4_behind_5 : decode cX4_behind 5 = .ok (.bipush 60, 2) := by decide +kernel
theorem dX4_behind_7 : decode cX4_behind 7 = .ok (.if_icmp .gt 10, 3) := by decide +kernel
theorem dX4_behind_10 : decode cX4_behind 10 = .ok (.iload_n 2, 1) := by decide +kernel
theorem dX4_behind_11 : decode cX4_behind 11 = .ok (.invokestatic 159, 3) := by decide +kernel
theorem dX4_behind_14 : decode cX4_behind 14 = .ok (.ifCond .ne 5, 3) := by decide +kernel
theorem dX4_behind_17 : decode cX4_behind 17 = .ok (.iconst (-1), 1) := by decide +kernel
theorem dX4_behind_18 : decode cX4_behind 18 = .ok (.ireturn, 1) := by decide +kernel
theorem dX4_behind_19 : decode cX4_behind 19 = .ok (.aload_n 0, 1) := by decide +kernel
theorem dX4_behind_20 : decode cX4_behind 20 = .ok (.getfield 33, 3) := by decide +kernel
theorem dX4_behind_23 : decode cX4_behind 23 = .ok (.aload_n 0, 1) := by decide +kernel
theorem dX4_behind_24 : decode cX4_behind 24 = .ok (.getfield 29, 3) := by decide +kernel
theorem dX4_behind_27 : decode cX4_behind 27 = .ok (.invokevirtual 162, 3) := by decide +kernel
theorem dX4_behind_30 : decode cX4_behind 30 = .ok (.aload_n 0, 1) := by decide +kernel
theorem dX4_behind_31 : decode cX4_behind 31 = .ok (.getfield 33, 3) := by decide +kernel
theorem dX4_behind_34 : decode cX4_behind 34 = .ok (.aload_n 0, 1) := by decide +kernel
theorem dX4_behind_35 : decode cX4_behind 35 = .ok (.getfield 19, 3) := by decide +kernel
theorem dX4_behind_38 : decode cX4_behind 38 = .ok (.iload_n 1, 1) := by decide +kernel
theorem dX4_behind_39 : decode cX4_behind 39 = .ok (.invokevirtual 136, 3) := by decide +kernel
theorem dX4_behind_42 : decode cX4_behind 42 = .ok (.iload_n 2, 1) := by decide +kernel
theorem dX4_behind_43 : decode cX4_behind 43 = .ok (.ifCond .ne 17, 3) := by decide +kernel
theorem dX4_behind_46 : decode cX4_behind 46 = .ok (.aload_n 0, 1) := by decide +kernel
theorem dX4_behind_47 : decode cX4_behind 47 = .ok (.getfield 33, 3) := by decide +kernel
theorem dX4_behind_50 : decode cX4_behind 50 = .ok (.getfield 140, 3) := by decide +kernel
theorem dX4_behind_53 : decode cX4_behind 53 = .ok (.sipush 10000, 3) := by decide +kernel
theorem dX4_behind_56 : decode cX4_behind 56 = .ok (.iadd, 1) := by decide +kernel
theorem dX4_behind_57 : decode cX4_behind 57 = .ok (.goto 14, 3) := by decide +kernel
theorem dX4_behind_60 : decode cX4_behind 60 = .ok (.aload_n 0, 1) := by decide +kernel
theorem dX4_behind_61 : decode cX4_behind 61 = .ok (.getfield 33, 3) := by decide +kernel
theorem dX4_behind_64 : decode cX4_behind 64 = .ok (.aload_n 0, 1) := by decide +kernel
theorem dX4_behind_65 : decode cX4_behind 65 = .ok (.getfield 19, 3) := by decide +kernel
theorem dX4_behind_68 : decode cX4_behind 68 = .ok (.invokevirtual 165, 3) := by decide +kernel
theorem dX4_behind_71 : decode cX4_behind 71 = .ok (.ireturn, 1) := by decide +kernel
set_option maxRecDepth 20000 in
theorem ggX4_dull_X2_copyOf : GoodIn wsX4_dull wsX2_copyOf := goodIn_r _ [8, 9, 10, 11, 12, 13, 14, 15, 16, 17, 18, 69, 70, 71, 72, 73, 74] (by decide +kernel) (by decide +kernel)
set_option maxRecDepth 20000 in
theorem gX4_dull_X2_copyOf : GoodIn wsX4_dull (wsV RX4 162 RX2 yX2_copyOf wsX2_copyOf) := goodIn_app (goodIn_of _ (by decide +kernel)) ggX4_dull_X2_copyOf
set_option maxRecDepth 20000 in
theorem ggX4_dull_X2_beginDue : GoodIn wsX4_dull wsX2_beginDue := goodIn_r _ [22, 23, 11, 16, 9, 17, 75, 76, 77, 78, 79, 80, 81, 82, 83, 84, 85, 86, 87, 69, 70, 71, 72, 73, 74] (by decide +kernel) (by decide +kernel)
set_option maxRecDepth 20000 in
theorem gX4_dull_X2_beginDue : GoodIn wsX4_dull (wsV RX4 168 RX2 yX2_beginDue wsX2_beginDue) := goodIn_app (goodIn_of _ (by decide +kernel)) ggX4_dull_X2_beginDue
set_option maxRecDepth 20000 in
theorem ggX4_dull_X2_worthOfAll : GoodIn wsX4_dull wsX2_worthOfAll := goodIn_r _ [27, 23, 11, 28, 29, 30, 7, 31, 32, 33, 34, 9, 17, 35, 36, 37, 38, 39, 40, 41, 42, 43, 44, 75, 76, 77, 78, 79, 80, 81, 82, 83, 84, 85, 86, 87, 69, 70, 71, 72, 73, 74] (by decide +kernel) (by decide +kernel)
set_option maxRecDepth 20000 in
theorem gX4_dull_X2_worthOfAll : GoodIn wsX4_dull (wsV RX4 171 RX2 yX2_worthOfAll wsX2_worthOfAll) := goodIn_app (goodIn_of _ (by decide +kernel)) ggX4_dull_X2_worthOfAll
set_option maxRecDepth 20000 in
theorem ggX4_dull_X2_endMinute : GoodIn wsX4_dull wsX2_endMinute := goodIn_r _ [48, 9, 23, 11, 17, 49, 50, 51, 52, 7, 53, 54, 55, 56, 16, 57, 58, 39, 40, 41, 69, 70, 71, 72, 73, 74, 75, 76, 77, 78, 79, 80, 81, 82, 83, 84, 85, 86, 87] (by decide +kernel) (by decide +kernel)
set_option maxRecDepth 20000 in
theorem gX4_dull_X2_endMinute : GoodIn wsX4_dull (wsV RX4 174 RX2 yX2_endMinute wsX2_endMinute) := goodIn_app (goodIn_of _ (by decide +kernel)) ggX4_dull_X2_endMinute
theorem dX4_dull_0 : decode cX4_dull 0 = .ok (.aload_n 0, 1) := by decide +kernel
theorem dX4_dull_1 : decode cX4_dull 1 = .ok (.getfield 33, 3) := by decide +kernel
theorem dX4_dull_4 : decode cX4_dull 4 = .ok (.aload_n 0, 1) := by decide +kernel
theorem dX4_dull_5 : decode cX4_dull 5 = .ok (.getfield 29, 3) := by decide +kernel
theorem dX4_dull_8 : decode cX4_dull 8 = .ok (.invokevirtual 162, 3) := by decide +kernel
theorem dX4_dull_11 : decode cX4_dull 11 = .ok (.iconst 0, 1) := by decide +kernel
theorem dX4_dull_12 : decode cX4_dull 12 = .ok (.istore_n 1, 1) := by decide +kernel
theorem dX4_dull_13 : decode cX4_dull 13 = .ok (.iload_n 1, 1) := by decide +kernel
theorem dX4_dull_14 : decode cX4_dull 14 = .ok (.bipush 60, 2) := by decide +kernel
theorem dX4_dull_16 : decode cX4_dull 16 = .ok (.if_icmp .gt 47, 3) := by decide +kernel
theorem dX4_dull_19 : decode cX4_dull 19 = .ok (.aload_n 0, 1) := by decide +kernel
theorem dX4_dull_20 : decode cX4_dull 20 = .ok (.getfield 33, 3) := by decide +kernel
theorem dX4_dull_23 : decode cX4_dull 23 = .ok (.aload_n 0, 1) := by decide +kernel
theorem dX4_dull_24 : decode cX4_dull 24 = .ok (.getfield 19, 3) := by decide +kernel
theorem dX4_dull_27 : decode cX4_dull 27 = .ok (.invokevirtual 168, 3) := by decide +kernel
theorem dX4_dull_30 : decode cX4_dull 30 = .ok (.aload_n 0, 1) := by decide +kernel
theorem dX4_dull_31 : decode cX4_dull 31 = .ok (.getfield 33, 3) := by decide +kernel
theorem dX4_dull_34 : decode cX4_dull 34 = .ok (.aload_n 0, 1) := by decide +kernel
theorem dX4_dull_35 : decode cX4_dull 35 = .ok (.getfield 19, 3) := by decide +kernel
theorem dX4_dull_38 : decode cX4_dull 38 = .ok (.invokevirtual 171, 3) := by decide +kernel
theorem dX4_dull_41 : decode cX4_dull 41 = .ok (.ifCond .ge 5, 3) := by decide +kernel
theorem dX4_dull_44 : decode cX4_dull 44 = .ok (.iload_n 1, 1) := by decide +kernel
theorem dX4_dull_45 : decode cX4_dull 45 = .ok (.ireturn, 1) := by decide +kernel
theorem dX4_dull_46 : decode cX4_dull 46 = .ok (.aload_n 0, 1) := by decide +kernel
theorem dX4_dull_47 : decode cX4_dull 47 = .ok (.getfield 33, 3) := by decide +kernel
theorem dX4_dull_50 : decode cX4_dull 50 = .ok (.aload_n 0, 1) := by decide +kernel
theorem dX4_dull_51 : decode cX4_dull 51 = .ok (.getfield 19, 3) := by decide +kernel
theorem dX4_dull_54 : decode cX4_dull 54 = .ok (.invokevirtual 174, 3) := by decide +kernel
theorem dX4_dull_57 : decode cX4_dull 57 = .ok (.iinc 1 1, 3) := by decide +kernel
theorem dX4_dull_60 : decode cX4_dull 60 = .ok (.goto (-47), 3) := by decide +kernel
theorem dX4_dull_63 : decode cX4_dull 63 = .ok (.bipush (-4), 2) := by decide +kernel
theorem dX4_dull_65 : decode cX4_dull 65 = .ok (.ireturn, 1) := by decide +kernel
set_option maxRecDepth 20000 in
theorem ggX4_quiet_X2_copyOf : GoodIn wsX4_quiet wsX2_copyOf := goodIn_r _ [12, 13, 14, 15, 16, 17, 18, 19, 20, 21, 22, 58, 59, 60, 61, 62, 63] (by decide +kernel) (by decide +kernel)
set_option maxRecDepth 20000 in
theorem gX4_quiet_X2_copyOf : GoodIn wsX4_quiet (wsV RX4 162 RX2 yX2_copyOf wsX2_copyOf) := goodIn_app (goodIn_of _ (by decide +kernel)) ggX4_quiet_X2_copyOf
set_option maxRecDepth 20000 in
theorem ggX4_quiet_X2_beginDue : GoodIn wsX4_quiet wsX2_beginDue := goodIn_r _ [26, 27, 15, 20, 13, 21, 64, 65, 66, 67, 68, 69, 70, 71, 72, 73, 74, 75, 76, 58, 59, 60, 61, 62, 63] (by decide +kernel) (by decide +kernel)
set_option maxRecDepth 20000 in
theorem gX4_quiet_X2_beginDue : GoodIn wsX4_quiet (wsV RX4 168 RX2 yX2_beginDue wsX2_beginDue) := goodIn_app (goodIn_of _ (by decide +kernel)) ggX4_quiet_X2_beginDue
set_option maxRecDepth 20000 in
theorem ggX4_quiet_X2_onBits : GoodIn wsX4_quiet wsX2_onBits := goodIn_r _ [31, 27, 15, 64, 65, 66, 67, 68, 69, 70, 71, 72, 73, 74, 75, 76, 58, 59, 60, 61, 62, 63] (by decide +kernel) (by decide +kernel)
set_option maxRecDepth 20000 in
theorem gX4_quiet_X2_onBits : GoodIn wsX4_quiet (wsV RX4 165 RX2 yX2_onBits wsX2_onBits) := goodIn_app (goodIn_of _ (by decide +kernel)) ggX4_quiet_X2_onBits
set_option maxRecDepth 20000 in
theorem ggX4_quiet_X2_endMinute : GoodIn wsX4_quiet wsX2_endMinute := goodIn_r _ [35, 13, 27, 15, 21, 36, 37, 38, 39, 11, 40, 41, 42, 43, 20, 44, 45, 46, 6, 47, 58, 59, 60, 61, 62, 63, 64, 65, 66, 67, 68, 69, 70, 71, 72, 73, 74, 75, 76] (by decide +kernel) (by decide +kernel)
set_option maxRecDepth 20000 in
theorem gX4_quiet_X2_endMinute : GoodIn wsX4_quiet (wsV RX4 174 RX2 yX2_endMinute wsX2_endMinute) := goodIn_app (goodIn_of _ (by decide +kernel)) ggX4_quiet_X2_endMinute
theorem dX4_quiet_0 : decode cX4_quiet 0 = .ok (.iconst 0, 1) := by decide +kernel
theorem dX4_quiet_1 : decode cX4_quiet 1 = .ok (.istore_n 1, 1) := by decide +kernel
theorem dX4_quiet_2 : decode cX4_quiet 2 = .ok (.iconst 0, 1) := by decide +kernel
theorem dX4_quiet_3 : decode cX4_quiet 3 = .ok (.istore_n 2, 1) := by decide +kernel
theorem dX4_quiet_4 : decode cX4_quiet 4 = .ok (.aload_n 0, 1) := by decide +kernel
theorem dX4_quiet_5 : decode cX4_quiet 5 = .ok (.getfield 33, 3) := by decide +kernel
theorem dX4_quiet_8 : decode cX4_quiet 8 = .ok (.aload_n 0, 1) := by decide +kernel
theorem dX4_quiet_9 : decode cX4_quiet 9 = .ok (.getfield 29, 3) := by decide +kernel
theorem dX4_quiet_12 : decode cX4_quiet 12 = .ok (.invokevirtual 162, 3) := by decide +kernel
theorem dX4_quiet_15 : decode cX4_quiet 15 = .ok (.iconst 0, 1) := by decide +kernel
theorem dX4_quiet_16 : decode cX4_quiet 16 = .ok (.istore_n 3, 1) := by decide +kernel
theorem dX4_quiet_17 : decode cX4_quiet 17 = .ok (.iload_n 3, 1) := by decide +kernel
theorem dX4_quiet_18 : decode cX4_quiet 18 = .ok (.bipush 60, 2) := by decide +kernel
theorem dX4_quiet_20 : decode cX4_quiet 20 = .ok (.if_icmp .ge 59, 3) := by decide +kernel
theorem dX4_quiet_23 : decode cX4_quiet 23 = .ok (.aload_n 0, 1) := by decide +kernel
theorem dX4_quiet_24 : decode cX4_quiet 24 = .ok (.getfield 33, 3) := by decide +kernel
theorem dX4_quiet_27 : decode cX4_quiet 27 = .ok (.aload_n 0, 1) := by decide +kernel
theorem dX4_quiet_28 : decode cX4_quiet 28 = .ok (.getfield 19, 3) := by decide +kernel
theorem dX4_quiet_31 : decode cX4_quiet 31 = .ok (.invokevirtual 168, 3) := by decide +kernel
theorem dX4_quiet_34 : decode cX4_quiet 34 = .ok (.aload_n 0, 1) := by decide +kernel
theorem dX4_quiet_35 : decode cX4_quiet 35 = .ok (.getfield 33, 3) := by decide +kernel
theorem dX4_quiet_38 : decode cX4_quiet 38 = .ok (.aload_n 0, 1) := by decide +kernel
theorem dX4_quiet_39 : decode cX4_quiet 39 = .ok (.getfield 19, 3) := by decide +kernel
theorem dX4_quiet_42 : decode cX4_quiet 42 = .ok (.invokevirtual 165, 3) := by decide +kernel
theorem dX4_quiet_45 : decode cX4_quiet 45 = .ok (.ifCond .ne 9, 3) := by decide +kernel
theorem dX4_quiet_48 : decode cX4_quiet 48 = .ok (.iload_n 1, 1) := by decide +kernel
theorem dX4_quiet_49 : decode cX4_quiet 49 = .ok (.iconst 1, 1) := by decide +kernel
theorem dX4_quiet_50 : decode cX4_quiet 50 = .ok (.iadd, 1) := by decide +kernel
theorem dX4_quiet_51 : decode cX4_quiet 51 = .ok (.goto 4, 3) := by decide +kernel
theorem dX4_quiet_54 : decode cX4_quiet 54 = .ok (.iconst 0, 1) := by decide +kernel
theorem dX4_quiet_55 : decode cX4_quiet 55 = .ok (.istore_n 1, 1) := by decide +kernel
theorem dX4_quiet_56 : decode cX4_quiet 56 = .ok (.iload_n 2, 1) := by decide +kernel
theorem dX4_quiet_57 : decode cX4_quiet 57 = .ok (.iload_n 1, 1) := by decide +kernel
theorem dX4_quiet_58 : decode cX4_quiet 58 = .ok (.invokestatic 177, 3) := by decide +kernel
theorem dX4_quiet_61 : decode cX4_quiet 61 = .ok (.istore_n 2, 1) := by decide +kernel
theorem dX4_quiet_62 : decode cX4_quiet 62 = .ok (.aload_n 0, 1) := by decide +kernel
theorem dX4_quiet_63 : decode cX4_quiet 63 = .ok (.getfield 33, 3) := by decide +kernel
theorem dX4_quiet_66 : decode cX4_quiet 66 = .ok (.aload_n 0, 1) := by decide +kernel
theorem dX4_quiet_67 : decode cX4_quiet 67 = .ok (.getfield 19, 3) := by decide +kernel
theorem dX4_quiet_70 : decode cX4_quiet 70 = .ok (.invokevirtual 174, 3) := by decide +kernel
theorem dX4_quiet_73 : decode cX4_quiet 73 = .ok (.iinc 3 1, 3) := by decide +kernel
theorem dX4_quiet_76 : decode cX4_quiet 76 = .ok (.goto (-59), 3) := by decide +kernel
theorem dX4_quiet_79 : decode cX4_quiet 79 = .ok (.iload_n 2, 1) := by decide +kernel
theorem dX4_quiet_80 : decode cX4_quiet 80 = .ok (.ireturn, 1) := by decide +kernel
set_option maxRecDepth 20000 in
theorem ggX4_stop_X4_isGoing : GoodIn wsX4_stop wsX4_isGoing := goodIn_r _ [7, 8, 9, 85, 86, 87, 88, 89, 90, 91, 92, 93, 94, 101, 102, 103, 104, 105, 106, 107, 108, 109, 110, 111, 112, 113] (by decide +kernel) (by decide +kernel)
set_option maxRecDepth 20000 in
theorem gX4_stop_X4_isGoing : GoodIn wsX4_stop (wsV RX4 91 RX4 yX4_isGoing wsX4_isGoing) := goodIn_app (goodIn_of _ (by decide +kernel)) ggX4_stop_X4_isGoing
set_option maxRecDepth 20000 in
theorem ggX4_stop_X4_isEither : GoodIn wsX4_stop wsX4_isEither := goodIn_r _ [12] (by decide +kernel) (by decide +kernel)
set_option maxRecDepth 20000 in
theorem gX4_stop_X4_isEither : GoodIn wsX4_stop (va_wsS RX4 159 yX4_isEither wsX4_isEither) := goodIn_app (goodIn_of _ (by decide +kernel)) ggX4_stop_X4_isEither
set_option maxRecDepth 20000 in
theorem ggX4_stop_X4_hadAsItIs : GoodIn wsX4_stop wsX4_hadAsItIs := goodIn_r _ [16, 17, 1, 8, 18, 19, 20, 21, 22, 23, 24, 25, 26, 27, 28, 29, 30, 31, 32, 33, 34, 35, 36, 37, 38, 39, 40, 41, 42, 43, 44, 45, 46, 47, 48, 49, 50, 51, 52, 53, 54, 6, 55, 56, 57, 58, 59, 60, 61, 62, 63, 64, 65, 66, 67, 68, 69, 70, 71, 72, 73, 74, 75, 76, 85, 86, 87, 88, 89, 90, 91, 92, 93, 94, 95, 96, 97, 98, 99, 100, 101, 102, 103, 104, 105, 106, 107, 108, 109, 110, 111, 112, 113] (by decide +kernel) (by decide +kernel)
set_option maxRecDepth 20000 in
theorem gX4_stop_X4_hadAsItIs : GoodIn wsX4_stop (wsV RX4 183 RX4 yX4_hadAsItIs wsX4_hadAsItIs) := goodIn_app (goodIn_of _ (by decide +kernel)) ggX4_stop_X4_hadAsItIs
set_option maxRecDepth 20000 in
theorem ggX4_stop_X4_hadStopping : GoodIn wsX4_stop wsX4_hadStopping := goodIn_r _ [80, 17, 1, 8, 2, 18, 19, 20, 21, 22, 23, 24, 25, 26, 27, 28, 29, 30, 31, 32, 33, 34, 35, 36, 37, 38, 39, 40, 41, 42, 43, 44, 45, 46, 47, 48, 49, 50, 51, 52, 53, 54, 6, 55, 56, 57, 58, 59, 60, 61, 62, 63, 64, 65, 66, 67, 68, 69, 70, 71, 72, 73, 74, 75, 76, 81, 85, 86, 87, 88, 89, 90, 91, 92, 93, 94, 95, 96, 97, 98, 99, 100, 101, 102, 103, 104, 105, 106, 107, 108, 109, 110, 111, 112, 113] (by decide +kernel) (by decide +kernel)
set_option maxRecDepth 20000 in
theorem gX4_stop_X4_hadStopping : GoodIn wsX4_stop (wsV RX4 186 RX4 yX4_hadStopping wsX4_hadStopping) := goodIn_app (goodIn_of _ (by decide +kernel)) ggX4_stop_X4_hadStopping
set_option maxRecDepth 20000 in
theorem ggX4_stop_X4_whichOrHad : GoodIn wsX4_stop wsX4_whichOrHad := goodIn_r _ [84] (by decide +kernel) (by decide +kernel)
set_option maxRecDepth 20000 in
theorem gX4_stop_X4_whichOrHad : GoodIn wsX4_stop (va_wsS RX4 189 yX4_whichOrHad wsX4_whichOrHad) := goodIn_app (goodIn_of _ (by decide +kernel)) ggX4_stop_X4_whichOrHad
theorem dX4_stop_0 : decode cX4_stop 0 = .ok (.aload_n 0, 1) := by decide +kernel
theorem dX4_stop_1 : decode cX4_stop 1 = .ok (.iload_n 1, 1) := by decide +kernel
theorem dX4_stop_2 : decode cX4_stop 2 = .ok (.invokevirtual 91, 3) := by decide +kernel
theorem dX4_stop_5 : decode cX4_stop 5 = .ok (.ifCond .eq 10, 3) := by decide +kernel
theorem dX4_stop_8 : decode cX4_stop 8 = .ok (.iload_n 2, 1) := by decide +kernel
theorem dX4_stop_9 : decode cX4_stop 9 = .ok (.invokestatic 159, 3) := by decide +kernel
theorem dX4_stop_12 : decode cX4_stop 12 = .ok (.ifCond .ne 5, 3) := by decide +kernel
theorem dX4_stop_15 : decode cX4_stop 15 = .ok (.iconst (-1), 1) := by decide +kernel
theorem dX4_stop_16 : decode cX4_stop 16 = .ok (.ireturn, 1) := by decide +kernel
theorem dX4_stop_17 : decode cX4_stop 17 = .ok (.aload_n 0, 1) := by decide +kernel
theorem dX4_stop_18 : decode cX4_stop 18 = .ok (.getfield 29, 3) := by decide +kernel
theorem dX4_stop_21 : decode cX4_stop 21 = .ok (.getfield 106, 3) := by decide +kernel
theorem dX4_stop_24 : decode cX4_stop 24 = .ok (.iload_n 1, 1) := by decide +kernel
theorem dX4_stop_25 : decode cX4_stop 25 = .ok (.iaload, 1) := by decide +kernel
theorem dX4_stop_26 : decode cX4_stop 26 = .ok (.iconst 2, 1) := by decide +kernel
theorem dX4_stop_27 : decode cX4_stop 27 = .ok (.if_icmp .eq 16, 3) := by decide +kernel
theorem dX4_stop_30 : decode cX4_stop 30 = .ok (.aload_n 0, 1) := by decide +kernel
theorem dX4_stop_31 : decode cX4_stop 31 = .ok (.getfield 29, 3) := by decide +kernel
theorem dX4_stop_34 : decode cX4_stop 34 = .ok (.getfield 106, 3) := by decide +kernel
theorem dX4_stop_37 : decode cX4_stop 37 = .ok (.iload_n 1, 1) := by decide +kernel
theorem dX4_stop_38 : decode cX4_stop 38 = .ok (.iaload, 1) := by decide +kernel
theorem dX4_stop_39 : decode cX4_stop 39 = .ok (.iconst 3, 1) := by decide +kernel
theorem dX4_stop_40 : decode cX4_stop 40 = .ok (.if_icmp .ne 6, 3) := by decide +kernel
theorem dX4_stop_43 : decode cX4_stop 43 = .ok (.bipush (-2), 2) := by decide +kernel
theorem dX4_stop_45 : decode cX4_stop 45 = .ok (.ireturn, 1) := by decide +kernel
theorem dX4_stop_46 : decode cX4_stop 46 = .ok (.bipush (-4), 2) := by decide +kernel
theorem dX4_stop_48 : decode cX4_stop 48 = .ok (.istore_n 3, 1) := by decide +kernel
theorem dX4_stop_49 : decode cX4_stop 49 = .ok (.aload_n 0, 1) := by decide +kernel
theorem dX4_stop_50 : decode cX4_stop 50 = .ok (.invokevirtual 183, 3) := by decide +kernel
theorem dX4_stop_53 : decode cX4_stop 53 = .ok (.istore 4, 2) := by decide +kernel
theorem dX4_stop_55 : decode cX4_stop 55 = .ok (.iconst 0, 1) := by decide +kernel
theorem dX4_stop_56 : decode cX4_stop 56 = .ok (.istore 5, 2) := by decide +kernel
theorem dX4_stop_58 : decode cX4_stop 58 = .ok (.iload 5, 2) := by decide +kernel
theorem dX4_stop_60 : decode cX4_stop 60 = .ok (.bipush 40, 2) := by decide +kernel
theorem dX4_stop_62 : decode cX4_stop 62 = .ok (.if_icmp .gt 32, 3) := by decide +kernel
theorem dX4_stop_65 : decode cX4_stop 65 = .ok (.aload_n 0, 1) := by decide +kernel
theorem dX4_stop_66 : decode cX4_stop 66 = .ok (.iload_n 1, 1) := by decide +kernel
theorem dX4_stop_67 : decode cX4_stop 67 = .ok (.iload 5, 2) := by decide +kernel
theorem dX4_stop_69 : decode cX4_stop 69 = .ok (.invokevirtual 186, 3) := by decide +kernel
theorem dX4_stop_72 : decode cX4_stop 72 = .ok (.istore 6, 2) := by decide +kernel
theorem dX4_stop_74 : decode cX4_stop 74 = .ok (.iload 6, 2) := by decide +kernel
theorem dX4_stop_76 : decode cX4_stop 76 = .ok (.iload 4, 2) := by decide +kernel
theorem dX4_stop_78 : decode cX4_stop 78 = .ok (.if_icmp .le 10, 3) := by decide +kernel
theorem dX4_stop_81 : decode cX4_stop 81 = .ok (.iload 5, 2) := by decide +kernel
theorem dX4_stop_83 : decode cX4_stop 83 = .ok (.istore_n 3, 1) := by decide +kernel
theorem dX4_stop_84 : decode cX4_stop 84 = .ok (.iload 6, 2) := by decide +kernel
theorem dX4_stop_86 : decode cX4_stop 86 = .ok (.istore 4, 2) := by decide +kernel
theorem dX4_stop_88 : decode cX4_stop 88 = .ok (.iinc 5 1, 3) := by decide +kernel
theorem dX4_stop_91 : decode cX4_stop 91 = .ok (.goto (-33), 3) := by decide +kernel
theorem dX4_stop_94 : decode cX4_stop 94 = .ok (.iload_n 3, 1) := by decide +kernel
theorem dX4_stop_95 : decode cX4_stop 95 = .ok (.iload 4, 2) := by decide +kernel
theorem dX4_stop_97 : decode cX4_stop 97 = .ok (.iload_n 2, 1) := by decide +kernel
theorem dX4_stop_98 : decode cX4_stop 98 = .ok (.invokestatic 189, 3) := by decide +kernel
theorem dX4_stop_101 : decode cX4_stop 101 = .ok (.ireturn, 1) := by decide +kernel
set_option maxRecDepth 20000 in
theorem ggX4_best_X4_isEither : GoodIn wsX4_best wsX4_isEither := goodIn_r _ [8] (by decide +kernel) (by decide +kernel)
set_option maxRecDepth 20000 in
theorem gX4_best_X4_isEither : GoodIn wsX4_best (va_wsS RX4 159 yX4_isEither wsX4_isEither) := goodIn_app (goodIn_of _ (by decide +kernel)) ggX4_best_X4_isEither
set_option maxRecDepth 20000 in
theorem ggX4_best_X4_hadAsItIs : GoodIn wsX4_best wsX4_hadAsItIs := goodIn_r _ [12, 13, 4, 1, 14, 15, 16, 17, 18, 19, 20, 21, 22, 23, 24, 25, 26, 27, 28, 29, 30, 31, 32, 33, 34, 35, 36, 37, 38, 39, 40, 41, 42, 43, 44, 45, 46, 47, 48, 49, 50, 7, 51, 52, 53, 54, 55, 56, 57, 58, 59, 60, 61, 62, 63, 64, 65, 66, 67, 68, 69, 70, 71, 72, 86, 87, 88, 89, 90, 91, 92, 93, 94, 95, 109, 110, 111, 112, 113, 114, 96, 97, 98, 99, 100, 101, 102, 103, 104, 105, 106, 107, 108] (by decide +kernel) (by decide +kernel)
set_option maxRecDepth 20000 in
theorem gX4_best_X4_hadAsItIs : GoodIn wsX4_best (wsV RX4 183 RX4 yX4_hadAsItIs wsX4_hadAsItIs) := goodIn_app (goodIn_of _ (by decide +kernel)) ggX4_best_X4_hadAsItIs
set_option maxRecDepth 20000 in
theorem ggX4_best_X2_canPin : GoodIn wsX4_best wsX2_canPin := goodIn_r _ [76, 77, 47, 29, 22, 96, 97, 98, 99, 100, 101, 102, 103, 104, 105, 106, 107, 108, 109, 110, 111, 112, 113, 114] (by decide +kernel) (by decide +kernel)
set_option maxRecDepth 20000 in
theorem gX4_best_X2_canPin : GoodIn wsX4_best (wsV RX4 143 RX2 yX2_canPin wsX2_canPin) := goodIn_app (goodIn_of _ (by decide +kernel)) ggX4_best_X2_canPin
set_option maxRecDepth 20000 in
theorem ggX4_best_X4_hadPinning : GoodIn wsX4_best wsX4_hadPinning := goodIn_r _ [81, 13, 4, 1, 3, 14, 15, 16, 17, 18, 19, 20, 21, 22, 23, 24, 25, 26, 27, 28, 29, 82, 65, 66, 67, 68, 69, 70, 71, 72, 53, 54, 55, 30, 31, 32, 33, 34, 35, 36, 37, 38, 39, 40, 41, 42, 43, 44, 45, 46, 47, 48, 49, 50, 7, 51, 52, 56, 57, 58, 59, 60, 61, 62, 63, 64, 86, 87, 88, 89, 90, 91, 92, 93, 94, 95, 96, 97, 98, 99, 100, 101, 102, 103, 104, 105, 106, 107, 108, 109, 110, 111, 112, 113, 114] (by decide +kernel) (by decide +kernel)
set_option maxRecDepth 20000 in
theorem gX4_best_X4_hadPinning : GoodIn wsX4_best (wsV RX4 196 RX4 yX4_hadPinning wsX4_hadPinning) := goodIn_app (goodIn_of _ (by decide +kernel)) ggX4_best_X4_hadPinning
set_option maxRecDepth 20000 in
theorem ggX4_best_X4_whichOrHad : GoodIn wsX4_best wsX4_whichOrHad := goodIn_r _ [85] (by decide +kernel) (by decide +kernel)
set_option maxRecDepth 20000 in
theorem gX4_best_X4_whichOrHad : GoodIn wsX4_best (va_wsS RX4 189 yX4_whichOrHad wsX4_whichOrHad) := goodIn_app (goodIn_of _ (by decide +kernel)) ggX4_best_X4_whichOrHad
theorem dX4_best_0 : decode cX4_best 0 = .ok (.iload_n 1, 1) := by decide +kernel
theorem dX4_best_1 : decode cX4_best 1 = .ok (.invokestatic 159, 3) := by decide +kernel
theorem dX4_best_4 : decode cX4_best 4 = .ok (.ifCond .ne 5, 3) := by decide +kernel
theorem dX4_best_7 : decode cX4_best 7 = .ok (.iconst (-1), 1) := by decide +kernel
theorem dX4_best_8 : decode cX4_best 8 = .ok (.ireturn, 1) := by decide +kernel
theorem dX4_best_9 : decode cX4_best 9 = .ok (.bipush (-4), 2) := by decide +kernel
theorem dX4_best_11 : decode cX4_best 11 = .ok (.istore_n 2, 1) := by decide +kernel
theorem dX4_best_12 : decode cX4_best 12 = .ok (.aload_n 0, 1) := by decide +kernel
theorem dX4_best_13 : decode cX4_best 13 = .ok (.invokevirtual 183, 3) := by decide +kernel
theorem dX4_best_16 : decode cX4_best 16 = .ok (.istore_n 3, 1) := by decide +kernel
theorem dX4_best_17 : decode cX4_best 17 = .ok (.iconst 0, 1) := by decide +kernel
theorem dX4_best_18 : decode cX4_best 18 = .ok (.istore 4, 2) := by decide +kernel
theorem dX4_best_20 : decode cX4_best 20 = .ok (.iload 4, 2) := by decide +kernel
theorem dX4_best_22 : decode cX4_best 22 = .ok (.aload_n 0, 1) := by decide +kernel
theorem dX4_best_23 : decode cX4_best 23 = .ok (.getfield 19, 3) := by decide +kernel
theorem dX4_best_26 : decode cX4_best 26 = .ok (.getfield 193, 3) := by decide +kernel
theorem dX4_best_29 : decode cX4_best 29 = .ok (.if_icmp .ge 80, 3) := by decide +kernel
theorem dX4_best_32 : decode cX4_best 32 = .ok (.iconst 0, 1) := by decide +kernel
theorem dX4_best_33 : decode cX4_best 33 = .ok (.istore 5, 2) := by decide +kernel
theorem dX4_best_35 : decode cX4_best 35 = .ok (.iload 5, 2) := by decide +kernel
theorem dX4_best_37 : decode cX4_best 37 = .ok (.aload_n 0, 1) := by decide +kernel
theorem dX4_best_38 : decode cX4_best 38 = .ok (.getfield 19, 3) := by decide +kernel
theorem dX4_best_41 : decode cX4_best 41 = .ok (.getfield 82, 3) := by decide +kernel
theorem dX4_best_44 : decode cX4_best 44 = .ok (.if_icmp .ge 59, 3) := by decide +kernel
theorem dX4_best_47 : decode cX4_best 47 = .ok (.aload_n 0, 1) := by decide +kernel
theorem dX4_best_48 : decode cX4_best 48 = .ok (.getfield 29, 3) := by decide +kernel
theorem dX4_best_51 : decode cX4_best 51 = .ok (.aload_n 0, 1) := by decide +kernel
theorem dX4_best_52 : decode cX4_best 52 = .ok (.getfield 19, 3) := by decide +kernel
theorem dX4_best_55 : decode cX4_best 55 = .ok (.iload 4, 2) := by decide +kernel
theorem dX4_best_57 : decode cX4_best 57 = .ok (.iload 5, 2) := by decide +kernel
theorem dX4_best_59 : decode cX4_best 59 = .ok (.invokevirtual 143, 3) := by decide +kernel
theorem dX4_best_62 : decode cX4_best 62 = .ok (.ifCond .eq 14, 3) := by decide +kernel
theorem dX4_best_65 : decode cX4_best 65 = .ok (.aload_n 0, 1) := by decide +kernel
theorem dX4_best_66 : decode cX4_best 66 = .ok (.iconst 1, 1) := by decide +kernel
theorem dX4_best_67 : decode cX4_best 67 = .ok (.iload 5, 2) := by decide +kernel
theorem dX4_best_69 : decode cX4_best 69 = .ok (.ishl, 1) := by decide +kernel
theorem dX4_best_70 : decode cX4_best 70 = .ok (.invokevirtual 196, 3) := by decide +kernel
theorem dX4_best_73 : decode cX4_best 73 = .ok (.goto 4, 3) := by decide +kernel
theorem dX4_best_76 : decode cX4_best 76 = .ok (.iload_n 3, 1) := by decide +kernel
theorem dX4_best_77 : decode cX4_best 77 = .ok (.istore 6, 2) := by decide +kernel
theorem dX4_best_79 : decode cX4_best 79 = .ok (.iload 6, 2) := by decide +kernel
theorem dX4_best_81 : decode cX4_best 81 = .ok (.iload_n 3, 1) := by decide +kernel
theorem dX4_best_82 : decode cX4_best 82 = .ok (.if_icmp .le 15, 3) := by decide +kernel
theorem dX4_best_85 : decode cX4_best 85 = .ok (.bipush 10, 2) := by decide +kernel
theorem dX4_best_87 : decode cX4_best 87 = .ok (.iload 4, 2) := by decide +kernel
theorem dX4_best_89 : decode cX4_best 89 = .ok (.imul, 1) := by decide +kernel
theorem dX4_best_90 : decode cX4_best 90 = .ok (.iload 5, 2) := by decide +kernel
theorem dX4_best_92 : decode cX4_best 92 = .ok (.iadd, 1) := by decide +kernel
theorem dX4_best_93 : decode cX4_best 93 = .ok (.istore_n 2, 1) := by decide +kernel
theorem dX4_best_94 : decode cX4_best 94 = .ok (.iload 6, 2) := by decide +kernel
theorem dX4_best_96 : decode cX4_best 96 = .ok (.istore_n 3, 1) := by decide +kernel
theorem dX4_best_97 : decode cX4_best 97 = .ok (.iinc 5 1, 3) := by decide +kernel
theorem dX4_best_100 : decode cX4_best 100 = .ok (.goto (-65), 3) := by decide +kernel
theorem dX4_best_103 : decode cX4_best 103 = .ok (.iinc 4 1, 3) := by decide +kernel
theorem dX4_best_106 : decode cX4_best 106 = .ok (.goto (-86), 3) := by decide +kernel
theorem dX4_best_109 : decode cX4_best 109 = .ok (.iload_n 2, 1) := by decide +kernel
theorem dX4_best_110 : decode cX4_best 110 = .ok (.iload_n 3, 1) := by decide +kernel
theorem dX4_best_111 : decode cX4_best 111 = .ok (.iload_n 1, 1) := by decide +kernel
theorem dX4_best_112 : decode cX4_best 112 = .ok (.invokestatic 189, 3) := by decide +kernel
theorem dX4_best_115 : decode cX4_best 115 = .ok (.ireturn, 1) := by decide +kernel
set_option maxRecDepth 20000 in
theorem ggX4_both_X4_isEither : GoodIn wsX4_both wsX4_isEither := goodIn_r _ [8] (by decide +kernel) (by decide +kernel)
set_option maxRecDepth 20000 in
theorem gX4_both_X4_isEither : GoodIn wsX4_both (va_wsS RX4 159 yX4_isEither wsX4_isEither) := goodIn_app (goodIn_of _ (by decide +kernel)) ggX4_both_X4_isEither
set_option maxRecDepth 20000 in
theorem ggX4_both_X4_hadPinning : GoodIn wsX4_both wsX4_hadPinning := goodIn_r _ [12, 13, 3, 1, 2, 14, 15, 16, 17, 18, 19, 20, 21, 22, 23, 24, 25, 26, 27, 28, 29, 30, 31, 32, 33, 34, 35, 36, 37, 38, 39, 40, 41, 42, 43, 44, 45, 46, 47, 48, 49, 50, 51, 52, 53, 54, 55, 56, 57, 58, 59, 60, 61, 62, 7, 63, 64, 65, 66, 67, 68, 69, 70, 71, 72, 73, 77, 78, 79, 80, 81, 82, 83, 84, 85, 86, 87, 88, 89, 90, 91, 92, 93, 94, 95, 96, 97, 98, 99, 100, 101, 102, 103, 104, 105] (by decide +kernel) (by decide +kernel)
set_option maxRecDepth 20000 in
theorem gX4_both_X4_hadPinning : GoodIn wsX4_both (wsV RX4 196 RX4 yX4_hadPinning wsX4_hadPinning) := goodIn_app (goodIn_of _ (by decide +kernel)) ggX4_both_X4_hadPinning
set_option maxRecDepth 20000 in
theorem ggX4_both_X4_whichOrHad : GoodIn wsX4_both wsX4_whichOrHad := goodIn_r _ [76] (by decide +kernel) (by decide +kernel)
set_option maxRecDepth 20000 in
theorem gX4_both_X4_whichOrHad : GoodIn wsX4_both (va_wsS RX4 189 yX4_whichOrHad wsX4_whichOrHad) := goodIn_app (goodIn_of _ (by decide +kernel)) ggX4_both_X4_whichOrHad
theorem dX4_both_0 : decode cX4_both 0 = .ok (.iload_n 1, 1) := by decide +kernel
theorem dX4_both_1 : decode cX4_both 1 = .ok (.invokestatic 159, 3) := by decide +kernel
theorem dX4_both_4 : decode cX4_both 4 = .ok (.ifCond .ne 5, 3) := by decide +kernel
theorem dX4_both_7 : decode cX4_both 7 = .ok (.iconst (-1), 1) := by decide +kernel
theorem dX4_both_8 : decode cX4_both 8 = .ok (.ireturn, 1) := by decide +kernel
theorem dX4_both_9 : decode cX4_both 9 = .ok (.bipush (-4), 2) := by decide +kernel
theorem dX4_both_11 : decode cX4_both 11 = .ok (.istore_n 2, 1) := by decide +kernel
theorem dX4_both_12 : decode cX4_both 12 = .ok (.iconst 0, 1) := by decide +kernel
theorem dX4_both_13 : decode cX4_both 13 = .ok (.istore_n 3, 1) := by decide +kernel
theorem dX4_both_14 : decode cX4_both 14 = .ok (.iconst 0, 1) := by decide +kernel
theorem dX4_both_15 : decode cX4_both 15 = .ok (.istore 4, 2) := by decide +kernel
theorem dX4_both_17 : decode cX4_both 17 = .ok (.iload 4, 2) := by decide +kernel
theorem dX4_both_19 : decode cX4_both 19 = .ok (.aload_n 0, 1) := by decide +kernel
theorem dX4_both_20 : decode cX4_both 20 = .ok (.getfield 19, 3) := by decide +kernel
theorem dX4_both_23 : decode cX4_both 23 = .ok (.getfield 82, 3) := by decide +kernel
theorem dX4_both_26 : decode cX4_both 26 = .ok (.if_icmp .ge 103, 3) := by decide +kernel
theorem dX4_both_29 : decode cX4_both 29 = .ok (.iload 4, 2) := by decide +kernel
theorem dX4_both_31 : decode cX4_both 31 = .ok (.iconst 1, 1) := by decide +kernel
theorem dX4_both_32 : decode cX4_both 32 = .ok (.iadd, 1) := by decide +kernel
theorem dX4_both_33 : decode cX4_both 33 = .ok (.istore 5, 2) := by decide +kernel
theorem dX4_both_35 : decode cX4_both 35 = .ok (.iload 5, 2) := by decide +kernel
theorem dX4_both_37 : decode cX4_both 37 = .ok (.aload_n 0, 1) := by decide +kernel
theorem dX4_both_38 : decode cX4_both 38 = .ok (.getfield 19, 3) := by decide +kernel
theorem dX4_both_41 : decode cX4_both 41 = .ok (.getfield 82, 3) := by decide +kernel
theorem dX4_both_44 : decode cX4_both 44 = .ok (.if_icmp .ge 79, 3) := by decide +kernel
theorem dX4_both_47 : decode cX4_both 47 = .ok (.aload_n 0, 1) := by decide +kernel
theorem dX4_both_48 : decode cX4_both 48 = .ok (.getfield 29, 3) := by decide +kernel
theorem dX4_both_51 : decode cX4_both 51 = .ok (.getfield 106, 3) := by decide +kernel
theorem dX4_both_54 : decode cX4_both 54 = .ok (.iload 4, 2) := by decide +kernel
theorem dX4_both_56 : decode cX4_both 56 = .ok (.iaload, 1) := by decide +kernel
theorem dX4_both_57 : decode cX4_both 57 = .ok (.iconst 1, 1) := by decide +kernel
theorem dX4_both_58 : decode cX4_both 58 = .ok (.if_icmp .ne 59, 3) := by decide +kernel
theorem dX4_both_61 : decode cX4_both 61 = .ok (.aload_n 0, 1) := by decide +kernel
theorem dX4_both_62 : decode cX4_both 62 = .ok (.getfield 29, 3) := by decide +kernel
theorem dX4_both_65 : decode cX4_both 65 = .ok (.getfield 106, 3) := by decide +kernel
theorem dX4_both_68 : decode cX4_both 68 = .ok (.iload 5, 2) := by decide +kernel
theorem dX4_both_70 : decode cX4_both 70 = .ok (.iaload, 1) := by decide +kernel
theorem dX4_both_71 : decode cX4_both 71 = .ok (.iconst 1, 1) := by decide +kernel
theorem dX4_both_72 : decode cX4_both 72 = .ok (.if_icmp .eq 6, 3) := by decide +kernel
theorem dX4_both_75 : decode cX4_both 75 = .ok (.goto 42, 3) := by decide +kernel
theorem dX4_both_78 : decode cX4_both 78 = .ok (.aload_n 0, 1) := by decide +kernel
theorem dX4_both_79 : decode cX4_both 79 = .ok (.iconst 1, 1) := by decide +kernel
theorem dX4_both_80 : decode cX4_both 80 = .ok (.iload 4, 2) := by decide +kernel
theorem dX4_both_82 : decode cX4_both 82 = .ok (.ishl, 1) := by decide +kernel
theorem dX4_both_83 : decode cX4_both 83 = .ok (.iconst 1, 1) := by decide +kernel
theorem dX4_both_84 : decode cX4_both 84 = .ok (.iload 5, 2) := by decide +kernel
theorem dX4_both_86 : decode cX4_both 86 = .ok (.ishl, 1) := by decide +kernel
theorem dX4_both_87 : decode cX4_both 87 = .ok (.ior, 1) := by decide +kernel
theorem dX4_both_88 : decode cX4_both 88 = .ok (.invokevirtual 196, 3) := by decide +kernel
theorem dX4_both_91 : decode cX4_both 91 = .ok (.istore 6, 2) := by decide +kernel
theorem dX4_both_93 : decode cX4_both 93 = .ok (.iload_n 2, 1) := by decide +kernel
theorem dX4_both_94 : decode cX4_both 94 = .ok (.bipush (-4), 2) := by decide +kernel
theorem dX4_both_96 : decode cX4_both 96 = .ok (.if_icmp .eq 9, 3) := by decide +kernel
theorem dX4_both_99 : decode cX4_both 99 = .ok (.iload 6, 2) := by decide +kernel
theorem dX4_both_101 : decode cX4_both 101 = .ok (.iload_n 3, 1) := by decide +kernel
theorem dX4_both_102 : decode cX4_both 102 = .ok (.if_icmp .le 15, 3) := by decide +kernel
theorem dX4_both_105 : decode cX4_both 105 = .ok (.bipush 10, 2) := by decide +kernel
theorem dX4_both_107 : decode cX4_both 107 = .ok (.iload 4, 2) := by decide +kernel
theorem dX4_both_109 : decode cX4_both 109 = .ok (.imul, 1) := by decide +kernel
theorem dX4_both_110 : decode cX4_both 110 = .ok (.iload 5, 2) := by decide +kernel
theorem dX4_both_112 : decode cX4_both 112 = .ok (.iadd, 1) := by decide +kernel
theorem dX4_both_113 : decode cX4_both 113 = .ok (.istore_n 2, 1) := by decide +kernel
theorem dX4_both_114 : decode cX4_both 114 = .ok (.iload 6, 2) := by decide +kernel
theorem dX4_both_116 : decode cX4_both 116 = .ok (.istore_n 3, 1) := by decide +kernel
theorem dX4_both_117 : decode cX4_both 117 = .ok (.iinc 5 1, 3) := by decide +kernel
theorem dX4_both_120 : decode cX4_both 120 = .ok (.goto (-85), 3) := by decide +kernel
theorem dX4_both_123 : decode cX4_both 123 = .ok (.iinc 4 1, 3) := by decide +kernel
theorem dX4_both_126 : decode cX4_both 126 = .ok (.goto (-109), 3) := by decide +kernel
theorem dX4_both_129 : decode cX4_both 129 = .ok (.iload_n 2, 1) := by decide +kernel
theorem dX4_both_130 : decode cX4_both 130 = .ok (.iload_n 3, 1) := by decide +kernel
theorem dX4_both_131 : decode cX4_both 131 = .ok (.iload_n 1, 1) := by decide +kernel
theorem dX4_both_132 : decode cX4_both 132 = .ok (.invokestatic 189, 3) := by decide +kernel
theorem dX4_both_135 : decode cX4_both 135 = .ok (.ireturn, 1) := by decide +kernel
set_option maxRecDepth 20000 in
theorem ggX4_never_X4_isEither : GoodIn wsX4_never wsX4_isEither := goodIn_r _ [8] (by decide +kernel) (by decide +kernel)
set_option maxRecDepth 20000 in
theorem gX4_never_X4_isEither : GoodIn wsX4_never (va_wsS RX4 159 yX4_isEither wsX4_isEither) := goodIn_app (goodIn_of _ (by decide +kernel)) ggX4_never_X4_isEither
set_option maxRecDepth 20000 in
theorem ggX4_never_X4_hadAsItIs : GoodIn wsX4_never wsX4_hadAsItIs := goodIn_r _ [12, 13, 3, 1, 14, 15, 16, 17, 18, 19, 20, 21, 22, 23, 24, 25, 26, 27, 28, 29, 30, 31, 32, 33, 34, 35, 36, 37, 38, 39, 40, 41, 42, 43, 44, 45, 46, 47, 48, 49, 50, 7, 51, 52, 53, 54, 55, 56, 57, 58, 59, 60, 61, 62, 63, 64, 65, 66, 67, 68, 69, 70, 71, 72, 80, 81, 82, 83, 84, 85, 86, 87, 88, 89, 103, 104, 105, 106, 107, 108, 90, 91, 92, 93, 94, 95, 96, 97, 98, 99, 100, 101, 102] (by decide +kernel) (by decide +kernel)
set_option maxRecDepth 20000 in
theorem gX4_never_X4_hadAsItIs : GoodIn wsX4_never (wsV RX4 183 RX4 yX4_hadAsItIs wsX4_hadAsItIs) := goodIn_app (goodIn_of _ (by decide +kernel)) ggX4_never_X4_hadAsItIs
set_option maxRecDepth 20000 in
theorem ggX4_never_X4_hadWithout : GoodIn wsX4_never wsX4_hadWithout := goodIn_r _ [76, 13, 3, 4, 1, 14, 15, 16, 17, 18, 19, 20, 21, 22, 23, 24, 25, 26, 27, 28, 29, 30, 31, 32, 33, 34, 35, 36, 37, 38, 39, 40, 41, 42, 43, 44, 45, 46, 47, 48, 49, 50, 7, 51, 52, 53, 54, 55, 56, 57, 58, 59, 60, 61, 62, 63, 64, 65, 66, 67, 68, 69, 70, 71, 72, 80, 81, 82, 83, 84, 85, 86, 87, 88, 89, 103, 104, 105, 106, 107, 108, 90, 91, 92, 93, 94, 95, 96, 97, 98, 99, 100, 101, 102] (by decide +kernel) (by decide +kernel)
set_option maxRecDepth 20000 in
theorem gX4_never_X4_hadWithout : GoodIn wsX4_never (wsV RX4 199 RX4 yX4_hadWithout wsX4_hadWithout) := goodIn_app (goodIn_of _ (by decide +kernel)) ggX4_never_X4_hadWithout
set_option maxRecDepth 20000 in
theorem ggX4_never_X4_whichOrHad : GoodIn wsX4_never wsX4_whichOrHad := goodIn_r _ [79] (by decide +kernel) (by decide +kernel)
set_option maxRecDepth 20000 in
theorem gX4_never_X4_whichOrHad : GoodIn wsX4_never (va_wsS RX4 189 yX4_whichOrHad wsX4_whichOrHad) := goodIn_app (goodIn_of _ (by decide +kernel)) ggX4_never_X4_whichOrHad
theorem dX4_never_0 : decode cX4_never 0 = .ok (.iload_n 1, 1) := by decide +kernel
theorem dX4_never_1 : decode cX4_never 1 = .ok (.invokestatic 159, 3) := by decide +kernel
theorem dX4_never_4 : decode cX4_never 4 = .ok (.ifCond .ne 5, 3) := by decide +kernel
theorem dX4_never_7 : decode cX4_never 7 = .ok (.iconst (-1), 1) := by decide +kernel
theorem dX4_never_8 : decode cX4_never 8 = .ok (.ireturn, 1) := by decide +kernel
theorem dX4_never_9 : decode cX4_never 9 = .ok (.bipush (-4), 2) := by decide +kernel
theorem dX4_never_11 : decode cX4_never 11 = .ok (.istore_n 2, 1) := by decide +kernel
theorem dX4_never_12 : decode cX4_never 12 = .ok (.aload_n 0, 1) := by decide +kernel
theorem dX4_never_13 : decode cX4_never 13 = .ok (.invokevirtual 183, 3) := by decide +kernel
theorem dX4_never_16 : decode cX4_never 16 = .ok (.istore_n 3, 1) := by decide +kernel
theorem dX4_never_17 : decode cX4_never 17 = .ok (.iconst 0, 1) := by decide +kernel
theorem dX4_never_18 : decode cX4_never 18 = .ok (.istore 4, 2) := by decide +kernel
theorem dX4_never_20 : decode cX4_never 20 = .ok (.iload 4, 2) := by decide +kernel
theorem dX4_never_22 : decode cX4_never 22 = .ok (.aload_n 0, 1) := by decide +kernel
theorem dX4_never_23 : decode cX4_never 23 = .ok (.getfield 19, 3) := by decide +kernel
theorem dX4_never_26 : decode cX4_never 26 = .ok (.getfield 82, 3) := by decide +kernel
theorem dX4_never_29 : decode cX4_never 29 = .ok (.if_icmp .ge 46, 3) := by decide +kernel
theorem dX4_never_32 : decode cX4_never 32 = .ok (.aload_n 0, 1) := by decide +kernel
theorem dX4_never_33 : decode cX4_never 33 = .ok (.getfield 29, 3) := by decide +kernel
theorem dX4_never_36 : decode cX4_never 36 = .ok (.getfield 106, 3) := by decide +kernel
theorem dX4_never_39 : decode cX4_never 39 = .ok (.iload 4, 2) := by decide +kernel
theorem dX4_never_41 : decode cX4_never 41 = .ok (.iaload, 1) := by decide +kernel
theorem dX4_never_42 : decode cX4_never 42 = .ok (.ifCond .ne 12, 3) := by decide +kernel
theorem dX4_never_45 : decode cX4_never 45 = .ok (.aload_n 0, 1) := by decide +kernel
theorem dX4_never_46 : decode cX4_never 46 = .ok (.iload 4, 2) := by decide +kernel
theorem dX4_never_48 : decode cX4_never 48 = .ok (.invokevirtual 199, 3) := by decide +kernel
theorem dX4_never_51 : decode cX4_never 51 = .ok (.goto 4, 3) := by decide +kernel
theorem dX4_never_54 : decode cX4_never 54 = .ok (.iload_n 3, 1) := by decide +kernel
theorem dX4_never_55 : decode cX4_never 55 = .ok (.istore 5, 2) := by decide +kernel
theorem dX4_never_57 : decode cX4_never 57 = .ok (.iload 5, 2) := by decide +kernel
theorem dX4_never_59 : decode cX4_never 59 = .ok (.iload_n 3, 1) := by decide +kernel
theorem dX4_never_60 : decode cX4_never 60 = .ok (.if_icmp .le 9, 3) := by decide +kernel
theorem dX4_never_63 : decode cX4_never 63 = .ok (.iload 4, 2) := by decide +kernel
theorem dX4_never_65 : decode cX4_never 65 = .ok (.istore_n 2, 1) := by decide +kernel
theorem dX4_never_66 : decode cX4_never 66 = .ok (.iload 5, 2) := by decide +kernel
theorem dX4_never_68 : decode cX4_never 68 = .ok (.istore_n 3, 1) := by decide +kernel
theorem dX4_never_69 : decode cX4_never 69 = .ok (.iinc 4 1, 3) := by decide +kernel
theorem dX4_never_72 : decode cX4_never 72 = .ok (.goto (-52), 3) := by decide +kernel
theorem dX4_never_75 : decode cX4_never 75 = .ok (.iload_n 2, 1) := by decide +kernel
theorem dX4_never_76 : decode cX4_never 76 = .ok (.iload_n 3, 1) := by decide +kernel
theorem dX4_never_77 : decode cX4_never 77 = .ok (.iload_n 1, 1) := by decide +kernel
theorem dX4_never_78 : decode cX4_never 78 = .ok (.invokestatic 189, 3) := by decide +kernel
theorem dX4_never_81 : decode cX4_never 81 = .ok (.ireturn, 1) := by decide +kernel
theorem dX4_note_0 : decode cX4_note 0 = .ok (.iload_n 1, 1) := by decide +kernel
theorem dX4_note_1 : decode cX4_note 1 = .ok (.ifCond .lt 21, 3) := by decide +kernel
theorem dX4_note_4 : decode cX4_note 4 = .ok (.iload_n 1, 1) := by decide +kernel
theorem dX4_note_5 : decode cX4_note 5 = .ok (.bipush 39, 2) := by decide +kernel
theorem dX4_note_7 : decode cX4_note 7 = .ok (.if_icmp .gt 15, 3) := by decide +kernel
theorem dX4_note_10 : decode cX4_note 10 = .ok (.iload_n 2, 1) := by decide +kernel
theorem dX4_note_11 : decode cX4_note 11 = .ok (.bipush (-20), 2) := by decide +kernel
theorem dX4_note_13 : decode cX4_note 13 = .ok (.if_icmp .lt 9, 3) := by decide +kernel
theorem dX4_note_16 : decode cX4_note 16 = .ok (.iload_n 2, 1) := by decide +kernel
theorem dX4_note_17 : decode cX4_note 17 = .ok (.bipush 20, 2) := by decide +kernel
theorem dX4_note_19 : decode cX4_note 19 = .ok (.if_icmp .le 5, 3) := by decide +kernel
theorem dX4_note_22 : decode cX4_note 22 = .ok (.iconst (-1), 1) := by decide +kernel
theorem dX4_note_23 : decode cX4_note 23 = .ok (.ireturn, 1) := by decide +kernel
theorem dX4_note_24 : decode cX4_note 24 = .ok (.aload_n 0, 1) := by decide +kernel
theorem dX4_note_25 : decode cX4_note 25 = .ok (.getfield 88, 3) := by decide +kernel
theorem dX4_note_28 : decode cX4_note 28 = .ok (.bipush 8, 2) := by decide +kernel
theorem dX4_note_30 : decode cX4_note 30 = .ok (.if_icmp .lt 6, 3) := by decide +kernel
theorem dX4_note_33 : decode cX4_note 33 = .ok (.bipush (-3), 2) := by decide +kernel
theorem dX4_note_35 : decode cX4_note 35 = .ok (.ireturn, 1) := by decide +kernel
theorem dX4_note_36 : decode cX4_note 36 = .ok (.aload_n 0, 1) := by decide +kernel
theorem dX4_note_37 : decode cX4_note 37 = .ok (.getfield 48, 3) := by decide +kernel
theorem dX4_note_40 : decode cX4_note 40 = .ok (.aload_n 0, 1) := by decide +kernel
theorem dX4_note_41 : decode cX4_note 41 = .ok (.getfield 88, 3) := by decide +kernel
theorem dX4_note_44 : decode cX4_note 44 = .ok (.iload_n 1, 1) := by decide +kernel
theorem dX4_note_45 : decode cX4_note 45 = .ok (.iastore, 1) := by decide +kernel
theorem dX4_note_46 : decode cX4_note 46 = .ok (.aload_n 0, 1) := by decide +kernel
theorem dX4_note_47 : decode cX4_note 47 = .ok (.getfield 52, 3) := by decide +kernel
theorem dX4_note_50 : decode cX4_note 50 = .ok (.aload_n 0, 1) := by decide +kernel
theorem dX4_note_51 : decode cX4_note 51 = .ok (.getfield 88, 3) := by decide +kernel
theorem dX4_note_54 : decode cX4_note 54 = .ok (.iload_n 2, 1) := by decide +kernel
theorem dX4_note_55 : decode cX4_note 55 = .ok (.iastore, 1) := by decide +kernel
theorem dX4_note_56 : decode cX4_note 56 = .ok (.aload_n 0, 1) := by decide +kernel
theorem dX4_note_57 : decode cX4_note 57 = .ok (.dup, 1) := by decide +kernel
theorem dX4_note_58 : decode cX4_note 58 = .ok (.getfield 88, 3) := by decide +kernel
theorem dX4_note_61 : decode cX4_note 61 = .ok (.iconst 1, 1) := by decide +kernel
theorem dX4_note_62 : decode cX4_note 62 = .ok (.iadd, 1) := by decide +kernel
theorem dX4_note_63 : decode cX4_note 63 = .ok (.putfield 88, 3) := by decide +kernel
theorem dX4_note_66 : decode cX4_note 66 = .ok (.aload_n 0, 1) := by decide +kernel
theorem dX4_note_67 : decode cX4_note 67 = .ok (.getfield 88, 3) := by decide +kernel
theorem dX4_note_70 : decode cX4_note 70 = .ok (.ireturn, 1) := by decide +kernel
theorem dX4_forget_0 : decode cX4_forget 0 = .ok (.aload_n 0, 1) := by decide +kernel
theorem dX4_forget_1 : decode cX4_forget 1 = .ok (.getfield 88, 3) := by decide +kernel
theorem dX4_forget_4 : decode cX4_forget 4 = .ok (.istore_n 1, 1) := by decide +kernel
theorem dX4_forget_5 : decode cX4_forget 5 = .ok (.aload_n 0, 1) := by decide +kernel
theorem dX4_forget_6 : decode cX4_forget 6 = .ok (.iconst 0, 1) := by decide +kernel
theorem dX4_forget_7 : decode cX4_forget 7 = .ok (.putfield 88, 3) := by decide +kernel
theorem dX4_forget_10 : decode cX4_forget 10 = .ok (.iload_n 1, 1) := by decide +kernel
theorem dX4_forget_11 : decode cX4_forget 11 = .ok (.ireturn, 1) := by decide +kernel
set_option maxRecDepth 20000 in
theorem ggX4_waning_X4_isEither : GoodIn wsX4_waning wsX4_isEither := goodIn_r _ [4] (by decide +kernel) (by decide +kernel)
set_option maxRecDepth 20000 in
theorem gX4_waning_X4_isEither : GoodIn wsX4_waning (va_wsS RX4 159 yX4_isEither wsX4_isEither) := goodIn_app (goodIn_of _ (by decide +kernel)) ggX4_waning_X4_isEither
set_option maxRecDepth 20000 in
theorem ggX4_waning_X4_allNotedSo : GoodIn wsX4_waning wsX4_allNotedSo := goodIn_r _ [8, 9, 10, 11, 12, 13, 3, 14, 15, 16, 17, 18, 19, 20, 21, 22, 23, 24, 25, 26, 27, 28, 29, 30, 31] (by decide +kernel) (by decide +kernel)
set_option maxRecDepth 20000 in
theorem gX4_waning_X4_allNotedSo : GoodIn wsX4_waning (wsV RX4 202 RX4 yX4_allNotedSo wsX4_allNotedSo) := goodIn_app (goodIn_of _ (by decide +kernel)) ggX4_waning_X4_allNotedSo
theorem dX4_waning_0 : decode cX4_waning 0 = .ok (.iload_n 1, 1) := by decide +kernel
theorem dX4_waning_1 : decode cX4_waning 1 = .ok (.invokestatic 159, 3) := by decide +kernel
theorem dX4_waning_4 : decode cX4_waning 4 = .ok (.ifCond .ne 5, 3) := by decide +kernel
theorem dX4_waning_7 : decode cX4_waning 7 = .ok (.iconst (-1), 1) := by decide +kernel
theorem dX4_waning_8 : decode cX4_waning 8 = .ok (.ireturn, 1) := by decide +kernel
theorem dX4_waning_9 : decode cX4_waning 9 = .ok (.iconst 0, 1) := by decide +kernel
theorem dX4_waning_10 : decode cX4_waning 10 = .ok (.istore_n 2, 1) := by decide +kernel
theorem dX4_waning_11 : decode cX4_waning 11 = .ok (.bipush (-4), 2) := by decide +kernel
theorem dX4_waning_13 : decode cX4_waning 13 = .ok (.istore_n 3, 1) := by decide +kernel
theorem dX4_waning_14 : decode cX4_waning 14 = .ok (.iconst 0, 1) := by decide +kernel
theorem dX4_waning_15 : decode cX4_waning 15 = .ok (.istore 4, 2) := by decide +kernel
theorem dX4_waning_17 : decode cX4_waning 17 = .ok (.iload 4, 2) := by decide +kernel
theorem dX4_waning_19 : decode cX4_waning 19 = .ok (.bipush 20, 2) := by decide +kernel
theorem dX4_waning_21 : decode cX4_waning 21 = .ok (.if_icmp .gt 56, 3) := by decide +kernel
theorem dX4_waning_24 : decode cX4_waning 24 = .ok (.iconst 0, 1) := by decide +kernel
theorem dX4_waning_25 : decode cX4_waning 25 = .ok (.istore 5, 2) := by decide +kernel
theorem dX4_waning_27 : decode cX4_waning 27 = .ok (.iload 5, 2) := by decide +kernel
theorem dX4_waning_29 : decode cX4_waning 29 = .ok (.iconst 5, 1) := by decide +kernel
theorem dX4_waning_30 : decode cX4_waning 30 = .ok (.if_icmp .gt 41, 3) := by decide +kernel
theorem dX4_waning_33 : decode cX4_waning 33 = .ok (.aload_n 0, 1) := by decide +kernel
theorem dX4_waning_34 : decode cX4_waning 34 = .ok (.iconst 0, 1) := by decide +kernel
theorem dX4_waning_35 : decode cX4_waning 35 = .ok (.iload 4, 2) := by decide +kernel
theorem dX4_waning_37 : decode cX4_waning 37 = .ok (.iload 5, 2) := by decide +kernel
theorem dX4_waning_39 : decode cX4_waning 39 = .ok (.invokevirtual 202, 3) := by decide +kernel
theorem dX4_waning_42 : decode cX4_waning 42 = .ok (.ifCond .eq 23, 3) := by decide +kernel
theorem dX4_waning_45 : decode cX4_waning 45 = .ok (.iload_n 2, 1) := by decide +kernel
theorem dX4_waning_46 : decode cX4_waning 46 = .ok (.ifCond .ne 14, 3) := by decide +kernel
theorem dX4_waning_49 : decode cX4_waning 49 = .ok (.bipush 10, 2) := by decide +kernel
theorem dX4_waning_51 : decode cX4_waning 51 = .ok (.iload 4, 2) := by decide +kernel
theorem dX4_waning_53 : decode cX4_waning 53 = .ok (.imul, 1) := by decide +kernel
theorem dX4_waning_54 : decode cX4_waning 54 = .ok (.iload 5, 2) := by decide +kernel
theorem dX4_waning_56 : decode cX4_waning 56 = .ok (.iadd, 1) := by decide +kernel
theorem dX4_waning_57 : decode cX4_waning 57 = .ok (.goto 4, 3) := by decide +kernel
theorem dX4_waning_60 : decode cX4_waning 60 = .ok (.iload_n 3, 1) := by decide +kernel
theorem dX4_waning_61 : decode cX4_waning 61 = .ok (.istore_n 3, 1) := by decide +kernel
theorem dX4_waning_62 : decode cX4_waning 62 = .ok (.iinc 2 1, 3) := by decide +kernel
theorem dX4_waning_65 : decode cX4_waning 65 = .ok (.iinc 5 1, 3) := by decide +kernel
theorem dX4_waning_68 : decode cX4_waning 68 = .ok (.goto (-41), 3) := by decide +kernel
theorem dX4_waning_71 : decode cX4_waning 71 = .ok (.iinc 4 1, 3) := by decide +kernel
theorem dX4_waning_74 : decode cX4_waning 74 = .ok (.goto (-57), 3) := by decide +kernel
theorem dX4_waning_77 : decode cX4_waning 77 = .ok (.iload_n 1, 1) := by decide +kernel
theorem dX4_waning_78 : decode cX4_waning 78 = .ok (.ifCond .ne 7, 3) := by decide +kernel
theorem dX4_waning_81 : decode cX4_waning 81 = .ok (.iload_n 2, 1) := by decide +kernel
theorem dX4_waning_82 : decode cX4_waning 82 = .ok (.goto 4, 3) := by decide +kernel
theorem dX4_waning_85 : decode cX4_waning 85 = .ok (.iload_n 3, 1) := by decide +kernel
theorem dX4_waning_86 : decode cX4_waning 86 = .ok (.ireturn, 1) := by decide +kernel
set_option maxRecDepth 20000 in
theorem ggX4_kinds_X4_isGoing : GoodIn wsX4_kinds wsX4_isGoing := goodIn_r _ [8, 1, 9, 27, 28, 29, 30, 31, 32, 33, 34, 35, 36, 37, 38, 39, 40, 41, 42, 43, 44, 45, 46, 47, 48, 49] (by decide +kernel) (by decide +kernel)
set_option maxRecDepth 20000 in
theorem gX4_kinds_X4_isGoing : GoodIn wsX4_kinds (wsV RX4 91 RX4 yX4_isGoing wsX4_isGoing) := goodIn_app (goodIn_of _ (by decide +kernel)) ggX4_kinds_X4_isGoing
set_option maxRecDepth 20000 in
theorem ggX4_kinds_X4_allNotedSo : GoodIn wsX4_kinds wsX4_allNotedSo := goodIn_r _ [13, 14, 15, 16, 17, 18, 7, 19, 20, 21, 22, 23, 24, 25, 26, 27, 28, 29, 30, 31, 32, 33, 34, 35, 36] (by decide +kernel) (by decide +kernel)
set_option maxRecDepth 20000 in
theorem gX4_kinds_X4_allNotedSo : GoodIn wsX4_kinds (wsV RX4 202 RX4 yX4_allNotedSo wsX4_allNotedSo) := goodIn_app (goodIn_of _ (by decide +kernel)) ggX4_kinds_X4_allNotedSo
theorem dX4_kinds_0 : decode cX4_kinds 0 = .ok (.aload_n 0, 1) := by decide +kernel
theorem dX4_kinds_1 : decode cX4_kinds 1 = .ok (.iload_n 1, 1) := by decide +kernel
theorem dX4_kinds_2 : decode cX4_kinds 2 = .ok (.invokevirtual 91, 3) := by decide +kernel
theorem dX4_kinds_5 : decode cX4_kinds 5 = .ok (.ifCond .ne 5, 3) := by decide +kernel
theorem dX4_kinds_8 : decode cX4_kinds 8 = .ok (.iconst (-1), 1) := by decide +kernel
theorem dX4_kinds_9 : decode cX4_kinds 9 = .ok (.ireturn, 1) := by decide +kernel
theorem dX4_kinds_10 : decode cX4_kinds 10 = .ok (.iconst 0, 1) := by decide +kernel
theorem dX4_kinds_11 : decode cX4_kinds 11 = .ok (.istore_n 2, 1) := by decide +kernel
theorem dX4_kinds_12 : decode cX4_kinds 12 = .ok (.iconst 0, 1) := by decide +kernel
theorem dX4_kinds_13 : decode cX4_kinds 13 = .ok (.istore_n 3, 1) := by decide +kernel
theorem dX4_kinds_14 : decode cX4_kinds 14 = .ok (.iload_n 3, 1) := by decide +kernel
theorem dX4_kinds_15 : decode cX4_kinds 15 = .ok (.iconst 4, 1) := by decide +kernel
theorem dX4_kinds_16 : decode cX4_kinds 16 = .ok (.if_icmp .ge 41, 3) := by decide +kernel
theorem dX4_kinds_19 : decode cX4_kinds 19 = .ok (.aload_n 0, 1) := by decide +kernel
theorem dX4_kinds_20 : decode cX4_kinds 20 = .ok (.iload_n 3, 1) := by decide +kernel
theorem dX4_kinds_21 : decode cX4_kinds 21 = .ok (.aload_n 0, 1) := by decide +kernel
theorem dX4_kinds_22 : decode cX4_kinds 22 = .ok (.getfield 19, 3) := by decide +kernel
theorem dX4_kinds_25 : decode cX4_kinds 25 = .ok (.getfield 97, 3) := by decide +kernel
theorem dX4_kinds_28 : decode cX4_kinds 28 = .ok (.iload_n 1, 1) := by decide +kernel
theorem dX4_kinds_29 : decode cX4_kinds 29 = .ok (.iaload, 1) := by decide +kernel
theorem dX4_kinds_30 : decode cX4_kinds 30 = .ok (.aload_n 0, 1) := by decide +kernel
theorem dX4_kinds_31 : decode cX4_kinds 31 = .ok (.getfield 19, 3) := by decide +kernel
theorem dX4_kinds_34 : decode cX4_kinds 34 = .ok (.getfield 100, 3) := by decide +kernel
theorem dX4_kinds_37 : decode cX4_kinds 37 = .ok (.iload_n 1, 1) := by decide +kernel
theorem dX4_kinds_38 : decode cX4_kinds 38 = .ok (.iaload, 1) := by decide +kernel
theorem dX4_kinds_39 : decode cX4_kinds 39 = .ok (.invokevirtual 202, 3) := by decide +kernel
theorem dX4_kinds_42 : decode cX4_kinds 42 = .ok (.ifCond .eq 9, 3) := by decide +kernel
theorem dX4_kinds_45 : decode cX4_kinds 45 = .ok (.iload_n 2, 1) := by decide +kernel
theorem dX4_kinds_46 : decode cX4_kinds 46 = .ok (.iconst 1, 1) := by decide +kernel
theorem dX4_kinds_47 : decode cX4_kinds 47 = .ok (.iload_n 3, 1) := by decide +kernel
theorem dX4_kinds_48 : decode cX4_kinds 48 = .ok (.ishl, 1) := by decide +kernel
theorem dX4_kinds_49 : decode cX4_kinds 49 = .ok (.ior, 1) := by decide +kernel
theorem dX4_kinds_50 : decode cX4_kinds 50 = .ok (.istore_n 2, 1) := by decide +kernel
theorem dX4_kinds_51 : decode cX4_kinds 51 = .ok (.iinc 3 1, 3) := by decide +kernel
theorem dX4_kinds_54 : decode cX4_kinds 54 = .ok (.goto (-40), 3) := by decide +kernel
theorem dX4_kinds_57 : decode cX4_kinds 57 = .ok (.iload_n 2, 1) := by decide +kernel
theorem dX4_kinds_58 : decode cX4_kinds 58 = .ok (.ireturn, 1) := by decide +kernel
set_option maxRecDepth 20000 in
theorem ggX4_late_X4_isEither : GoodIn wsX4_late wsX4_isEither := goodIn_r _ [7] (by decide +kernel) (by decide +kernel)
set_option maxRecDepth 20000 in
theorem gX4_late_X4_isEither : GoodIn wsX4_late (va_wsS RX4 159 yX4_isEither wsX4_isEither) := goodIn_app (goodIn_of _ (by decide +kernel)) ggX4_late_X4_isEither
set_option maxRecDepth 20000 in
theorem ggX4_late_X2_soonBits : GoodIn wsX4_late wsX2_soonBits := goodIn_r _ [12, 13, 14, 15, 16, 93, 94, 95, 96, 97, 98, 99, 100, 101, 102, 103, 104, 105, 106, 107, 108, 109, 110, 111] (by decide +kernel) (by decide +kernel)
set_option maxRecDepth 20000 in
theorem gX4_late_X2_soonBits : GoodIn wsX4_late (wsV RX4 206 RX2 yX2_soonBits wsX2_soonBits) := goodIn_app (goodIn_of _ (by decide +kernel)) ggX4_late_X2_soonBits
set_option maxRecDepth 20000 in
theorem ggX4_late_X4_chanceOf : GoodIn wsX4_late wsX4_chanceOf := goodIn_r _ [19] (by decide +kernel) (by decide +kernel)
set_option maxRecDepth 20000 in
theorem gX4_late_X4_chanceOf : GoodIn wsX4_late (va_wsS RX4 209 yX4_chanceOf wsX4_chanceOf) := goodIn_app (goodIn_of _ (by decide +kernel)) ggX4_late_X4_chanceOf
set_option maxRecDepth 20000 in
theorem ggX4_late_X4_hadLate : GoodIn wsX4_late wsX4_hadLate := goodIn_r _ [23, 24, 1, 2, 3, 25, 26, 27, 28, 29, 11, 30, 16, 31, 14, 32, 33, 34, 35, 15, 36, 37, 38, 39, 40, 41, 42, 43, 44, 45, 13, 46, 47, 48, 49, 50, 51, 52, 53, 54, 55, 56, 57, 6, 58, 59, 60, 61, 62, 63, 64, 65, 66, 67, 68, 69, 70, 71, 72, 73, 74, 75, 76, 77, 78, 79, 83, 84, 85, 86, 87, 88, 89, 90, 91, 92, 93, 94, 95, 96, 97, 98, 99, 100, 101, 102, 103, 104, 105, 106, 107, 108, 109, 110, 111] (by decide +kernel) (by decide +kernel)
set_option maxRecDepth 20000 in
theorem gX4_late_X4_hadLate : GoodIn wsX4_late (wsV RX4 213 RX4 yX4_hadLate wsX4_hadLate) := goodIn_app (goodIn_of _ (by decide +kernel)) ggX4_late_X4_hadLate
set_option maxRecDepth 20000 in
theorem ggX4_late_X4_commonDivisor : GoodIn wsX4_late wsX4_commonDivisor := goodIn_r _ [82] (by decide +kernel) (by decide +kernel)
set_option maxRecDepth 20000 in
theorem gX4_late_X4_commonDivisor : GoodIn wsX4_late (va_wsS RX4 216 yX4_commonDivisor wsX4_commonDivisor) := goodIn_app (goodIn_of _ (by decide +kernel)) ggX4_late_X4_commonDivisor
theorem dX4_late_0 : decode cX4_late 0 = .ok (.iload_n 1, 1) := by decide +kernel
theorem dX4_late_1 : decode cX4_late 1 = .ok (.iconst 1, 1) := by decide +kernel
theorem dX4_late_2 : decode cX4_late 2 = .ok (.if_icmp .lt 38, 3) := by decide +kernel
theorem dX4_late_5 : decode cX4_late 5 = .ok (.iload_n 1, 1) := by decide +kernel
theorem dX4_late_6 : decode cX4_late 6 = .ok (.bipush 20, 2) := by decide +kernel
theorem dX4_late_8 : decode cX4_late 8 = .ok (.if_icmp .gt 32, 3) := by decide +kernel
theorem dX4_late_11 : decode cX4_late 11 = .ok (.iload_n 2, 1) := by decide +kernel
theorem dX4_late_12 : decode cX4_late 12 = .ok (.ifCond .lt 28, 3) := by decide +kernel
theorem dX4_late_15 : decode cX4_late 15 = .ok (.iload_n 2, 1) := by decide +kernel
theorem dX4_late_16 : decode cX4_late 16 = .ok (.bipush 10, 2) := by decide +kernel
theorem dX4_late_18 : decode cX4_late 18 = .ok (.if_icmp .gt 22, 3) := by decide +kernel
theorem dX4_late_21 : decode cX4_late 21 = .ok (.iload_n 3, 1) := by decide +kernel
theorem dX4_late_22 : decode cX4_late 22 = .ok (.ifCond .lt 18, 3) := by decide +kernel
theorem dX4_late_25 : decode cX4_late 25 = .ok (.iload_n 3, 1) := by decide +kernel
theorem dX4_late_26 : decode cX4_late 26 = .ok (.sipush 999, 3) := by decide +kernel
theorem dX4_late_29 : decode cX4_late 29 = .ok (.if_icmp .gt 11, 3) := by decide +kernel
theorem dX4_late_32 : decode cX4_late 32 = .ok (.iload 4, 2) := by decide +kernel
theorem dX4_late_34 : decode cX4_late 34 = .ok (.invokestatic 159, 3) := by decide +kernel
theorem dX4_late_37 : decode cX4_late 37 = .ok (.ifCond .ne 5, 3) := by decide +kernel
theorem dX4_late_40 : decode cX4_late 40 = .ok (.iconst (-1), 1) := by decide +kernel
theorem dX4_late_41 : decode cX4_late 41 = .ok (.ireturn, 1) := by decide +kernel
theorem dX4_late_42 : decode cX4_late 42 = .ok (.aload_n 0, 1) := by decide +kernel
theorem dX4_late_43 : decode cX4_late 43 = .ok (.getfield 29, 3) := by decide +kernel
theorem dX4_late_46 : decode cX4_late 46 = .ok (.aload_n 0, 1) := by decide +kernel
theorem dX4_late_47 : decode cX4_late 47 = .ok (.getfield 19, 3) := by decide +kernel
theorem dX4_late_50 : decode cX4_late 50 = .ok (.invokevirtual 206, 3) := by decide +kernel
theorem dX4_late_53 : decode cX4_late 53 = .ok (.istore 5, 2) := by decide +kernel
theorem dX4_late_55 : decode cX4_late 55 = .ok (.iconst 0, 1) := by decide +kernel
theorem dX4_late_56 : decode cX4_late 56 = .ok (.istore 6, 2) := by decide +kernel
theorem dX4_late_58 : decode cX4_late 58 = .ok (.iconst 0, 1) := by decide +kernel
theorem dX4_late_59 : decode cX4_late 59 = .ok (.iload 5, 2) := by decide +kernel
theorem dX4_late_61 : decode cX4_late 61 = .ok (.bipush 10, 2) := by decide +kernel
theorem dX4_late_63 : decode cX4_late 63 = .ok (.bipush 10, 2) := by decide +kernel
theorem dX4_late_65 : decode cX4_late 65 = .ok (.invokestatic 209, 3) := by decide +kernel
theorem dX4_late_68 : decode cX4_late 68 = .ok (.istore 7, 2) := by decide +kernel
theorem dX4_late_70 : decode cX4_late 70 = .ok (.iconst 0, 1) := by decide +kernel
theorem dX4_late_71 : decode cX4_late 71 = .ok (.istore 8, 2) := by decide +kernel
theorem dX4_late_73 : decode cX4_late 73 = .ok (.iload 8, 2) := by decide +kernel
theorem dX4_late_75 : decode cX4_late 75 = .ok (.iconst 1, 1) := by decide +kernel
theorem dX4_late_76 : decode cX4_late 76 = .ok (.aload_n 0, 1) := by decide +kernel
theorem dX4_late_77 : decode cX4_late 77 = .ok (.getfield 19, 3) := by decide +kernel
theorem dX4_late_80 : decode cX4_late 80 = .ok (.getfield 82, 3) := by decide +kernel
theorem dX4_late_83 : decode cX4_late 83 = .ok (.ishl, 1) := by decide +kernel
theorem dX4_late_84 : decode cX4_late 84 = .ok (.if_icmp .ge 47, 3) := by decide +kernel
theorem dX4_late_87 : decode cX4_late 87 = .ok (.iload 8, 2) := by decide +kernel
theorem dX4_late_89 : decode cX4_late 89 = .ok (.iload 5, 2) := by decide +kernel
theorem dX4_late_91 : decode cX4_late 91 = .ok (.iconst (-1), 1) := by decide +kernel
theorem dX4_late_92 : decode cX4_late 92 = .ok (.ixor, 1) := by decide +kernel
theorem dX4_late_93 : decode cX4_late 93 = .ok (.iand, 1) := by decide +kernel
theorem dX4_late_94 : decode cX4_late 94 = .ok (.ifCond .ne 31, 3) := by decide +kernel
theorem dX4_late_97 : decode cX4_late 97 = .ok (.aload_n 0, 1) := by decide +kernel
theorem dX4_late_98 : decode cX4_late 98 = .ok (.iload 8, 2) := by decide +kernel
theorem dX4_late_100 : decode cX4_late 100 = .ok (.iload_n 1, 1) := by decide +kernel
theorem dX4_late_101 : decode cX4_late 101 = .ok (.invokevirtual 213, 3) := by decide +kernel
theorem dX4_late_104 : decode cX4_late 104 = .ok (.iload_n 3, 1) := by decide +kernel
theorem dX4_late_105 : decode cX4_late 105 = .ok (.if_icmp .lt 20, 3) := by decide +kernel
theorem dX4_late_108 : decode cX4_late 108 = .ok (.iload 6, 2) := by decide +kernel
theorem dX4_late_110 : decode cX4_late 110 = .ok (.iload 8, 2) := by decide +kernel
theorem dX4_late_112 : decode cX4_late 112 = .ok (.iload 5, 2) := by decide +kernel
theorem dX4_late_114 : decode cX4_late 114 = .ok (.iload_n 2, 1) := by decide +kernel
theorem dX4_late_115 : decode cX4_late 115 = .ok (.bipush 10, 2) := by decide +kernel
theorem dX4_late_117 : decode cX4_late 117 = .ok (.iload_n 2, 1) := by decide +kernel
theorem dX4_late_118 : decode cX4_late 118 = .ok (.isub, 1) := by decide +kernel
theorem dX4_late_119 : decode cX4_late 119 = .ok (.invokestatic 209, 3) := by decide +kernel
theorem dX4_late_122 : decode cX4_late 122 = .ok (.iadd, 1) := by decide +kernel
theorem dX4_late_123 : decode cX4_late 123 = .ok (.istore 6, 2) := by decide +kernel
theorem dX4_late_125 : decode cX4_late 125 = .ok (.iinc 8 1, 3) := by decide +kernel
theorem dX4_late_128 : decode cX4_late 128 = .ok (.goto (-55), 3) := by decide +kernel
theorem dX4_late_131 : decode cX4_late 131 = .ok (.iload 6, 2) := by decide +kernel
theorem dX4_late_133 : decode cX4_late 133 = .ok (.iload 7, 2) := by decide +kernel
theorem dX4_late_135 : decode cX4_late 135 = .ok (.invokestatic 216, 3) := by decide +kernel
theorem dX4_late_138 : decode cX4_late 138 = .ok (.istore 8, 2) := by decide +kernel
theorem dX4_late_140 : decode cX4_late 140 = .ok (.iload 8, 2) := by decide +kernel
theorem dX4_late_142 : decode cX4_late 142 = .ok (.iconst 1, 1) := by decide +kernel
theorem dX4_late_143 : decode cX4_late 143 = .ok (.if_icmp .ge 6, 3) := by decide +kernel
theorem dX4_late_146 : decode cX4_late 146 = .ok (.bipush (-4), 2) := by decide +kernel
theorem dX4_late_148 : decode cX4_late 148 = .ok (.ireturn, 1) := by decide +kernel
theorem dX4_late_149 : decode cX4_late 149 = .ok (.iload 4, 2) := by decide +kernel
theorem dX4_late_151 : decode cX4_late 151 = .ok (.ifCond .ne 11, 3) := by decide +kernel
theorem dX4_late_154 : decode cX4_late 154 = .ok (.iload 6, 2) := by decide +kernel
theorem dX4_late_156 : decode cX4_late 156 = .ok (.iload 8, 2) := by decide +kernel
theorem dX4_late_158 : decode cX4_late 158 = .ok (.idiv, 1) := by decide +kernel
theorem dX4_late_159 : decode cX4_late 159 = .ok (.goto 8, 3) := by decide +kernel
theorem dX4_late_162 : decode cX4_late 162 = .ok (.iload 7, 2) := by decide +kernel
theorem dX4_late_164 : decode cX4_late 164 = .ok (.iload 8, 2) := by decide +kernel
theorem dX4_late_166 : decode cX4_late 166 = .ok (.idiv, 1) := by decide +kernel
theorem dX4_late_167 : decode cX4_late 167 = .ok (.ireturn, 1) := by decide +kernel
set_option maxRecDepth 20000 in
theorem ggX4_season_X4_isEither : GoodIn wsX4_season wsX4_isEither := goodIn_r _ [8] (by decide +kernel) (by decide +kernel)
set_option maxRecDepth 20000 in
theorem gX4_season_X4_isEither : GoodIn wsX4_season (va_wsS RX4 159 yX4_isEither wsX4_isEither) := goodIn_app (goodIn_of _ (by decide +kernel)) ggX4_season_X4_isEither
set_option maxRecDepth 20000 in
theorem ggX4_season_X2_copyOf : GoodIn wsX4_season wsX2_copyOf := goodIn_r _ [13, 14, 15, 16, 17, 18, 19, 20, 21, 22, 23, 108, 109, 110, 111, 112, 113] (by decide +kernel) (by decide +kernel)
set_option maxRecDepth 20000 in
theorem gX4_season_X2_copyOf : GoodIn wsX4_season (wsV RX4 162 RX2 yX2_copyOf wsX2_copyOf) := goodIn_app (goodIn_of _ (by decide +kernel)) ggX4_season_X2_copyOf
set_option maxRecDepth 20000 in
theorem ggX4_season_X4_draw : GoodIn wsX4_season wsX4_draw := goodIn_r _ [26, 27, 28, 29] (by decide +kernel) (by decide +kernel)
set_option maxRecDepth 20000 in
theorem gX4_season_X4_draw : GoodIn wsX4_season (va_wsS RX4 219 yX4_draw wsX4_draw) := goodIn_app (goodIn_of _ (by decide +kernel)) ggX4_season_X4_draw
set_option maxRecDepth 20000 in
theorem ggX4_season_X4_actInTrial : GoodIn wsX4_season wsX4_actInTrial := goodIn_r _ [33, 3, 34, 35, 1, 36, 37, 38, 39, 12, 40, 41, 42, 23, 16, 43, 44, 45, 46, 47, 48, 49, 50, 51, 52, 53, 21, 14, 54, 55, 56, 57, 58, 59, 60, 61, 62, 98, 99, 100, 101, 102, 103, 104, 105, 106, 107, 114, 115, 116, 117, 118, 119, 120, 121, 122, 123, 124, 125, 126, 108, 109, 110, 111, 112, 113] (by decide +kernel) (by decide +kernel)
set_option maxRecDepth 20000 in
theorem gX4_season_X4_actInTrial : GoodIn wsX4_season (wsV RX4 222 RX4 yX4_actInTrial wsX4_actInTrial) := goodIn_app (goodIn_of _ (by decide +kernel)) ggX4_season_X4_actInTrial
set_option maxRecDepth 20000 in
theorem ggX4_season_X2_goBy : GoodIn wsX4_season wsX2_goBy := goodIn_r _ [66, 15, 67, 68, 69, 12, 70, 71, 16, 21, 14, 22, 72, 73, 74, 75, 76, 77, 78, 79, 42, 80, 81, 82, 7, 83, 84, 56, 57, 58, 85, 86, 87, 88, 89, 90, 91, 92, 47, 48, 49, 50, 51, 52, 53, 54, 55, 108, 109, 110, 111, 112, 113, 114, 115, 116, 117, 118, 119, 120, 121, 122, 123, 124, 125, 126] (by decide +kernel) (by decide +kernel)
set_option maxRecDepth 20000 in
theorem gX4_season_X2_goBy : GoodIn wsX4_season (wsV RX4 136 RX2 yX2_goBy wsX2_goBy) := goodIn_app (goodIn_of _ (by decide +kernel)) ggX4_season_X2_goBy
set_option maxRecDepth 20000 in
theorem ggX4_season_X2_pinsOfAll : GoodIn wsX4_season wsX2_pinsOfAll := goodIn_r _ [96, 97, 23, 114, 115, 116, 117, 118, 119, 120, 121, 122, 123, 124, 125, 126, 108, 109, 110, 111, 112, 113] (by decide +kernel) (by decide +kernel)
set_option maxRecDepth 20000 in
theorem gX4_season_X2_pinsOfAll : GoodIn wsX4_season (wsV RX4 225 RX2 yX2_pinsOfAll wsX2_pinsOfAll) := goodIn_app (goodIn_of _ (by decide +kernel)) ggX4_season_X2_pinsOfAll
theorem dX4_season_0 : decode cX4_season 0 = .ok (.iload_n 1, 1) := by decide +kernel
theorem dX4_season_1 : decode cX4_season 1 = .ok (.ifCond .lt 28, 3) := by decide +kernel
theorem dX4_season_4 : decode cX4_season 4 = .ok (.iload_n 1, 1) := by decide +kernel
theorem dX4_season_5 : decode cX4_season 5 = .ok (.sipush 9999, 3) := by decide +kernel
theorem dX4_season_8 : decode cX4_season 8 = .ok (.if_icmp .gt 21, 3) := by decide +kernel
theorem dX4_season_11 : decode cX4_season 11 = .ok (.iload_n 2, 1) := by decide +kernel
theorem dX4_season_12 : decode cX4_season 12 = .ok (.iconst 1, 1) := by decide +kernel
theorem dX4_season_13 : decode cX4_season 13 = .ok (.if_icmp .lt 16, 3) := by decide +kernel
theorem dX4_season_16 : decode cX4_season 16 = .ok (.iload_n 2, 1) := by decide +kernel
theorem dX4_season_17 : decode cX4_season 17 = .ok (.bipush 60, 2) := by decide +kernel
theorem dX4_season_19 : decode cX4_season 19 = .ok (.if_icmp .gt 10, 3) := by decide +kernel
theorem dX4_season_22 : decode cX4_season 22 = .ok (.iload_n 3, 1) := by decide +kernel
theorem dX4_season_23 : decode cX4_season 23 = .ok (.invokestatic 159, 3) := by decide +kernel
theorem dX4_season_26 : decode cX4_season 26 = .ok (.ifCond .ne 5, 3) := by decide +kernel
theorem dX4_season_29 : decode cX4_season 29 = .ok (.iconst (-1), 1) := by decide +kernel
theorem dX4_season_30 : decode cX4_season 30 = .ok (.ireturn, 1) := by decide +kernel
theorem dX4_season_31 : decode cX4_season 31 = .ok (.aload_n 0, 1) := by decide +kernel
theorem dX4_season_32 : decode cX4_season 32 = .ok (.getfield 33, 3) := by decide +kernel
theorem dX4_season_35 : decode cX4_season 35 = .ok (.aload_n 0, 1) := by decide +kernel
theorem dX4_season_36 : decode cX4_season 36 = .ok (.getfield 29, 3) := by decide +kernel
theorem dX4_season_39 : decode cX4_season 39 = .ok (.invokevirtual 162, 3) := by decide +kernel
theorem dX4_season_42 : decode cX4_season 42 = .ok (.iconst 0, 1) := by decide +kernel
theorem dX4_season_43 : decode cX4_season 43 = .ok (.istore 4, 2) := by decide +kernel
theorem dX4_season_45 : decode cX4_season 45 = .ok (.iload 4, 2) := by decide +kernel
theorem dX4_season_47 : decode cX4_season 47 = .ok (.iload_n 2, 1) := by decide +kernel
theorem dX4_season_48 : decode cX4_season 48 = .ok (.if_icmp .ge 31, 3) := by decide +kernel
theorem dX4_season_51 : decode cX4_season 51 = .ok (.aload_n 0, 1) := by decide +kernel
theorem dX4_season_52 : decode cX4_season 52 = .ok (.iload_n 1, 1) := by decide +kernel
theorem dX4_season_53 : decode cX4_season 53 = .ok (.iload 4, 2) := by decide +kernel
theorem dX4_season_55 : decode cX4_season 55 = .ok (.invokestatic 219, 3) := by decide +kernel
theorem dX4_season_58 : decode cX4_season 58 = .ok (.invokevirtual 222, 3) := by decide +kernel
theorem dX4_season_61 : decode cX4_season 61 = .ok (.aload_n 0, 1) := by decide +kernel
theorem dX4_season_62 : decode cX4_season 62 = .ok (.getfield 33, 3) := by decide +kernel
theorem dX4_season_65 : decode cX4_season 65 = .ok (.aload_n 0, 1) := by decide +kernel
theorem dX4_season_66 : decode cX4_season 66 = .ok (.getfield 19, 3) := by decide +kernel
theorem dX4_season_69 : decode cX4_season 69 = .ok (.iconst 1, 1) := by decide +kernel
theorem dX4_season_70 : decode cX4_season 70 = .ok (.invokevirtual 136, 3) := by decide +kernel
theorem dX4_season_73 : decode cX4_season 73 = .ok (.iinc 4 1, 3) := by decide +kernel
theorem dX4_season_76 : decode cX4_season 76 = .ok (.goto (-31), 3) := by decide +kernel
theorem dX4_season_79 : decode cX4_season 79 = .ok (.iload_n 3, 1) := by decide +kernel
theorem dX4_season_80 : decode cX4_season 80 = .ok (.ifCond .ne 17, 3) := by decide +kernel
theorem dX4_season_83 : decode cX4_season 83 = .ok (.aload_n 0, 1) := by decide +kernel
theorem dX4_season_84 : decode cX4_season 84 = .ok (.getfield 33, 3) := by decide +kernel
theorem dX4_season_87 : decode cX4_season 87 = .ok (.getfield 140, 3) := by decide +kernel
theorem dX4_season_90 : decode cX4_season 90 = .ok (.sipush 10000, 3) := by decide +kernel
theorem dX4_season_93 : decode cX4_season 93 = .ok (.iadd, 1) := by decide +kernel
theorem dX4_season_94 : decode cX4_season 94 = .ok (.goto 14, 3) := by decide +kernel
theorem dX4_season_97 : decode cX4_season 97 = .ok (.aload_n 0, 1) := by decide +kernel
theorem dX4_season_98 : decode cX4_season 98 = .ok (.getfield 33, 3) := by decide +kernel
theorem dX4_season_101 : decode cX4_season 101 = .ok (.aload_n 0, 1) := by decide +kernel
theorem dX4_season_102 : decode cX4_season 102 = .ok (.getfield 19, 3) := by decide +kernel
theorem dX4_season_105 : decode cX4_season 105 = .ok (.invokevirtual 225, 3) := by decide +kernel
theorem dX4_season_108 : decode cX4_season 108 = .ok (.ireturn, 1) := by decide +kernel
set_option maxRecDepth 20000 in
theorem ggX4_keep_X1_put : GoodIn wsX4_keep wsX1_put := goodIn_r _ [8, 9, 10, 11, 12, 13, 7, 14, 15, 16, 17, 18, 19, 20, 21, 22, 23, 24, 25, 26, 27, 28, 29, 40, 41, 42, 43, 44, 45, 46, 47] (by decide +kernel) (by decide +kernel)
set_option maxRecDepth 20000 in
theorem gX4_keep_X1_put : GoodIn wsX4_keep (wsV RX4 132 RX1 yX1_put wsX1_put) := goodIn_app (goodIn_of _ (by decide +kernel)) ggX4_keep_X1_put
theorem dX4_keep_0 : decode cX4_keep 0 = .ok (.aload_n 0, 1) := by decide +kernel
theorem dX4_keep_1 : decode cX4_keep 1 = .ok (.getfield 45, 3) := by decide +kernel
theorem dX4_keep_4 : decode cX4_keep 4 = .ok (.getfield 85, 3) := by decide +kernel
theorem dX4_keep_7 : decode cX4_keep 7 = .ok (.iconst 2, 1) := by decide +kernel
theorem dX4_keep_8 : decode cX4_keep 8 = .ok (.if_icmp .lt 6, 3) := by decide +kernel
theorem dX4_keep_11 : decode cX4_keep 11 = .ok (.bipush (-3), 2) := by decide +kernel
theorem dX4_keep_13 : decode cX4_keep 13 = .ok (.ireturn, 1) := by decide +kernel
theorem dX4_keep_14 : decode cX4_keep 14 = .ok (.aload_n 0, 1) := by decide +kernel
theorem dX4_keep_15 : decode cX4_keep 15 = .ok (.getfield 45, 3) := by decide +kernel
theorem dX4_keep_18 : decode cX4_keep 18 = .ok (.aload_n 0, 1) := by decide +kernel
theorem dX4_keep_19 : decode cX4_keep 19 = .ok (.getfield 29, 3) := by decide +kernel
theorem dX4_keep_22 : decode cX4_keep 22 = .ok (.invokevirtual 132, 3) := by decide +kernel
theorem dX4_keep_25 : decode cX4_keep 25 = .ok (.aload_n 0, 1) := by decide +kernel
theorem dX4_keep_26 : decode cX4_keep 26 = .ok (.getfield 45, 3) := by decide +kernel
theorem dX4_keep_29 : decode cX4_keep 29 = .ok (.getfield 85, 3) := by decide +kernel
theorem dX4_keep_32 : decode cX4_keep 32 = .ok (.ireturn, 1) := by decide +kernel
set_option maxRecDepth 20000 in
theorem ggX4_back_X1_takeInto : GoodIn wsX4_back wsX1_takeInto := goodIn_r _ [9, 10, 11, 12, 13, 14, 15, 16, 17, 18, 19, 20, 21, 22, 23, 24, 25, 26, 37, 38, 39, 40, 41, 42, 43, 44] (by decide +kernel) (by decide +kernel)
set_option maxRecDepth 20000 in
theorem gX4_back_X1_takeInto : GoodIn wsX4_back (wsV RX4 155 RX1 yX1_takeInto wsX1_takeInto) := goodIn_app (goodIn_of _ (by decide +kernel)) ggX4_back_X1_takeInto
theorem dX4_back_0 : decode cX4_back 0 = .ok (.aload_n 0, 1) := by decide +kernel
theorem dX4_back_1 : decode cX4_back 1 = .ok (.getfield 45, 3) := by decide +kernel
theorem dX4_back_4 : decode cX4_back 4 = .ok (.aload_n 0, 1) := by decide +kernel
theorem dX4_back_5 : decode cX4_back 5 = .ok (.getfield 29, 3) := by decide +kernel
theorem dX4_back_8 : decode cX4_back 8 = .ok (.invokevirtual 155, 3) := by decide +kernel
theorem dX4_back_11 : decode cX4_back 11 = .ok (.ifCond .ne 6, 3) := by decide +kernel
theorem dX4_back_14 : decode cX4_back 14 = .ok (.bipush (-2), 2) := by decide +kernel
theorem dX4_back_16 : decode cX4_back 16 = .ok (.ireturn, 1) := by decide +kernel
theorem dX4_back_17 : decode cX4_back 17 = .ok (.aload_n 0, 1) := by decide +kernel
theorem dX4_back_18 : decode cX4_back 18 = .ok (.getfield 41, 3) := by decide +kernel
theorem dX4_back_21 : decode cX4_back 21 = .ok (.iconst 0, 1) := by decide +kernel
theorem dX4_back_22 : decode cX4_back 22 = .ok (.putfield 85, 3) := by decide +kernel
theorem dX4_back_25 : decode cX4_back 25 = .ok (.aload_n 0, 1) := by decide +kernel
theorem dX4_back_26 : decode cX4_back 26 = .ok (.getfield 45, 3) := by decide +kernel
theorem dX4_back_29 : decode cX4_back 29 = .ok (.getfield 85, 3) := by decide +kernel
theorem dX4_back_32 : decode cX4_back 32 = .ok (.ireturn, 1) := by decide +kernel
set_option maxRecDepth 20000 in
theorem ggX4_count_X2_howMany : GoodIn wsX4_count wsX2_howMany := goodIn_r _ [17, 18, 19, 36, 37, 38, 39, 40, 41, 42, 43, 44, 45, 46, 47, 48, 49, 50, 51, 52, 53, 54] (by decide +kernel) (by decide +kernel)
set_option maxRecDepth 20000 in
theorem gX4_count_X2_howMany : GoodIn wsX4_count (wsV RX4 228 RX2 yX2_howMany wsX2_howMany) := goodIn_app (goodIn_of _ (by decide +kernel)) ggX4_count_X2_howMany
set_option maxRecDepth 20000 in
theorem ggX4_count_X2_pinsOfAll : GoodIn wsX4_count wsX2_pinsOfAll := goodIn_r _ [23, 24, 25, 36, 37, 38, 39, 40, 41, 42, 43, 44, 45, 46, 47, 48, 49, 50, 51, 52, 53, 54] (by decide +kernel) (by decide +kernel)
set_option maxRecDepth 20000 in
theorem gX4_count_X2_pinsOfAll : GoodIn wsX4_count (wsV RX4 225 RX2 yX2_pinsOfAll wsX2_pinsOfAll) := goodIn_app (goodIn_of _ (by decide +kernel)) ggX4_count_X2_pinsOfAll
theorem dX4_count_0 : decode cX4_count 0 = .ok (.iload_n 1, 1) := by decide +kernel
theorem dX4_count_1 : decode cX4_count 1 = .ok (.tableswitch 196 0 12 #[67, 75, 83, 91, 104, 117, 130, 143, 155, 167, 172, 180, 188], 67) := by decide +kernel
theorem dX4_count_68 : decode cX4_count 68 = .ok (.aload_n 0, 1) := by decide +kernel
theorem dX4_count_69 : decode cX4_count 69 = .ok (.getfield 19, 3) := by decide +kernel
theorem dX4_count_72 : decode cX4_count 72 = .ok (.getfield 82, 3) := by decide +kernel
theorem dX4_count_75 : decode cX4_count 75 = .ok (.ireturn, 1) := by decide +kernel
theorem dX4_count_76 : decode cX4_count 76 = .ok (.aload_n 0, 1) := by decide +kernel
theorem dX4_count_77 : decode cX4_count 77 = .ok (.getfield 19, 3) := by decide +kernel
theorem dX4_count_80 : decode cX4_count 80 = .ok (.getfield 193, 3) := by decide +kernel
theorem dX4_count_83 : decode cX4_count 83 = .ok (.ireturn, 1) := by decide +kernel
theorem dX4_count_84 : decode cX4_count 84 = .ok (.aload_n 0, 1) := by decide +kernel
theorem dX4_count_85 : decode cX4_count 85 = .ok (.getfield 29, 3) := by decide +kernel
theorem dX4_count_88 : decode cX4_count 88 = .ok (.getfield 129, 3) := by decide +kernel
theorem dX4_count_91 : decode cX4_count 91 = .ok (.ireturn, 1) := by decide +kernel
theorem dX4_count_92 : decode cX4_count 92 = .ok (.aload_n 0, 1) := by decide +kernel
theorem dX4_count_93 : decode cX4_count 93 = .ok (.getfield 29, 3) := by decide +kernel
theorem dX4_count_96 : decode cX4_count 96 = .ok (.aload_n 0, 1) := by decide +kernel
theorem dX4_count_97 : decode cX4_count 97 = .ok (.getfield 19, 3) := by decide +kernel
theorem dX4_count_100 : decode cX4_count 100 = .ok (.iconst 0, 1) := by decide +kernel
theorem dX4_count_101 : decode cX4_count 101 = .ok (.invokevirtual 228, 3) := by decide +kernel
theorem dX4_count_104 : decode cX4_count 104 = .ok (.ireturn, 1) := by decide +kernel
theorem dX4_count_105 : decode cX4_count 105 = .ok (.aload_n 0, 1) := by decide +kernel
theorem dX4_count_106 : decode cX4_count 106 = .ok (.getfield 29, 3) := by decide +kernel
theorem dX4_count_109 : decode cX4_count 109 = .ok (.aload_n 0, 1) := by decide +kernel
theorem dX4_count_110 : decode cX4_count 110 = .ok (.getfield 19, 3) := by decide +kernel
theorem dX4_count_113 : decode cX4_count 113 = .ok (.iconst 1, 1) := by decide +kernel
theorem dX4_count_114 : decode cX4_count 114 = .ok (.invokevirtual 228, 3) := by decide +kernel
theorem dX4_count_117 : decode cX4_count 117 = .ok (.ireturn, 1) := by decide +kernel
theorem dX4_count_118 : decode cX4_count 118 = .ok (.aload_n 0, 1) := by decide +kernel
theorem dX4_count_119 : decode cX4_count 119 = .ok (.getfield 29, 3) := by decide +kernel
theorem dX4_count_122 : decode cX4_count 122 = .ok (.aload_n 0, 1) := by decide +kernel
theorem dX4_count_123 : decode cX4_count 123 = .ok (.getfield 19, 3) := by decide +kernel
theorem dX4_count_126 : decode cX4_count 126 = .ok (.iconst 2, 1) := by decide +kernel
theorem dX4_count_127 : decode cX4_count 127 = .ok (.invokevirtual 228, 3) := by decide +kernel
theorem dX4_count_130 : decode cX4_count 130 = .ok (.ireturn, 1) := by decide +kernel
theorem dX4_count_131 : decode cX4_count 131 = .ok (.aload_n 0, 1) := by decide +kernel
theorem dX4_count_132 : decode cX4_count 132 = .ok (.getfield 29, 3) := by decide +kernel
theorem dX4_count_135 : decode cX4_count 135 = .ok (.aload_n 0, 1) := by decide +kernel
theorem dX4_count_136 : decode cX4_count 136 = .ok (.getfield 19, 3) := by decide +kernel
theorem dX4_count_139 : decode cX4_count 139 = .ok (.iconst 3, 1) := by decide +kernel
theorem dX4_count_140 : decode cX4_count 140 = .ok (.invokevirtual 228, 3) := by decide +kernel
theorem dX4_count_143 : decode cX4_count 143 = .ok (.ireturn, 1) := by decide +kernel
theorem dX4_count_144 : decode cX4_count 144 = .ok (.aload_n 0, 1) := by decide +kernel
theorem dX4_count_145 : decode cX4_count 145 = .ok (.getfield 29, 3) := by decide +kernel
theorem dX4_count_148 : decode cX4_count 148 = .ok (.getfield 140, 3) := by decide +kernel
theorem dX4_count_151 : decode cX4_count 151 = .ok (.sipush 10000, 3) := by decide +kernel
theorem dX4_count_154 : decode cX4_count 154 = .ok (.iadd, 1) := by decide +kernel
theorem dX4_count_155 : decode cX4_count 155 = .ok (.ireturn, 1) := by decide +kernel
theorem dX4_count_156 : decode cX4_count 156 = .ok (.aload_n 0, 1) := by decide +kernel
theorem dX4_count_157 : decode cX4_count 157 = .ok (.getfield 29, 3) := by decide +kernel
theorem dX4_count_160 : decode cX4_count 160 = .ok (.aload_n 0, 1) := by decide +kernel
theorem dX4_count_161 : decode cX4_count 161 = .ok (.getfield 19, 3) := by decide +kernel
theorem dX4_count_164 : decode cX4_count 164 = .ok (.invokevirtual 225, 3) := by decide +kernel
theorem dX4_count_167 : decode cX4_count 167 = .ok (.ireturn, 1) := by decide +kernel
theorem dX4_count_168 : decode cX4_count 168 = .ok (.aload_n 0, 1) := by decide +kernel
theorem dX4_count_169 : decode cX4_count 169 = .ok (.getfield 88, 3) := by decide +kernel
theorem dX4_count_172 : decode cX4_count 172 = .ok (.ireturn, 1) := by decide +kernel
theorem dX4_count_173 : decode cX4_count 173 = .ok (.aload_n 0, 1) := by decide +kernel
theorem dX4_count_174 : decode cX4_count 174 = .ok (.getfield 41, 3) := by decide +kernel
theorem dX4_count_177 : decode cX4_count 177 = .ok (.getfield 85, 3) := by decide +kernel
theorem dX4_count_180 : decode cX4_count 180 = .ok (.ireturn, 1) := by decide +kernel
theorem dX4_count_181 : decode cX4_count 181 = .ok (.aload_n 0, 1) := by decide +kernel
theorem dX4_count_182 : decode cX4_count 182 = .ok (.getfield 45, 3) := by decide +kernel
theorem dX4_count_185 : decode cX4_count 185 = .ok (.getfield 85, 3) := by decide +kernel
theorem dX4_count_188 : decode cX4_count 188 = .ok (.ireturn, 1) := by decide +kernel
theorem dX4_count_189 : decode cX4_count 189 = .ok (.aload_n 0, 1) := by decide +kernel
theorem dX4_count_190 : decode cX4_count 190 = .ok (.getfield 10, 3) := by decide +kernel
theorem dX4_count_193 : decode cX4_count 193 = .ok (.getfield 75, 3) := by decide +kernel
theorem dX4_count_196 : decode cX4_count 196 = .ok (.ireturn, 1) := by decide +kernel
theorem dX4_count_197 : decode cX4_count 197 = .ok (.iconst (-1), 1) := by decide +kernel
theorem dX4_count_198 : decode cX4_count 198 = .ok (.ireturn, 1) := by decide +kernel
theorem dX4_isGoing_0 : decode cX4_isGoing 0 = .ok (.iload_n 1, 1) := by decide +kernel
theorem dX4_isGoing_1 : decode cX4_isGoing 1 = .ok (.ifCond .lt 18, 3) := by decide +kernel
theorem dX4_isGoing_4 : decode cX4_isGoing 4 = .ok (.iload_n 1, 1) := by decide +kernel
theorem dX4_isGoing_5 : decode cX4_isGoing 5 = .ok (.aload_n 0, 1) := by decide +kernel
theorem dX4_isGoing_6 : decode cX4_isGoing 6 = .ok (.getfield 19, 3) := by decide +kernel
theorem dX4_isGoing_9 : decode cX4_isGoing 9 = .ok (.getfield 82, 3) := by decide +kernel
theorem dX4_isGoing_12 : decode cX4_isGoing 12 = .ok (.if_icmp .ge 7, 3) := by decide +kernel
theorem dX4_isGoing_15 : decode cX4_isGoing 15 = .ok (.iconst 1, 1) := by decide +kernel
theorem dX4_isGoing_16 : decode cX4_isGoing 16 = .ok (.goto 4, 3) := by decide +kernel
theorem dX4_isGoing_19 : decode cX4_isGoing 19 = .ok (.iconst 0, 1) := by decide +kernel
theorem dX4_isGoing_20 : decode cX4_isGoing 20 = .ok (.ireturn, 1) := by decide +kernel
theorem dX4_isLady_0 : decode cX4_isLady 0 = .ok (.iload_n 1, 1) := by decide +kernel
theorem dX4_isLady_1 : decode cX4_isLady 1 = .ok (.ifCond .lt 18, 3) := by decide +kernel
theorem dX4_isLady_4 : decode cX4_isLady 4 = .ok (.iload_n 1, 1) := by decide +kernel
theorem dX4_isLady_5 : decode cX4_isLady 5 = .ok (.aload_n 0, 1) := by decide +kernel
theorem dX4_isLady_6 : decode cX4_isLady 6 = .ok (.getfield 19, 3) := by decide +kernel
theorem dX4_isLady_9 : decode cX4_isLady 9 = .ok (.getfield 193, 3) := by decide +kernel
theorem dX4_isLady_12 : decode cX4_isLady 12 = .ok (.if_icmp .ge 7, 3) := by decide +kernel
theorem dX4_isLady_15 : decode cX4_isLady 15 = .ok (.iconst 1, 1) := by decide +kernel
theorem dX4_isLady_16 : decode cX4_isLady 16 = .ok (.goto 4, 3) := by decide +kernel
theorem dX4_isLady_19 : decode cX4_isLady 19 = .ok (.iconst 0, 1) := by decide +kernel
theorem dX4_isLady_20 : decode cX4_isLady 20 = .ok (.ireturn, 1) := by decide +kernel
theorem dX4_isEither_0 : decode cX4_isEither 0 = .ok (.iload_n 0, 1) := by decide +kernel
theorem dX4_isEither_1 : decode cX4_isEither 1 = .ok (.ifCond .eq 8, 3) := by decide +kernel
theorem dX4_isEither_4 : decode cX4_isEither 4 = .ok (.iload_n 0, 1) := by decide +kernel
theorem dX4_isEither_5 : decode cX4_isEither 5 = .ok (.iconst 1, 1) := by decide +kernel
theorem dX4_isEither_6 : decode cX4_isEither 6 = .ok (.if_icmp .ne 7, 3) := by decide +kernel
theorem dX4_isEither_9 : decode cX4_isEither 9 = .ok (.iconst 1, 1) := by decide +kernel
theorem dX4_isEither_10 : decode cX4_isEither 10 = .ok (.goto 4, 3) := by decide +kernel
theorem dX4_isEither_13 : decode cX4_isEither 13 = .ok (.iconst 0, 1) := by decide +kernel
theorem dX4_isEither_14 : decode cX4_isEither 14 = .ok (.ireturn, 1) := by decide +kernel
theorem dX4_whichOrHad_0 : decode cX4_whichOrHad 0 = .ok (.iload_n 0, 1) := by decide +kernel
theorem dX4_whichOrHad_1 : decode cX4_whichOrHad 1 = .ok (.bipush (-4), 2) := by decide +kernel
theorem dX4_whichOrHad_3 : decode cX4_whichOrHad 3 = .ok (.if_icmp .ne 6, 3) := by decide +kernel
theorem dX4_whichOrHad_6 : decode cX4_whichOrHad 6 = .ok (.bipush (-4), 2) := by decide +kernel
theorem dX4_whichOrHad_8 : decode cX4_whichOrHad 8 = .ok (.ireturn, 1) := by decide +kernel
theorem dX4_whichOrHad_9 : decode cX4_whichOrHad 9 = .ok (.iload_n 2, 1) := by decide +kernel
theorem dX4_whichOrHad_10 : decode cX4_whichOrHad 10 = .ok (.ifCond .ne 7, 3) := by decide +kernel
theorem dX4_whichOrHad_13 : decode cX4_whichOrHad 13 = .ok (.iload_n 0, 1) := by decide +kernel
theorem dX4_whichOrHad_14 : decode cX4_whichOrHad 14 = .ok (.goto 8, 3) := by decide +kernel
theorem dX4_whichOrHad_17 : decode cX4_whichOrHad 17 = .ok (.iload_n 1, 1) := by decide +kernel
theorem dX4_whichOrHad_18 : decode cX4_whichOrHad 18 = .ok (.sipush 10000, 3) := by decide +kernel
theorem dX4_whichOrHad_21 : decode cX4_whichOrHad 21 = .ok (.iadd, 1) := by decide +kernel
theorem dX4_whichOrHad_22 : decode cX4_whichOrHad 22 = .ok (.ireturn, 1) := by decide +kernel
set_option maxRecDepth 20000 in
theorem ggX4_hadAsItIs_X2_copyOf : GoodIn wsX4_hadAsItIs wsX2_copyOf := goodIn_r _ [9, 10, 11, 12, 13, 14, 15, 16, 17, 18, 19, 74, 75, 76, 77, 78, 79] (by decide +kernel) (by decide +kernel)
set_option maxRecDepth 20000 in
theorem gX4_hadAsItIs_X2_copyOf : GoodIn wsX4_hadAsItIs (wsV RX4 162 RX2 yX2_copyOf wsX2_copyOf) := goodIn_app (goodIn_of _ (by decide +kernel)) ggX4_hadAsItIs_X2_copyOf
set_option maxRecDepth 20000 in
theorem ggX4_hadAsItIs_X2_goBy : GoodIn wsX4_hadAsItIs wsX2_goBy := goodIn_r _ [23, 11, 24, 25, 26, 8, 27, 28, 12, 17, 10, 18, 29, 30, 31, 32, 33, 34, 35, 36, 37, 38, 39, 40, 41, 42, 43, 44, 45, 46, 47, 48, 49, 50, 51, 52, 53, 54, 55, 56, 57, 58, 59, 60, 61, 62, 63, 74, 75, 76, 77, 78, 79, 80, 81, 82, 83, 84, 85, 86, 87, 88, 89, 90, 91, 92] (by decide +kernel) (by decide +kernel)
set_option maxRecDepth 20000 in
theorem gX4_hadAsItIs_X2_goBy : GoodIn wsX4_hadAsItIs (wsV RX4 136 RX2 yX2_goBy wsX2_goBy) := goodIn_app (goodIn_of _ (by decide +kernel)) ggX4_hadAsItIs_X2_goBy
theorem dX4_hadAsItIs_0 : decode cX4_hadAsItIs 0 = .ok (.aload_n 0, 1) := by decide +kernel
theorem dX4_hadAsItIs_1 : decode cX4_hadAsItIs 1 = .ok (.getfield 33, 3) := by decide +kernel
theorem dX4_hadAsItIs_4 : decode cX4_hadAsItIs 4 = .ok (.aload_n 0, 1) := by decide +kernel
theorem dX4_hadAsItIs_5 : decode cX4_hadAsItIs 5 = .ok (.getfield 29, 3) := by decide +kernel
theorem dX4_hadAsItIs_8 : decode cX4_hadAsItIs 8 = .ok (.invokevirtual 162, 3) := by decide +kernel
theorem dX4_hadAsItIs_11 : decode cX4_hadAsItIs 11 = .ok (.aload_n 0, 1) := by decide +kernel
theorem dX4_hadAsItIs_12 : decode cX4_hadAsItIs 12 = .ok (.getfield 33, 3) := by decide +kernel
theorem dX4_hadAsItIs_15 : decode cX4_hadAsItIs 15 = .ok (.aload_n 0, 1) := by decide +kernel
theorem dX4_hadAsItIs_16 : decode cX4_hadAsItIs 16 = .ok (.getfield 19, 3) := by decide +kernel
theorem dX4_hadAsItIs_19 : decode cX4_hadAsItIs 19 = .ok (.bipush 60, 2) := by decide +kernel
theorem dX4_hadAsItIs_21 : decode cX4_hadAsItIs 21 = .ok (.invokevirtual 136, 3) := by decide +kernel
theorem dX4_hadAsItIs_24 : decode cX4_hadAsItIs 24 = .ok (.aload_n 0, 1) := by decide +kernel
theorem dX4_hadAsItIs_25 : decode cX4_hadAsItIs 25 = .ok (.getfield 33, 3) := by decide +kernel
theorem dX4_hadAsItIs_28 : decode cX4_hadAsItIs 28 = .ok (.getfield 140, 3) := by decide +kernel
theorem dX4_hadAsItIs_31 : decode cX4_hadAsItIs 31 = .ok (.ireturn, 1) := by decide +kernel
set_option maxRecDepth 20000 in
theorem ggX4_hadStopping_X2_copyOf : GoodIn wsX4_hadStopping wsX2_copyOf := goodIn_r _ [10, 11, 12, 13, 14, 15, 16, 17, 18, 19, 20, 76, 77, 78, 79, 80, 81] (by decide +kernel) (by decide +kernel)
set_option maxRecDepth 20000 in
theorem gX4_hadStopping_X2_copyOf : GoodIn wsX4_hadStopping (wsV RX4 162 RX2 yX2_copyOf wsX2_copyOf) := goodIn_app (goodIn_of _ (by decide +kernel)) ggX4_hadStopping_X2_copyOf
set_option maxRecDepth 20000 in
theorem ggX4_hadStopping_X2_goBy : GoodIn wsX4_hadStopping wsX2_goBy := goodIn_r _ [24, 12, 25, 26, 27, 9, 28, 29, 13, 18, 11, 19, 30, 31, 32, 33, 34, 35, 36, 37, 38, 39, 40, 41, 42, 43, 44, 45, 46, 47, 48, 49, 50, 51, 52, 53, 54, 55, 56, 57, 58, 59, 60, 61, 62, 63, 64, 76, 77, 78, 79, 80, 81, 82, 83, 84, 85, 86, 87, 88, 89, 90, 91, 92, 93, 94] (by decide +kernel) (by decide +kernel)
set_option maxRecDepth 20000 in
theorem gX4_hadStopping_X2_goBy : GoodIn wsX4_hadStopping (wsV RX4 136 RX2 yX2_goBy wsX2_goBy) := goodIn_app (goodIn_of _ (by decide +kernel)) ggX4_hadStopping_X2_goBy
set_option maxRecDepth 20000 in
theorem ggX4_hadStopping_X2_finish : GoodIn wsX4_hadStopping wsX2_finish := goodIn_r _ [59, 13, 60, 61, 62, 18, 11, 63, 64, 45, 46, 47, 76, 77, 78, 79, 80, 81, 82, 83, 84, 85, 86, 87, 88, 89, 90, 91, 92, 93, 94] (by decide +kernel) (by decide +kernel)
set_option maxRecDepth 20000 in
theorem gX4_hadStopping_X2_finish : GoodIn wsX4_hadStopping (wsV RX4 231 RX2 yX2_finish wsX2_finish) := goodIn_app (goodIn_of _ (by decide +kernel)) ggX4_hadStopping_X2_finish
theorem dX4_hadStopping_0 : decode cX4_hadStopping 0 = .ok (.aload_n 0, 1) := by decide +kernel
theorem dX4_hadStopping_1 : decode cX4_hadStopping 1 = .ok (.getfield 33, 3) := by decide +kernel
theorem dX4_hadStopping_4 : decode cX4_hadStopping 4 = .ok (.aload_n 0, 1) := by decide +kernel
theorem dX4_hadStopping_5 : decode cX4_hadStopping 5 = .ok (.getfield 29, 3) := by decide +kernel
theorem dX4_hadStopping_8 : decode cX4_hadStopping 8 = .ok (.invokevirtual 162, 3) := by decide +kernel
theorem dX4_hadStopping_11 : decode cX4_hadStopping 11 = .ok (.aload_n 0, 1) := by decide +kernel
theorem dX4_hadStopping_12 : decode cX4_hadStopping 12 = .ok (.getfield 33, 3) := by decide +kernel
theorem dX4_hadStopping_15 : decode cX4_hadStopping 15 = .ok (.aload_n 0, 1) := by decide +kernel
theorem dX4_hadStopping_16 : decode cX4_hadStopping 16 = .ok (.getfield 19, 3) := by decide +kernel
theorem dX4_hadStopping_19 : decode cX4_hadStopping 19 = .ok (.iload_n 2, 1) := by decide +kernel
theorem dX4_hadStopping_20 : decode cX4_hadStopping 20 = .ok (.invokevirtual 136, 3) := by decide +kernel
theorem dX4_hadStopping_23 : decode cX4_hadStopping 23 = .ok (.iload_n 2, 1) := by decide +kernel
theorem dX4_hadStopping_24 : decode cX4_hadStopping 24 = .ok (.istore_n 3, 1) := by decide +kernel
theorem dX4_hadStopping_25 : decode cX4_hadStopping 25 = .ok (.iload_n 3, 1) := by decide +kernel
theorem dX4_hadStopping_26 : decode cX4_hadStopping 26 = .ok (.bipush 60, 2) := by decide +kernel
theorem dX4_hadStopping_28 : decode cX4_hadStopping 28 = .ok (.if_icmp .ge 47, 3) := by decide +kernel
theorem dX4_hadStopping_31 : decode cX4_hadStopping 31 = .ok (.aload_n 0, 1) := by decide +kernel
theorem dX4_hadStopping_32 : decode cX4_hadStopping 32 = .ok (.getfield 33, 3) := by decide +kernel
theorem dX4_hadStopping_35 : decode cX4_hadStopping 35 = .ok (.getfield 106, 3) := by decide +kernel
theorem dX4_hadStopping_38 : decode cX4_hadStopping 38 = .ok (.iload_n 1, 1) := by decide +kernel
theorem dX4_hadStopping_39 : decode cX4_hadStopping 39 = .ok (.iaload, 1) := by decide +kernel
theorem dX4_hadStopping_40 : decode cX4_hadStopping 40 = .ok (.iconst 1, 1) := by decide +kernel
theorem dX4_hadStopping_41 : decode cX4_hadStopping 41 = .ok (.if_icmp .ne 16, 3) := by decide +kernel
theorem dX4_hadStopping_44 : decode cX4_hadStopping 44 = .ok (.aload_n 0, 1) := by decide +kernel
theorem dX4_hadStopping_45 : decode cX4_hadStopping 45 = .ok (.getfield 33, 3) := by decide +kernel
theorem dX4_hadStopping_48 : decode cX4_hadStopping 48 = .ok (.aload_n 0, 1) := by decide +kernel
theorem dX4_hadStopping_49 : decode cX4_hadStopping 49 = .ok (.getfield 19, 3) := by decide +kernel
theorem dX4_hadStopping_52 : decode cX4_hadStopping 52 = .ok (.iload_n 1, 1) := by decide +kernel
theorem dX4_hadStopping_53 : decode cX4_hadStopping 53 = .ok (.iconst 3, 1) := by decide +kernel
theorem dX4_hadStopping_54 : decode cX4_hadStopping 54 = .ok (.invokevirtual 231, 3) := by decide +kernel
theorem dX4_hadStopping_57 : decode cX4_hadStopping 57 = .ok (.aload_n 0, 1) := by decide +kernel
theorem dX4_hadStopping_58 : decode cX4_hadStopping 58 = .ok (.getfield 33, 3) := by decide +kernel
theorem dX4_hadStopping_61 : decode cX4_hadStopping 61 = .ok (.aload_n 0, 1) := by decide +kernel
theorem dX4_hadStopping_62 : decode cX4_hadStopping 62 = .ok (.getfield 19, 3) := by decide +kernel
theorem dX4_hadStopping_65 : decode cX4_hadStopping 65 = .ok (.iconst 1, 1) := by decide +kernel
theorem dX4_hadStopping_66 : decode cX4_hadStopping 66 = .ok (.invokevirtual 136, 3) := by decide +kernel
theorem dX4_hadStopping_69 : decode cX4_hadStopping 69 = .ok (.iinc 3 1, 3) := by decide +kernel
theorem dX4_hadStopping_72 : decode cX4_hadStopping 72 = .ok (.goto (-47), 3) := by decide +kernel
theorem dX4_hadStopping_75 : decode cX4_hadStopping 75 = .ok (.aload_n 0, 1) := by decide +kernel
theorem dX4_hadStopping_76 : decode cX4_hadStopping 76 = .ok (.getfield 33, 3) := by decide +kernel
theorem dX4_hadStopping_79 : decode cX4_hadStopping 79 = .ok (.getfield 140, 3) := by decide +kernel
theorem dX4_hadStopping_82 : decode cX4_hadStopping 82 = .ok (.ireturn, 1) := by decide +kernel
set_option maxRecDepth 20000 in
theorem ggX4_hadPinning_X2_copyOf : GoodIn wsX4_hadPinning wsX2_copyOf := goodIn_r _ [10, 11, 12, 13, 14, 15, 16, 17, 18, 19, 20, 89, 90, 91, 92, 93, 94] (by decide +kernel) (by decide +kernel)
set_option maxRecDepth 20000 in
theorem gX4_hadPinning_X2_copyOf : GoodIn wsX4_hadPinning (wsV RX4 162 RX2 yX2_copyOf wsX2_copyOf) := goodIn_app (goodIn_of _ (by decide +kernel)) ggX4_hadPinning_X2_copyOf
set_option maxRecDepth 20000 in
theorem ggX4_hadPinning_X2_finish : GoodIn wsX4_hadPinning wsX2_finish := goodIn_r _ [24, 13, 25, 26, 27, 18, 11, 28, 29, 30, 31, 32, 89, 90, 91, 92, 93, 94, 76, 77, 78, 79, 80, 81, 82, 83, 84, 85, 86, 87, 88] (by decide +kernel) (by decide +kernel)
set_option maxRecDepth 20000 in
theorem gX4_hadPinning_X2_finish : GoodIn wsX4_hadPinning (wsV RX4 231 RX2 yX2_finish wsX2_finish) := goodIn_app (goodIn_of _ (by decide +kernel)) ggX4_hadPinning_X2_finish
set_option maxRecDepth 20000 in
theorem ggX4_hadPinning_X2_goBy : GoodIn wsX4_hadPinning wsX2_goBy := goodIn_r _ [36, 12, 37, 38, 39, 9, 40, 41, 13, 18, 11, 19, 42, 43, 44, 45, 46, 47, 48, 49, 50, 51, 52, 53, 54, 55, 56, 30, 31, 32, 57, 58, 59, 60, 61, 62, 63, 64, 65, 22, 23, 24, 25, 26, 27, 28, 29, 89, 90, 91, 92, 93, 94, 76, 77, 78, 79, 80, 81, 82, 83, 84, 85, 86, 87, 88] (by decide +kernel) (by decide +kernel)
set_option maxRecDepth 20000 in
theorem gX4_hadPinning_X2_goBy : GoodIn wsX4_hadPinning (wsV RX4 136 RX2 yX2_goBy wsX2_goBy) := goodIn_app (goodIn_of _ (by decide +kernel)) ggX4_hadPinning_X2_goBy
theorem dX4_hadPinning_0 : decode cX4_hadPinning 0 = .ok (.aload_n 0, 1) := by decide +kernel
theorem dX4_hadPinning_1 : decode cX4_hadPinning 1 = .ok (.getfield 33, 3) := by decide +kernel
theorem dX4_hadPinning_4 : decode cX4_hadPinning 4 = .ok (.aload_n 0, 1) := by decide +kernel
theorem dX4_hadPinning_5 : decode cX4_hadPinning 5 = .ok (.getfield 29, 3) := by decide +kernel
theorem dX4_hadPinning_8 : decode cX4_hadPinning 8 = .ok (.invokevirtual 162, 3) := by decide +kernel
theorem dX4_hadPinning_11 : decode cX4_hadPinning 11 = .ok (.iconst 0, 1) := by decide +kernel
theorem dX4_hadPinning_12 : decode cX4_hadPinning 12 = .ok (.istore_n 2, 1) := by decide +kernel
theorem dX4_hadPinning_13 : decode cX4_hadPinning 13 = .ok (.iload_n 2, 1) := by decide +kernel
theorem dX4_hadPinning_14 : decode cX4_hadPinning 14 = .ok (.aload_n 0, 1) := by decide +kernel
theorem dX4_hadPinning_15 : decode cX4_hadPinning 15 = .ok (.getfield 19, 3) := by decide +kernel
theorem dX4_hadPinning_18 : decode cX4_hadPinning 18 = .ok (.getfield 82, 3) := by decide +kernel
theorem dX4_hadPinning_21 : decode cX4_hadPinning 21 = .ok (.if_icmp .ge 31, 3) := by decide +kernel
theorem dX4_hadPinning_24 : decode cX4_hadPinning 24 = .ok (.iload_n 1, 1) := by decide +kernel
theorem dX4_hadPinning_25 : decode cX4_hadPinning 25 = .ok (.iload_n 2, 1) := by decide +kernel
theorem dX4_hadPinning_26 : decode cX4_hadPinning 26 = .ok (.ishr, 1) := by decide +kernel
theorem dX4_hadPinning_27 : decode cX4_hadPinning 27 = .ok (.iconst 1, 1) := by decide +kernel
theorem dX4_hadPinning_28 : decode cX4_hadPinning 28 = .ok (.iand, 1) := by decide +kernel
theorem dX4_hadPinning_29 : decode cX4_hadPinning 29 = .ok (.iconst 1, 1) := by decide +kernel
theorem dX4_hadPinning_30 : decode cX4_hadPinning 30 = .ok (.if_icmp .ne 16, 3) := by decide +kernel
theorem dX4_hadPinning_33 : decode cX4_hadPinning 33 = .ok (.aload_n 0, 1) := by decide +kernel
theorem dX4_hadPinning_34 : decode cX4_hadPinning 34 = .ok (.getfield 33, 3) := by decide +kernel
theorem dX4_hadPinning_37 : decode cX4_hadPinning 37 = .ok (.aload_n 0, 1) := by decide +kernel
theorem dX4_hadPinning_38 : decode cX4_hadPinning 38 = .ok (.getfield 19, 3) := by decide +kernel
theorem dX4_hadPinning_41 : decode cX4_hadPinning 41 = .ok (.iload_n 2, 1) := by decide +kernel
theorem dX4_hadPinning_42 : decode cX4_hadPinning 42 = .ok (.iconst 3, 1) := by decide +kernel
theorem dX4_hadPinning_43 : decode cX4_hadPinning 43 = .ok (.invokevirtual 231, 3) := by decide +kernel
theorem dX4_hadPinning_46 : decode cX4_hadPinning 46 = .ok (.iinc 2 1, 3) := by decide +kernel
theorem dX4_hadPinning_49 : decode cX4_hadPinning 49 = .ok (.goto (-36), 3) := by decide +kernel
theorem dX4_hadPinning_52 : decode cX4_hadPinning 52 = .ok (.aload_n 0, 1) := by decide +kernel
theorem dX4_hadPinning_53 : decode cX4_hadPinning 53 = .ok (.getfield 33, 3) := by decide +kernel
theorem dX4_hadPinning_56 : decode cX4_hadPinning 56 = .ok (.aload_n 0, 1) := by decide +kernel
theorem dX4_hadPinning_57 : decode cX4_hadPinning 57 = .ok (.getfield 19, 3) := by decide +kernel
theorem dX4_hadPinning_60 : decode cX4_hadPinning 60 = .ok (.bipush 60, 2) := by decide +kernel
theorem dX4_hadPinning_62 : decode cX4_hadPinning 62 = .ok (.invokevirtual 136, 3) := by decide +kernel
theorem dX4_hadPinning_65 : decode cX4_hadPinning 65 = .ok (.aload_n 0, 1) := by decide +kernel
theorem dX4_hadPinning_66 : decode cX4_hadPinning 66 = .ok (.getfield 33, 3) := by decide +kernel
theorem dX4_hadPinning_69 : decode cX4_hadPinning 69 = .ok (.getfield 140, 3) := by decide +kernel
theorem dX4_hadPinning_72 : decode cX4_hadPinning 72 = .ok (.ireturn, 1) := by decide +kernel
set_option maxRecDepth 20000 in
theorem ggX4_hadWithout_X2_copyOf : GoodIn wsX4_hadWithout wsX2_copyOf := goodIn_r _ [10, 11, 12, 13, 14, 15, 16, 17, 18, 19, 20, 75, 76, 77, 78, 79, 80] (by decide +kernel) (by decide +kernel)
set_option maxRecDepth 20000 in
theorem gX4_hadWithout_X2_copyOf : GoodIn wsX4_hadWithout (wsV RX4 162 RX2 yX2_copyOf wsX2_copyOf) := goodIn_app (goodIn_of _ (by decide +kernel)) ggX4_hadWithout_X2_copyOf
set_option maxRecDepth 20000 in
theorem ggX4_hadWithout_X2_goBy : GoodIn wsX4_hadWithout wsX2_goBy := goodIn_r _ [24, 12, 25, 26, 27, 9, 28, 29, 13, 18, 11, 19, 30, 31, 32, 33, 34, 35, 36, 37, 38, 39, 40, 41, 42, 43, 44, 45, 46, 47, 48, 49, 50, 51, 52, 53, 54, 55, 56, 57, 58, 59, 60, 61, 62, 63, 64, 75, 76, 77, 78, 79, 80, 81, 82, 83, 84, 85, 86, 87, 88, 89, 90, 91, 92, 93] (by decide +kernel) (by decide +kernel)
set_option maxRecDepth 20000 in
theorem gX4_hadWithout_X2_goBy : GoodIn wsX4_hadWithout (wsV RX4 136 RX2 yX2_goBy wsX2_goBy) := goodIn_app (goodIn_of _ (by decide +kernel)) ggX4_hadWithout_X2_goBy
theorem dX4_hadWithout_0 : decode cX4_hadWithout 0 = .ok (.aload_n 0, 1) := by decide +kernel
theorem dX4_hadWithout_1 : decode cX4_hadWithout 1 = .ok (.getfield 33, 3) := by decide +kernel
theorem dX4_hadWithout_4 : decode cX4_hadWithout 4 = .ok (.aload_n 0, 1) := by decide +kernel
theorem dX4_hadWithout_5 : decode cX4_hadWithout 5 = .ok (.getfield 29, 3) := by decide +kernel
theorem dX4_hadWithout_8 : decode cX4_hadWithout 8 = .ok (.invokevirtual 162, 3) := by decide +kernel
theorem dX4_hadWithout_11 : decode cX4_hadWithout 11 = .ok (.aload_n 0, 1) := by decide +kernel
theorem dX4_hadWithout_12 : decode cX4_hadWithout 12 = .ok (.getfield 33, 3) := by decide +kernel
theorem dX4_hadWithout_15 : decode cX4_hadWithout 15 = .ok (.getfield 106, 3) := by decide +kernel
theorem dX4_hadWithout_18 : decode cX4_hadWithout 18 = .ok (.iload_n 1, 1) := by decide +kernel
theorem dX4_hadWithout_19 : decode cX4_hadWithout 19 = .ok (.iconst 3, 1) := by decide +kernel
theorem dX4_hadWithout_20 : decode cX4_hadWithout 20 = .ok (.iastore, 1) := by decide +kernel
theorem dX4_hadWithout_21 : decode cX4_hadWithout 21 = .ok (.aload_n 0, 1) := by decide +kernel
theorem dX4_hadWithout_22 : decode cX4_hadWithout 22 = .ok (.getfield 33, 3) := by decide +kernel
theorem dX4_hadWithout_25 : decode cX4_hadWithout 25 = .ok (.aload_n 0, 1) := by decide +kernel
theorem dX4_hadWithout_26 : decode cX4_hadWithout 26 = .ok (.getfield 19, 3) := by decide +kernel
theorem dX4_hadWithout_29 : decode cX4_hadWithout 29 = .ok (.bipush 60, 2) := by decide +kernel
theorem dX4_hadWithout_31 : decode cX4_hadWithout 31 = .ok (.invokevirtual 136, 3) := by decide +kernel
theorem dX4_hadWithout_34 : decode cX4_hadWithout 34 = .ok (.aload_n 0, 1) := by decide +kernel
theorem dX4_hadWithout_35 : decode cX4_hadWithout 35 = .ok (.getfield 33, 3) := by decide +kernel
theorem dX4_hadWithout_38 : decode cX4_hadWithout 38 = .ok (.getfield 140, 3) := by decide +kernel
theorem dX4_hadWithout_41 : decode cX4_hadWithout 41 = .ok (.ireturn, 1) := by decide +kernel
set_option maxRecDepth 20000 in
theorem ggX4_hadLate_X2_copyOf : GoodIn wsX4_hadLate wsX2_copyOf := goodIn_r _ [11, 12, 13, 14, 15, 16, 17, 18, 19, 20, 21, 89, 90, 91, 92, 93, 94] (by decide +kernel) (by decide +kernel)
set_option maxRecDepth 20000 in
theorem gX4_hadLate_X2_copyOf : GoodIn wsX4_hadLate (wsV RX4 162 RX2 yX2_copyOf wsX2_copyOf) := goodIn_app (goodIn_of _ (by decide +kernel)) ggX4_hadLate_X2_copyOf
set_option maxRecDepth 20000 in
theorem ggX4_hadLate_X2_goBy : GoodIn wsX4_hadLate wsX2_goBy := goodIn_r _ [25, 13, 26, 27, 28, 10, 29, 30, 14, 19, 12, 20, 31, 32, 33, 34, 35, 36, 37, 38, 39, 40, 41, 42, 43, 44, 45, 46, 47, 48, 49, 50, 51, 52, 53, 54, 55, 56, 57, 58, 59, 60, 61, 62, 63, 64, 65, 89, 90, 91, 92, 93, 94, 76, 77, 78, 79, 80, 81, 82, 83, 84, 85, 86, 87, 88] (by decide +kernel) (by decide +kernel)
set_option maxRecDepth 20000 in
theorem gX4_hadLate_X2_goBy : GoodIn wsX4_hadLate (wsV RX4 136 RX2 yX2_goBy wsX2_goBy) := goodIn_app (goodIn_of _ (by decide +kernel)) ggX4_hadLate_X2_goBy
theorem dX4_hadLate_0 : decode cX4_hadLate 0 = .ok (.aload_n 0, 1) := by decide +kernel
theorem dX4_hadLate_1 : decode cX4_hadLate 1 = .ok (.getfield 33, 3) := by decide +kernel
theorem dX4_hadLate_4 : decode cX4_hadLate 4 = .ok (.aload_n 0, 1) := by decide +kernel
theorem dX4_hadLate_5 : decode cX4_hadLate 5 = .ok (.getfield 29, 3) := by decide +kernel
theorem dX4_hadLate_8 : decode cX4_hadLate 8 = .ok (.invokevirtual 162, 3) := by decide +kernel
theorem dX4_hadLate_11 : decode cX4_hadLate 11 = .ok (.iconst 0, 1) := by decide +kernel
theorem dX4_hadLate_12 : decode cX4_hadLate 12 = .ok (.istore_n 3, 1) := by decide +kernel
theorem dX4_hadLate_13 : decode cX4_hadLate 13 = .ok (.iload_n 3, 1) := by decide +kernel
theorem dX4_hadLate_14 : decode cX4_hadLate 14 = .ok (.aload_n 0, 1) := by decide +kernel
theorem dX4_hadLate_15 : decode cX4_hadLate 15 = .ok (.getfield 19, 3) := by decide +kernel
theorem dX4_hadLate_18 : decode cX4_hadLate 18 = .ok (.getfield 82, 3) := by decide +kernel
theorem dX4_hadLate_21 : decode cX4_hadLate 21 = .ok (.if_icmp .ge 31, 3) := by decide +kernel
theorem dX4_hadLate_24 : decode cX4_hadLate 24 = .ok (.iload_n 1, 1) := by decide +kernel
theorem dX4_hadLate_25 : decode cX4_hadLate 25 = .ok (.iload_n 3, 1) := by decide +kernel
theorem dX4_hadLate_26 : decode cX4_hadLate 26 = .ok (.ishr, 1) := by decide +kernel
theorem dX4_hadLate_27 : decode cX4_hadLate 27 = .ok (.iconst 1, 1) := by decide +kernel
theorem dX4_hadLate_28 : decode cX4_hadLate 28 = .ok (.iand, 1) := by decide +kernel
theorem dX4_hadLate_29 : decode cX4_hadLate 29 = .ok (.iconst 1, 1) := by decide +kernel
theorem dX4_hadLate_30 : decode cX4_hadLate 30 = .ok (.if_icmp .ne 16, 3) := by decide +kernel
theorem dX4_hadLate_33 : decode cX4_hadLate 33 = .ok (.aload_n 0, 1) := by decide +kernel
theorem dX4_hadLate_34 : decode cX4_hadLate 34 = .ok (.getfield 33, 3) := by decide +kernel
theorem dX4_hadLate_37 : decode cX4_hadLate 37 = .ok (.getfield 234, 3) := by decide +kernel
theorem dX4_hadLate_40 : decode cX4_hadLate 40 = .ok (.iload_n 3, 1) := by decide +kernel
theorem dX4_hadLate_41 : decode cX4_hadLate 41 = .ok (.dup2, 1) := by decide +kernel
theorem dX4_hadLate_42 : decode cX4_hadLate 42 = .ok (.iaload, 1) := by decide +kernel
theorem dX4_hadLate_43 : decode cX4_hadLate 43 = .ok (.iload_n 2, 1) := by decide +kernel
theorem dX4_hadLate_44 : decode cX4_hadLate 44 = .ok (.iadd, 1) := by decide +kernel
theorem dX4_hadLate_45 : decode cX4_hadLate 45 = .ok (.iastore, 1) := by decide +kernel
theorem dX4_hadLate_46 : decode cX4_hadLate 46 = .ok (.iinc 3 1, 3) := by decide +kernel
theorem dX4_hadLate_49 : decode cX4_hadLate 49 = .ok (.goto (-36), 3) := by decide +kernel
theorem dX4_hadLate_52 : decode cX4_hadLate 52 = .ok (.aload_n 0, 1) := by decide +kernel
theorem dX4_hadLate_53 : decode cX4_hadLate 53 = .ok (.getfield 33, 3) := by decide +kernel
theorem dX4_hadLate_56 : decode cX4_hadLate 56 = .ok (.aload_n 0, 1) := by decide +kernel
theorem dX4_hadLate_57 : decode cX4_hadLate 57 = .ok (.getfield 19, 3) := by decide +kernel
theorem dX4_hadLate_60 : decode cX4_hadLate 60 = .ok (.bipush 60, 2) := by decide +kernel
theorem dX4_hadLate_62 : decode cX4_hadLate 62 = .ok (.invokevirtual 136, 3) := by decide +kernel
theorem dX4_hadLate_65 : decode cX4_hadLate 65 = .ok (.aload_n 0, 1) := by decide +kernel
theorem dX4_hadLate_66 : decode cX4_hadLate 66 = .ok (.getfield 33, 3) := by decide +kernel
theorem dX4_hadLate_69 : decode cX4_hadLate 69 = .ok (.getfield 140, 3) := by decide +kernel
theorem dX4_hadLate_72 : decode cX4_hadLate 72 = .ok (.ireturn, 1) := by decide +kernel
theorem dX4_chanceOf_0 : decode cX4_chanceOf 0 = .ok (.iconst 1, 1) := by decide +kernel
theorem dX4_chanceOf_1 : decode cX4_chanceOf 1 = .ok (.istore 4, 2) := by decide +kernel
theorem dX4_chanceOf_3 : decode cX4_chanceOf 3 = .ok (.iconst 0, 1) := by decide +kernel
theorem dX4_chanceOf_4 : decode cX4_chanceOf 4 = .ok (.istore 5, 2) := by decide +kernel
theorem dX4_chanceOf_6 : decode cX4_chanceOf 6 = .ok (.iload 5, 2) := by decide +kernel
theorem dX4_chanceOf_8 : decode cX4_chanceOf 8 = .ok (.bipush 7, 2) := by decide +kernel
theorem dX4_chanceOf_10 : decode cX4_chanceOf 10 = .ok (.if_icmp .ge 39, 3) := by decide +kernel
theorem dX4_chanceOf_13 : decode cX4_chanceOf 13 = .ok (.iload_n 1, 1) := by decide +kernel
theorem dX4_chanceOf_14 : decode cX4_chanceOf 14 = .ok (.iload 5, 2) := by decide +kernel
theorem dX4_chanceOf_16 : decode cX4_chanceOf 16 = .ok (.ishr, 1) := by decide +kernel
theorem dX4_chanceOf_17 : decode cX4_chanceOf 17 = .ok (.iconst 1, 1) := by decide +kernel
theorem dX4_chanceOf_18 : decode cX4_chanceOf 18 = .ok (.iand, 1) := by decide +kernel
theorem dX4_chanceOf_19 : decode cX4_chanceOf 19 = .ok (.iconst 1, 1) := by decide +kernel
theorem dX4_chanceOf_20 : decode cX4_chanceOf 20 = .ok (.if_icmp .ne 23, 3) := by decide +kernel
theorem dX4_chanceOf_23 : decode cX4_chanceOf 23 = .ok (.iload 4, 2) := by decide +kernel
theorem dX4_chanceOf_25 : decode cX4_chanceOf 25 = .ok (.iload_n 0, 1) := by decide +kernel
theorem dX4_chanceOf_26 : decode cX4_chanceOf 26 = .ok (.iload 5, 2) := by decide +kernel
theorem dX4_chanceOf_28 : decode cX4_chanceOf 28 = .ok (.ishr, 1) := by decide +kernel
theorem dX4_chanceOf_29 : decode cX4_chanceOf 29 = .ok (.iconst 1, 1) := by decide +kernel
theorem dX4_chanceOf_30 : decode cX4_chanceOf 30 = .ok (.iand, 1) := by decide +kernel
theorem dX4_chanceOf_31 : decode cX4_chanceOf 31 = .ok (.iconst 1, 1) := by decide +kernel
theorem dX4_chanceOf_32 : decode cX4_chanceOf 32 = .ok (.if_icmp .ne 7, 3) := by decide +kernel
theorem dX4_chanceOf_35 : decode cX4_chanceOf 35 = .ok (.iload_n 2, 1) := by decide +kernel
theorem dX4_chanceOf_36 : decode cX4_chanceOf 36 = .ok (.goto 4, 3) := by decide +kernel
theorem dX4_chanceOf_39 : decode cX4_chanceOf 39 = .ok (.iload_n 3, 1) := by decide +kernel
theorem dX4_chanceOf_40 : decode cX4_chanceOf 40 = .ok (.imul, 1) := by decide +kernel
theorem dX4_chanceOf_41 : decode cX4_chanceOf 41 = .ok (.istore 4, 2) := by decide +kernel
theorem dX4_chanceOf_43 : decode cX4_chanceOf 43 = .ok (.iinc 5 1, 3) := by decide +kernel
theorem dX4_chanceOf_46 : decode cX4_chanceOf 46 = .ok (.goto (-40), 3) := by decide +kernel
theorem dX4_chanceOf_49 : decode cX4_chanceOf 49 = .ok (.iload 4, 2) := by decide +kernel
theorem dX4_chanceOf_51 : decode cX4_chanceOf 51 = .ok (.ireturn, 1) := by decide +kernel
theorem dX4_commonDivisor_0 : decode cX4_commonDivisor 0 = .ok (.iload_n 0, 1) := by decide +kernel
theorem dX4_commonDivisor_1 : decode cX4_commonDivisor 1 = .ok (.istore_n 2, 1) := by decide +kernel
theorem dX4_commonDivisor_2 : decode cX4_commonDivisor 2 = .ok (.iload_n 1, 1) := by decide +kernel
theorem dX4_commonDivisor_3 : decode cX4_commonDivisor 3 = .ok (.istore_n 3, 1) := by decide +kernel
theorem dX4_commonDivisor_4 : decode cX4_commonDivisor 4 = .ok (.iconst 0, 1) := by decide +kernel
theorem dX4_commonDivisor_5 : decode cX4_commonDivisor 5 = .ok (.istore 4, 2) := by decide +kernel
theorem dX4_commonDivisor_7 : decode cX4_commonDivisor 7 = .ok (.iload 4, 2) := by decide +kernel
theorem dX4_commonDivisor_9 : decode cX4_commonDivisor 9 = .ok (.bipush 100, 2) := by decide +kernel
theorem dX4_commonDivisor_11 : decode cX4_commonDivisor 11 = .ok (.if_icmp .ge 23, 3) := by decide +kernel
theorem dX4_commonDivisor_14 : decode cX4_commonDivisor 14 = .ok (.iload_n 3, 1) := by decide +kernel
theorem dX4_commonDivisor_15 : decode cX4_commonDivisor 15 = .ok (.ifCond .eq 19, 3) := by decide +kernel
theorem dX4_commonDivisor_18 : decode cX4_commonDivisor 18 = .ok (.iload_n 2, 1) := by decide +kernel
theorem dX4_commonDivisor_19 : decode cX4_commonDivisor 19 = .ok (.iload_n 3, 1) := by decide +kernel
theorem dX4_commonDivisor_20 : decode cX4_commonDivisor 20 = .ok (.irem, 1) := by decide +kernel
theorem dX4_commonDivisor_21 : decode cX4_commonDivisor 21 = .ok (.istore 5, 2) := by decide +kernel
theorem dX4_commonDivisor_23 : decode cX4_commonDivisor 23 = .ok (.iload_n 3, 1) := by decide +kernel
theorem dX4_commonDivisor_24 : decode cX4_commonDivisor 24 = .ok (.istore_n 2, 1) := by decide +kernel
theorem dX4_commonDivisor_25 : decode cX4_commonDivisor 25 = .ok (.iload 5, 2) := by decide +kernel
theorem dX4_commonDivisor_27 : decode cX4_commonDivisor 27 = .ok (.istore_n 3, 1) := by decide +kernel
theorem dX4_commonDivisor_28 : decode cX4_commonDivisor 28 = .ok (.iinc 4 1, 3) := by decide +kernel
theorem dX4_commonDivisor_31 : decode cX4_commonDivisor 31 = .ok (.goto (-24), 3) := by decide +kernel
theorem dX4_commonDivisor_34 : decode cX4_commonDivisor 34 = .ok (.iload_n 2, 1) := by decide +kernel
theorem dX4_commonDivisor_35 : decode cX4_commonDivisor 35 = .ok (.ireturn, 1) := by decide +kernel
set_option maxRecDepth 20000 in
theorem ggX4_allNotedSo_X4_worth : GoodIn wsX4_allNotedSo wsX4_worth := goodIn_r _ [7, 8, 9, 10, 11, 12, 13, 14] (by decide +kernel) (by decide +kernel)
set_option maxRecDepth 20000 in
theorem gX4_allNotedSo_X4_worth : GoodIn wsX4_allNotedSo (va_wsS RX4 237 yX4_worth wsX4_worth) := goodIn_app (goodIn_of _ (by decide +kernel)) ggX4_allNotedSo_X4_worth
theorem dX4_allNotedSo_0 : decode cX4_allNotedSo 0 = .ok (.iconst 0, 1) := by decide +kernel
theorem dX4_allNotedSo_1 : decode cX4_allNotedSo 1 = .ok (.istore 4, 2) := by decide +kernel
theorem dX4_allNotedSo_3 : decode cX4_allNotedSo 3 = .ok (.iload 4, 2) := by decide +kernel
theorem dX4_allNotedSo_5 : decode cX4_allNotedSo 5 = .ok (.aload_n 0, 1) := by decide +kernel
theorem dX4_allNotedSo_6 : decode cX4_allNotedSo 6 = .ok (.getfield 88, 3) := by decide +kernel
theorem dX4_allNotedSo_9 : decode cX4_allNotedSo 9 = .ok (.if_icmp .ge 41, 3) := by decide +kernel
theorem dX4_allNotedSo_12 : decode cX4_allNotedSo 12 = .ok (.iload 4, 2) := by decide +kernel
theorem dX4_allNotedSo_14 : decode cX4_allNotedSo 14 = .ok (.bipush 8, 2) := by decide +kernel
theorem dX4_allNotedSo_16 : decode cX4_allNotedSo 16 = .ok (.if_icmp .ge 34, 3) := by decide +kernel
theorem dX4_allNotedSo_19 : decode cX4_allNotedSo 19 = .ok (.iload_n 1, 1) := by decide +kernel
theorem dX4_allNotedSo_20 : decode cX4_allNotedSo 20 = .ok (.iload_n 2, 1) := by decide +kernel
theorem dX4_allNotedSo_21 : decode cX4_allNotedSo 21 = .ok (.iload_n 3, 1) := by decide +kernel
theorem dX4_allNotedSo_22 : decode cX4_allNotedSo 22 = .ok (.aload_n 0, 1) := by decide +kernel
theorem dX4_allNotedSo_23 : decode cX4_allNotedSo 23 = .ok (.getfield 48, 3) := by decide +kernel
theorem dX4_allNotedSo_26 : decode cX4_allNotedSo 26 = .ok (.iload 4, 2) := by decide +kernel
theorem dX4_allNotedSo_28 : decode cX4_allNotedSo 28 = .ok (.iaload, 1) := by decide +kernel
theorem dX4_allNotedSo_29 : decode cX4_allNotedSo 29 = .ok (.invokestatic 237, 3) := by decide +kernel
theorem dX4_allNotedSo_32 : decode cX4_allNotedSo 32 = .ok (.aload_n 0, 1) := by decide +kernel
theorem dX4_allNotedSo_33 : decode cX4_allNotedSo 33 = .ok (.getfield 52, 3) := by decide +kernel
theorem dX4_allNotedSo_36 : decode cX4_allNotedSo 36 = .ok (.iload 4, 2) := by decide +kernel
theorem dX4_allNotedSo_38 : decode cX4_allNotedSo 38 = .ok (.iaload, 1) := by decide +kernel
theorem dX4_allNotedSo_39 : decode cX4_allNotedSo 39 = .ok (.if_icmp .eq 5, 3) := by decide +kernel
theorem dX4_allNotedSo_42 : decode cX4_allNotedSo 42 = .ok (.iconst 0, 1) := by decide +kernel
theorem dX4_allNotedSo_43 : decode cX4_allNotedSo 43 = .ok (.ireturn, 1) := by decide +kernel
theorem dX4_allNotedSo_44 : decode cX4_allNotedSo 44 = .ok (.iinc 4 1, 3) := by decide +kernel
theorem dX4_allNotedSo_47 : decode cX4_allNotedSo 47 = .ok (.goto (-44), 3) := by decide +kernel
theorem dX4_allNotedSo_50 : decode cX4_allNotedSo 50 = .ok (.iconst 1, 1) := by decide +kernel
theorem dX4_allNotedSo_51 : decode cX4_allNotedSo 51 = .ok (.ireturn, 1) := by decide +kernel
theorem dX4_draw_0 : decode cX4_draw 0 = .ok (.ldc2_w 240, 3) := by decide +kernel
theorem dX4_draw_3 : decode cX4_draw 3 = .ok (.iload_n 0, 1) := by decide +kernel
theorem dX4_draw_4 : decode cX4_draw 4 = .ok (.i2l, 1) := by decide +kernel
theorem dX4_draw_5 : decode cX4_draw 5 = .ok (.lmul, 1) := by decide +kernel
theorem dX4_draw_6 : decode cX4_draw 6 = .ok (.ldc2_w 242, 3) := by decide +kernel
theorem dX4_draw_9 : decode cX4_draw 9 = .ok (.iload_n 1, 1) := by decide +kernel
theorem dX4_draw_10 : decode cX4_draw 10 = .ok (.i2l, 1) := by decide +kernel
theorem dX4_draw_11 : decode cX4_draw 11 = .ok (.lmul, 1) := by decide +kernel
theorem dX4_draw_12 : decode cX4_draw 12 = .ok (.ladd, 1) := by decide +kernel
theorem dX4_draw_13 : decode cX4_draw 13 = .ok (.lconst 1, 1) := by decide +kernel
theorem dX4_draw_14 : decode cX4_draw 14 = .ok (.ladd, 1) := by decide +kernel
theorem dX4_draw_15 : decode cX4_draw 15 = .ok (.lstore_n 2, 1) := by decide +kernel
theorem dX4_draw_16 : decode cX4_draw 16 = .ok (.lload_n 2, 1) := by decide +kernel
theorem dX4_draw_17 : decode cX4_draw 17 = .ok (.lload_n 2, 1) := by decide +kernel
theorem dX4_draw_18 : decode cX4_draw 18 = .ok (.lmul, 1) := by decide +kernel
theorem dX4_draw_19 : decode cX4_draw 19 = .ok (.ldc2_w 244, 3) := by decide +kernel
theorem dX4_draw_22 : decode cX4_draw 22 = .ok (.lrem, 1) := by decide +kernel
theorem dX4_draw_23 : decode cX4_draw 23 = .ok (.l2i, 1) := by decide +kernel
theorem dX4_draw_24 : decode cX4_draw 24 = .ok (.ireturn, 1) := by decide +kernel
set_option maxRecDepth 20000 in
theorem ggX4_actInTrial_X2_canPin : GoodIn wsX4_actInTrial wsX2_canPin := goodIn_r _ [10, 11, 12, 13, 14, 47, 48, 49, 50, 51, 52, 53, 54, 55, 56, 57, 58, 59, 60, 61, 62, 63, 64, 65] (by decide +kernel) (by decide +kernel)
set_option maxRecDepth 20000 in
theorem gX4_actInTrial_X2_canPin : GoodIn wsX4_actInTrial (wsV RX4 143 RX2 yX2_canPin wsX2_canPin) := goodIn_app (goodIn_of _ (by decide +kernel)) ggX4_actInTrial_X2_canPin
set_option maxRecDepth 20000 in
theorem ggX4_actInTrial_X2_pinBy : GoodIn wsX4_actInTrial wsX2_pinBy := goodIn_r _ [18, 13, 19, 20, 21, 9, 22, 14, 23, 24, 25, 26, 27, 28, 29, 30, 31, 32, 60, 61, 62, 63, 64, 65, 47, 48, 49, 50, 51, 52, 53, 54, 55, 56, 57, 58, 59] (by decide +kernel) (by decide +kernel)
set_option maxRecDepth 20000 in
theorem gX4_actInTrial_X2_pinBy : GoodIn wsX4_actInTrial (wsV RX4 147 RX2 yX2_pinBy wsX2_pinBy) := goodIn_app (goodIn_of _ (by decide +kernel)) ggX4_actInTrial_X2_pinBy
set_option maxRecDepth 20000 in
theorem ggX4_actInTrial_X2_lendPin : GoodIn wsX4_actInTrial wsX2_lendPin := goodIn_r _ [36, 13, 60, 61, 62, 63, 64, 65] (by decide +kernel) (by decide +kernel)
set_option maxRecDepth 20000 in
theorem gX4_actInTrial_X2_lendPin : GoodIn wsX4_actInTrial (wsV RX4 151 RX2 yX2_lendPin wsX2_lendPin) := goodIn_app (goodIn_of _ (by decide +kernel)) ggX4_actInTrial_X2_lendPin
theorem dX4_actInTrial_0 : decode cX4_actInTrial 0 = .ok (.aload_n 0, 1) := by decide +kernel
theorem dX4_actInTrial_1 : decode cX4_actInTrial 1 = .ok (.getfield 19, 3) := by decide +kernel
theorem dX4_actInTrial_4 : decode cX4_actInTrial 4 = .ok (.getfield 193, 3) := by decide +kernel
theorem dX4_actInTrial_7 : decode cX4_actInTrial 7 = .ok (.istore_n 2, 1) := by decide +kernel
theorem dX4_actInTrial_8 : decode cX4_actInTrial 8 = .ok (.aload_n 0, 1) := by decide +kernel
theorem dX4_actInTrial_9 : decode cX4_actInTrial 9 = .ok (.getfield 19, 3) := by decide +kernel
theorem dX4_actInTrial_12 : decode cX4_actInTrial 12 = .ok (.getfield 82, 3) := by decide +kernel
theorem dX4_actInTrial_15 : decode cX4_actInTrial 15 = .ok (.istore_n 3, 1) := by decide +kernel
theorem dX4_actInTrial_16 : decode cX4_actInTrial 16 = .ok (.iload_n 2, 1) := by decide +kernel
theorem dX4_actInTrial_17 : decode cX4_actInTrial 17 = .ok (.iconst 1, 1) := by decide +kernel
theorem dX4_actInTrial_18 : decode cX4_actInTrial 18 = .ok (.if_icmp .lt 8, 3) := by decide +kernel
theorem dX4_actInTrial_21 : decode cX4_actInTrial 21 = .ok (.iload_n 3, 1) := by decide +kernel
theorem dX4_actInTrial_22 : decode cX4_actInTrial 22 = .ok (.iconst 1, 1) := by decide +kernel
theorem dX4_actInTrial_23 : decode cX4_actInTrial 23 = .ok (.if_icmp .ge 4, 3) := by decide +kernel
theorem dX4_actInTrial_26 : decode cX4_actInTrial 26 = .ok (.return_, 1) := by decide +kernel
theorem dX4_actInTrial_27 : decode cX4_actInTrial 27 = .ok (.iload_n 1, 1) := by decide +kernel
theorem dX4_actInTrial_28 : decode cX4_actInTrial 28 = .ok (.bipush 8, 2) := by decide +kernel
theorem dX4_actInTrial_30 : decode cX4_actInTrial 30 = .ok (.irem, 1) := by decide +kernel
theorem dX4_actInTrial_31 : decode cX4_actInTrial 31 = .ok (.istore 4, 2) := by decide +kernel
theorem dX4_actInTrial_33 : decode cX4_actInTrial 33 = .ok (.iload_n 1, 1) := by decide +kernel
theorem dX4_actInTrial_34 : decode cX4_actInTrial 34 = .ok (.bipush 8, 2) := by decide +kernel
theorem dX4_actInTrial_36 : decode cX4_actInTrial 36 = .ok (.idiv, 1) := by decide +kernel
theorem dX4_actInTrial_37 : decode cX4_actInTrial 37 = .ok (.iload_n 2, 1) := by decide +kernel
theorem dX4_actInTrial_38 : decode cX4_actInTrial 38 = .ok (.irem, 1) := by decide +kernel
theorem dX4_actInTrial_39 : decode cX4_actInTrial 39 = .ok (.istore 5, 2) := by decide +kernel
theorem dX4_actInTrial_41 : decode cX4_actInTrial 41 = .ok (.iload_n 1, 1) := by decide +kernel
theorem dX4_actInTrial_42 : decode cX4_actInTrial 42 = .ok (.bipush 64, 2) := by decide +kernel
theorem dX4_actInTrial_44 : decode cX4_actInTrial 44 = .ok (.idiv, 1) := by decide +kernel
theorem dX4_actInTrial_45 : decode cX4_actInTrial 45 = .ok (.iload_n 3, 1) := by decide +kernel
theorem dX4_actInTrial_46 : decode cX4_actInTrial 46 = .ok (.irem, 1) := by decide +kernel
theorem dX4_actInTrial_47 : decode cX4_actInTrial 47 = .ok (.istore 6, 2) := by decide +kernel
theorem dX4_actInTrial_49 : decode cX4_actInTrial 49 = .ok (.iload_n 1, 1) := by decide +kernel
theorem dX4_actInTrial_50 : decode cX4_actInTrial 50 = .ok (.bipush 64, 2) := by decide +kernel
theorem dX4_actInTrial_52 : decode cX4_actInTrial 52 = .ok (.idiv, 1) := by decide +kernel
theorem dX4_actInTrial_53 : decode cX4_actInTrial 53 = .ok (.iload_n 2, 1) := by decide +kernel
theorem dX4_actInTrial_54 : decode cX4_actInTrial 54 = .ok (.irem, 1) := by decide +kernel
theorem dX4_actInTrial_55 : decode cX4_actInTrial 55 = .ok (.istore 7, 2) := by decide +kernel
theorem dX4_actInTrial_57 : decode cX4_actInTrial 57 = .ok (.iload 4, 2) := by decide +kernel
theorem dX4_actInTrial_59 : decode cX4_actInTrial 59 = .ok (.iconst 1, 1) := by decide +kernel
theorem dX4_actInTrial_60 : decode cX4_actInTrial 60 = .ok (.if_icmp .gt 36, 3) := by decide +kernel
theorem dX4_actInTrial_63 : decode cX4_actInTrial 63 = .ok (.aload_n 0, 1) := by decide +kernel
theorem dX4_actInTrial_64 : decode cX4_actInTrial 64 = .ok (.getfield 33, 3) := by decide +kernel
theorem dX4_actInTrial_67 : decode cX4_actInTrial 67 = .ok (.aload_n 0, 1) := by decide +kernel
theorem dX4_actInTrial_68 : decode cX4_actInTrial 68 = .ok (.getfield 19, 3) := by decide +kernel
theorem dX4_actInTrial_71 : decode cX4_actInTrial 71 = .ok (.iload 5, 2) := by decide +kernel
theorem dX4_actInTrial_73 : decode cX4_actInTrial 73 = .ok (.iload 6, 2) := by decide +kernel
theorem dX4_actInTrial_75 : decode cX4_actInTrial 75 = .ok (.invokevirtual 143, 3) := by decide +kernel
theorem dX4_actInTrial_78 : decode cX4_actInTrial 78 = .ok (.ifCond .eq 18, 3) := by decide +kernel
theorem dX4_actInTrial_81 : decode cX4_actInTrial 81 = .ok (.aload_n 0, 1) := by decide +kernel
theorem dX4_actInTrial_82 : decode cX4_actInTrial 82 = .ok (.getfield 33, 3) := by decide +kernel
theorem dX4_actInTrial_85 : decode cX4_actInTrial 85 = .ok (.aload_n 0, 1) := by decide +kernel
theorem dX4_actInTrial_86 : decode cX4_actInTrial 86 = .ok (.getfield 19, 3) := by decide +kernel
theorem dX4_actInTrial_89 : decode cX4_actInTrial 89 = .ok (.iload 5, 2) := by decide +kernel
theorem dX4_actInTrial_91 : decode cX4_actInTrial 91 = .ok (.iload 6, 2) := by decide +kernel
theorem dX4_actInTrial_93 : decode cX4_actInTrial 93 = .ok (.invokevirtual 147, 3) := by decide +kernel
theorem dX4_actInTrial_96 : decode cX4_actInTrial 96 = .ok (.iload 4, 2) := by decide +kernel
theorem dX4_actInTrial_98 : decode cX4_actInTrial 98 = .ok (.iconst 2, 1) := by decide +kernel
theorem dX4_actInTrial_99 : decode cX4_actInTrial 99 = .ok (.if_icmp .ne 49, 3) := by decide +kernel
theorem dX4_actInTrial_102 : decode cX4_actInTrial 102 = .ok (.iload 5, 2) := by decide +kernel
theorem dX4_actInTrial_104 : decode cX4_actInTrial 104 = .ok (.iload 7, 2) := by decide +kernel
theorem dX4_actInTrial_106 : decode cX4_actInTrial 106 = .ok (.if_icmp .eq 42, 3) := by decide +kernel
theorem dX4_actInTrial_109 : decode cX4_actInTrial 109 = .ok (.aload_n 0, 1) := by decide +kernel
theorem dX4_actInTrial_110 : decode cX4_actInTrial 110 = .ok (.getfield 33, 3) := by decide +kernel
theorem dX4_actInTrial_113 : decode cX4_actInTrial 113 = .ok (.getfield 120, 3) := by decide +kernel
theorem dX4_actInTrial_116 : decode cX4_actInTrial 116 = .ok (.iload 5, 2) := by decide +kernel
theorem dX4_actInTrial_118 : decode cX4_actInTrial 118 = .ok (.iaload, 1) := by decide +kernel
theorem dX4_actInTrial_119 : decode cX4_actInTrial 119 = .ok (.ifCond .le 29, 3) := by decide +kernel
theorem dX4_actInTrial_122 : decode cX4_actInTrial 122 = .ok (.aload_n 0, 1) := by decide +kernel
theorem dX4_actInTrial_123 : decode cX4_actInTrial 123 = .ok (.getfield 33, 3) := by decide +kernel
theorem dX4_actInTrial_126 : decode cX4_actInTrial 126 = .ok (.getfield 120, 3) := by decide +kernel
theorem dX4_actInTrial_129 : decode cX4_actInTrial 129 = .ok (.iload 7, 2) := by decide +kernel
theorem dX4_actInTrial_131 : decode cX4_actInTrial 131 = .ok (.iaload, 1) := by decide +kernel
theorem dX4_actInTrial_132 : decode cX4_actInTrial 132 = .ok (.bipush 9, 2) := by decide +kernel
theorem dX4_actInTrial_134 : decode cX4_actInTrial 134 = .ok (.if_icmp .ge 14, 3) := by decide +kernel
theorem dX4_actInTrial_137 : decode cX4_actInTrial 137 = .ok (.aload_n 0, 1) := by decide +kernel
theorem dX4_actInTrial_138 : decode cX4_actInTrial 138 = .ok (.getfield 33, 3) := by decide +kernel
theorem dX4_actInTrial_141 : decode cX4_actInTrial 141 = .ok (.iload 5, 2) := by decide +kernel
theorem dX4_actInTrial_143 : decode cX4_actInTrial 143 = .ok (.iload 7, 2) := by decide +kernel
theorem dX4_actInTrial_145 : decode cX4_actInTrial 145 = .ok (.invokevirtual 151, 3) := by decide +kernel
theorem dX4_actInTrial_148 : decode cX4_actInTrial 148 = .ok (.return_, 1) := by decide +kernel
theorem dX4_worth_0 : decode cX4_worth 0 = .ok (.iload_n 0, 1) := by decide +kernel
theorem dX4_worth_1 : decode cX4_worth 1 = .ok (.tableswitch 68 1 3 #[27, 39, 54], 27) := by decide +kernel
theorem dX4_worth_28 : decode cX4_worth 28 = .ok (.iload_n 1, 1) := by decide +kernel
theorem dX4_worth_29 : decode cX4_worth 29 = .ok (.iload_n 2, 1) := by decide +kernel
theorem dX4_worth_30 : decode cX4_worth 30 = .ok (.iload_n 3, 1) := by decide +kernel
theorem dX4_worth_31 : decode cX4_worth 31 = .ok (.iconst 2, 1) := by decide +kernel
theorem dX4_worth_32 : decode cX4_worth 32 = .ok (.idiv, 1) := by decide +kernel
theorem dX4_worth_33 : decode cX4_worth 33 = .ok (.imul, 1) := by decide +kernel
theorem dX4_worth_34 : decode cX4_worth 34 = .ok (.isub, 1) := by decide +kernel
theorem dX4_worth_35 : decode cX4_worth 35 = .ok (.istore 4, 2) := by decide +kernel
theorem dX4_worth_37 : decode cX4_worth 37 = .ok (.goto 39, 3) := by decide +kernel
theorem dX4_worth_40 : decode cX4_worth 40 = .ok (.iload_n 1, 1) := by decide +kernel
theorem dX4_worth_41 : decode cX4_worth 41 = .ok (.iload_n 2, 1) := by decide +kernel
theorem dX4_worth_42 : decode cX4_worth 42 = .ok (.iload_n 3, 1) := by decide +kernel
theorem dX4_worth_43 : decode cX4_worth 43 = .ok (.imul, 1) := by decide +kernel
theorem dX4_worth_44 : decode cX4_worth 44 = .ok (.iadd, 1) := by decide +kernel
theorem dX4_worth_45 : decode cX4_worth 45 = .ok (.bipush 40, 2) := by decide +kernel
theorem dX4_worth_47 : decode cX4_worth 47 = .ok (.invokestatic 246, 3) := by decide +kernel
theorem dX4_worth_50 : decode cX4_worth 50 = .ok (.istore 4, 2) := by decide +kernel
theorem dX4_worth_52 : decode cX4_worth 52 = .ok (.goto 24, 3) := by decide +kernel
theorem dX4_worth_55 : decode cX4_worth 55 = .ok (.iload_n 1, 1) := by decide +kernel
theorem dX4_worth_56 : decode cX4_worth 56 = .ok (.iload_n 2, 1) := by decide +kernel
theorem dX4_worth_57 : decode cX4_worth 57 = .ok (.iload_n 3, 1) := by decide +kernel
theorem dX4_worth_58 : decode cX4_worth 58 = .ok (.imul, 1) := by decide +kernel
theorem dX4_worth_59 : decode cX4_worth 59 = .ok (.isub, 1) := by decide +kernel
theorem dX4_worth_60 : decode cX4_worth 60 = .ok (.iconst 0, 1) := by decide +kernel
theorem dX4_worth_61 : decode cX4_worth 61 = .ok (.invokestatic 177, 3) := by decide +kernel
theorem dX4_worth_64 : decode cX4_worth 64 = .ok (.istore 4, 2) := by decide +kernel
theorem dX4_worth_66 : decode cX4_worth 66 = .ok (.goto 10, 3) := by decide +kernel
theorem dX4_worth_69 : decode cX4_worth 69 = .ok (.iload_n 1, 1) := by decide +kernel
theorem dX4_worth_70 : decode cX4_worth 70 = .ok (.iload_n 2, 1) := by decide +kernel
theorem dX4_worth_71 : decode cX4_worth 71 = .ok (.iload_n 3, 1) := by decide +kernel
theorem dX4_worth_72 : decode cX4_worth 72 = .ok (.imul, 1) := by decide +kernel
theorem dX4_worth_73 : decode cX4_worth 73 = .ok (.isub, 1) := by decide +kernel
end
section
theorem dX4_worth_74 : decode cX4_worth 74 = .ok (.istore 4, 2) := by decide +kernel
theorem dX4_worth_76 : decode cX4_worth 76 = .ok (.iload 4, 2) := by decide +kernel
theorem dX4_worth_78 : decode cX4_worth 78 = .ok (.bipush (-20), 2) := by decide +kernel
theorem dX4_worth_80 : decode cX4_worth 80 = .ok (.invokestatic 177, 3) := by decide +kernel
theorem dX4_worth_83 : decode cX4_worth 83 = .ok (.ireturn, 1) := by decide +kernel
set_option maxRecDepth 20000 in
theorem ggX5_init_X5_clears : GoodIn wsX5_init wsX5_clears := goodIn_r _ [36, 37, 38, 31, 54, 55, 56, 57, 58, 59, 60, 61, 62, 63, 64, 65, 66, 67, 68, 69, 70, 71, 72, 73, 74, 75, 76, 77, 78, 79, 80, 81, 82, 83, 84, 85, 86, 87, 88, 89, 90, 91, 92] (by decide +kernel) (by decide +kernel)
set_option maxRecDepth 20000 in
theorem gX5_init_X5_clears : GoodIn wsX5_init (wsV RX5 87 RX5 yX5_clears wsX5_clears) := goodIn_app (goodIn_of _ (by decide +kernel)) ggX5_init_X5_clears
set_option maxRecDepth 20000 in
theorem ggX5_init_X5_comes : GoodIn wsX5_init wsX5_comes := goodIn_r _ [42, 15, 37, 16, 17, 18, 19, 54, 55, 56, 57, 58, 59, 60, 61, 62, 63, 64, 65, 66, 67, 68, 69, 70, 71, 72, 73, 74, 75, 76, 77, 78, 79, 80, 81, 82, 83, 84, 85, 86, 87, 88, 89, 90, 91, 92] (by decide +kernel) (by decide +kernel)
set_option maxRecDepth 20000 in
theorem gX5_init_X5_comes : GoodIn wsX5_init (wsV RX5 90 RX5 yX5_comes wsX5_comes) := goodIn_app (goodIn_of _ (by decide +kernel)) ggX5_init_X5_comes
set_option maxRecDepth 20000 in
theorem ggX5_init_X5_follow : GoodIn wsX5_init wsX5_follow := goodIn_r _ [46, 20, 38, 21, 22, 54, 55, 56, 57, 58, 59, 60, 61, 62, 63, 64, 65, 66, 67, 68, 69, 70, 71, 72, 73, 74, 75, 76, 77, 78, 79, 80, 81, 82, 83, 84, 85, 86, 87, 88, 89, 90, 91, 92] (by decide +kernel) (by decide +kernel)
set_option maxRecDepth 20000 in
theorem gX5_init_X5_follow : GoodIn wsX5_init (wsV RX5 94 RX5 yX5_follow wsX5_follow) := goodIn_app (goodIn_of _ (by decide +kernel)) ggX5_init_X5_follow
set_option maxRecDepth 20000 in
theorem ggX5_init_X5_settles : GoodIn wsX5_init wsX5_settles := goodIn_r _ [50, 37, 51, 38, 52, 31, 53, 5, 15, 6, 16, 7, 17, 8, 18, 9, 19, 25, 10, 20, 11, 21, 12, 22, 13, 23, 14, 24, 54, 55, 56, 57, 58, 59, 60, 61, 62, 63, 64, 65, 66, 67, 68, 69, 70, 71, 72, 73, 74, 75, 76, 77, 78, 79, 80, 81, 82, 83, 84, 85, 86, 87, 88, 89, 90, 91, 92] (by decide +kernel) (by decide +kernel)
set_option maxRecDepth 20000 in
theorem gX5_init_X5_settles : GoodIn wsX5_init (wsV RX5 101 RX5 yX5_settles wsX5_settles) := goodIn_app (goodIn_of _ (by decide +kernel)) ggX5_init_X5_settles
theorem dX5_init_0 : decode cX5_init 0 = .ok (.aload_n 0, 1) := by decide +kernel
theorem dX5_init_1 : decode cX5_init 1 = .ok (.invokespecial 1, 3) := by decide +kernel
theorem dX5_init_4 : decode cX5_init 4 = .ok (.aload_n 0, 1) := by decide +kernel
theorem dX5_init_5 : decode cX5_init 5 = .ok (.bipush 7, 2) := by decide +kernel
theorem dX5_init_7 : decode cX5_init 7 = .ok (.newarray .int, 2) := by decide +kernel
theorem dX5_init_9 : decode cX5_init 9 = .ok (.putfield 7, 3) := by decide +kernel
theorem dX5_init_12 : decode cX5_init 12 = .ok (.aload_n 0, 1) := by decide +kernel
theorem dX5_init_13 : decode cX5_init 13 = .ok (.bipush 7, 2) := by decide +kernel
theorem dX5_init_15 : decode cX5_init 15 = .ok (.newarray .int, 2) := by decide +kernel
theorem dX5_init_17 : decode cX5_init 17 = .ok (.putfield 13, 3) := by decide +kernel
theorem dX5_init_20 : decode cX5_init 20 = .ok (.aload_n 0, 1) := by decide +kernel
theorem dX5_init_21 : decode cX5_init 21 = .ok (.bipush 7, 2) := by decide +kernel
theorem dX5_init_23 : decode cX5_init 23 = .ok (.newarray .int, 2) := by decide +kernel
theorem dX5_init_25 : decode cX5_init 25 = .ok (.putfield 16, 3) := by decide +kernel
theorem dX5_init_28 : decode cX5_init 28 = .ok (.aload_n 0, 1) := by decide +kernel
theorem dX5_init_29 : decode cX5_init 29 = .ok (.bipush 7, 2) := by decide +kernel
theorem dX5_init_31 : decode cX5_init 31 = .ok (.newarray .int, 2) := by decide +kernel
theorem dX5_init_33 : decode cX5_init 33 = .ok (.putfield 19, 3) := by decide +kernel
theorem dX5_init_36 : decode cX5_init 36 = .ok (.aload_n 0, 1) := by decide +kernel
theorem dX5_init_37 : decode cX5_init 37 = .ok (.bipush 7, 2) := by decide +kernel
theorem dX5_init_39 : decode cX5_init 39 = .ok (.newarray .int, 2) := by decide +kernel
theorem dX5_init_41 : decode cX5_init 41 = .ok (.putfield 22, 3) := by decide +kernel
theorem dX5_init_44 : decode cX5_init 44 = .ok (.aload_n 0, 1) := by decide +kernel
theorem dX5_init_45 : decode cX5_init 45 = .ok (.bipush 6, 2) := by decide +kernel
theorem dX5_init_47 : decode cX5_init 47 = .ok (.newarray .int, 2) := by decide +kernel
theorem dX5_init_49 : decode cX5_init 49 = .ok (.putfield 25, 3) := by decide +kernel
theorem dX5_init_52 : decode cX5_init 52 = .ok (.aload_n 0, 1) := by decide +kernel
theorem dX5_init_53 : decode cX5_init 53 = .ok (.bipush 6, 2) := by decide +kernel
theorem dX5_init_55 : decode cX5_init 55 = .ok (.newarray .int, 2) := by decide +kernel
theorem dX5_init_57 : decode cX5_init 57 = .ok (.putfield 28, 3) := by decide +kernel
theorem dX5_init_60 : decode cX5_init 60 = .ok (.aload_n 0, 1) := by decide +kernel
theorem dX5_init_61 : decode cX5_init 61 = .ok (.bipush 6, 2) := by decide +kernel
theorem dX5_init_63 : decode cX5_init 63 = .ok (.newarray .int, 2) := by decide +kernel
theorem dX5_init_65 : decode cX5_init 65 = .ok (.putfield 31, 3) := by decide +kernel
theorem dX5_init_68 : decode cX5_init 68 = .ok (.aload_n 0, 1) := by decide +kernel
theorem dX5_init_69 : decode cX5_init 69 = .ok (.iconst 4, 1) := by decide +kernel
theorem dX5_init_70 : decode cX5_init 70 = .ok (.newarray .int, 2) := by decide +kernel
theorem dX5_init_72 : decode cX5_init 72 = .ok (.putfield 34, 3) := by decide +kernel
theorem dX5_init_75 : decode cX5_init 75 = .ok (.aload_n 0, 1) := by decide +kernel
theorem dX5_init_76 : decode cX5_init 76 = .ok (.iconst 4, 1) := by decide +kernel
theorem dX5_init_77 : decode cX5_init 77 = .ok (.newarray .int, 2) := by decide +kernel
theorem dX5_init_79 : decode cX5_init 79 = .ok (.putfield 37, 3) := by decide +kernel
theorem dX5_init_82 : decode cX5_init 82 = .ok (.aload_n 0, 1) := by decide +kernel
theorem dX5_init_83 : decode cX5_init 83 = .ok (.bipush 7, 2) := by decide +kernel
theorem dX5_init_85 : decode cX5_init 85 = .ok (.newarray .int, 2) := by decide +kernel
theorem dX5_init_87 : decode cX5_init 87 = .ok (.putfield 40, 3) := by decide +kernel
theorem dX5_init_90 : decode cX5_init 90 = .ok (.aload_n 0, 1) := by decide +kernel
theorem dX5_init_91 : decode cX5_init 91 = .ok (.bipush 7, 2) := by decide +kernel
theorem dX5_init_93 : decode cX5_init 93 = .ok (.newarray .int, 2) := by decide +kernel
theorem dX5_init_95 : decode cX5_init 95 = .ok (.putfield 43, 3) := by decide +kernel
theorem dX5_init_98 : decode cX5_init 98 = .ok (.aload_n 0, 1) := by decide +kernel
theorem dX5_init_99 : decode cX5_init 99 = .ok (.bipush 7, 2) := by decide +kernel
theorem dX5_init_101 : decode cX5_init 101 = .ok (.newarray .int, 2) := by decide +kernel
theorem dX5_init_103 : decode cX5_init 103 = .ok (.putfield 46, 3) := by decide +kernel
theorem dX5_init_106 : decode cX5_init 106 = .ok (.aload_n 0, 1) := by decide +kernel
theorem dX5_init_107 : decode cX5_init 107 = .ok (.bipush 7, 2) := by decide +kernel
theorem dX5_init_109 : decode cX5_init 109 = .ok (.newarray .int, 2) := by decide +kernel
theorem dX5_init_111 : decode cX5_init 111 = .ok (.putfield 49, 3) := by decide +kernel
theorem dX5_init_114 : decode cX5_init 114 = .ok (.aload_n 0, 1) := by decide +kernel
theorem dX5_init_115 : decode cX5_init 115 = .ok (.bipush 7, 2) := by decide +kernel
theorem dX5_init_117 : decode cX5_init 117 = .ok (.newarray .int, 2) := by decide +kernel
theorem dX5_init_119 : decode cX5_init 119 = .ok (.putfield 52, 3) := by decide +kernel
theorem dX5_init_122 : decode cX5_init 122 = .ok (.aload_n 0, 1) := by decide +kernel
theorem dX5_init_123 : decode cX5_init 123 = .ok (.bipush 6, 2) := by decide +kernel
theorem dX5_init_125 : decode cX5_init 125 = .ok (.newarray .int, 2) := by decide +kernel
theorem dX5_init_127 : decode cX5_init 127 = .ok (.putfield 55, 3) := by decide +kernel
theorem dX5_init_130 : decode cX5_init 130 = .ok (.aload_n 0, 1) := by decide +kernel
theorem dX5_init_131 : decode cX5_init 131 = .ok (.bipush 6, 2) := by decide +kernel
theorem dX5_init_133 : decode cX5_init 133 = .ok (.newarray .int, 2) := by decide +kernel
theorem dX5_init_135 : decode cX5_init 135 = .ok (.putfield 58, 3) := by decide +kernel
theorem dX5_init_138 : decode cX5_init 138 = .ok (.aload_n 0, 1) := by decide +kernel
theorem dX5_init_139 : decode cX5_init 139 = .ok (.bipush 6, 2) := by decide +kernel
theorem dX5_init_141 : decode cX5_init 141 = .ok (.newarray .int, 2) := by decide +kernel
theorem dX5_init_143 : decode cX5_init 143 = .ok (.putfield 61, 3) := by decide +kernel
theorem dX5_init_146 : decode cX5_init 146 = .ok (.aload_n 0, 1) := by decide +kernel
theorem dX5_init_147 : decode cX5_init 147 = .ok (.iconst 4, 1) := by decide +kernel
theorem dX5_init_148 : decode cX5_init 148 = .ok (.newarray .int, 2) := by decide +kernel
theorem dX5_init_150 : decode cX5_init 150 = .ok (.putfield 64, 3) := by decide +kernel
theorem dX5_init_153 : decode cX5_init 153 = .ok (.aload_n 0, 1) := by decide +kernel
theorem dX5_init_154 : decode cX5_init 154 = .ok (.iconst 4, 1) := by decide +kernel
theorem dX5_init_155 : decode cX5_init 155 = .ok (.newarray .int, 2) := by decide +kernel
theorem dX5_init_157 : decode cX5_init 157 = .ok (.putfield 67, 3) := by decide +kernel
theorem dX5_init_160 : decode cX5_init 160 = .ok (.aload_n 0, 1) := by decide +kernel
theorem dX5_init_161 : decode cX5_init 161 = .ok (.sipush 240, 3) := by decide +kernel
theorem dX5_init_164 : decode cX5_init 164 = .ok (.newarray .int, 2) := by decide +kernel
theorem dX5_init_166 : decode cX5_init 166 = .ok (.putfield 70, 3) := by decide +kernel
theorem dX5_init_169 : decode cX5_init 169 = .ok (.aload_n 0, 1) := by decide +kernel
theorem dX5_init_170 : decode cX5_init 170 = .ok (.sipush 200, 3) := by decide +kernel
theorem dX5_init_173 : decode cX5_init 173 = .ok (.newarray .byte, 2) := by decide +kernel
theorem dX5_init_175 : decode cX5_init 175 = .ok (.putfield 73, 3) := by decide +kernel
theorem dX5_init_178 : decode cX5_init 178 = .ok (.aload_n 0, 1) := by decide +kernel
theorem dX5_init_179 : decode cX5_init 179 = .ok (.bipush 8, 2) := by decide +kernel
theorem dX5_init_181 : decode cX5_init 181 = .ok (.newarray .int, 2) := by decide +kernel
theorem dX5_init_183 : decode cX5_init 183 = .ok (.putfield 77, 3) := by decide +kernel
theorem dX5_init_186 : decode cX5_init 186 = .ok (.aload_n 0, 1) := by decide +kernel
theorem dX5_init_187 : decode cX5_init 187 = .ok (.bipush 8, 2) := by decide +kernel
theorem dX5_init_189 : decode cX5_init 189 = .ok (.newarray .int, 2) := by decide +kernel
theorem dX5_init_191 : decode cX5_init 191 = .ok (.putfield 80, 3) := by decide +kernel
theorem dX5_init_194 : decode cX5_init 194 = .ok (.aload_n 0, 1) := by decide +kernel
theorem dX5_init_195 : decode cX5_init 195 = .ok (.bipush (-4), 2) := by decide +kernel
theorem dX5_init_197 : decode cX5_init 197 = .ok (.putfield 83, 3) := by decide +kernel
theorem dX5_init_200 : decode cX5_init 200 = .ok (.aload_n 0, 1) := by decide +kernel
theorem dX5_init_201 : decode cX5_init 201 = .ok (.invokevirtual 87, 3) := by decide +kernel
theorem dX5_init_204 : decode cX5_init 204 = .ok (.aload_n 0, 1) := by decide +kernel
theorem dX5_init_205 : decode cX5_init 205 = .ok (.iconst 0, 1) := by decide +kernel
theorem dX5_init_206 : decode cX5_init 206 = .ok (.iconst 0, 1) := by decide +kernel
theorem dX5_init_207 : decode cX5_init 207 = .ok (.bipush 9, 2) := by decide +kernel
theorem dX5_init_209 : decode cX5_init 209 = .ok (.iconst 1, 1) := by decide +kernel
theorem dX5_init_210 : decode cX5_init 210 = .ok (.bipush 20, 2) := by decide +kernel
theorem dX5_init_212 : decode cX5_init 212 = .ok (.invokevirtual 90, 3) := by decide +kernel
theorem dX5_init_215 : decode cX5_init 215 = .ok (.aload_n 0, 1) := by decide +kernel
theorem dX5_init_216 : decode cX5_init 216 = .ok (.iconst 1, 1) := by decide +kernel
theorem dX5_init_217 : decode cX5_init 217 = .ok (.iconst 3, 1) := by decide +kernel
theorem dX5_init_218 : decode cX5_init 218 = .ok (.bipush 6, 2) := by decide +kernel
theorem dX5_init_220 : decode cX5_init 220 = .ok (.iconst 2, 1) := by decide +kernel
theorem dX5_init_221 : decode cX5_init 221 = .ok (.bipush 15, 2) := by decide +kernel
theorem dX5_init_223 : decode cX5_init 223 = .ok (.invokevirtual 90, 3) := by decide +kernel
theorem dX5_init_226 : decode cX5_init 226 = .ok (.aload_n 0, 1) := by decide +kernel
theorem dX5_init_227 : decode cX5_init 227 = .ok (.iconst 2, 1) := by decide +kernel
theorem dX5_init_228 : decode cX5_init 228 = .ok (.bipush 99, 2) := by decide +kernel
theorem dX5_init_230 : decode cX5_init 230 = .ok (.iconst 2, 1) := by decide +kernel
theorem dX5_init_231 : decode cX5_init 231 = .ok (.iconst 1, 1) := by decide +kernel
theorem dX5_init_232 : decode cX5_init 232 = .ok (.bipush 12, 2) := by decide +kernel
theorem dX5_init_234 : decode cX5_init 234 = .ok (.invokevirtual 90, 3) := by decide +kernel
theorem dX5_init_237 : decode cX5_init 237 = .ok (.aload_n 0, 1) := by decide +kernel
theorem dX5_init_238 : decode cX5_init 238 = .ok (.iconst 3, 1) := by decide +kernel
theorem dX5_init_239 : decode cX5_init 239 = .ok (.bipush 10, 2) := by decide +kernel
theorem dX5_init_241 : decode cX5_init 241 = .ok (.iconst 5, 1) := by decide +kernel
theorem dX5_init_242 : decode cX5_init 242 = .ok (.iconst 1, 1) := by decide +kernel
theorem dX5_init_243 : decode cX5_init 243 = .ok (.bipush 30, 2) := by decide +kernel
theorem dX5_init_245 : decode cX5_init 245 = .ok (.invokevirtual 90, 3) := by decide +kernel
theorem dX5_init_248 : decode cX5_init 248 = .ok (.aload_n 0, 1) := by decide +kernel
theorem dX5_init_249 : decode cX5_init 249 = .ok (.iconst 0, 1) := by decide +kernel
theorem dX5_init_250 : decode cX5_init 250 = .ok (.bipush 99, 2) := by decide +kernel
theorem dX5_init_252 : decode cX5_init 252 = .ok (.bipush 14, 2) := by decide +kernel
theorem dX5_init_254 : decode cX5_init 254 = .ok (.iconst 3, 1) := by decide +kernel
theorem dX5_init_255 : decode cX5_init 255 = .ok (.bipush 10, 2) := by decide +kernel
theorem dX5_init_257 : decode cX5_init 257 = .ok (.invokevirtual 90, 3) := by decide +kernel
theorem dX5_init_260 : decode cX5_init 260 = .ok (.aload_n 0, 1) := by decide +kernel
theorem dX5_init_261 : decode cX5_init 261 = .ok (.iconst 0, 1) := by decide +kernel
theorem dX5_init_262 : decode cX5_init 262 = .ok (.iconst 2, 1) := by decide +kernel
theorem dX5_init_263 : decode cX5_init 263 = .ok (.iconst 2, 1) := by decide +kernel
theorem dX5_init_264 : decode cX5_init 264 = .ok (.invokevirtual 94, 3) := by decide +kernel
theorem dX5_init_267 : decode cX5_init 267 = .ok (.aload_n 0, 1) := by decide +kernel
theorem dX5_init_268 : decode cX5_init 268 = .ok (.iconst 1, 1) := by decide +kernel
theorem dX5_init_269 : decode cX5_init 269 = .ok (.iconst 4, 1) := by decide +kernel
theorem dX5_init_270 : decode cX5_init 270 = .ok (.iconst 5, 1) := by decide +kernel
theorem dX5_init_271 : decode cX5_init 271 = .ok (.invokevirtual 94, 3) := by decide +kernel
theorem dX5_init_274 : decode cX5_init 274 = .ok (.aload_n 0, 1) := by decide +kernel
theorem dX5_init_275 : decode cX5_init 275 = .ok (.iconst 2, 1) := by decide +kernel
theorem dX5_init_276 : decode cX5_init 276 = .ok (.iconst 4, 1) := by decide +kernel
theorem dX5_init_277 : decode cX5_init 277 = .ok (.iconst 1, 1) := by decide +kernel
theorem dX5_init_278 : decode cX5_init 278 = .ok (.invokevirtual 94, 3) := by decide +kernel
theorem dX5_init_281 : decode cX5_init 281 = .ok (.aload_n 0, 1) := by decide +kernel
theorem dX5_init_282 : decode cX5_init 282 = .ok (.iconst 3, 1) := by decide +kernel
theorem dX5_init_283 : decode cX5_init 283 = .ok (.putfield 98, 3) := by decide +kernel
theorem dX5_init_286 : decode cX5_init 286 = .ok (.aload_n 0, 1) := by decide +kernel
theorem dX5_init_287 : decode cX5_init 287 = .ok (.getfield 64, 3) := by decide +kernel
theorem dX5_init_290 : decode cX5_init 290 = .ok (.iconst 0, 1) := by decide +kernel
theorem dX5_init_291 : decode cX5_init 291 = .ok (.iconst 2, 1) := by decide +kernel
theorem dX5_init_292 : decode cX5_init 292 = .ok (.iastore, 1) := by decide +kernel
theorem dX5_init_293 : decode cX5_init 293 = .ok (.aload_n 0, 1) := by decide +kernel
theorem dX5_init_294 : decode cX5_init 294 = .ok (.getfield 64, 3) := by decide +kernel
theorem dX5_init_297 : decode cX5_init 297 = .ok (.iconst 1, 1) := by decide +kernel
theorem dX5_init_298 : decode cX5_init 298 = .ok (.iconst 1, 1) := by decide +kernel
theorem dX5_init_299 : decode cX5_init 299 = .ok (.iastore, 1) := by decide +kernel
theorem dX5_init_300 : decode cX5_init 300 = .ok (.aload_n 0, 1) := by decide +kernel
theorem dX5_init_301 : decode cX5_init 301 = .ok (.getfield 64, 3) := by decide +kernel
theorem dX5_init_304 : decode cX5_init 304 = .ok (.iconst 2, 1) := by decide +kernel
theorem dX5_init_305 : decode cX5_init 305 = .ok (.iconst 3, 1) := by decide +kernel
theorem dX5_init_306 : decode cX5_init 306 = .ok (.iastore, 1) := by decide +kernel
theorem dX5_init_307 : decode cX5_init 307 = .ok (.aload_n 0, 1) := by decide +kernel
theorem dX5_init_308 : decode cX5_init 308 = .ok (.getfield 67, 3) := by decide +kernel
theorem dX5_init_311 : decode cX5_init 311 = .ok (.iconst 2, 1) := by decide +kernel
theorem dX5_init_312 : decode cX5_init 312 = .ok (.iconst 1, 1) := by decide +kernel
theorem dX5_init_313 : decode cX5_init 313 = .ok (.iastore, 1) := by decide +kernel
theorem dX5_init_314 : decode cX5_init 314 = .ok (.aload_n 0, 1) := by decide +kernel
theorem dX5_init_315 : decode cX5_init 315 = .ok (.getfield 67, 3) := by decide +kernel
theorem dX5_init_318 : decode cX5_init 318 = .ok (.iconst 0, 1) := by decide +kernel
theorem dX5_init_319 : decode cX5_init 319 = .ok (.iconst 3, 1) := by decide +kernel
theorem dX5_init_320 : decode cX5_init 320 = .ok (.iastore, 1) := by decide +kernel
theorem dX5_init_321 : decode cX5_init 321 = .ok (.aload_n 0, 1) := by decide +kernel
theorem dX5_init_322 : decode cX5_init 322 = .ok (.getfield 67, 3) := by decide +kernel
theorem dX5_init_325 : decode cX5_init 325 = .ok (.iconst 1, 1) := by decide +kernel
theorem dX5_init_326 : decode cX5_init 326 = .ok (.bipush 12, 2) := by decide +kernel
theorem dX5_init_328 : decode cX5_init 328 = .ok (.iastore, 1) := by decide +kernel
theorem dX5_init_329 : decode cX5_init 329 = .ok (.aload_n 0, 1) := by decide +kernel
theorem dX5_init_330 : decode cX5_init 330 = .ok (.invokevirtual 101, 3) := by decide +kernel
theorem dX5_init_333 : decode cX5_init 333 = .ok (.return_, 1) := by decide +kernel
theorem dX5_in_0 : decode cX5_in 0 = .ok (.lload_n 0, 1) := by decide +kernel
theorem dX5_in_1 : decode cX5_in 1 = .ok (.lload_n 2, 1) := by decide +kernel
theorem dX5_in_2 : decode cX5_in 2 = .ok (.lcmp, 1) := by decide +kernel
theorem dX5_in_3 : decode cX5_in 3 = .ok (.ifCond .lt 14, 3) := by decide +kernel
theorem dX5_in_6 : decode cX5_in 6 = .ok (.lload_n 0, 1) := by decide +kernel
theorem dX5_in_7 : decode cX5_in 7 = .ok (.lload 4, 2) := by decide +kernel
theorem dX5_in_9 : decode cX5_in 9 = .ok (.lcmp, 1) := by decide +kernel
theorem dX5_in_10 : decode cX5_in 10 = .ok (.ifCond .gt 7, 3) := by decide +kernel
theorem dX5_in_13 : decode cX5_in 13 = .ok (.iconst 1, 1) := by decide +kernel
theorem dX5_in_14 : decode cX5_in 14 = .ok (.goto 4, 3) := by decide +kernel
theorem dX5_in_17 : decode cX5_in 17 = .ok (.iconst 0, 1) := by decide +kernel
theorem dX5_in_18 : decode cX5_in 18 = .ok (.ireturn, 1) := by decide +kernel
theorem dX5_has_0 : decode cX5_has 0 = .ok (.iload_n 0, 1) := by decide +kernel
theorem dX5_has_1 : decode cX5_has 1 = .ok (.iload_n 1, 1) := by decide +kernel
theorem dX5_has_2 : decode cX5_has 2 = .ok (.ishr, 1) := by decide +kernel
theorem dX5_has_3 : decode cX5_has 3 = .ok (.iconst 1, 1) := by decide +kernel
theorem dX5_has_4 : decode cX5_has 4 = .ok (.iand, 1) := by decide +kernel
theorem dX5_has_5 : decode cX5_has 5 = .ok (.iconst 1, 1) := by decide +kernel
theorem dX5_has_6 : decode cX5_has 6 = .ok (.if_icmp .ne 7, 3) := by decide +kernel
theorem dX5_has_9 : decode cX5_has 9 = .ok (.iconst 1, 1) := by decide +kernel
theorem dX5_has_10 : decode cX5_has 10 = .ok (.goto 4, 3) := by decide +kernel
theorem dX5_has_13 : decode cX5_has 13 = .ok (.iconst 0, 1) := by decide +kernel
theorem dX5_has_14 : decode cX5_has 14 = .ok (.ireturn, 1) := by decide +kernel
theorem dX5_smaller_0 : decode cX5_smaller 0 = .ok (.iload_n 0, 1) := by decide +kernel
theorem dX5_smaller_1 : decode cX5_smaller 1 = .ok (.iload_n 1, 1) := by decide +kernel
theorem dX5_smaller_2 : decode cX5_smaller 2 = .ok (.if_icmp .ge 7, 3) := by decide +kernel
theorem dX5_smaller_5 : decode cX5_smaller 5 = .ok (.iload_n 0, 1) := by decide +kernel
theorem dX5_smaller_6 : decode cX5_smaller 6 = .ok (.goto 4, 3) := by decide +kernel
theorem dX5_smaller_9 : decode cX5_smaller 9 = .ok (.iload_n 1, 1) := by decide +kernel
theorem dX5_smaller_10 : decode cX5_smaller 10 = .ok (.ireturn, 1) := by decide +kernel
theorem dX5_larger_0 : decode cX5_larger 0 = .ok (.iload_n 0, 1) := by decide +kernel
theorem dX5_larger_1 : decode cX5_larger 1 = .ok (.iload_n 1, 1) := by decide +kernel
theorem dX5_larger_2 : decode cX5_larger 2 = .ok (.if_icmp .ge 7, 3) := by decide +kernel
theorem dX5_larger_5 : decode cX5_larger 5 = .ok (.iload_n 1, 1) := by decide +kernel
theorem dX5_larger_6 : decode cX5_larger 6 = .ok (.goto 4, 3) := by decide +kernel
theorem dX5_larger_9 : decode cX5_larger 9 = .ok (.iload_n 0, 1) := by decide +kernel
theorem dX5_larger_10 : decode cX5_larger 10 = .ok (.ireturn, 1) := by decide +kernel
theorem dX5_clears_0 : decode cX5_clears 0 = .ok (.aload_n 0, 1) := by decide +kernel
theorem dX5_clears_1 : decode cX5_clears 1 = .ok (.iconst 0, 1) := by decide +kernel
theorem dX5_clears_2 : decode cX5_clears 2 = .ok (.putfield 104, 3) := by decide +kernel
theorem dX5_clears_5 : decode cX5_clears 5 = .ok (.aload_n 0, 1) := by decide +kernel
theorem dX5_clears_6 : decode cX5_clears 6 = .ok (.iconst 0, 1) := by decide +kernel
theorem dX5_clears_7 : decode cX5_clears 7 = .ok (.putfield 107, 3) := by decide +kernel
theorem dX5_clears_10 : decode cX5_clears 10 = .ok (.aload_n 0, 1) := by decide +kernel
theorem dX5_clears_11 : decode cX5_clears 11 = .ok (.iconst 0, 1) := by decide +kernel
theorem dX5_clears_12 : decode cX5_clears 12 = .ok (.putfield 98, 3) := by decide +kernel
theorem dX5_clears_15 : decode cX5_clears 15 = .ok (.return_, 1) := by decide +kernel
theorem dX5_comes_0 : decode cX5_comes 0 = .ok (.aload_n 0, 1) := by decide +kernel
theorem dX5_comes_1 : decode cX5_comes 1 = .ok (.getfield 40, 3) := by decide +kernel
theorem dX5_comes_4 : decode cX5_comes 4 = .ok (.aload_n 0, 1) := by decide +kernel
theorem dX5_comes_5 : decode cX5_comes 5 = .ok (.getfield 104, 3) := by decide +kernel
theorem dX5_comes_8 : decode cX5_comes 8 = .ok (.iload_n 1, 1) := by decide +kernel
theorem dX5_comes_9 : decode cX5_comes 9 = .ok (.iastore, 1) := by decide +kernel
theorem dX5_comes_10 : decode cX5_comes 10 = .ok (.aload_n 0, 1) := by decide +kernel
theorem dX5_comes_11 : decode cX5_comes 11 = .ok (.getfield 43, 3) := by decide +kernel
theorem dX5_comes_14 : decode cX5_comes 14 = .ok (.aload_n 0, 1) := by decide +kernel
theorem dX5_comes_15 : decode cX5_comes 15 = .ok (.getfield 104, 3) := by decide +kernel
theorem dX5_comes_18 : decode cX5_comes 18 = .ok (.iload_n 2, 1) := by decide +kernel
theorem dX5_comes_19 : decode cX5_comes 19 = .ok (.iastore, 1) := by decide +kernel
theorem dX5_comes_20 : decode cX5_comes 20 = .ok (.aload_n 0, 1) := by decide +kernel
theorem dX5_comes_21 : decode cX5_comes 21 = .ok (.getfield 46, 3) := by decide +kernel
theorem dX5_comes_24 : decode cX5_comes 24 = .ok (.aload_n 0, 1) := by decide +kernel
theorem dX5_comes_25 : decode cX5_comes 25 = .ok (.getfield 104, 3) := by decide +kernel
theorem dX5_comes_28 : decode cX5_comes 28 = .ok (.iload_n 3, 1) := by decide +kernel
theorem dX5_comes_29 : decode cX5_comes 29 = .ok (.iastore, 1) := by decide +kernel
theorem dX5_comes_30 : decode cX5_comes 30 = .ok (.aload_n 0, 1) := by decide +kernel
theorem dX5_comes_31 : decode cX5_comes 31 = .ok (.getfield 49, 3) := by decide +kernel
theorem dX5_comes_34 : decode cX5_comes 34 = .ok (.aload_n 0, 1) := by decide +kernel
theorem dX5_comes_35 : decode cX5_comes 35 = .ok (.getfield 104, 3) := by decide +kernel
theorem dX5_comes_38 : decode cX5_comes 38 = .ok (.iload 4, 2) := by decide +kernel
theorem dX5_comes_40 : decode cX5_comes 40 = .ok (.iastore, 1) := by decide +kernel
theorem dX5_comes_41 : decode cX5_comes 41 = .ok (.aload_n 0, 1) := by decide +kernel
theorem dX5_comes_42 : decode cX5_comes 42 = .ok (.getfield 52, 3) := by decide +kernel
theorem dX5_comes_45 : decode cX5_comes 45 = .ok (.aload_n 0, 1) := by decide +kernel
theorem dX5_comes_46 : decode cX5_comes 46 = .ok (.getfield 104, 3) := by decide +kernel
theorem dX5_comes_49 : decode cX5_comes 49 = .ok (.iload 5, 2) := by decide +kernel
theorem dX5_comes_51 : decode cX5_comes 51 = .ok (.iastore, 1) := by decide +kernel
theorem dX5_comes_52 : decode cX5_comes 52 = .ok (.aload_n 0, 1) := by decide +kernel
theorem dX5_comes_53 : decode cX5_comes 53 = .ok (.dup, 1) := by decide +kernel
theorem dX5_comes_54 : decode cX5_comes 54 = .ok (.getfield 104, 3) := by decide +kernel
theorem dX5_comes_57 : decode cX5_comes 57 = .ok (.iconst 1, 1) := by decide +kernel
theorem dX5_comes_58 : decode cX5_comes 58 = .ok (.iadd, 1) := by decide +kernel
theorem dX5_comes_59 : decode cX5_comes 59 = .ok (.putfield 104, 3) := by decide +kernel
theorem dX5_comes_62 : decode cX5_comes 62 = .ok (.return_, 1) := by decide +kernel
theorem dX5_follow_0 : decode cX5_follow 0 = .ok (.aload_n 0, 1) := by decide +kernel
theorem dX5_follow_1 : decode cX5_follow 1 = .ok (.getfield 55, 3) := by decide +kernel
theorem dX5_follow_4 : decode cX5_follow 4 = .ok (.aload_n 0, 1) := by decide +kernel
theorem dX5_follow_5 : decode cX5_follow 5 = .ok (.getfield 107, 3) := by decide +kernel
theorem dX5_follow_8 : decode cX5_follow 8 = .ok (.iload_n 1, 1) := by decide +kernel
theorem dX5_follow_9 : decode cX5_follow 9 = .ok (.iastore, 1) := by decide +kernel
theorem dX5_follow_10 : decode cX5_follow 10 = .ok (.aload_n 0, 1) := by decide +kernel
theorem dX5_follow_11 : decode cX5_follow 11 = .ok (.getfield 58, 3) := by decide +kernel
theorem dX5_follow_14 : decode cX5_follow 14 = .ok (.aload_n 0, 1) := by decide +kernel
theorem dX5_follow_15 : decode cX5_follow 15 = .ok (.getfield 107, 3) := by decide +kernel
theorem dX5_follow_18 : decode cX5_follow 18 = .ok (.iload_n 2, 1) := by decide +kernel
theorem dX5_follow_19 : decode cX5_follow 19 = .ok (.iastore, 1) := by decide +kernel
theorem dX5_follow_20 : decode cX5_follow 20 = .ok (.aload_n 0, 1) := by decide +kernel
theorem dX5_follow_21 : decode cX5_follow 21 = .ok (.getfield 61, 3) := by decide +kernel
theorem dX5_follow_24 : decode cX5_follow 24 = .ok (.aload_n 0, 1) := by decide +kernel
theorem dX5_follow_25 : decode cX5_follow 25 = .ok (.getfield 107, 3) := by decide +kernel
theorem dX5_follow_28 : decode cX5_follow 28 = .ok (.iload_n 3, 1) := by decide +kernel
theorem dX5_follow_29 : decode cX5_follow 29 = .ok (.iastore, 1) := by decide +kernel
theorem dX5_follow_30 : decode cX5_follow 30 = .ok (.aload_n 0, 1) := by decide +kernel
theorem dX5_follow_31 : decode cX5_follow 31 = .ok (.dup, 1) := by decide +kernel
theorem dX5_follow_32 : decode cX5_follow 32 = .ok (.getfield 107, 3) := by decide +kernel
theorem dX5_follow_35 : decode cX5_follow 35 = .ok (.iconst 1, 1) := by decide +kernel
theorem dX5_follow_36 : decode cX5_follow 36 = .ok (.iadd, 1) := by decide +kernel
theorem dX5_follow_37 : decode cX5_follow 37 = .ok (.putfield 107, 3) := by decide +kernel
theorem dX5_follow_40 : decode cX5_follow 40 = .ok (.return_, 1) := by decide +kernel
theorem dX5_settles_0 : decode cX5_settles 0 = .ok (.aload_n 0, 1) := by decide +kernel
theorem dX5_settles_1 : decode cX5_settles 1 = .ok (.aload_n 0, 1) := by decide +kernel
theorem dX5_settles_2 : decode cX5_settles 2 = .ok (.getfield 104, 3) := by decide +kernel
theorem dX5_settles_5 : decode cX5_settles 5 = .ok (.putfield 110, 3) := by decide +kernel
theorem dX5_settles_8 : decode cX5_settles 8 = .ok (.aload_n 0, 1) := by decide +kernel
theorem dX5_settles_9 : decode cX5_settles 9 = .ok (.aload_n 0, 1) := by decide +kernel
theorem dX5_settles_10 : decode cX5_settles 10 = .ok (.getfield 107, 3) := by decide +kernel
theorem dX5_settles_13 : decode cX5_settles 13 = .ok (.putfield 113, 3) := by decide +kernel
theorem dX5_settles_16 : decode cX5_settles 16 = .ok (.aload_n 0, 1) := by decide +kernel
theorem dX5_settles_17 : decode cX5_settles 17 = .ok (.aload_n 0, 1) := by decide +kernel
theorem dX5_settles_18 : decode cX5_settles 18 = .ok (.getfield 98, 3) := by decide +kernel
theorem dX5_settles_21 : decode cX5_settles 21 = .ok (.putfield 116, 3) := by decide +kernel
theorem dX5_settles_24 : decode cX5_settles 24 = .ok (.iconst 0, 1) := by decide +kernel
theorem dX5_settles_25 : decode cX5_settles 25 = .ok (.istore_n 1, 1) := by decide +kernel
theorem dX5_settles_26 : decode cX5_settles 26 = .ok (.iload_n 1, 1) := by decide +kernel
theorem dX5_settles_27 : decode cX5_settles 27 = .ok (.bipush 7, 2) := by decide +kernel
theorem dX5_settles_29 : decode cX5_settles 29 = .ok (.if_icmp .ge 114, 3) := by decide +kernel
theorem dX5_settles_32 : decode cX5_settles 32 = .ok (.aload_n 0, 1) := by decide +kernel
theorem dX5_settles_33 : decode cX5_settles 33 = .ok (.getfield 7, 3) := by decide +kernel
theorem dX5_settles_36 : decode cX5_settles 36 = .ok (.iload_n 1, 1) := by decide +kernel
theorem dX5_settles_37 : decode cX5_settles 37 = .ok (.aload_n 0, 1) := by decide +kernel
theorem dX5_settles_38 : decode cX5_settles 38 = .ok (.getfield 40, 3) := by decide +kernel
theorem dX5_settles_41 : decode cX5_settles 41 = .ok (.iload_n 1, 1) := by decide +kernel
theorem dX5_settles_42 : decode cX5_settles 42 = .ok (.iaload, 1) := by decide +kernel
theorem dX5_settles_43 : decode cX5_settles 43 = .ok (.iastore, 1) := by decide +kernel
theorem dX5_settles_44 : decode cX5_settles 44 = .ok (.aload_n 0, 1) := by decide +kernel
theorem dX5_settles_45 : decode cX5_settles 45 = .ok (.getfield 13, 3) := by decide +kernel
theorem dX5_settles_48 : decode cX5_settles 48 = .ok (.iload_n 1, 1) := by decide +kernel
theorem dX5_settles_49 : decode cX5_settles 49 = .ok (.aload_n 0, 1) := by decide +kernel
theorem dX5_settles_50 : decode cX5_settles 50 = .ok (.getfield 43, 3) := by decide +kernel
theorem dX5_settles_53 : decode cX5_settles 53 = .ok (.iload_n 1, 1) := by decide +kernel
theorem dX5_settles_54 : decode cX5_settles 54 = .ok (.iaload, 1) := by decide +kernel
theorem dX5_settles_55 : decode cX5_settles 55 = .ok (.iastore, 1) := by decide +kernel
theorem dX5_settles_56 : decode cX5_settles 56 = .ok (.aload_n 0, 1) := by decide +kernel
theorem dX5_settles_57 : decode cX5_settles 57 = .ok (.getfield 16, 3) := by decide +kernel
theorem dX5_settles_60 : decode cX5_settles 60 = .ok (.iload_n 1, 1) := by decide +kernel
theorem dX5_settles_61 : decode cX5_settles 61 = .ok (.aload_n 0, 1) := by decide +kernel
theorem dX5_settles_62 : decode cX5_settles 62 = .ok (.getfield 46, 3) := by decide +kernel
theorem dX5_settles_65 : decode cX5_settles 65 = .ok (.iload_n 1, 1) := by decide +kernel
theorem dX5_settles_66 : decode cX5_settles 66 = .ok (.iaload, 1) := by decide +kernel
theorem dX5_settles_67 : decode cX5_settles 67 = .ok (.iastore, 1) := by decide +kernel
theorem dX5_settles_68 : decode cX5_settles 68 = .ok (.aload_n 0, 1) := by decide +kernel
theorem dX5_settles_69 : decode cX5_settles 69 = .ok (.getfield 19, 3) := by decide +kernel
theorem dX5_settles_72 : decode cX5_settles 72 = .ok (.iload_n 1, 1) := by decide +kernel
theorem dX5_settles_73 : decode cX5_settles 73 = .ok (.aload_n 0, 1) := by decide +kernel
theorem dX5_settles_74 : decode cX5_settles 74 = .ok (.getfield 49, 3) := by decide +kernel
theorem dX5_settles_77 : decode cX5_settles 77 = .ok (.iload_n 1, 1) := by decide +kernel
theorem dX5_settles_78 : decode cX5_settles 78 = .ok (.iaload, 1) := by decide +kernel
theorem dX5_settles_79 : decode cX5_settles 79 = .ok (.iastore, 1) := by decide +kernel
theorem dX5_settles_80 : decode cX5_settles 80 = .ok (.aload_n 0, 1) := by decide +kernel
theorem dX5_settles_81 : decode cX5_settles 81 = .ok (.getfield 22, 3) := by decide +kernel
theorem dX5_settles_84 : decode cX5_settles 84 = .ok (.iload_n 1, 1) := by decide +kernel
theorem dX5_settles_85 : decode cX5_settles 85 = .ok (.aload_n 0, 1) := by decide +kernel
theorem dX5_settles_86 : decode cX5_settles 86 = .ok (.getfield 52, 3) := by decide +kernel
theorem dX5_settles_89 : decode cX5_settles 89 = .ok (.iload_n 1, 1) := by decide +kernel
theorem dX5_settles_90 : decode cX5_settles 90 = .ok (.iaload, 1) := by decide +kernel
theorem dX5_settles_91 : decode cX5_settles 91 = .ok (.iastore, 1) := by decide +kernel
theorem dX5_settles_92 : decode cX5_settles 92 = .ok (.aload_n 0, 1) := by decide +kernel
theorem dX5_settles_93 : decode cX5_settles 93 = .ok (.getfield 70, 3) := by decide +kernel
theorem dX5_settles_96 : decode cX5_settles 96 = .ok (.iload_n 1, 1) := by decide +kernel
theorem dX5_settles_97 : decode cX5_settles 97 = .ok (.iconst 0, 1) := by decide +kernel
theorem dX5_settles_98 : decode cX5_settles 98 = .ok (.iastore, 1) := by decide +kernel
theorem dX5_settles_99 : decode cX5_settles 99 = .ok (.aload_n 0, 1) := by decide +kernel
theorem dX5_settles_100 : decode cX5_settles 100 = .ok (.getfield 70, 3) := by decide +kernel
theorem dX5_settles_103 : decode cX5_settles 103 = .ok (.bipush 7, 2) := by decide +kernel
theorem dX5_settles_105 : decode cX5_settles 105 = .ok (.iload_n 1, 1) := by decide +kernel
theorem dX5_settles_106 : decode cX5_settles 106 = .ok (.iadd, 1) := by decide +kernel
theorem dX5_settles_107 : decode cX5_settles 107 = .ok (.iload_n 1, 1) := by decide +kernel
theorem dX5_settles_108 : decode cX5_settles 108 = .ok (.aload_n 0, 1) := by decide +kernel
theorem dX5_settles_109 : decode cX5_settles 109 = .ok (.getfield 110, 3) := by decide +kernel
theorem dX5_settles_112 : decode cX5_settles 112 = .ok (.if_icmp .ge 14, 3) := by decide +kernel
theorem dX5_settles_115 : decode cX5_settles 115 = .ok (.aload_n 0, 1) := by decide +kernel
theorem dX5_settles_116 : decode cX5_settles 116 = .ok (.getfield 13, 3) := by decide +kernel
theorem dX5_settles_119 : decode cX5_settles 119 = .ok (.iload_n 1, 1) := by decide +kernel
theorem dX5_settles_120 : decode cX5_settles 120 = .ok (.iaload, 1) := by decide +kernel
theorem dX5_settles_121 : decode cX5_settles 121 = .ok (.bipush 99, 2) := by decide +kernel
theorem dX5_settles_123 : decode cX5_settles 123 = .ok (.if_icmp .ne 7, 3) := by decide +kernel
theorem dX5_settles_126 : decode cX5_settles 126 = .ok (.iconst (-1), 1) := by decide +kernel
theorem dX5_settles_127 : decode cX5_settles 127 = .ok (.goto 9, 3) := by decide +kernel
theorem dX5_settles_130 : decode cX5_settles 130 = .ok (.aload_n 0, 1) := by decide +kernel
theorem dX5_settles_131 : decode cX5_settles 131 = .ok (.getfield 13, 3) := by decide +kernel
theorem dX5_settles_134 : decode cX5_settles 134 = .ok (.iload_n 1, 1) := by decide +kernel
theorem dX5_settles_135 : decode cX5_settles 135 = .ok (.iaload, 1) := by decide +kernel
theorem dX5_settles_136 : decode cX5_settles 136 = .ok (.iastore, 1) := by decide +kernel
theorem dX5_settles_137 : decode cX5_settles 137 = .ok (.iinc 1 1, 3) := by decide +kernel
theorem dX5_settles_140 : decode cX5_settles 140 = .ok (.goto (-114), 3) := by decide +kernel
theorem dX5_settles_143 : decode cX5_settles 143 = .ok (.iconst 0, 1) := by decide +kernel
theorem dX5_settles_144 : decode cX5_settles 144 = .ok (.istore_n 1, 1) := by decide +kernel
theorem dX5_settles_145 : decode cX5_settles 145 = .ok (.iload_n 1, 1) := by decide +kernel
theorem dX5_settles_146 : decode cX5_settles 146 = .ok (.bipush 6, 2) := by decide +kernel
theorem dX5_settles_148 : decode cX5_settles 148 = .ok (.if_icmp .ge 45, 3) := by decide +kernel
theorem dX5_settles_151 : decode cX5_settles 151 = .ok (.aload_n 0, 1) := by decide +kernel
theorem dX5_settles_152 : decode cX5_settles 152 = .ok (.getfield 25, 3) := by decide +kernel
theorem dX5_settles_155 : decode cX5_settles 155 = .ok (.iload_n 1, 1) := by decide +kernel
theorem dX5_settles_156 : decode cX5_settles 156 = .ok (.aload_n 0, 1) := by decide +kernel
theorem dX5_settles_157 : decode cX5_settles 157 = .ok (.getfield 55, 3) := by decide +kernel
theorem dX5_settles_160 : decode cX5_settles 160 = .ok (.iload_n 1, 1) := by decide +kernel
theorem dX5_settles_161 : decode cX5_settles 161 = .ok (.iaload, 1) := by decide +kernel
theorem dX5_settles_162 : decode cX5_settles 162 = .ok (.iastore, 1) := by decide +kernel
theorem dX5_settles_163 : decode cX5_settles 163 = .ok (.aload_n 0, 1) := by decide +kernel
theorem dX5_settles_164 : decode cX5_settles 164 = .ok (.getfield 28, 3) := by decide +kernel
theorem dX5_settles_167 : decode cX5_settles 167 = .ok (.iload_n 1, 1) := by decide +kernel
theorem dX5_settles_168 : decode cX5_settles 168 = .ok (.aload_n 0, 1) := by decide +kernel
theorem dX5_settles_169 : decode cX5_settles 169 = .ok (.getfield 58, 3) := by decide +kernel
theorem dX5_settles_172 : decode cX5_settles 172 = .ok (.iload_n 1, 1) := by decide +kernel
theorem dX5_settles_173 : decode cX5_settles 173 = .ok (.iaload, 1) := by decide +kernel
theorem dX5_settles_174 : decode cX5_settles 174 = .ok (.iastore, 1) := by decide +kernel
theorem dX5_settles_175 : decode cX5_settles 175 = .ok (.aload_n 0, 1) := by decide +kernel
theorem dX5_settles_176 : decode cX5_settles 176 = .ok (.getfield 31, 3) := by decide +kernel
theorem dX5_settles_179 : decode cX5_settles 179 = .ok (.iload_n 1, 1) := by decide +kernel
theorem dX5_settles_180 : decode cX5_settles 180 = .ok (.aload_n 0, 1) := by decide +kernel
theorem dX5_settles_181 : decode cX5_settles 181 = .ok (.getfield 61, 3) := by decide +kernel
theorem dX5_settles_184 : decode cX5_settles 184 = .ok (.iload_n 1, 1) := by decide +kernel
theorem dX5_settles_185 : decode cX5_settles 185 = .ok (.iaload, 1) := by decide +kernel
theorem dX5_settles_186 : decode cX5_settles 186 = .ok (.iastore, 1) := by decide +kernel
theorem dX5_settles_187 : decode cX5_settles 187 = .ok (.iinc 1 1, 3) := by decide +kernel
theorem dX5_settles_190 : decode cX5_settles 190 = .ok (.goto (-45), 3) := by decide +kernel
theorem dX5_settles_193 : decode cX5_settles 193 = .ok (.iconst 0, 1) := by decide +kernel
theorem dX5_settles_194 : decode cX5_settles 194 = .ok (.istore_n 1, 1) := by decide +kernel
theorem dX5_settles_195 : decode cX5_settles 195 = .ok (.iload_n 1, 1) := by decide +kernel
theorem dX5_settles_196 : decode cX5_settles 196 = .ok (.iconst 4, 1) := by decide +kernel
theorem dX5_settles_197 : decode cX5_settles 197 = .ok (.if_icmp .ge 60, 3) := by decide +kernel
theorem dX5_settles_200 : decode cX5_settles 200 = .ok (.aload_n 0, 1) := by decide +kernel
theorem dX5_settles_201 : decode cX5_settles 201 = .ok (.getfield 34, 3) := by decide +kernel
theorem dX5_settles_204 : decode cX5_settles 204 = .ok (.iload_n 1, 1) := by decide +kernel
theorem dX5_settles_205 : decode cX5_settles 205 = .ok (.aload_n 0, 1) := by decide +kernel
theorem dX5_settles_206 : decode cX5_settles 206 = .ok (.getfield 64, 3) := by decide +kernel
theorem dX5_settles_209 : decode cX5_settles 209 = .ok (.iload_n 1, 1) := by decide +kernel
theorem dX5_settles_210 : decode cX5_settles 210 = .ok (.iaload, 1) := by decide +kernel
theorem dX5_settles_211 : decode cX5_settles 211 = .ok (.iastore, 1) := by decide +kernel
theorem dX5_settles_212 : decode cX5_settles 212 = .ok (.aload_n 0, 1) := by decide +kernel
theorem dX5_settles_213 : decode cX5_settles 213 = .ok (.getfield 37, 3) := by decide +kernel
theorem dX5_settles_216 : decode cX5_settles 216 = .ok (.iload_n 1, 1) := by decide +kernel
theorem dX5_settles_217 : decode cX5_settles 217 = .ok (.aload_n 0, 1) := by decide +kernel
theorem dX5_settles_218 : decode cX5_settles 218 = .ok (.getfield 67, 3) := by decide +kernel
theorem dX5_settles_221 : decode cX5_settles 221 = .ok (.iload_n 1, 1) := by decide +kernel
theorem dX5_settles_222 : decode cX5_settles 222 = .ok (.iaload, 1) := by decide +kernel
theorem dX5_settles_223 : decode cX5_settles 223 = .ok (.iastore, 1) := by decide +kernel
theorem dX5_settles_224 : decode cX5_settles 224 = .ok (.aload_n 0, 1) := by decide +kernel
theorem dX5_settles_225 : decode cX5_settles 225 = .ok (.getfield 70, 3) := by decide +kernel
theorem dX5_settles_228 : decode cX5_settles 228 = .ok (.bipush 14, 2) := by decide +kernel
theorem dX5_settles_230 : decode cX5_settles 230 = .ok (.iload_n 1, 1) := by decide +kernel
theorem dX5_settles_231 : decode cX5_settles 231 = .ok (.iadd, 1) := by decide +kernel
theorem dX5_settles_232 : decode cX5_settles 232 = .ok (.iload_n 1, 1) := by decide +kernel
theorem dX5_settles_233 : decode cX5_settles 233 = .ok (.aload_n 0, 1) := by decide +kernel
theorem dX5_settles_234 : decode cX5_settles 234 = .ok (.getfield 116, 3) := by decide +kernel
theorem dX5_settles_237 : decode cX5_settles 237 = .ok (.if_icmp .ge 12, 3) := by decide +kernel
theorem dX5_settles_240 : decode cX5_settles 240 = .ok (.aload_n 0, 1) := by decide +kernel
theorem dX5_settles_241 : decode cX5_settles 241 = .ok (.getfield 34, 3) := by decide +kernel
theorem dX5_settles_244 : decode cX5_settles 244 = .ok (.iload_n 1, 1) := by decide +kernel
theorem dX5_settles_245 : decode cX5_settles 245 = .ok (.iaload, 1) := by decide +kernel
theorem dX5_settles_246 : decode cX5_settles 246 = .ok (.goto 4, 3) := by decide +kernel
theorem dX5_settles_249 : decode cX5_settles 249 = .ok (.iconst 0, 1) := by decide +kernel
theorem dX5_settles_250 : decode cX5_settles 250 = .ok (.iastore, 1) := by decide +kernel
theorem dX5_settles_251 : decode cX5_settles 251 = .ok (.iinc 1 1, 3) := by decide +kernel
theorem dX5_settles_254 : decode cX5_settles 254 = .ok (.goto (-59), 3) := by decide +kernel
theorem dX5_settles_257 : decode cX5_settles 257 = .ok (.aload_n 0, 1) := by decide +kernel
theorem dX5_settles_258 : decode cX5_settles 258 = .ok (.getfield 70, 3) := by decide +kernel
theorem dX5_settles_261 : decode cX5_settles 261 = .ok (.bipush 18, 2) := by decide +kernel
theorem dX5_settles_263 : decode cX5_settles 263 = .ok (.iconst 0, 1) := by decide +kernel
theorem dX5_settles_264 : decode cX5_settles 264 = .ok (.iastore, 1) := by decide +kernel
theorem dX5_settles_265 : decode cX5_settles 265 = .ok (.aload_n 0, 1) := by decide +kernel
theorem dX5_settles_266 : decode cX5_settles 266 = .ok (.getfield 70, 3) := by decide +kernel
theorem dX5_settles_269 : decode cX5_settles 269 = .ok (.bipush 19, 2) := by decide +kernel
theorem dX5_settles_271 : decode cX5_settles 271 = .ok (.iconst 0, 1) := by decide +kernel
theorem dX5_settles_272 : decode cX5_settles 272 = .ok (.iastore, 1) := by decide +kernel
theorem dX5_settles_273 : decode cX5_settles 273 = .ok (.return_, 1) := by decide +kernel
theorem dX5_copies_0 : decode cX5_copies 0 = .ok (.iconst 0, 1) := by decide +kernel
theorem dX5_copies_1 : decode cX5_copies 1 = .ok (.istore_n 3, 1) := by decide +kernel
theorem dX5_copies_2 : decode cX5_copies 2 = .ok (.iload_n 3, 1) := by decide +kernel
theorem dX5_copies_3 : decode cX5_copies 3 = .ok (.bipush 20, 2) := by decide +kernel
theorem dX5_copies_5 : decode cX5_copies 5 = .ok (.if_icmp .ge 25, 3) := by decide +kernel
theorem dX5_copies_8 : decode cX5_copies 8 = .ok (.aload_n 0, 1) := by decide +kernel
theorem dX5_copies_9 : decode cX5_copies 9 = .ok (.getfield 70, 3) := by decide +kernel
theorem dX5_copies_12 : decode cX5_copies 12 = .ok (.iload_n 2, 1) := by decide +kernel
theorem dX5_copies_13 : decode cX5_copies 13 = .ok (.iload_n 3, 1) := by decide +kernel
theorem dX5_copies_14 : decode cX5_copies 14 = .ok (.iadd, 1) := by decide +kernel
theorem dX5_copies_15 : decode cX5_copies 15 = .ok (.aload_n 0, 1) := by decide +kernel
theorem dX5_copies_16 : decode cX5_copies 16 = .ok (.getfield 70, 3) := by decide +kernel
theorem dX5_copies_19 : decode cX5_copies 19 = .ok (.iload_n 1, 1) := by decide +kernel
theorem dX5_copies_20 : decode cX5_copies 20 = .ok (.iload_n 3, 1) := by decide +kernel
theorem dX5_copies_21 : decode cX5_copies 21 = .ok (.iadd, 1) := by decide +kernel
theorem dX5_copies_22 : decode cX5_copies 22 = .ok (.iaload, 1) := by decide +kernel
theorem dX5_copies_23 : decode cX5_copies 23 = .ok (.iastore, 1) := by decide +kernel
theorem dX5_copies_24 : decode cX5_copies 24 = .ok (.iinc 3 1, 3) := by decide +kernel
theorem dX5_copies_27 : decode cX5_copies 27 = .ok (.goto (-25), 3) := by decide +kernel
theorem dX5_copies_30 : decode cX5_copies 30 = .ok (.return_, 1) := by decide +kernel
set_option maxRecDepth 20000 in
theorem ggX5_isGoing_X5_in : GoodIn wsX5_isGoing wsX5_in := goodIn_r _ [5] (by decide +kernel) (by decide +kernel)
set_option maxRecDepth 20000 in
theorem gX5_isGoing_X5_in : GoodIn wsX5_isGoing (va_wsS RX5 119 yX5_in wsX5_in) := goodIn_app (goodIn_of _ (by decide +kernel)) ggX5_isGoing_X5_in
theorem dX5_isGoing_0 : decode cX5_isGoing 0 = .ok (.iload_n 1, 1) := by decide +kernel
theorem dX5_isGoing_1 : decode cX5_isGoing 1 = .ok (.i2l, 1) := by decide +kernel
theorem dX5_isGoing_2 : decode cX5_isGoing 2 = .ok (.lconst 0, 1) := by decide +kernel
theorem dX5_isGoing_3 : decode cX5_isGoing 3 = .ok (.aload_n 0, 1) := by decide +kernel
theorem dX5_isGoing_4 : decode cX5_isGoing 4 = .ok (.getfield 110, 3) := by decide +kernel
theorem dX5_isGoing_7 : decode cX5_isGoing 7 = .ok (.iconst 1, 1) := by decide +kernel
theorem dX5_isGoing_8 : decode cX5_isGoing 8 = .ok (.isub, 1) := by decide +kernel
theorem dX5_isGoing_9 : decode cX5_isGoing 9 = .ok (.i2l, 1) := by decide +kernel
theorem dX5_isGoing_10 : decode cX5_isGoing 10 = .ok (.invokestatic 119, 3) := by decide +kernel
theorem dX5_isGoing_13 : decode cX5_isGoing 13 = .ok (.ireturn, 1) := by decide +kernel
set_option maxRecDepth 20000 in
theorem ggX5_isLady_X5_in : GoodIn wsX5_isLady wsX5_in := goodIn_r _ [5] (by decide +kernel) (by decide +kernel)
set_option maxRecDepth 20000 in
theorem gX5_isLady_X5_in : GoodIn wsX5_isLady (va_wsS RX5 119 yX5_in wsX5_in) := goodIn_app (goodIn_of _ (by decide +kernel)) ggX5_isLady_X5_in
theorem dX5_isLady_0 : decode cX5_isLady 0 = .ok (.iload_n 1, 1) := by decide +kernel
theorem dX5_isLady_1 : decode cX5_isLady 1 = .ok (.i2l, 1) := by decide +kernel
theorem dX5_isLady_2 : decode cX5_isLady 2 = .ok (.lconst 0, 1) := by decide +kernel
theorem dX5_isLady_3 : decode cX5_isLady 3 = .ok (.aload_n 0, 1) := by decide +kernel
theorem dX5_isLady_4 : decode cX5_isLady 4 = .ok (.getfield 116, 3) := by decide +kernel
theorem dX5_isLady_7 : decode cX5_isLady 7 = .ok (.iconst 1, 1) := by decide +kernel
theorem dX5_isLady_8 : decode cX5_isLady 8 = .ok (.isub, 1) := by decide +kernel
theorem dX5_isLady_9 : decode cX5_isLady 9 = .ok (.i2l, 1) := by decide +kernel
theorem dX5_isLady_10 : decode cX5_isLady 10 = .ok (.invokestatic 119, 3) := by decide +kernel
theorem dX5_isLady_13 : decode cX5_isLady 13 = .ok (.ireturn, 1) := by decide +kernel
set_option maxRecDepth 20000 in
theorem ggX5_write_X5_in : GoodIn wsX5_write wsX5_in := goodIn_r _ [8] (by decide +kernel) (by decide +kernel)
set_option maxRecDepth 20000 in
theorem gX5_write_X5_in : GoodIn wsX5_write (va_wsS RX5 119 yX5_in wsX5_in) := goodIn_app (goodIn_of _ (by decide +kernel)) ggX5_write_X5_in
theorem dX5_write_0 : decode cX5_write 0 = .ok (.iload_n 1, 1) := by decide +kernel
theorem dX5_write_1 : decode cX5_write 1 = .ok (.i2l, 1) := by decide +kernel
theorem dX5_write_2 : decode cX5_write 2 = .ok (.ldc2_w 123, 3) := by decide +kernel
theorem dX5_write_5 : decode cX5_write 5 = .ok (.ldc2_w 125, 3) := by decide +kernel
theorem dX5_write_8 : decode cX5_write 8 = .ok (.invokestatic 119, 3) := by decide +kernel
theorem dX5_write_11 : decode cX5_write 11 = .ok (.ifCond .ne 5, 3) := by decide +kernel
theorem dX5_write_14 : decode cX5_write 14 = .ok (.iconst (-1), 1) := by decide +kernel
theorem dX5_write_15 : decode cX5_write 15 = .ok (.ireturn, 1) := by decide +kernel
theorem dX5_write_16 : decode cX5_write 16 = .ok (.aload_n 0, 1) := by decide +kernel
theorem dX5_write_17 : decode cX5_write 17 = .ok (.getfield 127, 3) := by decide +kernel
theorem dX5_write_20 : decode cX5_write 20 = .ok (.sipush 200, 3) := by decide +kernel
theorem dX5_write_23 : decode cX5_write 23 = .ok (.if_icmp .ne 6, 3) := by decide +kernel
theorem dX5_write_26 : decode cX5_write 26 = .ok (.bipush (-3), 2) := by decide +kernel
theorem dX5_write_28 : decode cX5_write 28 = .ok (.ireturn, 1) := by decide +kernel
theorem dX5_write_29 : decode cX5_write 29 = .ok (.aload_n 0, 1) := by decide +kernel
theorem dX5_write_30 : decode cX5_write 30 = .ok (.getfield 73, 3) := by decide +kernel
theorem dX5_write_33 : decode cX5_write 33 = .ok (.aload_n 0, 1) := by decide +kernel
theorem dX5_write_34 : decode cX5_write 34 = .ok (.getfield 127, 3) := by decide +kernel
theorem dX5_write_37 : decode cX5_write 37 = .ok (.iload_n 1, 1) := by decide +kernel
theorem dX5_write_38 : decode cX5_write 38 = .ok (.i2b, 1) := by decide +kernel
theorem dX5_write_39 : decode cX5_write 39 = .ok (.bastore, 1) := by decide +kernel
theorem dX5_write_40 : decode cX5_write 40 = .ok (.aload_n 0, 1) := by decide +kernel
theorem dX5_write_41 : decode cX5_write 41 = .ok (.dup, 1) := by decide +kernel
theorem dX5_write_42 : decode cX5_write 42 = .ok (.getfield 127, 3) := by decide +kernel
theorem dX5_write_45 : decode cX5_write 45 = .ok (.iconst 1, 1) := by decide +kernel
theorem dX5_write_46 : decode cX5_write 46 = .ok (.iadd, 1) := by decide +kernel
theorem dX5_write_47 : decode cX5_write 47 = .ok (.putfield 127, 3) := by decide +kernel
theorem dX5_write_50 : decode cX5_write 50 = .ok (.aload_n 0, 1) := by decide +kernel
theorem dX5_write_51 : decode cX5_write 51 = .ok (.getfield 127, 3) := by decide +kernel
theorem dX5_write_54 : decode cX5_write 54 = .ok (.ireturn, 1) := by decide +kernel
theorem dX5_wipe_0 : decode cX5_wipe 0 = .ok (.aload_n 0, 1) := by decide +kernel
theorem dX5_wipe_1 : decode cX5_wipe 1 = .ok (.getfield 127, 3) := by decide +kernel
theorem dX5_wipe_4 : decode cX5_wipe 4 = .ok (.istore_n 1, 1) := by decide +kernel
theorem dX5_wipe_5 : decode cX5_wipe 5 = .ok (.aload_n 0, 1) := by decide +kernel
theorem dX5_wipe_6 : decode cX5_wipe 6 = .ok (.iconst 0, 1) := by decide +kernel
theorem dX5_wipe_7 : decode cX5_wipe 7 = .ok (.putfield 127, 3) := by decide +kernel
theorem dX5_wipe_10 : decode cX5_wipe 10 = .ok (.iload_n 1, 1) := by decide +kernel
theorem dX5_wipe_11 : decode cX5_wipe 11 = .ok (.ireturn, 1) := by decide +kernel
theorem dX5_next_0 : decode cX5_next 0 = .ok (.aload_n 0, 1) := by decide +kernel
theorem dX5_next_1 : decode cX5_next 1 = .ok (.getfield 130, 3) := by decide +kernel
theorem dX5_next_4 : decode cX5_next 4 = .ok (.aload_n 0, 1) := by decide +kernel
theorem dX5_next_5 : decode cX5_next 5 = .ok (.getfield 127, 3) := by decide +kernel
theorem dX5_next_8 : decode cX5_next 8 = .ok (.if_icmp .ge 15, 3) := by decide +kernel
theorem dX5_next_11 : decode cX5_next 11 = .ok (.aload_n 0, 1) := by decide +kernel
theorem dX5_next_12 : decode cX5_next 12 = .ok (.getfield 73, 3) := by decide +kernel
theorem dX5_next_15 : decode cX5_next 15 = .ok (.aload_n 0, 1) := by decide +kernel
theorem dX5_next_16 : decode cX5_next 16 = .ok (.getfield 130, 3) := by decide +kernel
theorem dX5_next_19 : decode cX5_next 19 = .ok (.baload, 1) := by decide +kernel
theorem dX5_next_20 : decode cX5_next 20 = .ok (.goto 4, 3) := by decide +kernel
theorem dX5_next_23 : decode cX5_next 23 = .ok (.iconst (-1), 1) := by decide +kernel
theorem dX5_next_24 : decode cX5_next 24 = .ok (.ireturn, 1) := by decide +kernel
set_option maxRecDepth 20000 in
theorem ggX5_number_X5_next : GoodIn wsX5_number wsX5_next := goodIn_r _ [9, 3, 10, 11, 15, 16, 17, 18, 19, 20, 21, 22, 23, 24, 25, 26, 27, 28, 29, 30, 31, 32, 33, 34, 35, 36, 37, 38, 39, 40, 41, 42, 43, 44, 45, 46, 47, 48, 49, 50, 51, 52, 53] (by decide +kernel) (by decide +kernel)
set_option maxRecDepth 20000 in
theorem gX5_number_X5_next : GoodIn wsX5_number (wsV RX5 133 RX5 yX5_next wsX5_next) := goodIn_app (goodIn_of _ (by decide +kernel)) ggX5_number_X5_next
set_option maxRecDepth 20000 in
theorem ggX5_number_X5_in : GoodIn wsX5_number wsX5_in := goodIn_r _ [14] (by decide +kernel) (by decide +kernel)
set_option maxRecDepth 20000 in
theorem gX5_number_X5_in : GoodIn wsX5_number (va_wsS RX5 119 yX5_in wsX5_in) := goodIn_app (goodIn_of _ (by decide +kernel)) ggX5_number_X5_in
theorem dX5_number_0 : decode cX5_number 0 = .ok (.iconst 0, 1) := by decide +kernel
theorem dX5_number_1 : decode cX5_number 1 = .ok (.istore_n 3, 1) := by decide +kernel
theorem dX5_number_2 : decode cX5_number 2 = .ok (.iconst 0, 1) := by decide +kernel
theorem dX5_number_3 : decode cX5_number 3 = .ok (.istore 4, 2) := by decide +kernel
theorem dX5_number_5 : decode cX5_number 5 = .ok (.aload_n 0, 1) := by decide +kernel
theorem dX5_number_6 : decode cX5_number 6 = .ok (.invokevirtual 133, 3) := by decide +kernel
theorem dX5_number_9 : decode cX5_number 9 = .ok (.i2l, 1) := by decide +kernel
theorem dX5_number_10 : decode cX5_number 10 = .ok (.ldc2_w 137, 3) := by decide +kernel
theorem dX5_number_13 : decode cX5_number 13 = .ok (.ldc2_w 139, 3) := by decide +kernel
theorem dX5_number_16 : decode cX5_number 16 = .ok (.invokestatic 119, 3) := by decide +kernel
theorem dX5_number_19 : decode cX5_number 19 = .ok (.ifCond .eq 38, 3) := by decide +kernel
theorem dX5_number_22 : decode cX5_number 22 = .ok (.iload 4, 2) := by decide +kernel
theorem dX5_number_24 : decode cX5_number 24 = .ok (.iconst 3, 1) := by decide +kernel
theorem dX5_number_25 : decode cX5_number 25 = .ok (.if_icmp .ge 32, 3) := by decide +kernel
theorem dX5_number_28 : decode cX5_number 28 = .ok (.bipush 10, 2) := by decide +kernel
theorem dX5_number_30 : decode cX5_number 30 = .ok (.iload_n 3, 1) := by decide +kernel
theorem dX5_number_31 : decode cX5_number 31 = .ok (.imul, 1) := by decide +kernel
theorem dX5_number_32 : decode cX5_number 32 = .ok (.aload_n 0, 1) := by decide +kernel
theorem dX5_number_33 : decode cX5_number 33 = .ok (.invokevirtual 133, 3) := by decide +kernel
theorem dX5_number_36 : decode cX5_number 36 = .ok (.iadd, 1) := by decide +kernel
theorem dX5_number_37 : decode cX5_number 37 = .ok (.bipush 48, 2) := by decide +kernel
theorem dX5_number_39 : decode cX5_number 39 = .ok (.isub, 1) := by decide +kernel
theorem dX5_number_40 : decode cX5_number 40 = .ok (.istore_n 3, 1) := by decide +kernel
theorem dX5_number_41 : decode cX5_number 41 = .ok (.iinc 4 1, 3) := by decide +kernel
theorem dX5_number_44 : decode cX5_number 44 = .ok (.aload_n 0, 1) := by decide +kernel
theorem dX5_number_45 : decode cX5_number 45 = .ok (.dup, 1) := by decide +kernel
theorem dX5_number_46 : decode cX5_number 46 = .ok (.getfield 130, 3) := by decide +kernel
theorem dX5_number_49 : decode cX5_number 49 = .ok (.iconst 1, 1) := by decide +kernel
theorem dX5_number_50 : decode cX5_number 50 = .ok (.iadd, 1) := by decide +kernel
theorem dX5_number_51 : decode cX5_number 51 = .ok (.putfield 130, 3) := by decide +kernel
theorem dX5_number_54 : decode cX5_number 54 = .ok (.goto (-49), 3) := by decide +kernel
theorem dX5_number_57 : decode cX5_number 57 = .ok (.aload_n 0, 1) := by decide +kernel
theorem dX5_number_58 : decode cX5_number 58 = .ok (.aload_n 0, 1) := by decide +kernel
theorem dX5_number_59 : decode cX5_number 59 = .ok (.getfield 141, 3) := by decide +kernel
theorem dX5_number_62 : decode cX5_number 62 = .ok (.ifCond .ne 26, 3) := by decide +kernel
theorem dX5_number_65 : decode cX5_number 65 = .ok (.iload 4, 2) := by decide +kernel
theorem dX5_number_67 : decode cX5_number 67 = .ok (.ifCond .eq 21, 3) := by decide +kernel
theorem dX5_number_70 : decode cX5_number 70 = .ok (.iload 4, 2) := by decide +kernel
theorem dX5_number_72 : decode cX5_number 72 = .ok (.iconst 2, 1) := by decide +kernel
theorem dX5_number_73 : decode cX5_number 73 = .ok (.if_icmp .gt 15, 3) := by decide +kernel
theorem dX5_number_76 : decode cX5_number 76 = .ok (.iload_n 3, 1) := by decide +kernel
theorem dX5_number_77 : decode cX5_number 77 = .ok (.i2l, 1) := by decide +kernel
theorem dX5_number_78 : decode cX5_number 78 = .ok (.iload_n 1, 1) := by decide +kernel
theorem dX5_number_79 : decode cX5_number 79 = .ok (.i2l, 1) := by decide +kernel
theorem dX5_number_80 : decode cX5_number 80 = .ok (.iload_n 2, 1) := by decide +kernel
theorem dX5_number_81 : decode cX5_number 81 = .ok (.i2l, 1) := by decide +kernel
theorem dX5_number_82 : decode cX5_number 82 = .ok (.invokestatic 119, 3) := by decide +kernel
theorem dX5_number_85 : decode cX5_number 85 = .ok (.ifCond .ne 7, 3) := by decide +kernel
theorem dX5_number_88 : decode cX5_number 88 = .ok (.iconst 1, 1) := by decide +kernel
theorem dX5_number_89 : decode cX5_number 89 = .ok (.goto 4, 3) := by decide +kernel
theorem dX5_number_92 : decode cX5_number 92 = .ok (.iconst 0, 1) := by decide +kernel
theorem dX5_number_93 : decode cX5_number 93 = .ok (.putfield 141, 3) := by decide +kernel
theorem dX5_number_96 : decode cX5_number 96 = .ok (.aload_n 0, 1) := by decide +kernel
theorem dX5_number_97 : decode cX5_number 97 = .ok (.getfield 141, 3) := by decide +kernel
theorem dX5_number_100 : decode cX5_number 100 = .ok (.ifCond .eq 7, 3) := by decide +kernel
theorem dX5_number_103 : decode cX5_number 103 = .ok (.iconst 0, 1) := by decide +kernel
theorem dX5_number_104 : decode cX5_number 104 = .ok (.goto 4, 3) := by decide +kernel
theorem dX5_number_107 : decode cX5_number 107 = .ok (.iload_n 3, 1) := by decide +kernel
theorem dX5_number_108 : decode cX5_number 108 = .ok (.ireturn, 1) := by decide +kernel
set_option maxRecDepth 20000 in
theorem ggX5_more_X5_next : GoodIn wsX5_more wsX5_next := goodIn_r _ [7, 2, 8, 9, 19, 20, 21, 22, 23, 24, 25, 26, 27, 28, 29, 30, 31, 32, 33, 34, 35, 36, 37, 38, 39, 40, 41, 42, 43, 44, 45, 46, 47, 48, 49, 50, 51, 52, 53, 54, 55, 56, 57] (by decide +kernel) (by decide +kernel)
set_option maxRecDepth 20000 in
theorem gX5_more_X5_next : GoodIn wsX5_more (wsV RX5 133 RX5 yX5_next wsX5_next) := goodIn_app (goodIn_of _ (by decide +kernel)) ggX5_more_X5_next
set_option maxRecDepth 20000 in
theorem ggX5_more_X5_number : GoodIn wsX5_more wsX5_number := goodIn_r _ [13, 14, 15, 2, 1, 3, 4, 5, 6, 7, 8, 9, 16, 17, 18, 19, 20, 21, 22, 23, 24, 25, 26, 27, 28, 29, 30, 31, 32, 33, 34, 35, 36, 37, 38, 39, 40, 41, 42, 43, 44, 45, 46, 47, 48, 49, 50, 51, 52, 53, 54, 55, 56, 57] (by decide +kernel) (by decide +kernel)
set_option maxRecDepth 20000 in
theorem gX5_more_X5_number : GoodIn wsX5_more (wsV RX5 145 RX5 yX5_number wsX5_number) := goodIn_app (goodIn_of _ (by decide +kernel)) ggX5_more_X5_number
theorem dX5_more_0 : decode cX5_more 0 = .ok (.aload_n 0, 1) := by decide +kernel
theorem dX5_more_1 : decode cX5_more 1 = .ok (.aload_n 0, 1) := by decide +kernel
theorem dX5_more_2 : decode cX5_more 2 = .ok (.getfield 141, 3) := by decide +kernel
theorem dX5_more_5 : decode cX5_more 5 = .ok (.ifCond .ne 12, 3) := by decide +kernel
theorem dX5_more_8 : decode cX5_more 8 = .ok (.aload_n 0, 1) := by decide +kernel
theorem dX5_more_9 : decode cX5_more 9 = .ok (.invokevirtual 133, 3) := by decide +kernel
theorem dX5_more_12 : decode cX5_more 12 = .ok (.bipush 44, 2) := by decide +kernel
theorem dX5_more_14 : decode cX5_more 14 = .ok (.if_icmp .eq 7, 3) := by decide +kernel
theorem dX5_more_17 : decode cX5_more 17 = .ok (.iconst 1, 1) := by decide +kernel
theorem dX5_more_18 : decode cX5_more 18 = .ok (.goto 4, 3) := by decide +kernel
theorem dX5_more_21 : decode cX5_more 21 = .ok (.iconst 0, 1) := by decide +kernel
theorem dX5_more_22 : decode cX5_more 22 = .ok (.putfield 141, 3) := by decide +kernel
theorem dX5_more_25 : decode cX5_more 25 = .ok (.aload_n 0, 1) := by decide +kernel
theorem dX5_more_26 : decode cX5_more 26 = .ok (.dup, 1) := by decide +kernel
theorem dX5_more_27 : decode cX5_more 27 = .ok (.getfield 130, 3) := by decide +kernel
theorem dX5_more_30 : decode cX5_more 30 = .ok (.iconst 1, 1) := by decide +kernel
theorem dX5_more_31 : decode cX5_more 31 = .ok (.iadd, 1) := by decide +kernel
theorem dX5_more_32 : decode cX5_more 32 = .ok (.putfield 130, 3) := by decide +kernel
theorem dX5_more_35 : decode cX5_more 35 = .ok (.aload_n 0, 1) := by decide +kernel
theorem dX5_more_36 : decode cX5_more 36 = .ok (.getfield 141, 3) := by decide +kernel
theorem dX5_more_39 : decode cX5_more 39 = .ok (.ifCond .eq 7, 3) := by decide +kernel
theorem dX5_more_42 : decode cX5_more 42 = .ok (.iconst 0, 1) := by decide +kernel
theorem dX5_more_43 : decode cX5_more 43 = .ok (.goto 9, 3) := by decide +kernel
theorem dX5_more_46 : decode cX5_more 46 = .ok (.aload_n 0, 1) := by decide +kernel
theorem dX5_more_47 : decode cX5_more 47 = .ok (.iload_n 1, 1) := by decide +kernel
theorem dX5_more_48 : decode cX5_more 48 = .ok (.iload_n 2, 1) := by decide +kernel
theorem dX5_more_49 : decode cX5_more 49 = .ok (.invokevirtual 145, 3) := by decide +kernel
theorem dX5_more_52 : decode cX5_more 52 = .ok (.ireturn, 1) := by decide +kernel
set_option maxRecDepth 20000 in
theorem ggX5_goingItem_X5_number : GoodIn wsX5_goingItem wsX5_number := goodIn_r _ [7, 8, 9, 10, 2, 11, 12, 13, 6, 14, 15, 16, 17, 18, 19, 33, 34, 35, 36, 37, 38, 39, 40, 41, 42, 43, 44, 45, 46, 47, 48, 49, 50, 51, 52, 53, 54, 55, 56, 57, 58, 59, 60, 61, 62, 63, 64, 65, 66, 67, 68, 69, 70, 71] (by decide +kernel) (by decide +kernel)
set_option maxRecDepth 20000 in
theorem gX5_goingItem_X5_number : GoodIn wsX5_goingItem (wsV RX5 145 RX5 yX5_number wsX5_number) := goodIn_app (goodIn_of _ (by decide +kernel)) ggX5_goingItem_X5_number
set_option maxRecDepth 20000 in
theorem ggX5_goingItem_X5_more : GoodIn wsX5_goingItem wsX5_more := goodIn_r _ [23, 2, 10, 11, 12, 13, 6, 14, 15, 16, 3, 4, 5, 7, 8, 9, 17, 18, 19, 33, 34, 35, 36, 37, 38, 39, 40, 41, 42, 43, 44, 45, 46, 47, 48, 49, 50, 51, 52, 53, 54, 55, 56, 57, 58, 59, 60, 61, 62, 63, 64, 65, 66, 67, 68, 69, 70, 71] (by decide +kernel) (by decide +kernel)
set_option maxRecDepth 20000 in
theorem gX5_goingItem_X5_more : GoodIn wsX5_goingItem (wsV RX5 149 RX5 yX5_more wsX5_more) := goodIn_app (goodIn_of _ (by decide +kernel)) ggX5_goingItem_X5_more
set_option maxRecDepth 20000 in
theorem ggX5_goingItem_X5_comes : GoodIn wsX5_goingItem wsX5_comes := goodIn_r _ [27, 28, 1, 29, 30, 31, 32, 33, 34, 35, 36, 37, 38, 39, 40, 41, 42, 43, 44, 45, 46, 47, 48, 49, 50, 51, 52, 53, 54, 55, 56, 57, 58, 59, 60, 61, 62, 63, 64, 65, 66, 67, 68, 69, 70, 71] (by decide +kernel) (by decide +kernel)
set_option maxRecDepth 20000 in
theorem gX5_goingItem_X5_comes : GoodIn wsX5_goingItem (wsV RX5 90 RX5 yX5_comes wsX5_comes) := goodIn_app (goodIn_of _ (by decide +kernel)) ggX5_goingItem_X5_comes
theorem dX5_goingItem_0 : decode cX5_goingItem 0 = .ok (.aload_n 0, 1) := by decide +kernel
theorem dX5_goingItem_1 : decode cX5_goingItem 1 = .ok (.aload_n 0, 1) := by decide +kernel
theorem dX5_goingItem_2 : decode cX5_goingItem 2 = .ok (.getfield 104, 3) := by decide +kernel
theorem dX5_goingItem_5 : decode cX5_goingItem 5 = .ok (.bipush 7, 2) := by decide +kernel
theorem dX5_goingItem_7 : decode cX5_goingItem 7 = .ok (.if_icmp .ne 7, 3) := by decide +kernel
theorem dX5_goingItem_10 : decode cX5_goingItem 10 = .ok (.iconst 1, 1) := by decide +kernel
theorem dX5_goingItem_11 : decode cX5_goingItem 11 = .ok (.goto 4, 3) := by decide +kernel
theorem dX5_goingItem_14 : decode cX5_goingItem 14 = .ok (.iconst 0, 1) := by decide +kernel
theorem dX5_goingItem_15 : decode cX5_goingItem 15 = .ok (.putfield 141, 3) := by decide +kernel
theorem dX5_goingItem_18 : decode cX5_goingItem 18 = .ok (.aload_n 0, 1) := by decide +kernel
theorem dX5_goingItem_19 : decode cX5_goingItem 19 = .ok (.getfield 141, 3) := by decide +kernel
theorem dX5_goingItem_22 : decode cX5_goingItem 22 = .ok (.ifCond .eq 7, 3) := by decide +kernel
theorem dX5_goingItem_25 : decode cX5_goingItem 25 = .ok (.iconst 0, 1) := by decide +kernel
theorem dX5_goingItem_26 : decode cX5_goingItem 26 = .ok (.goto 9, 3) := by decide +kernel
theorem dX5_goingItem_29 : decode cX5_goingItem 29 = .ok (.aload_n 0, 1) := by decide +kernel
theorem dX5_goingItem_30 : decode cX5_goingItem 30 = .ok (.iconst 0, 1) := by decide +kernel
theorem dX5_goingItem_31 : decode cX5_goingItem 31 = .ok (.iconst 3, 1) := by decide +kernel
theorem dX5_goingItem_32 : decode cX5_goingItem 32 = .ok (.invokevirtual 145, 3) := by decide +kernel
theorem dX5_goingItem_35 : decode cX5_goingItem 35 = .ok (.istore_n 1, 1) := by decide +kernel
theorem dX5_goingItem_36 : decode cX5_goingItem 36 = .ok (.aload_n 0, 1) := by decide +kernel
theorem dX5_goingItem_37 : decode cX5_goingItem 37 = .ok (.iconst 0, 1) := by decide +kernel
theorem dX5_goingItem_38 : decode cX5_goingItem 38 = .ok (.bipush 99, 2) := by decide +kernel
theorem dX5_goingItem_40 : decode cX5_goingItem 40 = .ok (.invokevirtual 149, 3) := by decide +kernel
theorem dX5_goingItem_43 : decode cX5_goingItem 43 = .ok (.istore_n 2, 1) := by decide +kernel
theorem dX5_goingItem_44 : decode cX5_goingItem 44 = .ok (.aload_n 0, 1) := by decide +kernel
theorem dX5_goingItem_45 : decode cX5_goingItem 45 = .ok (.aload_n 0, 1) := by decide +kernel
theorem dX5_goingItem_46 : decode cX5_goingItem 46 = .ok (.getfield 141, 3) := by decide +kernel
theorem dX5_goingItem_49 : decode cX5_goingItem 49 = .ok (.ifCond .ne 15, 3) := by decide +kernel
theorem dX5_goingItem_52 : decode cX5_goingItem 52 = .ok (.iload_n 2, 1) := by decide +kernel
theorem dX5_goingItem_53 : decode cX5_goingItem 53 = .ok (.bipush 60, 2) := by decide +kernel
theorem dX5_goingItem_55 : decode cX5_goingItem 55 = .ok (.if_icmp .le 13, 3) := by decide +kernel
theorem dX5_goingItem_58 : decode cX5_goingItem 58 = .ok (.iload_n 2, 1) := by decide +kernel
theorem dX5_goingItem_59 : decode cX5_goingItem 59 = .ok (.bipush 99, 2) := by decide +kernel
theorem dX5_goingItem_61 : decode cX5_goingItem 61 = .ok (.if_icmp .ge 7, 3) := by decide +kernel
theorem dX5_goingItem_64 : decode cX5_goingItem 64 = .ok (.iconst 1, 1) := by decide +kernel
theorem dX5_goingItem_65 : decode cX5_goingItem 65 = .ok (.goto 4, 3) := by decide +kernel
theorem dX5_goingItem_68 : decode cX5_goingItem 68 = .ok (.iconst 0, 1) := by decide +kernel
theorem dX5_goingItem_69 : decode cX5_goingItem 69 = .ok (.putfield 141, 3) := by decide +kernel
theorem dX5_goingItem_72 : decode cX5_goingItem 72 = .ok (.aload_n 0, 1) := by decide +kernel
theorem dX5_goingItem_73 : decode cX5_goingItem 73 = .ok (.iconst 0, 1) := by decide +kernel
theorem dX5_goingItem_74 : decode cX5_goingItem 74 = .ok (.bipush 20, 2) := by decide +kernel
theorem dX5_goingItem_76 : decode cX5_goingItem 76 = .ok (.invokevirtual 149, 3) := by decide +kernel
theorem dX5_goingItem_79 : decode cX5_goingItem 79 = .ok (.istore_n 3, 1) := by decide +kernel
theorem dX5_goingItem_80 : decode cX5_goingItem 80 = .ok (.aload_n 0, 1) := by decide +kernel
theorem dX5_goingItem_81 : decode cX5_goingItem 81 = .ok (.iconst 0, 1) := by decide +kernel
theorem dX5_goingItem_82 : decode cX5_goingItem 82 = .ok (.iconst 5, 1) := by decide +kernel
theorem dX5_goingItem_83 : decode cX5_goingItem 83 = .ok (.invokevirtual 149, 3) := by decide +kernel
theorem dX5_goingItem_86 : decode cX5_goingItem 86 = .ok (.istore 4, 2) := by decide +kernel
theorem dX5_goingItem_88 : decode cX5_goingItem 88 = .ok (.aload_n 0, 1) := by decide +kernel
theorem dX5_goingItem_89 : decode cX5_goingItem 89 = .ok (.iconst 1, 1) := by decide +kernel
theorem dX5_goingItem_90 : decode cX5_goingItem 90 = .ok (.bipush 40, 2) := by decide +kernel
theorem dX5_goingItem_92 : decode cX5_goingItem 92 = .ok (.invokevirtual 149, 3) := by decide +kernel
theorem dX5_goingItem_95 : decode cX5_goingItem 95 = .ok (.istore 5, 2) := by decide +kernel
theorem dX5_goingItem_97 : decode cX5_goingItem 97 = .ok (.aload_n 0, 1) := by decide +kernel
theorem dX5_goingItem_98 : decode cX5_goingItem 98 = .ok (.getfield 141, 3) := by decide +kernel
theorem dX5_goingItem_101 : decode cX5_goingItem 101 = .ok (.ifCond .ne 14, 3) := by decide +kernel
theorem dX5_goingItem_104 : decode cX5_goingItem 104 = .ok (.aload_n 0, 1) := by decide +kernel
theorem dX5_goingItem_105 : decode cX5_goingItem 105 = .ok (.iload_n 1, 1) := by decide +kernel
theorem dX5_goingItem_106 : decode cX5_goingItem 106 = .ok (.iload_n 2, 1) := by decide +kernel
theorem dX5_goingItem_107 : decode cX5_goingItem 107 = .ok (.iload_n 3, 1) := by decide +kernel
theorem dX5_goingItem_108 : decode cX5_goingItem 108 = .ok (.iload 4, 2) := by decide +kernel
theorem dX5_goingItem_110 : decode cX5_goingItem 110 = .ok (.iload 5, 2) := by decide +kernel
theorem dX5_goingItem_112 : decode cX5_goingItem 112 = .ok (.invokevirtual 90, 3) := by decide +kernel
theorem dX5_goingItem_115 : decode cX5_goingItem 115 = .ok (.return_, 1) := by decide +kernel
set_option maxRecDepth 20000 in
theorem ggX5_followItem_X5_number : GoodIn wsX5_followItem wsX5_number := goodIn_r _ [8, 9, 10, 11, 2, 12, 13, 14, 7, 15, 16, 17, 18, 19, 20, 32, 33, 34, 35, 36, 37, 38, 39, 40, 41, 42, 43, 44, 45, 46, 47, 48, 49, 50, 51, 52, 53, 54, 55, 56, 57, 58, 59, 60, 61, 62, 63, 64, 65, 66, 67, 68, 69, 70] (by decide +kernel) (by decide +kernel)
set_option maxRecDepth 20000 in
theorem gX5_followItem_X5_number : GoodIn wsX5_followItem (wsV RX5 145 RX5 yX5_number wsX5_number) := goodIn_app (goodIn_of _ (by decide +kernel)) ggX5_followItem_X5_number
set_option maxRecDepth 20000 in
theorem ggX5_followItem_X5_more : GoodIn wsX5_followItem wsX5_more := goodIn_r _ [24, 2, 11, 12, 13, 14, 7, 15, 16, 17, 4, 5, 6, 8, 9, 10, 18, 19, 20, 32, 33, 34, 35, 36, 37, 38, 39, 40, 41, 42, 43, 44, 45, 46, 47, 48, 49, 50, 51, 52, 53, 54, 55, 56, 57, 58, 59, 60, 61, 62, 63, 64, 65, 66, 67, 68, 69, 70] (by decide +kernel) (by decide +kernel)
set_option maxRecDepth 20000 in
theorem gX5_followItem_X5_more : GoodIn wsX5_followItem (wsV RX5 149 RX5 yX5_more wsX5_more) := goodIn_app (goodIn_of _ (by decide +kernel)) ggX5_followItem_X5_more
set_option maxRecDepth 20000 in
theorem ggX5_followItem_X5_follow : GoodIn wsX5_followItem wsX5_follow := goodIn_r _ [28, 29, 1, 30, 31, 32, 33, 34, 35, 36, 37, 38, 39, 40, 41, 42, 43, 44, 45, 46, 47, 48, 49, 50, 51, 52, 53, 54, 55, 56, 57, 58, 59, 60, 61, 62, 63, 64, 65, 66, 67, 68, 69, 70] (by decide +kernel) (by decide +kernel)
set_option maxRecDepth 20000 in
theorem gX5_followItem_X5_follow : GoodIn wsX5_followItem (wsV RX5 94 RX5 yX5_follow wsX5_follow) := goodIn_app (goodIn_of _ (by decide +kernel)) ggX5_followItem_X5_follow
theorem dX5_followItem_0 : decode cX5_followItem 0 = .ok (.aload_n 0, 1) := by decide +kernel
theorem dX5_followItem_1 : decode cX5_followItem 1 = .ok (.aload_n 0, 1) := by decide +kernel
theorem dX5_followItem_2 : decode cX5_followItem 2 = .ok (.getfield 107, 3) := by decide +kernel
theorem dX5_followItem_5 : decode cX5_followItem 5 = .ok (.bipush 6, 2) := by decide +kernel
theorem dX5_followItem_7 : decode cX5_followItem 7 = .ok (.if_icmp .ne 7, 3) := by decide +kernel
theorem dX5_followItem_10 : decode cX5_followItem 10 = .ok (.iconst 1, 1) := by decide +kernel
theorem dX5_followItem_11 : decode cX5_followItem 11 = .ok (.goto 4, 3) := by decide +kernel
theorem dX5_followItem_14 : decode cX5_followItem 14 = .ok (.iconst 0, 1) := by decide +kernel
theorem dX5_followItem_15 : decode cX5_followItem 15 = .ok (.putfield 141, 3) := by decide +kernel
theorem dX5_followItem_18 : decode cX5_followItem 18 = .ok (.aload_n 0, 1) := by decide +kernel
theorem dX5_followItem_19 : decode cX5_followItem 19 = .ok (.getfield 141, 3) := by decide +kernel
theorem dX5_followItem_22 : decode cX5_followItem 22 = .ok (.ifCond .eq 7, 3) := by decide +kernel
theorem dX5_followItem_25 : decode cX5_followItem 25 = .ok (.iconst 0, 1) := by decide +kernel
theorem dX5_followItem_26 : decode cX5_followItem 26 = .ok (.goto 14, 3) := by decide +kernel
theorem dX5_followItem_29 : decode cX5_followItem 29 = .ok (.aload_n 0, 1) := by decide +kernel
theorem dX5_followItem_30 : decode cX5_followItem 30 = .ok (.iconst 0, 1) := by decide +kernel
theorem dX5_followItem_31 : decode cX5_followItem 31 = .ok (.aload_n 0, 1) := by decide +kernel
theorem dX5_followItem_32 : decode cX5_followItem 32 = .ok (.getfield 104, 3) := by decide +kernel
theorem dX5_followItem_35 : decode cX5_followItem 35 = .ok (.iconst 1, 1) := by decide +kernel
theorem dX5_followItem_36 : decode cX5_followItem 36 = .ok (.isub, 1) := by decide +kernel
theorem dX5_followItem_37 : decode cX5_followItem 37 = .ok (.invokevirtual 145, 3) := by decide +kernel
theorem dX5_followItem_40 : decode cX5_followItem 40 = .ok (.istore_n 1, 1) := by decide +kernel
theorem dX5_followItem_41 : decode cX5_followItem 41 = .ok (.aload_n 0, 1) := by decide +kernel
theorem dX5_followItem_42 : decode cX5_followItem 42 = .ok (.iconst 0, 1) := by decide +kernel
theorem dX5_followItem_43 : decode cX5_followItem 43 = .ok (.aload_n 0, 1) := by decide +kernel
theorem dX5_followItem_44 : decode cX5_followItem 44 = .ok (.getfield 104, 3) := by decide +kernel
theorem dX5_followItem_47 : decode cX5_followItem 47 = .ok (.iconst 1, 1) := by decide +kernel
theorem dX5_followItem_48 : decode cX5_followItem 48 = .ok (.isub, 1) := by decide +kernel
theorem dX5_followItem_49 : decode cX5_followItem 49 = .ok (.invokevirtual 149, 3) := by decide +kernel
theorem dX5_followItem_52 : decode cX5_followItem 52 = .ok (.istore_n 2, 1) := by decide +kernel
theorem dX5_followItem_53 : decode cX5_followItem 53 = .ok (.aload_n 0, 1) := by decide +kernel
theorem dX5_followItem_54 : decode cX5_followItem 54 = .ok (.aload_n 0, 1) := by decide +kernel
theorem dX5_followItem_55 : decode cX5_followItem 55 = .ok (.getfield 141, 3) := by decide +kernel
theorem dX5_followItem_58 : decode cX5_followItem 58 = .ok (.ifCond .ne 8, 3) := by decide +kernel
theorem dX5_followItem_61 : decode cX5_followItem 61 = .ok (.iload_n 1, 1) := by decide +kernel
theorem dX5_followItem_62 : decode cX5_followItem 62 = .ok (.iload_n 2, 1) := by decide +kernel
theorem dX5_followItem_63 : decode cX5_followItem 63 = .ok (.if_icmp .ne 7, 3) := by decide +kernel
theorem dX5_followItem_66 : decode cX5_followItem 66 = .ok (.iconst 1, 1) := by decide +kernel
theorem dX5_followItem_67 : decode cX5_followItem 67 = .ok (.goto 4, 3) := by decide +kernel
theorem dX5_followItem_70 : decode cX5_followItem 70 = .ok (.iconst 0, 1) := by decide +kernel
theorem dX5_followItem_71 : decode cX5_followItem 71 = .ok (.putfield 141, 3) := by decide +kernel
theorem dX5_followItem_74 : decode cX5_followItem 74 = .ok (.aload_n 0, 1) := by decide +kernel
theorem dX5_followItem_75 : decode cX5_followItem 75 = .ok (.iconst 0, 1) := by decide +kernel
theorem dX5_followItem_76 : decode cX5_followItem 76 = .ok (.bipush 20, 2) := by decide +kernel
theorem dX5_followItem_78 : decode cX5_followItem 78 = .ok (.invokevirtual 149, 3) := by decide +kernel
theorem dX5_followItem_81 : decode cX5_followItem 81 = .ok (.istore_n 3, 1) := by decide +kernel
theorem dX5_followItem_82 : decode cX5_followItem 82 = .ok (.aload_n 0, 1) := by decide +kernel
theorem dX5_followItem_83 : decode cX5_followItem 83 = .ok (.getfield 141, 3) := by decide +kernel
theorem dX5_followItem_86 : decode cX5_followItem 86 = .ok (.ifCond .ne 10, 3) := by decide +kernel
theorem dX5_followItem_89 : decode cX5_followItem 89 = .ok (.aload_n 0, 1) := by decide +kernel
theorem dX5_followItem_90 : decode cX5_followItem 90 = .ok (.iload_n 1, 1) := by decide +kernel
theorem dX5_followItem_91 : decode cX5_followItem 91 = .ok (.iload_n 2, 1) := by decide +kernel
theorem dX5_followItem_92 : decode cX5_followItem 92 = .ok (.iload_n 3, 1) := by decide +kernel
theorem dX5_followItem_93 : decode cX5_followItem 93 = .ok (.invokevirtual 94, 3) := by decide +kernel
theorem dX5_followItem_96 : decode cX5_followItem 96 = .ok (.return_, 1) := by decide +kernel
set_option maxRecDepth 20000 in
theorem ggX5_ladyItem_X5_number : GoodIn wsX5_ladyItem wsX5_number := goodIn_r _ [9, 10, 11, 12, 2, 13, 14, 15, 8, 16, 17, 18, 19, 20, 21, 29, 30, 31, 32, 33, 34, 35, 36, 37, 38, 39, 40, 41, 42, 43, 44, 45, 46, 47, 48, 49, 50, 51, 52, 53, 54, 55, 56, 57, 58, 59, 60, 61, 62, 63, 64, 65, 66, 67] (by decide +kernel) (by decide +kernel)
set_option maxRecDepth 20000 in
theorem gX5_ladyItem_X5_number : GoodIn wsX5_ladyItem (wsV RX5 145 RX5 yX5_number wsX5_number) := goodIn_app (goodIn_of _ (by decide +kernel)) ggX5_ladyItem_X5_number
set_option maxRecDepth 20000 in
theorem ggX5_ladyItem_X5_more : GoodIn wsX5_ladyItem wsX5_more := goodIn_r _ [25, 2, 12, 13, 14, 15, 8, 16, 17, 18, 5, 6, 7, 9, 10, 11, 19, 20, 21, 29, 30, 31, 32, 33, 34, 35, 36, 37, 38, 39, 40, 41, 42, 43, 44, 45, 46, 47, 48, 49, 50, 51, 52, 53, 54, 55, 56, 57, 58, 59, 60, 61, 62, 63, 64, 65, 66, 67] (by decide +kernel) (by decide +kernel)
set_option maxRecDepth 20000 in
theorem gX5_ladyItem_X5_more : GoodIn wsX5_ladyItem (wsV RX5 149 RX5 yX5_more wsX5_more) := goodIn_app (goodIn_of _ (by decide +kernel)) ggX5_ladyItem_X5_more
set_option maxRecDepth 20000 in
theorem ggX5_ladyItem_X5_next : GoodIn wsX5_ladyItem wsX5_next := goodIn_r _ [16, 12, 17, 18, 29, 30, 31, 32, 33, 34, 35, 36, 37, 38, 39, 40, 41, 42, 43, 44, 45, 46, 47, 48, 49, 50, 51, 52, 53, 54, 55, 56, 57, 58, 59, 60, 61, 62, 63, 64, 65, 66, 67] (by decide +kernel) (by decide +kernel)
set_option maxRecDepth 20000 in
theorem gX5_ladyItem_X5_next : GoodIn wsX5_ladyItem (wsV RX5 133 RX5 yX5_next wsX5_next) := goodIn_app (goodIn_of _ (by decide +kernel)) ggX5_ladyItem_X5_next
set_option maxRecDepth 20000 in
theorem ggX5_ladyItem_X5_has : GoodIn wsX5_ladyItem wsX5_has := goodIn_r _ [28] (by decide +kernel) (by decide +kernel)
set_option maxRecDepth 20000 in
theorem gX5_ladyItem_X5_has : GoodIn wsX5_ladyItem (va_wsS RX5 152 yX5_has wsX5_has) := goodIn_app (goodIn_of _ (by decide +kernel)) ggX5_ladyItem_X5_has
theorem dX5_ladyItem_0 : decode cX5_ladyItem 0 = .ok (.aload_n 0, 1) := by decide +kernel
theorem dX5_ladyItem_1 : decode cX5_ladyItem 1 = .ok (.aload_n 0, 1) := by decide +kernel
theorem dX5_ladyItem_2 : decode cX5_ladyItem 2 = .ok (.getfield 98, 3) := by decide +kernel
theorem dX5_ladyItem_5 : decode cX5_ladyItem 5 = .ok (.iconst 4, 1) := by decide +kernel
theorem dX5_ladyItem_6 : decode cX5_ladyItem 6 = .ok (.if_icmp .ne 7, 3) := by decide +kernel
theorem dX5_ladyItem_9 : decode cX5_ladyItem 9 = .ok (.iconst 1, 1) := by decide +kernel
theorem dX5_ladyItem_10 : decode cX5_ladyItem 10 = .ok (.goto 4, 3) := by decide +kernel
theorem dX5_ladyItem_13 : decode cX5_ladyItem 13 = .ok (.iconst 0, 1) := by decide +kernel
theorem dX5_ladyItem_14 : decode cX5_ladyItem 14 = .ok (.putfield 141, 3) := by decide +kernel
theorem dX5_ladyItem_17 : decode cX5_ladyItem 17 = .ok (.aload_n 0, 1) := by decide +kernel
theorem dX5_ladyItem_18 : decode cX5_ladyItem 18 = .ok (.getfield 141, 3) := by decide +kernel
theorem dX5_ladyItem_21 : decode cX5_ladyItem 21 = .ok (.ifCond .eq 7, 3) := by decide +kernel
theorem dX5_ladyItem_24 : decode cX5_ladyItem 24 = .ok (.iconst 0, 1) := by decide +kernel
theorem dX5_ladyItem_25 : decode cX5_ladyItem 25 = .ok (.goto 10, 3) := by decide +kernel
theorem dX5_ladyItem_28 : decode cX5_ladyItem 28 = .ok (.aload_n 0, 1) := by decide +kernel
theorem dX5_ladyItem_29 : decode cX5_ladyItem 29 = .ok (.iconst 0, 1) := by decide +kernel
theorem dX5_ladyItem_30 : decode cX5_ladyItem 30 = .ok (.bipush 9, 2) := by decide +kernel
theorem dX5_ladyItem_32 : decode cX5_ladyItem 32 = .ok (.invokevirtual 145, 3) := by decide +kernel
theorem dX5_ladyItem_35 : decode cX5_ladyItem 35 = .ok (.istore_n 1, 1) := by decide +kernel
theorem dX5_ladyItem_36 : decode cX5_ladyItem 36 = .ok (.iconst 1, 1) := by decide +kernel
theorem dX5_ladyItem_37 : decode cX5_ladyItem 37 = .ok (.aload_n 0, 1) := by decide +kernel
theorem dX5_ladyItem_38 : decode cX5_ladyItem 38 = .ok (.iconst 0, 1) := by decide +kernel
theorem dX5_ladyItem_39 : decode cX5_ladyItem 39 = .ok (.iconst 3, 1) := by decide +kernel
theorem dX5_ladyItem_40 : decode cX5_ladyItem 40 = .ok (.invokevirtual 149, 3) := by decide +kernel
theorem dX5_ladyItem_43 : decode cX5_ladyItem 43 = .ok (.ishl, 1) := by decide +kernel
theorem dX5_ladyItem_44 : decode cX5_ladyItem 44 = .ok (.istore_n 2, 1) := by decide +kernel
theorem dX5_ladyItem_45 : decode cX5_ladyItem 45 = .ok (.aload_n 0, 1) := by decide +kernel
theorem dX5_ladyItem_46 : decode cX5_ladyItem 46 = .ok (.getfield 141, 3) := by decide +kernel
theorem dX5_ladyItem_49 : decode cX5_ladyItem 49 = .ok (.ifCond .ne 52, 3) := by decide +kernel
theorem dX5_ladyItem_52 : decode cX5_ladyItem 52 = .ok (.aload_n 0, 1) := by decide +kernel
theorem dX5_ladyItem_53 : decode cX5_ladyItem 53 = .ok (.invokevirtual 133, 3) := by decide +kernel
theorem dX5_ladyItem_56 : decode cX5_ladyItem 56 = .ok (.bipush 44, 2) := by decide +kernel
theorem dX5_ladyItem_58 : decode cX5_ladyItem 58 = .ok (.if_icmp .ne 43, 3) := by decide +kernel
theorem dX5_ladyItem_61 : decode cX5_ladyItem 61 = .ok (.aload_n 0, 1) := by decide +kernel
theorem dX5_ladyItem_62 : decode cX5_ladyItem 62 = .ok (.iconst 0, 1) := by decide +kernel
theorem dX5_ladyItem_63 : decode cX5_ladyItem 63 = .ok (.iconst 3, 1) := by decide +kernel
theorem dX5_ladyItem_64 : decode cX5_ladyItem 64 = .ok (.invokevirtual 149, 3) := by decide +kernel
theorem dX5_ladyItem_67 : decode cX5_ladyItem 67 = .ok (.istore_n 3, 1) := by decide +kernel
theorem dX5_ladyItem_68 : decode cX5_ladyItem 68 = .ok (.aload_n 0, 1) := by decide +kernel
theorem dX5_ladyItem_69 : decode cX5_ladyItem 69 = .ok (.aload_n 0, 1) := by decide +kernel
theorem dX5_ladyItem_70 : decode cX5_ladyItem 70 = .ok (.getfield 141, 3) := by decide +kernel
theorem dX5_ladyItem_73 : decode cX5_ladyItem 73 = .ok (.ifCond .ne 11, 3) := by decide +kernel
theorem dX5_ladyItem_76 : decode cX5_ladyItem 76 = .ok (.iload_n 2, 1) := by decide +kernel
theorem dX5_ladyItem_77 : decode cX5_ladyItem 77 = .ok (.iload_n 3, 1) := by decide +kernel
theorem dX5_ladyItem_78 : decode cX5_ladyItem 78 = .ok (.invokestatic 152, 3) := by decide +kernel
theorem dX5_ladyItem_81 : decode cX5_ladyItem 81 = .ok (.ifCond .eq 7, 3) := by decide +kernel
theorem dX5_ladyItem_84 : decode cX5_ladyItem 84 = .ok (.iconst 1, 1) := by decide +kernel
theorem dX5_ladyItem_85 : decode cX5_ladyItem 85 = .ok (.goto 4, 3) := by decide +kernel
theorem dX5_ladyItem_88 : decode cX5_ladyItem 88 = .ok (.iconst 0, 1) := by decide +kernel
theorem dX5_ladyItem_89 : decode cX5_ladyItem 89 = .ok (.putfield 141, 3) := by decide +kernel
theorem dX5_ladyItem_92 : decode cX5_ladyItem 92 = .ok (.iload_n 2, 1) := by decide +kernel
theorem dX5_ladyItem_93 : decode cX5_ladyItem 93 = .ok (.iconst 1, 1) := by decide +kernel
theorem dX5_ladyItem_94 : decode cX5_ladyItem 94 = .ok (.iload_n 3, 1) := by decide +kernel
theorem dX5_ladyItem_95 : decode cX5_ladyItem 95 = .ok (.ishl, 1) := by decide +kernel
theorem dX5_ladyItem_96 : decode cX5_ladyItem 96 = .ok (.ior, 1) := by decide +kernel
theorem dX5_ladyItem_97 : decode cX5_ladyItem 97 = .ok (.istore_n 2, 1) := by decide +kernel
theorem dX5_ladyItem_98 : decode cX5_ladyItem 98 = .ok (.goto (-53), 3) := by decide +kernel
theorem dX5_ladyItem_101 : decode cX5_ladyItem 101 = .ok (.aload_n 0, 1) := by decide +kernel
theorem dX5_ladyItem_102 : decode cX5_ladyItem 102 = .ok (.getfield 141, 3) := by decide +kernel
theorem dX5_ladyItem_105 : decode cX5_ladyItem 105 = .ok (.ifCond .ne 33, 3) := by decide +kernel
theorem dX5_ladyItem_108 : decode cX5_ladyItem 108 = .ok (.aload_n 0, 1) := by decide +kernel
theorem dX5_ladyItem_109 : decode cX5_ladyItem 109 = .ok (.getfield 64, 3) := by decide +kernel
theorem dX5_ladyItem_112 : decode cX5_ladyItem 112 = .ok (.aload_n 0, 1) := by decide +kernel
theorem dX5_ladyItem_113 : decode cX5_ladyItem 113 = .ok (.getfield 98, 3) := by decide +kernel
theorem dX5_ladyItem_116 : decode cX5_ladyItem 116 = .ok (.iload_n 1, 1) := by decide +kernel
theorem dX5_ladyItem_117 : decode cX5_ladyItem 117 = .ok (.iastore, 1) := by decide +kernel
theorem dX5_ladyItem_118 : decode cX5_ladyItem 118 = .ok (.aload_n 0, 1) := by decide +kernel
theorem dX5_ladyItem_119 : decode cX5_ladyItem 119 = .ok (.getfield 67, 3) := by decide +kernel
theorem dX5_ladyItem_122 : decode cX5_ladyItem 122 = .ok (.aload_n 0, 1) := by decide +kernel
theorem dX5_ladyItem_123 : decode cX5_ladyItem 123 = .ok (.getfield 98, 3) := by decide +kernel
theorem dX5_ladyItem_126 : decode cX5_ladyItem 126 = .ok (.iload_n 2, 1) := by decide +kernel
theorem dX5_ladyItem_127 : decode cX5_ladyItem 127 = .ok (.iastore, 1) := by decide +kernel
theorem dX5_ladyItem_128 : decode cX5_ladyItem 128 = .ok (.aload_n 0, 1) := by decide +kernel
theorem dX5_ladyItem_129 : decode cX5_ladyItem 129 = .ok (.dup, 1) := by decide +kernel
theorem dX5_ladyItem_130 : decode cX5_ladyItem 130 = .ok (.getfield 98, 3) := by decide +kernel
theorem dX5_ladyItem_133 : decode cX5_ladyItem 133 = .ok (.iconst 1, 1) := by decide +kernel
theorem dX5_ladyItem_134 : decode cX5_ladyItem 134 = .ok (.iadd, 1) := by decide +kernel
theorem dX5_ladyItem_135 : decode cX5_ladyItem 135 = .ok (.putfield 98, 3) := by decide +kernel
theorem dX5_ladyItem_138 : decode cX5_ladyItem 138 = .ok (.return_, 1) := by decide +kernel
set_option maxRecDepth 20000 in
theorem ggX5_item_X5_goingItem : GoodIn wsX5_item wsX5_goingItem := goodIn_r _ [6, 7, 1, 8, 9, 10, 5, 11, 12, 13, 14, 15, 16, 17, 18, 19, 20, 21, 22, 23, 24, 25, 26, 27, 28, 29, 30, 31, 32, 33, 34, 35, 36, 59, 60, 61, 62, 63, 64, 65, 66, 67, 68, 69, 70, 71, 72, 73, 74, 75, 76, 77, 78, 79, 80, 81, 82, 83, 84, 85, 86, 87, 88, 89, 90, 91, 92, 93, 94, 95, 96, 97] (by decide +kernel) (by decide +kernel)
set_option maxRecDepth 20000 in
theorem gX5_item_X5_goingItem : GoodIn wsX5_item (wsV RX5 156 RX5 yX5_goingItem wsX5_goingItem) := goodIn_app (goodIn_of _ (by decide +kernel)) ggX5_item_X5_goingItem
set_option maxRecDepth 20000 in
theorem ggX5_item_X5_followItem : GoodIn wsX5_item wsX5_followItem := goodIn_r _ [40, 41, 1, 7, 8, 9, 10, 5, 11, 12, 13, 14, 15, 16, 17, 18, 19, 20, 21, 22, 23, 24, 25, 26, 27, 42, 43, 44, 45, 46, 47, 48, 59, 60, 61, 62, 63, 64, 65, 66, 67, 68, 69, 70, 71, 72, 73, 74, 75, 76, 77, 78, 79, 80, 81, 82, 83, 84, 85, 86, 87, 88, 89, 90, 91, 92, 93, 94, 95, 96, 97] (by decide +kernel) (by decide +kernel)
set_option maxRecDepth 20000 in
theorem gX5_item_X5_followItem : GoodIn wsX5_item (wsV RX5 159 RX5 yX5_followItem wsX5_followItem) := goodIn_app (goodIn_of _ (by decide +kernel)) ggX5_item_X5_followItem
set_option maxRecDepth 20000 in
theorem ggX5_item_X5_ladyItem : GoodIn wsX5_item wsX5_ladyItem := goodIn_r _ [52, 53, 1, 54, 55, 8, 9, 10, 5, 11, 12, 13, 14, 15, 16, 17, 18, 19, 20, 21, 22, 23, 24, 25, 26, 27, 56, 57, 58, 59, 60, 61, 62, 63, 64, 65, 66, 67, 68, 69, 70, 71, 72, 73, 74, 75, 76, 77, 78, 79, 80, 81, 82, 83, 84, 85, 86, 87, 88, 89, 90, 91, 92, 93, 94, 95, 96, 97] (by decide +kernel) (by decide +kernel)
set_option maxRecDepth 20000 in
theorem gX5_item_X5_ladyItem : GoodIn wsX5_item (wsV RX5 162 RX5 yX5_ladyItem wsX5_ladyItem) := goodIn_app (goodIn_of _ (by decide +kernel)) ggX5_item_X5_ladyItem
theorem dX5_item_0 : decode cX5_item 0 = .ok (.iload_n 1, 1) := by decide +kernel
theorem dX5_item_1 : decode cX5_item 1 = .ok (.bipush 103, 2) := by decide +kernel
theorem dX5_item_3 : decode cX5_item 3 = .ok (.if_icmp .ne 10, 3) := by decide +kernel
theorem dX5_item_6 : decode cX5_item 6 = .ok (.aload_n 0, 1) := by decide +kernel
theorem dX5_item_7 : decode cX5_item 7 = .ok (.invokevirtual 156, 3) := by decide +kernel
theorem dX5_item_10 : decode cX5_item 10 = .ok (.goto 34, 3) := by decide +kernel
theorem dX5_item_13 : decode cX5_item 13 = .ok (.iload_n 1, 1) := by decide +kernel
theorem dX5_item_14 : decode cX5_item 14 = .ok (.bipush 102, 2) := by decide +kernel
theorem dX5_item_16 : decode cX5_item 16 = .ok (.if_icmp .ne 10, 3) := by decide +kernel
theorem dX5_item_19 : decode cX5_item 19 = .ok (.aload_n 0, 1) := by decide +kernel
theorem dX5_item_20 : decode cX5_item 20 = .ok (.invokevirtual 159, 3) := by decide +kernel
theorem dX5_item_23 : decode cX5_item 23 = .ok (.goto 21, 3) := by decide +kernel
theorem dX5_item_26 : decode cX5_item 26 = .ok (.iload_n 1, 1) := by decide +kernel
theorem dX5_item_27 : decode cX5_item 27 = .ok (.bipush 108, 2) := by decide +kernel
theorem dX5_item_29 : decode cX5_item 29 = .ok (.if_icmp .ne 10, 3) := by decide +kernel
theorem dX5_item_32 : decode cX5_item 32 = .ok (.aload_n 0, 1) := by decide +kernel
theorem dX5_item_33 : decode cX5_item 33 = .ok (.invokevirtual 162, 3) := by decide +kernel
theorem dX5_item_36 : decode cX5_item 36 = .ok (.goto 8, 3) := by decide +kernel
theorem dX5_item_39 : decode cX5_item 39 = .ok (.aload_n 0, 1) := by decide +kernel
theorem dX5_item_40 : decode cX5_item 40 = .ok (.iconst 1, 1) := by decide +kernel
theorem dX5_item_41 : decode cX5_item 41 = .ok (.putfield 141, 3) := by decide +kernel
theorem dX5_item_44 : decode cX5_item 44 = .ok (.return_, 1) := by decide +kernel
set_option maxRecDepth 20000 in
theorem ggX5_reads_X5_clears : GoodIn wsX5_reads wsX5_clears := goodIn_r _ [9, 10, 11, 12, 68, 69, 70, 71, 72, 73, 74, 75, 76, 77, 78, 79, 80, 81, 82, 83, 84, 85, 86, 87, 88, 89, 90, 91, 92, 93, 94, 95, 96, 97, 98, 99, 100, 101, 102, 103, 104, 105, 106] (by decide +kernel) (by decide +kernel)
set_option maxRecDepth 20000 in
theorem gX5_reads_X5_clears : GoodIn wsX5_reads (wsV RX5 87 RX5 yX5_clears wsX5_clears) := goodIn_app (goodIn_of _ (by decide +kernel)) ggX5_reads_X5_clears
set_option maxRecDepth 20000 in
theorem ggX5_reads_X5_next : GoodIn wsX5_reads wsX5_next := goodIn_r _ [16, 1, 3, 17, 68, 69, 70, 71, 72, 73, 74, 75, 76, 77, 78, 79, 80, 81, 82, 83, 84, 85, 86, 87, 88, 89, 90, 91, 92, 93, 94, 95, 96, 97, 98, 99, 100, 101, 102, 103, 104, 105, 106] (by decide +kernel) (by decide +kernel)
set_option maxRecDepth 20000 in
theorem gX5_reads_X5_next : GoodIn wsX5_reads (wsV RX5 133 RX5 yX5_next wsX5_next) := goodIn_app (goodIn_of _ (by decide +kernel)) ggX5_reads_X5_next
set_option maxRecDepth 20000 in
theorem ggX5_reads_X5_item : GoodIn wsX5_reads wsX5_item := goodIn_r _ [21, 2, 22, 23, 24, 8, 25, 10, 26, 27, 28, 29, 30, 31, 1, 13, 14, 15, 16, 3, 17, 32, 33, 34, 35, 36, 37, 38, 39, 40, 41, 42, 43, 44, 45, 46, 47, 48, 49, 50, 51, 11, 52, 53, 54, 55, 56, 57, 58, 59, 60, 61, 62, 12, 63, 64, 65, 66, 67, 68, 69, 70, 71, 72, 73, 74, 75, 76, 77, 78, 79, 80, 81, 82, 83, 84, 85, 86, 87, 88, 89, 90, 91, 92, 93, 94, 95, 96, 97, 98, 99, 100, 101, 102, 103, 104, 105, 106] (by decide +kernel) (by decide +kernel)
set_option maxRecDepth 20000 in
theorem gX5_reads_X5_item : GoodIn wsX5_reads (wsV RX5 168 RX5 yX5_item wsX5_item) := goodIn_app (goodIn_of _ (by decide +kernel)) ggX5_reads_X5_item
theorem dX5_reads_0 : decode cX5_reads 0 = .ok (.aload_n 0, 1) := by decide +kernel
theorem dX5_reads_1 : decode cX5_reads 1 = .ok (.invokevirtual 87, 3) := by decide +kernel
theorem dX5_reads_4 : decode cX5_reads 4 = .ok (.aload_n 0, 1) := by decide +kernel
theorem dX5_reads_5 : decode cX5_reads 5 = .ok (.iconst 0, 1) := by decide +kernel
theorem dX5_reads_6 : decode cX5_reads 6 = .ok (.putfield 130, 3) := by decide +kernel
theorem dX5_reads_9 : decode cX5_reads 9 = .ok (.aload_n 0, 1) := by decide +kernel
theorem dX5_reads_10 : decode cX5_reads 10 = .ok (.iconst 0, 1) := by decide +kernel
theorem dX5_reads_11 : decode cX5_reads 11 = .ok (.putfield 141, 3) := by decide +kernel
theorem dX5_reads_14 : decode cX5_reads 14 = .ok (.aload_n 0, 1) := by decide +kernel
theorem dX5_reads_15 : decode cX5_reads 15 = .ok (.getfield 130, 3) := by decide +kernel
theorem dX5_reads_18 : decode cX5_reads 18 = .ok (.aload_n 0, 1) := by decide +kernel
theorem dX5_reads_19 : decode cX5_reads 19 = .ok (.getfield 127, 3) := by decide +kernel
theorem dX5_reads_22 : decode cX5_reads 22 = .ok (.if_icmp .ge 76, 3) := by decide +kernel
theorem dX5_reads_25 : decode cX5_reads 25 = .ok (.aload_n 0, 1) := by decide +kernel
theorem dX5_reads_26 : decode cX5_reads 26 = .ok (.getfield 141, 3) := by decide +kernel
theorem dX5_reads_29 : decode cX5_reads 29 = .ok (.ifCond .ne 69, 3) := by decide +kernel
theorem dX5_reads_32 : decode cX5_reads 32 = .ok (.aload_n 0, 1) := by decide +kernel
theorem dX5_reads_33 : decode cX5_reads 33 = .ok (.aload_n 0, 1) := by decide +kernel
theorem dX5_reads_34 : decode cX5_reads 34 = .ok (.getfield 130, 3) := by decide +kernel
theorem dX5_reads_37 : decode cX5_reads 37 = .ok (.putfield 165, 3) := by decide +kernel
theorem dX5_reads_40 : decode cX5_reads 40 = .ok (.aload_n 0, 1) := by decide +kernel
theorem dX5_reads_41 : decode cX5_reads 41 = .ok (.invokevirtual 133, 3) := by decide +kernel
theorem dX5_reads_44 : decode cX5_reads 44 = .ok (.istore_n 1, 1) := by decide +kernel
theorem dX5_reads_45 : decode cX5_reads 45 = .ok (.aload_n 0, 1) := by decide +kernel
theorem dX5_reads_46 : decode cX5_reads 46 = .ok (.dup, 1) := by decide +kernel
theorem dX5_reads_47 : decode cX5_reads 47 = .ok (.getfield 130, 3) := by decide +kernel
theorem dX5_reads_50 : decode cX5_reads 50 = .ok (.iconst 1, 1) := by decide +kernel
theorem dX5_reads_51 : decode cX5_reads 51 = .ok (.iadd, 1) := by decide +kernel
theorem dX5_reads_52 : decode cX5_reads 52 = .ok (.putfield 130, 3) := by decide +kernel
theorem dX5_reads_55 : decode cX5_reads 55 = .ok (.aload_n 0, 1) := by decide +kernel
theorem dX5_reads_56 : decode cX5_reads 56 = .ok (.iload_n 1, 1) := by decide +kernel
theorem dX5_reads_57 : decode cX5_reads 57 = .ok (.invokevirtual 168, 3) := by decide +kernel
theorem dX5_reads_60 : decode cX5_reads 60 = .ok (.aload_n 0, 1) := by decide +kernel
theorem dX5_reads_61 : decode cX5_reads 61 = .ok (.aload_n 0, 1) := by decide +kernel
theorem dX5_reads_62 : decode cX5_reads 62 = .ok (.getfield 141, 3) := by decide +kernel
theorem dX5_reads_65 : decode cX5_reads 65 = .ok (.ifCond .ne 12, 3) := by decide +kernel
theorem dX5_reads_68 : decode cX5_reads 68 = .ok (.aload_n 0, 1) := by decide +kernel
theorem dX5_reads_69 : decode cX5_reads 69 = .ok (.invokevirtual 133, 3) := by decide +kernel
theorem dX5_reads_72 : decode cX5_reads 72 = .ok (.bipush 59, 2) := by decide +kernel
theorem dX5_reads_74 : decode cX5_reads 74 = .ok (.if_icmp .eq 7, 3) := by decide +kernel
theorem dX5_reads_77 : decode cX5_reads 77 = .ok (.iconst 1, 1) := by decide +kernel
theorem dX5_reads_78 : decode cX5_reads 78 = .ok (.goto 4, 3) := by decide +kernel
theorem dX5_reads_81 : decode cX5_reads 81 = .ok (.iconst 0, 1) := by decide +kernel
theorem dX5_reads_82 : decode cX5_reads 82 = .ok (.putfield 141, 3) := by decide +kernel
theorem dX5_reads_85 : decode cX5_reads 85 = .ok (.aload_n 0, 1) := by decide +kernel
theorem dX5_reads_86 : decode cX5_reads 86 = .ok (.dup, 1) := by decide +kernel
theorem dX5_reads_87 : decode cX5_reads 87 = .ok (.getfield 130, 3) := by decide +kernel
theorem dX5_reads_90 : decode cX5_reads 90 = .ok (.iconst 1, 1) := by decide +kernel
theorem dX5_reads_91 : decode cX5_reads 91 = .ok (.iadd, 1) := by decide +kernel
theorem dX5_reads_92 : decode cX5_reads 92 = .ok (.putfield 130, 3) := by decide +kernel
theorem dX5_reads_95 : decode cX5_reads 95 = .ok (.goto (-81), 3) := by decide +kernel
theorem dX5_reads_98 : decode cX5_reads 98 = .ok (.aload_n 0, 1) := by decide +kernel
theorem dX5_reads_99 : decode cX5_reads 99 = .ok (.getfield 141, 3) := by decide +kernel
theorem dX5_reads_102 : decode cX5_reads 102 = .ok (.ifCond .ne 7, 3) := by decide +kernel
theorem dX5_reads_105 : decode cX5_reads 105 = .ok (.iconst 1, 1) := by decide +kernel
theorem dX5_reads_106 : decode cX5_reads 106 = .ok (.goto 4, 3) := by decide +kernel
theorem dX5_reads_109 : decode cX5_reads 109 = .ok (.iconst 0, 1) := by decide +kernel
theorem dX5_reads_110 : decode cX5_reads 110 = .ok (.ireturn, 1) := by decide +kernel
set_option maxRecDepth 20000 in
theorem ggX5_fault_X5_reads : GoodIn wsX5_fault wsX5_reads := goodIn_r _ [6, 7, 8, 9, 1, 10, 11, 12, 5, 13, 14, 15, 16, 17, 18, 19, 20, 21, 22, 23, 24, 25, 26, 27, 28, 29, 30, 31, 32, 33, 34, 35, 36, 37, 38, 39, 40, 41, 42, 43, 44, 45, 46, 47, 48, 49, 50, 51, 52, 53, 54, 55, 56, 57, 58, 59, 60, 61, 62, 63, 64, 65, 66, 67, 68, 69, 70, 71, 72, 73, 74, 75, 76, 77, 78, 79, 80, 81, 82, 83, 84, 85, 86, 87, 88, 89, 90, 91, 92, 93, 94, 95, 96, 97, 98, 99, 100, 101, 102, 103, 104, 105, 106, 107, 108, 109, 110] (by decide +kernel) (by decide +kernel)
set_option maxRecDepth 20000 in
theorem gX5_fault_X5_reads : GoodIn wsX5_fault (wsV RX5 172 RX5 yX5_reads wsX5_reads) := goodIn_app (goodIn_of _ (by decide +kernel)) ggX5_fault_X5_reads
theorem dX5_fault_0 : decode cX5_fault 0 = .ok (.aload_n 0, 1) := by decide +kernel
theorem dX5_fault_1 : decode cX5_fault 1 = .ok (.invokevirtual 172, 3) := by decide +kernel
theorem dX5_fault_4 : decode cX5_fault 4 = .ok (.ifCond .eq 8, 3) := by decide +kernel
theorem dX5_fault_7 : decode cX5_fault 7 = .ok (.bipush (-4), 2) := by decide +kernel
theorem dX5_fault_9 : decode cX5_fault 9 = .ok (.goto 7, 3) := by decide +kernel
theorem dX5_fault_12 : decode cX5_fault 12 = .ok (.aload_n 0, 1) := by decide +kernel
theorem dX5_fault_13 : decode cX5_fault 13 = .ok (.getfield 165, 3) := by decide +kernel
theorem dX5_fault_16 : decode cX5_fault 16 = .ok (.ireturn, 1) := by decide +kernel
set_option maxRecDepth 20000 in
theorem ggX5_lay_X5_reads : GoodIn wsX5_lay wsX5_reads := goodIn_r _ [10, 11, 12, 13, 14, 15, 16, 17, 9, 18, 1, 19, 20, 21, 22, 23, 24, 25, 26, 27, 28, 29, 30, 31, 32, 33, 34, 35, 36, 37, 38, 39, 40, 41, 42, 43, 44, 45, 46, 47, 48, 49, 50, 51, 52, 53, 54, 55, 56, 57, 58, 59, 60, 61, 62, 63, 64, 65, 66, 67, 68, 69, 70, 71, 72, 73, 74, 75, 93, 94, 95, 96, 97, 98, 99, 100, 101, 102, 103, 104, 105, 106, 107, 108, 109, 110, 111, 112, 113, 114, 115, 116, 117, 118, 119, 120, 121, 122, 123, 124, 125, 126, 127, 128, 129, 130, 131] (by decide +kernel) (by decide +kernel)
set_option maxRecDepth 20000 in
theorem gX5_lay_X5_reads : GoodIn wsX5_lay (wsV RX5 172 RX5 yX5_reads wsX5_reads) := goodIn_app (goodIn_of _ (by decide +kernel)) ggX5_lay_X5_reads
set_option maxRecDepth 20000 in
theorem ggX5_lay_X5_settles : GoodIn wsX5_lay wsX5_settles := goodIn_r _ [79, 1, 5, 19, 80, 20, 81, 82, 51, 83, 52, 84, 53, 85, 54, 86, 55, 87, 88, 64, 89, 65, 90, 66, 91, 71, 92, 72, 93, 94, 95, 96, 97, 98, 99, 100, 101, 102, 103, 104, 105, 106, 107, 108, 109, 110, 111, 112, 113, 114, 115, 116, 117, 118, 119, 120, 121, 122, 123, 124, 125, 126, 127, 128, 129, 130, 131] (by decide +kernel) (by decide +kernel)
set_option maxRecDepth 20000 in
theorem gX5_lay_X5_settles : GoodIn wsX5_lay (wsV RX5 101 RX5 yX5_settles wsX5_settles) := goodIn_app (goodIn_of _ (by decide +kernel)) ggX5_lay_X5_settles
theorem dX5_lay_0 : decode cX5_lay 0 = .ok (.aload_n 0, 1) := by decide +kernel
theorem dX5_lay_1 : decode cX5_lay 1 = .ok (.invokevirtual 172, 3) := by decide +kernel
theorem dX5_lay_4 : decode cX5_lay 4 = .ok (.ifCond .eq 10, 3) := by decide +kernel
theorem dX5_lay_7 : decode cX5_lay 7 = .ok (.aload_n 0, 1) := by decide +kernel
theorem dX5_lay_8 : decode cX5_lay 8 = .ok (.getfield 104, 3) := by decide +kernel
theorem dX5_lay_11 : decode cX5_lay 11 = .ok (.ifCond .ne 6, 3) := by decide +kernel
theorem dX5_lay_14 : decode cX5_lay 14 = .ok (.bipush (-2), 2) := by decide +kernel
theorem dX5_lay_16 : decode cX5_lay 16 = .ok (.ireturn, 1) := by decide +kernel
theorem dX5_lay_17 : decode cX5_lay 17 = .ok (.aload_n 0, 1) := by decide +kernel
theorem dX5_lay_18 : decode cX5_lay 18 = .ok (.invokevirtual 101, 3) := by decide +kernel
theorem dX5_lay_21 : decode cX5_lay 21 = .ok (.aload_n 0, 1) := by decide +kernel
theorem dX5_lay_22 : decode cX5_lay 22 = .ok (.iconst 0, 1) := by decide +kernel
theorem dX5_lay_23 : decode cX5_lay 23 = .ok (.putfield 176, 3) := by decide +kernel
theorem dX5_lay_26 : decode cX5_lay 26 = .ok (.aload_n 0, 1) := by decide +kernel
theorem dX5_lay_27 : decode cX5_lay 27 = .ok (.iconst 0, 1) := by decide +kernel
theorem dX5_lay_28 : decode cX5_lay 28 = .ok (.putfield 179, 3) := by decide +kernel
theorem dX5_lay_31 : decode cX5_lay 31 = .ok (.aload_n 0, 1) := by decide +kernel
theorem dX5_lay_32 : decode cX5_lay 32 = .ok (.iconst 0, 1) := by decide +kernel
theorem dX5_lay_33 : decode cX5_lay 33 = .ok (.putfield 182, 3) := by decide +kernel
theorem dX5_lay_36 : decode cX5_lay 36 = .ok (.aload_n 0, 1) := by decide +kernel
theorem dX5_lay_37 : decode cX5_lay 37 = .ok (.getfield 110, 3) := by decide +kernel
theorem dX5_lay_40 : decode cX5_lay 40 = .ok (.ireturn, 1) := by decide +kernel
set_option maxRecDepth 20000 in
theorem ggX5_worthOf_X5_smaller : GoodIn wsX5_worthOf wsX5_smaller := goodIn_r _ [4] (by decide +kernel) (by decide +kernel)
set_option maxRecDepth 20000 in
theorem gX5_worthOf_X5_smaller : GoodIn wsX5_worthOf (va_wsS RX5 185 yX5_smaller wsX5_smaller) := goodIn_app (goodIn_of _ (by decide +kernel)) ggX5_worthOf_X5_smaller
set_option maxRecDepth 20000 in
theorem ggX5_worthOf_X5_larger : GoodIn wsX5_worthOf wsX5_larger := goodIn_r _ [7] (by decide +kernel) (by decide +kernel)
set_option maxRecDepth 20000 in
theorem gX5_worthOf_X5_larger : GoodIn wsX5_worthOf (va_wsS RX5 188 yX5_larger wsX5_larger) := goodIn_app (goodIn_of _ (by decide +kernel)) ggX5_worthOf_X5_larger
theorem dX5_worthOf_0 : decode cX5_worthOf 0 = .ok (.iload_n 0, 1) := by decide +kernel
theorem dX5_worthOf_1 : decode cX5_worthOf 1 = .ok (.iconst 1, 1) := by decide +kernel
theorem dX5_worthOf_2 : decode cX5_worthOf 2 = .ok (.if_icmp .ne 13, 3) := by decide +kernel
theorem dX5_worthOf_5 : decode cX5_worthOf 5 = .ok (.iload_n 1, 1) := by decide +kernel
theorem dX5_worthOf_6 : decode cX5_worthOf 6 = .ok (.iload_n 2, 1) := by decide +kernel
theorem dX5_worthOf_7 : decode cX5_worthOf 7 = .ok (.iload_n 3, 1) := by decide +kernel
theorem dX5_worthOf_8 : decode cX5_worthOf 8 = .ok (.iconst 2, 1) := by decide +kernel
theorem dX5_worthOf_9 : decode cX5_worthOf 9 = .ok (.idiv, 1) := by decide +kernel
theorem dX5_worthOf_10 : decode cX5_worthOf 10 = .ok (.imul, 1) := by decide +kernel
theorem dX5_worthOf_11 : decode cX5_worthOf 11 = .ok (.isub, 1) := by decide +kernel
theorem dX5_worthOf_12 : decode cX5_worthOf 12 = .ok (.goto 26, 3) := by decide +kernel
theorem dX5_worthOf_15 : decode cX5_worthOf 15 = .ok (.iload_n 0, 1) := by decide +kernel
theorem dX5_worthOf_16 : decode cX5_worthOf 16 = .ok (.iconst 2, 1) := by decide +kernel
theorem dX5_worthOf_17 : decode cX5_worthOf 17 = .ok (.if_icmp .ne 16, 3) := by decide +kernel
theorem dX5_worthOf_20 : decode cX5_worthOf 20 = .ok (.bipush 40, 2) := by decide +kernel
theorem dX5_worthOf_22 : decode cX5_worthOf 22 = .ok (.iload_n 1, 1) := by decide +kernel
theorem dX5_worthOf_23 : decode cX5_worthOf 23 = .ok (.iload_n 2, 1) := by decide +kernel
theorem dX5_worthOf_24 : decode cX5_worthOf 24 = .ok (.iload_n 3, 1) := by decide +kernel
theorem dX5_worthOf_25 : decode cX5_worthOf 25 = .ok (.imul, 1) := by decide +kernel
theorem dX5_worthOf_26 : decode cX5_worthOf 26 = .ok (.iadd, 1) := by decide +kernel
theorem dX5_worthOf_27 : decode cX5_worthOf 27 = .ok (.invokestatic 185, 3) := by decide +kernel
theorem dX5_worthOf_30 : decode cX5_worthOf 30 = .ok (.goto 8, 3) := by decide +kernel
theorem dX5_worthOf_33 : decode cX5_worthOf 33 = .ok (.iload_n 1, 1) := by decide +kernel
theorem dX5_worthOf_34 : decode cX5_worthOf 34 = .ok (.iload_n 2, 1) := by decide +kernel
theorem dX5_worthOf_35 : decode cX5_worthOf 35 = .ok (.iload_n 3, 1) := by decide +kernel
theorem dX5_worthOf_36 : decode cX5_worthOf 36 = .ok (.imul, 1) := by decide +kernel
theorem dX5_worthOf_37 : decode cX5_worthOf 37 = .ok (.isub, 1) := by decide +kernel
theorem dX5_worthOf_38 : decode cX5_worthOf 38 = .ok (.istore 4, 2) := by decide +kernel
theorem dX5_worthOf_40 : decode cX5_worthOf 40 = .ok (.bipush (-20), 2) := by decide +kernel
theorem dX5_worthOf_42 : decode cX5_worthOf 42 = .ok (.iload_n 0, 1) := by decide +kernel
theorem dX5_worthOf_43 : decode cX5_worthOf 43 = .ok (.iconst 3, 1) := by decide +kernel
theorem dX5_worthOf_44 : decode cX5_worthOf 44 = .ok (.if_icmp .ne 12, 3) := by decide +kernel
theorem dX5_worthOf_47 : decode cX5_worthOf 47 = .ok (.iconst 0, 1) := by decide +kernel
theorem dX5_worthOf_48 : decode cX5_worthOf 48 = .ok (.iload 4, 2) := by decide +kernel
theorem dX5_worthOf_50 : decode cX5_worthOf 50 = .ok (.invokestatic 188, 3) := by decide +kernel
theorem dX5_worthOf_53 : decode cX5_worthOf 53 = .ok (.goto 5, 3) := by decide +kernel
theorem dX5_worthOf_56 : decode cX5_worthOf 56 = .ok (.iload 4, 2) := by decide +kernel
theorem dX5_worthOf_58 : decode cX5_worthOf 58 = .ok (.invokestatic 188, 3) := by decide +kernel
theorem dX5_worthOf_61 : decode cX5_worthOf 61 = .ok (.ireturn, 1) := by decide +kernel
set_option maxRecDepth 20000 in
theorem ggX5_worth_X5_worthOf : GoodIn wsX5_worth wsX5_worthOf := goodIn_r _ [8, 9, 10, 7, 11, 12, 13, 14] (by decide +kernel) (by decide +kernel)
set_option maxRecDepth 20000 in
theorem gX5_worth_X5_worthOf : GoodIn wsX5_worth (va_wsS RX5 191 yX5_worthOf wsX5_worthOf) := goodIn_app (goodIn_of _ (by decide +kernel)) ggX5_worth_X5_worthOf
theorem dX5_worth_0 : decode cX5_worth 0 = .ok (.aload_n 0, 1) := by decide +kernel
theorem dX5_worth_1 : decode cX5_worth 1 = .ok (.getfield 70, 3) := by decide +kernel
theorem dX5_worth_4 : decode cX5_worth 4 = .ok (.iload_n 1, 1) := by decide +kernel
theorem dX5_worth_5 : decode cX5_worth 5 = .ok (.iload_n 2, 1) := by decide +kernel
theorem dX5_worth_6 : decode cX5_worth 6 = .ok (.iadd, 1) := by decide +kernel
theorem dX5_worth_7 : decode cX5_worth 7 = .ok (.iaload, 1) := by decide +kernel
theorem dX5_worth_8 : decode cX5_worth 8 = .ok (.iconst 1, 1) := by decide +kernel
theorem dX5_worth_9 : decode cX5_worth 9 = .ok (.if_icmp .ne 48, 3) := by decide +kernel
theorem dX5_worth_12 : decode cX5_worth 12 = .ok (.aload_n 0, 1) := by decide +kernel
theorem dX5_worth_13 : decode cX5_worth 13 = .ok (.getfield 7, 3) := by decide +kernel
theorem dX5_worth_16 : decode cX5_worth 16 = .ok (.iload_n 2, 1) := by decide +kernel
theorem dX5_worth_17 : decode cX5_worth 17 = .ok (.iaload, 1) := by decide +kernel
theorem dX5_worth_18 : decode cX5_worth 18 = .ok (.aload_n 0, 1) := by decide +kernel
theorem dX5_worth_19 : decode cX5_worth 19 = .ok (.getfield 16, 3) := by decide +kernel
theorem dX5_worth_22 : decode cX5_worth 22 = .ok (.iload_n 2, 1) := by decide +kernel
theorem dX5_worth_23 : decode cX5_worth 23 = .ok (.iaload, 1) := by decide +kernel
theorem dX5_worth_24 : decode cX5_worth 24 = .ok (.aload_n 0, 1) := by decide +kernel
theorem dX5_worth_25 : decode cX5_worth 25 = .ok (.getfield 19, 3) := by decide +kernel
theorem dX5_worth_28 : decode cX5_worth 28 = .ok (.iload_n 2, 1) := by decide +kernel
theorem dX5_worth_29 : decode cX5_worth 29 = .ok (.iaload, 1) := by decide +kernel
theorem dX5_worth_30 : decode cX5_worth 30 = .ok (.aload_n 0, 1) := by decide +kernel
theorem dX5_worth_31 : decode cX5_worth 31 = .ok (.getfield 70, 3) := by decide +kernel
theorem dX5_worth_34 : decode cX5_worth 34 = .ok (.iload_n 1, 1) := by decide +kernel
theorem dX5_worth_35 : decode cX5_worth 35 = .ok (.bipush 18, 2) := by decide +kernel
theorem dX5_worth_37 : decode cX5_worth 37 = .ok (.iadd, 1) := by decide +kernel
theorem dX5_worth_38 : decode cX5_worth 38 = .ok (.iaload, 1) := by decide +kernel
theorem dX5_worth_39 : decode cX5_worth 39 = .ok (.aload_n 0, 1) := by decide +kernel
theorem dX5_worth_40 : decode cX5_worth 40 = .ok (.getfield 70, 3) := by decide +kernel
theorem dX5_worth_43 : decode cX5_worth 43 = .ok (.iload_n 1, 1) := by decide +kernel
theorem dX5_worth_44 : decode cX5_worth 44 = .ok (.bipush 7, 2) := by decide +kernel
theorem dX5_worth_46 : decode cX5_worth 46 = .ok (.iadd, 1) := by decide +kernel
theorem dX5_worth_47 : decode cX5_worth 47 = .ok (.iload_n 2, 1) := by decide +kernel
theorem dX5_worth_48 : decode cX5_worth 48 = .ok (.iadd, 1) := by decide +kernel
theorem dX5_worth_49 : decode cX5_worth 49 = .ok (.iaload, 1) := by decide +kernel
theorem dX5_worth_50 : decode cX5_worth 50 = .ok (.isub, 1) := by decide +kernel
theorem dX5_worth_51 : decode cX5_worth 51 = .ok (.invokestatic 191, 3) := by decide +kernel
theorem dX5_worth_54 : decode cX5_worth 54 = .ok (.goto 4, 3) := by decide +kernel
theorem dX5_worth_57 : decode cX5_worth 57 = .ok (.iconst 0, 1) := by decide +kernel
theorem dX5_worth_58 : decode cX5_worth 58 = .ok (.ireturn, 1) := by decide +kernel
set_option maxRecDepth 20000 in
theorem ggX5_ends_X5_smaller : GoodIn wsX5_ends wsX5_smaller := goodIn_r _ [10] (by decide +kernel) (by decide +kernel)
set_option maxRecDepth 20000 in
theorem gX5_ends_X5_smaller : GoodIn wsX5_ends (va_wsS RX5 185 yX5_smaller wsX5_smaller) := goodIn_app (goodIn_of _ (by decide +kernel)) ggX5_ends_X5_smaller
theorem dX5_ends_0 : decode cX5_ends 0 = .ok (.aload_n 0, 1) := by decide +kernel
theorem dX5_ends_1 : decode cX5_ends 1 = .ok (.getfield 70, 3) := by decide +kernel
theorem dX5_ends_4 : decode cX5_ends 4 = .ok (.iload_n 1, 1) := by decide +kernel
theorem dX5_ends_5 : decode cX5_ends 5 = .ok (.iload_n 2, 1) := by decide +kernel
theorem dX5_ends_6 : decode cX5_ends 6 = .ok (.iadd, 1) := by decide +kernel
theorem dX5_ends_7 : decode cX5_ends 7 = .ok (.iload_n 3, 1) := by decide +kernel
theorem dX5_ends_8 : decode cX5_ends 8 = .ok (.iastore, 1) := by decide +kernel
theorem dX5_ends_9 : decode cX5_ends 9 = .ok (.iconst 0, 1) := by decide +kernel
theorem dX5_ends_10 : decode cX5_ends 10 = .ok (.istore 5, 2) := by decide +kernel
theorem dX5_ends_12 : decode cX5_ends 12 = .ok (.iload 5, 2) := by decide +kernel
theorem dX5_ends_14 : decode cX5_ends 14 = .ok (.aload_n 0, 1) := by decide +kernel
theorem dX5_ends_15 : decode cX5_ends 15 = .ok (.getfield 113, 3) := by decide +kernel
theorem dX5_ends_18 : decode cX5_ends 18 = .ok (.if_icmp .ge 111, 3) := by decide +kernel
theorem dX5_ends_21 : decode cX5_ends 21 = .ok (.aload_n 0, 1) := by decide +kernel
theorem dX5_ends_22 : decode cX5_ends 22 = .ok (.getfield 28, 3) := by decide +kernel
theorem dX5_ends_25 : decode cX5_ends 25 = .ok (.iload 5, 2) := by decide +kernel
theorem dX5_ends_27 : decode cX5_ends 27 = .ok (.iaload, 1) := by decide +kernel
theorem dX5_ends_28 : decode cX5_ends 28 = .ok (.istore 6, 2) := by decide +kernel
theorem dX5_ends_30 : decode cX5_ends 30 = .ok (.aload_n 0, 1) := by decide +kernel
theorem dX5_ends_31 : decode cX5_ends 31 = .ok (.getfield 25, 3) := by decide +kernel
theorem dX5_ends_34 : decode cX5_ends 34 = .ok (.iload 5, 2) := by decide +kernel
theorem dX5_ends_36 : decode cX5_ends 36 = .ok (.iaload, 1) := by decide +kernel
theorem dX5_ends_37 : decode cX5_ends 37 = .ok (.iload_n 2, 1) := by decide +kernel
theorem dX5_ends_38 : decode cX5_ends 38 = .ok (.if_icmp .ne 85, 3) := by decide +kernel
theorem dX5_ends_41 : decode cX5_ends 41 = .ok (.aload_n 0, 1) := by decide +kernel
theorem dX5_ends_42 : decode cX5_ends 42 = .ok (.getfield 70, 3) := by decide +kernel
theorem dX5_ends_45 : decode cX5_ends 45 = .ok (.iload_n 1, 1) := by decide +kernel
theorem dX5_ends_46 : decode cX5_ends 46 = .ok (.iload 6, 2) := by decide +kernel
theorem dX5_ends_48 : decode cX5_ends 48 = .ok (.iadd, 1) := by decide +kernel
theorem dX5_ends_49 : decode cX5_ends 49 = .ok (.iaload, 1) := by decide +kernel
theorem dX5_ends_50 : decode cX5_ends 50 = .ok (.ifCond .ne 73, 3) := by decide +kernel
theorem dX5_ends_53 : decode cX5_ends 53 = .ok (.iload 6, 2) := by decide +kernel
theorem dX5_ends_55 : decode cX5_ends 55 = .ok (.aload_n 0, 1) := by decide +kernel
theorem dX5_ends_56 : decode cX5_ends 56 = .ok (.getfield 83, 3) := by decide +kernel
theorem dX5_ends_59 : decode cX5_ends 59 = .ok (.if_icmp .eq 64, 3) := by decide +kernel
theorem dX5_ends_62 : decode cX5_ends 62 = .ok (.iload 4, 2) := by decide +kernel
theorem dX5_ends_64 : decode cX5_ends 64 = .ok (.aload_n 0, 1) := by decide +kernel
theorem dX5_ends_65 : decode cX5_ends 65 = .ok (.getfield 31, 3) := by decide +kernel
theorem dX5_ends_68 : decode cX5_ends 68 = .ok (.iload 5, 2) := by decide +kernel
theorem dX5_ends_70 : decode cX5_ends 70 = .ok (.iaload, 1) := by decide +kernel
theorem dX5_ends_71 : decode cX5_ends 71 = .ok (.iadd, 1) := by decide +kernel
theorem dX5_ends_72 : decode cX5_ends 72 = .ok (.istore 7, 2) := by decide +kernel
theorem dX5_ends_74 : decode cX5_ends 74 = .ok (.aload_n 0, 1) := by decide +kernel
theorem dX5_ends_75 : decode cX5_ends 75 = .ok (.getfield 70, 3) := by decide +kernel
theorem dX5_ends_78 : decode cX5_ends 78 = .ok (.iload_n 1, 1) := by decide +kernel
theorem dX5_ends_79 : decode cX5_ends 79 = .ok (.bipush 7, 2) := by decide +kernel
theorem dX5_ends_81 : decode cX5_ends 81 = .ok (.iadd, 1) := by decide +kernel
theorem dX5_ends_82 : decode cX5_ends 82 = .ok (.iload 6, 2) := by decide +kernel
theorem dX5_ends_84 : decode cX5_ends 84 = .ok (.iadd, 1) := by decide +kernel
theorem dX5_ends_85 : decode cX5_ends 85 = .ok (.aload_n 0, 1) := by decide +kernel
theorem dX5_ends_86 : decode cX5_ends 86 = .ok (.getfield 70, 3) := by decide +kernel
theorem dX5_ends_89 : decode cX5_ends 89 = .ok (.iload_n 1, 1) := by decide +kernel
theorem dX5_ends_90 : decode cX5_ends 90 = .ok (.bipush 7, 2) := by decide +kernel
theorem dX5_ends_92 : decode cX5_ends 92 = .ok (.iadd, 1) := by decide +kernel
theorem dX5_ends_93 : decode cX5_ends 93 = .ok (.iload 6, 2) := by decide +kernel
theorem dX5_ends_95 : decode cX5_ends 95 = .ok (.iadd, 1) := by decide +kernel
theorem dX5_ends_96 : decode cX5_ends 96 = .ok (.iaload, 1) := by decide +kernel
theorem dX5_ends_97 : decode cX5_ends 97 = .ok (.ifCond .ge 8, 3) := by decide +kernel
theorem dX5_ends_100 : decode cX5_ends 100 = .ok (.iload 7, 2) := by decide +kernel
theorem dX5_ends_102 : decode cX5_ends 102 = .ok (.goto 20, 3) := by decide +kernel
theorem dX5_ends_105 : decode cX5_ends 105 = .ok (.iload 7, 2) := by decide +kernel
theorem dX5_ends_107 : decode cX5_ends 107 = .ok (.aload_n 0, 1) := by decide +kernel
theorem dX5_ends_108 : decode cX5_ends 108 = .ok (.getfield 70, 3) := by decide +kernel
theorem dX5_ends_111 : decode cX5_ends 111 = .ok (.iload_n 1, 1) := by decide +kernel
theorem dX5_ends_112 : decode cX5_ends 112 = .ok (.bipush 7, 2) := by decide +kernel
theorem dX5_ends_114 : decode cX5_ends 114 = .ok (.iadd, 1) := by decide +kernel
theorem dX5_ends_115 : decode cX5_ends 115 = .ok (.iload 6, 2) := by decide +kernel
theorem dX5_ends_117 : decode cX5_ends 117 = .ok (.iadd, 1) := by decide +kernel
theorem dX5_ends_118 : decode cX5_ends 118 = .ok (.iaload, 1) := by decide +kernel
theorem dX5_ends_119 : decode cX5_ends 119 = .ok (.invokestatic 185, 3) := by decide +kernel
theorem dX5_ends_122 : decode cX5_ends 122 = .ok (.iastore, 1) := by decide +kernel
theorem dX5_ends_123 : decode cX5_ends 123 = .ok (.iinc 5 1, 3) := by decide +kernel
theorem dX5_ends_126 : decode cX5_ends 126 = .ok (.goto (-114), 3) := by decide +kernel
theorem dX5_ends_129 : decode cX5_ends 129 = .ok (.return_, 1) := by decide +kernel
theorem dX5_starts_0 : decode cX5_starts 0 = .ok (.iconst 0, 1) := by decide +kernel
theorem dX5_starts_1 : decode cX5_starts 1 = .ok (.istore_n 2, 1) := by decide +kernel
theorem dX5_starts_2 : decode cX5_starts 2 = .ok (.iconst 0, 1) := by decide +kernel
theorem dX5_starts_3 : decode cX5_starts 3 = .ok (.istore_n 3, 1) := by decide +kernel
theorem dX5_starts_4 : decode cX5_starts 4 = .ok (.iload_n 3, 1) := by decide +kernel
theorem dX5_starts_5 : decode cX5_starts 5 = .ok (.aload_n 0, 1) := by decide +kernel
theorem dX5_starts_6 : decode cX5_starts 6 = .ok (.getfield 110, 3) := by decide +kernel
theorem dX5_starts_9 : decode cX5_starts 9 = .ok (.if_icmp .ge 103, 3) := by decide +kernel
theorem dX5_starts_12 : decode cX5_starts 12 = .ok (.aload_n 0, 1) := by decide +kernel
theorem dX5_starts_13 : decode cX5_starts 13 = .ok (.getfield 70, 3) := by decide +kernel
theorem dX5_starts_16 : decode cX5_starts 16 = .ok (.iload_n 1, 1) := by decide +kernel
theorem dX5_starts_17 : decode cX5_starts 17 = .ok (.bipush 7, 2) := by decide +kernel
theorem dX5_starts_19 : decode cX5_starts 19 = .ok (.iadd, 1) := by decide +kernel
theorem dX5_starts_20 : decode cX5_starts 20 = .ok (.iload_n 3, 1) := by decide +kernel
theorem dX5_starts_21 : decode cX5_starts 21 = .ok (.iadd, 1) := by decide +kernel
theorem dX5_starts_22 : decode cX5_starts 22 = .ok (.iaload, 1) := by decide +kernel
theorem dX5_starts_23 : decode cX5_starts 23 = .ok (.istore 4, 2) := by decide +kernel
theorem dX5_starts_25 : decode cX5_starts 25 = .ok (.aload_n 0, 1) := by decide +kernel
theorem dX5_starts_26 : decode cX5_starts 26 = .ok (.getfield 70, 3) := by decide +kernel
theorem dX5_starts_29 : decode cX5_starts 29 = .ok (.iload_n 1, 1) := by decide +kernel
theorem dX5_starts_30 : decode cX5_starts 30 = .ok (.iload_n 3, 1) := by decide +kernel
theorem dX5_starts_31 : decode cX5_starts 31 = .ok (.iadd, 1) := by decide +kernel
theorem dX5_starts_32 : decode cX5_starts 32 = .ok (.iaload, 1) := by decide +kernel
theorem dX5_starts_33 : decode cX5_starts 33 = .ok (.ifCond .ne 51, 3) := by decide +kernel
theorem dX5_starts_36 : decode cX5_starts 36 = .ok (.iload 4, 2) := by decide +kernel
theorem dX5_starts_38 : decode cX5_starts 38 = .ok (.ifCond .lt 46, 3) := by decide +kernel
theorem dX5_starts_41 : decode cX5_starts 41 = .ok (.iload 4, 2) := by decide +kernel
theorem dX5_starts_43 : decode cX5_starts 43 = .ok (.aload_n 0, 1) := by decide +kernel
theorem dX5_starts_44 : decode cX5_starts 44 = .ok (.getfield 70, 3) := by decide +kernel
theorem dX5_starts_47 : decode cX5_starts 47 = .ok (.iload_n 1, 1) := by decide +kernel
theorem dX5_starts_48 : decode cX5_starts 48 = .ok (.bipush 18, 2) := by decide +kernel
theorem dX5_starts_50 : decode cX5_starts 50 = .ok (.iadd, 1) := by decide +kernel
theorem dX5_starts_51 : decode cX5_starts 51 = .ok (.iaload, 1) := by decide +kernel
theorem dX5_starts_52 : decode cX5_starts 52 = .ok (.if_icmp .gt 32, 3) := by decide +kernel
theorem dX5_starts_55 : decode cX5_starts 55 = .ok (.aload_n 0, 1) := by decide +kernel
theorem dX5_starts_56 : decode cX5_starts 56 = .ok (.getfield 70, 3) := by decide +kernel
theorem dX5_starts_59 : decode cX5_starts 59 = .ok (.iload_n 1, 1) := by decide +kernel
theorem dX5_starts_60 : decode cX5_starts 60 = .ok (.iload_n 3, 1) := by decide +kernel
theorem dX5_starts_61 : decode cX5_starts 61 = .ok (.iadd, 1) := by decide +kernel
theorem dX5_starts_62 : decode cX5_starts 62 = .ok (.iconst 1, 1) := by decide +kernel
theorem dX5_starts_63 : decode cX5_starts 63 = .ok (.iastore, 1) := by decide +kernel
theorem dX5_starts_64 : decode cX5_starts 64 = .ok (.aload_n 0, 1) := by decide +kernel
theorem dX5_starts_65 : decode cX5_starts 65 = .ok (.getfield 70, 3) := by decide +kernel
theorem dX5_starts_68 : decode cX5_starts 68 = .ok (.iload_n 1, 1) := by decide +kernel
theorem dX5_starts_69 : decode cX5_starts 69 = .ok (.bipush 7, 2) := by decide +kernel
theorem dX5_starts_71 : decode cX5_starts 71 = .ok (.iadd, 1) := by decide +kernel
theorem dX5_starts_72 : decode cX5_starts 72 = .ok (.iload_n 3, 1) := by decide +kernel
theorem dX5_starts_73 : decode cX5_starts 73 = .ok (.iadd, 1) := by decide +kernel
theorem dX5_starts_74 : decode cX5_starts 74 = .ok (.aload_n 0, 1) := by decide +kernel
theorem dX5_starts_75 : decode cX5_starts 75 = .ok (.getfield 70, 3) := by decide +kernel
theorem dX5_starts_78 : decode cX5_starts 78 = .ok (.iload_n 1, 1) := by decide +kernel
theorem dX5_starts_79 : decode cX5_starts 79 = .ok (.bipush 18, 2) := by decide +kernel
theorem dX5_starts_81 : decode cX5_starts 81 = .ok (.iadd, 1) := by decide +kernel
theorem dX5_starts_82 : decode cX5_starts 82 = .ok (.iaload, 1) := by decide +kernel
theorem dX5_starts_83 : decode cX5_starts 83 = .ok (.iastore, 1) := by decide +kernel
theorem dX5_starts_84 : decode cX5_starts 84 = .ok (.iload_n 2, 1) := by decide +kernel
theorem dX5_starts_85 : decode cX5_starts 85 = .ok (.aload_n 0, 1) := by decide +kernel
theorem dX5_starts_86 : decode cX5_starts 86 = .ok (.getfield 70, 3) := by decide +kernel
theorem dX5_starts_89 : decode cX5_starts 89 = .ok (.iload_n 1, 1) := by decide +kernel
theorem dX5_starts_90 : decode cX5_starts 90 = .ok (.iload_n 3, 1) := by decide +kernel
theorem dX5_starts_91 : decode cX5_starts 91 = .ok (.iadd, 1) := by decide +kernel
theorem dX5_starts_92 : decode cX5_starts 92 = .ok (.iaload, 1) := by decide +kernel
theorem dX5_starts_93 : decode cX5_starts 93 = .ok (.iconst 1, 1) := by decide +kernel
theorem dX5_starts_94 : decode cX5_starts 94 = .ok (.if_icmp .ne 9, 3) := by decide +kernel
theorem dX5_starts_97 : decode cX5_starts 97 = .ok (.iconst 1, 1) := by decide +kernel
theorem dX5_starts_98 : decode cX5_starts 98 = .ok (.iload_n 3, 1) := by decide +kernel
theorem dX5_starts_99 : decode cX5_starts 99 = .ok (.ishl, 1) := by decide +kernel
theorem dX5_starts_100 : decode cX5_starts 100 = .ok (.goto 4, 3) := by decide +kernel
theorem dX5_starts_103 : decode cX5_starts 103 = .ok (.iconst 0, 1) := by decide +kernel
theorem dX5_starts_104 : decode cX5_starts 104 = .ok (.ior, 1) := by decide +kernel
theorem dX5_starts_105 : decode cX5_starts 105 = .ok (.istore_n 2, 1) := by decide +kernel
theorem dX5_starts_106 : decode cX5_starts 106 = .ok (.iinc 3 1, 3) := by decide +kernel
theorem dX5_starts_109 : decode cX5_starts 109 = .ok (.goto (-105), 3) := by decide +kernel
theorem dX5_starts_112 : decode cX5_starts 112 = .ok (.iload_n 2, 1) := by decide +kernel
theorem dX5_starts_113 : decode cX5_starts 113 = .ok (.ireturn, 1) := by decide +kernel
set_option maxRecDepth 20000 in
theorem ggX5_all_X5_worth : GoodIn wsX5_all wsX5_worth := goodIn_r _ [6, 7, 8, 9, 10, 11, 12, 5, 13, 14, 15, 16, 17, 18, 19, 20, 21, 22, 23, 24, 25, 26, 27, 28, 29, 30, 31, 32, 33, 34, 35, 36, 37, 38, 39, 40, 41, 42, 43, 44, 45, 46, 47, 48, 49, 50, 51, 52, 53, 54, 55, 56, 57, 58] (by decide +kernel) (by decide +kernel)
set_option maxRecDepth 20000 in
theorem gX5_all_X5_worth : GoodIn wsX5_all (wsV RX5 195 RX5 yX5_worth wsX5_worth) := goodIn_app (goodIn_of _ (by decide +kernel)) ggX5_all_X5_worth
theorem dX5_all_0 : decode cX5_all 0 = .ok (.iconst 0, 1) := by decide +kernel
theorem dX5_all_1 : decode cX5_all 1 = .ok (.istore_n 2, 1) := by decide +kernel
theorem dX5_all_2 : decode cX5_all 2 = .ok (.iconst 0, 1) := by decide +kernel
theorem dX5_all_3 : decode cX5_all 3 = .ok (.istore_n 3, 1) := by decide +kernel
theorem dX5_all_4 : decode cX5_all 4 = .ok (.iload_n 3, 1) := by decide +kernel
theorem dX5_all_5 : decode cX5_all 5 = .ok (.aload_n 0, 1) := by decide +kernel
theorem dX5_all_6 : decode cX5_all 6 = .ok (.getfield 110, 3) := by decide +kernel
theorem dX5_all_9 : decode cX5_all 9 = .ok (.if_icmp .ge 18, 3) := by decide +kernel
theorem dX5_all_12 : decode cX5_all 12 = .ok (.iload_n 2, 1) := by decide +kernel
theorem dX5_all_13 : decode cX5_all 13 = .ok (.aload_n 0, 1) := by decide +kernel
theorem dX5_all_14 : decode cX5_all 14 = .ok (.iload_n 1, 1) := by decide +kernel
theorem dX5_all_15 : decode cX5_all 15 = .ok (.iload_n 3, 1) := by decide +kernel
theorem dX5_all_16 : decode cX5_all 16 = .ok (.invokevirtual 195, 3) := by decide +kernel
theorem dX5_all_19 : decode cX5_all 19 = .ok (.iadd, 1) := by decide +kernel
theorem dX5_all_20 : decode cX5_all 20 = .ok (.istore_n 2, 1) := by decide +kernel
theorem dX5_all_21 : decode cX5_all 21 = .ok (.iinc 3 1, 3) := by decide +kernel
theorem dX5_all_24 : decode cX5_all 24 = .ok (.goto (-20), 3) := by decide +kernel
theorem dX5_all_27 : decode cX5_all 27 = .ok (.iload_n 2, 1) := by decide +kernel
theorem dX5_all_28 : decode cX5_all 28 = .ok (.ireturn, 1) := by decide +kernel
set_option maxRecDepth 20000 in
theorem ggX5_goesOn_X5_starts : GoodIn wsX5_goesOn wsX5_starts := goodIn_r _ [8, 2, 1, 38, 39, 40, 41, 42, 43, 44, 45, 46, 47, 48, 49, 50, 51, 52, 53, 54, 55, 56, 57, 58, 59, 60, 61, 62, 63, 64, 65, 66, 67, 68, 69, 70, 71, 72, 73, 74, 75, 76] (by decide +kernel) (by decide +kernel)
set_option maxRecDepth 20000 in
theorem gX5_goesOn_X5_starts : GoodIn wsX5_goesOn (wsV RX5 198 RX5 yX5_starts wsX5_starts) := goodIn_app (goodIn_of _ (by decide +kernel)) ggX5_goesOn_X5_starts
set_option maxRecDepth 20000 in
theorem ggX5_goesOn_X5_all : GoodIn wsX5_goesOn wsX5_all := goodIn_r _ [12, 2, 13, 14, 15, 7, 16, 1, 17, 18, 19, 20, 21, 22, 23, 24, 25, 26, 27, 28, 38, 39, 40, 41, 42, 43, 44, 45, 46, 47, 48, 49, 50, 51, 52, 53, 54, 55, 56, 57, 58, 59, 60, 61, 62, 63, 64, 65, 66, 67, 68, 69, 70, 71, 72, 73, 74, 75, 76] (by decide +kernel) (by decide +kernel)
set_option maxRecDepth 20000 in
theorem gX5_goesOn_X5_all : GoodIn wsX5_goesOn (wsV RX5 202 RX5 yX5_all wsX5_all) := goodIn_app (goodIn_of _ (by decide +kernel)) ggX5_goesOn_X5_all
set_option maxRecDepth 20000 in
theorem ggX5_goesOn_X5_ends : GoodIn wsX5_goesOn wsX5_ends := goodIn_r _ [32, 1, 33, 34, 35, 36, 37, 23, 24, 7, 25, 38, 39, 40, 41, 42, 43, 44, 45, 46, 47, 48, 49, 50, 51, 52, 53, 54, 55, 56, 57, 58, 59, 60, 61, 62, 63, 64, 65, 66, 67, 68, 69, 70, 71, 72, 73, 74, 75, 76] (by decide +kernel) (by decide +kernel)
set_option maxRecDepth 20000 in
theorem gX5_goesOn_X5_ends : GoodIn wsX5_goesOn (wsV RX5 205 RX5 yX5_ends wsX5_ends) := goodIn_app (goodIn_of _ (by decide +kernel)) ggX5_goesOn_X5_ends
theorem dX5_goesOn_0 : decode cX5_goesOn 0 = .ok (.aload_n 0, 1) := by decide +kernel
theorem dX5_goesOn_1 : decode cX5_goesOn 1 = .ok (.iload_n 1, 1) := by decide +kernel
theorem dX5_goesOn_2 : decode cX5_goesOn 2 = .ok (.invokevirtual 198, 3) := by decide +kernel
theorem dX5_goesOn_5 : decode cX5_goesOn 5 = .ok (.istore_n 2, 1) := by decide +kernel
theorem dX5_goesOn_6 : decode cX5_goesOn 6 = .ok (.aload_n 0, 1) := by decide +kernel
theorem dX5_goesOn_7 : decode cX5_goesOn 7 = .ok (.getfield 70, 3) := by decide +kernel
theorem dX5_goesOn_10 : decode cX5_goesOn 10 = .ok (.iload_n 1, 1) := by decide +kernel
theorem dX5_goesOn_11 : decode cX5_goesOn 11 = .ok (.bipush 19, 2) := by decide +kernel
theorem dX5_goesOn_13 : decode cX5_goesOn 13 = .ok (.iadd, 1) := by decide +kernel
theorem dX5_goesOn_14 : decode cX5_goesOn 14 = .ok (.dup2, 1) := by decide +kernel
theorem dX5_goesOn_15 : decode cX5_goesOn 15 = .ok (.iaload, 1) := by decide +kernel
theorem dX5_goesOn_16 : decode cX5_goesOn 16 = .ok (.aload_n 0, 1) := by decide +kernel
theorem dX5_goesOn_17 : decode cX5_goesOn 17 = .ok (.iload_n 1, 1) := by decide +kernel
theorem dX5_goesOn_18 : decode cX5_goesOn 18 = .ok (.invokevirtual 202, 3) := by decide +kernel
theorem dX5_goesOn_21 : decode cX5_goesOn 21 = .ok (.iadd, 1) := by decide +kernel
theorem dX5_goesOn_22 : decode cX5_goesOn 22 = .ok (.iastore, 1) := by decide +kernel
theorem dX5_goesOn_23 : decode cX5_goesOn 23 = .ok (.aload_n 0, 1) := by decide +kernel
theorem dX5_goesOn_24 : decode cX5_goesOn 24 = .ok (.getfield 70, 3) := by decide +kernel
theorem dX5_goesOn_27 : decode cX5_goesOn 27 = .ok (.iload_n 1, 1) := by decide +kernel
theorem dX5_goesOn_28 : decode cX5_goesOn 28 = .ok (.bipush 18, 2) := by decide +kernel
theorem dX5_goesOn_30 : decode cX5_goesOn 30 = .ok (.iadd, 1) := by decide +kernel
theorem dX5_goesOn_31 : decode cX5_goesOn 31 = .ok (.iaload, 1) := by decide +kernel
theorem dX5_goesOn_32 : decode cX5_goesOn 32 = .ok (.istore_n 3, 1) := by decide +kernel
theorem dX5_goesOn_33 : decode cX5_goesOn 33 = .ok (.iconst 0, 1) := by decide +kernel
theorem dX5_goesOn_34 : decode cX5_goesOn 34 = .ok (.istore 4, 2) := by decide +kernel
theorem dX5_goesOn_36 : decode cX5_goesOn 36 = .ok (.iload 4, 2) := by decide +kernel
theorem dX5_goesOn_38 : decode cX5_goesOn 38 = .ok (.aload_n 0, 1) := by decide +kernel
theorem dX5_goesOn_39 : decode cX5_goesOn 39 = .ok (.getfield 110, 3) := by decide +kernel
theorem dX5_goesOn_42 : decode cX5_goesOn 42 = .ok (.if_icmp .ge 59, 3) := by decide +kernel
theorem dX5_goesOn_45 : decode cX5_goesOn 45 = .ok (.aload_n 0, 1) := by decide +kernel
theorem dX5_goesOn_46 : decode cX5_goesOn 46 = .ok (.getfield 70, 3) := by decide +kernel
theorem dX5_goesOn_49 : decode cX5_goesOn 49 = .ok (.iload_n 1, 1) := by decide +kernel
theorem dX5_goesOn_50 : decode cX5_goesOn 50 = .ok (.iload 4, 2) := by decide +kernel
theorem dX5_goesOn_52 : decode cX5_goesOn 52 = .ok (.iadd, 1) := by decide +kernel
theorem dX5_goesOn_53 : decode cX5_goesOn 53 = .ok (.iaload, 1) := by decide +kernel
theorem dX5_goesOn_54 : decode cX5_goesOn 54 = .ok (.iconst 1, 1) := by decide +kernel
theorem dX5_goesOn_55 : decode cX5_goesOn 55 = .ok (.if_icmp .ne 40, 3) := by decide +kernel
theorem dX5_goesOn_58 : decode cX5_goesOn 58 = .ok (.iload_n 3, 1) := by decide +kernel
theorem dX5_goesOn_59 : decode cX5_goesOn 59 = .ok (.aload_n 0, 1) := by decide +kernel
theorem dX5_goesOn_60 : decode cX5_goesOn 60 = .ok (.getfield 70, 3) := by decide +kernel
theorem dX5_goesOn_63 : decode cX5_goesOn 63 = .ok (.iload_n 1, 1) := by decide +kernel
theorem dX5_goesOn_64 : decode cX5_goesOn 64 = .ok (.bipush 7, 2) := by decide +kernel
theorem dX5_goesOn_66 : decode cX5_goesOn 66 = .ok (.iadd, 1) := by decide +kernel
theorem dX5_goesOn_67 : decode cX5_goesOn 67 = .ok (.iload 4, 2) := by decide +kernel
theorem dX5_goesOn_69 : decode cX5_goesOn 69 = .ok (.iadd, 1) := by decide +kernel
theorem dX5_goesOn_70 : decode cX5_goesOn 70 = .ok (.iaload, 1) := by decide +kernel
theorem dX5_goesOn_71 : decode cX5_goesOn 71 = .ok (.isub, 1) := by decide +kernel
theorem dX5_goesOn_72 : decode cX5_goesOn 72 = .ok (.iconst 1, 1) := by decide +kernel
theorem dX5_goesOn_73 : decode cX5_goesOn 73 = .ok (.iadd, 1) := by decide +kernel
theorem dX5_goesOn_74 : decode cX5_goesOn 74 = .ok (.aload_n 0, 1) := by decide +kernel
theorem dX5_goesOn_75 : decode cX5_goesOn 75 = .ok (.getfield 22, 3) := by decide +kernel
theorem dX5_goesOn_78 : decode cX5_goesOn 78 = .ok (.iload 4, 2) := by decide +kernel
theorem dX5_goesOn_80 : decode cX5_goesOn 80 = .ok (.iaload, 1) := by decide +kernel
theorem dX5_goesOn_81 : decode cX5_goesOn 81 = .ok (.if_icmp .lt 14, 3) := by decide +kernel
theorem dX5_goesOn_84 : decode cX5_goesOn 84 = .ok (.aload_n 0, 1) := by decide +kernel
theorem dX5_goesOn_85 : decode cX5_goesOn 85 = .ok (.iload_n 1, 1) := by decide +kernel
theorem dX5_goesOn_86 : decode cX5_goesOn 86 = .ok (.iload 4, 2) := by decide +kernel
end
section
theorem dX5_goesOn_88 : decode cX5_goesOn 88 = .ok (.iconst 2, 1) := by decide +kernel
theorem dX5_goesOn_89 : decode cX5_goesOn 89 = .ok (.iload_n 3, 1) := by decide +kernel
theorem dX5_goesOn_90 : decode cX5_goesOn 90 = .ok (.iconst 1, 1) := by decide +kernel
theorem dX5_goesOn_91 : decode cX5_goesOn 91 = .ok (.iadd, 1) := by decide +kernel
theorem dX5_goesOn_92 : decode cX5_goesOn 92 = .ok (.invokevirtual 205, 3) := by decide +kernel
theorem dX5_goesOn_95 : decode cX5_goesOn 95 = .ok (.iinc 4 1, 3) := by decide +kernel
theorem dX5_goesOn_98 : decode cX5_goesOn 98 = .ok (.goto (-62), 3) := by decide +kernel
theorem dX5_goesOn_101 : decode cX5_goesOn 101 = .ok (.aload_n 0, 1) := by decide +kernel
theorem dX5_goesOn_102 : decode cX5_goesOn 102 = .ok (.getfield 70, 3) := by decide +kernel
theorem dX5_goesOn_105 : decode cX5_goesOn 105 = .ok (.iload_n 1, 1) := by decide +kernel
theorem dX5_goesOn_106 : decode cX5_goesOn 106 = .ok (.bipush 18, 2) := by decide +kernel
theorem dX5_goesOn_108 : decode cX5_goesOn 108 = .ok (.iadd, 1) := by decide +kernel
theorem dX5_goesOn_109 : decode cX5_goesOn 109 = .ok (.dup2, 1) := by decide +kernel
theorem dX5_goesOn_110 : decode cX5_goesOn 110 = .ok (.iaload, 1) := by decide +kernel
theorem dX5_goesOn_111 : decode cX5_goesOn 111 = .ok (.iconst 1, 1) := by decide +kernel
theorem dX5_goesOn_112 : decode cX5_goesOn 112 = .ok (.iadd, 1) := by decide +kernel
theorem dX5_goesOn_113 : decode cX5_goesOn 113 = .ok (.iastore, 1) := by decide +kernel
theorem dX5_goesOn_114 : decode cX5_goesOn 114 = .ok (.iload_n 2, 1) := by decide +kernel
theorem dX5_goesOn_115 : decode cX5_goesOn 115 = .ok (.ireturn, 1) := by decide +kernel
theorem dX5_onNow_0 : decode cX5_onNow 0 = .ok (.iconst 0, 1) := by decide +kernel
theorem dX5_onNow_1 : decode cX5_onNow 1 = .ok (.istore_n 2, 1) := by decide +kernel
theorem dX5_onNow_2 : decode cX5_onNow 2 = .ok (.iconst 0, 1) := by decide +kernel
theorem dX5_onNow_3 : decode cX5_onNow 3 = .ok (.istore_n 3, 1) := by decide +kernel
theorem dX5_onNow_4 : decode cX5_onNow 4 = .ok (.iload_n 3, 1) := by decide +kernel
theorem dX5_onNow_5 : decode cX5_onNow 5 = .ok (.aload_n 0, 1) := by decide +kernel
theorem dX5_onNow_6 : decode cX5_onNow 6 = .ok (.getfield 110, 3) := by decide +kernel
theorem dX5_onNow_9 : decode cX5_onNow 9 = .ok (.if_icmp .ge 31, 3) := by decide +kernel
theorem dX5_onNow_12 : decode cX5_onNow 12 = .ok (.iload_n 2, 1) := by decide +kernel
theorem dX5_onNow_13 : decode cX5_onNow 13 = .ok (.aload_n 0, 1) := by decide +kernel
theorem dX5_onNow_14 : decode cX5_onNow 14 = .ok (.getfield 70, 3) := by decide +kernel
theorem dX5_onNow_17 : decode cX5_onNow 17 = .ok (.iload_n 1, 1) := by decide +kernel
theorem dX5_onNow_18 : decode cX5_onNow 18 = .ok (.iload_n 3, 1) := by decide +kernel
theorem dX5_onNow_19 : decode cX5_onNow 19 = .ok (.iadd, 1) := by decide +kernel
theorem dX5_onNow_20 : decode cX5_onNow 20 = .ok (.iaload, 1) := by decide +kernel
theorem dX5_onNow_21 : decode cX5_onNow 21 = .ok (.iconst 1, 1) := by decide +kernel
theorem dX5_onNow_22 : decode cX5_onNow 22 = .ok (.if_icmp .ne 9, 3) := by decide +kernel
theorem dX5_onNow_25 : decode cX5_onNow 25 = .ok (.iconst 1, 1) := by decide +kernel
theorem dX5_onNow_26 : decode cX5_onNow 26 = .ok (.iload_n 3, 1) := by decide +kernel
theorem dX5_onNow_27 : decode cX5_onNow 27 = .ok (.ishl, 1) := by decide +kernel
theorem dX5_onNow_28 : decode cX5_onNow 28 = .ok (.goto 4, 3) := by decide +kernel
theorem dX5_onNow_31 : decode cX5_onNow 31 = .ok (.iconst 0, 1) := by decide +kernel
theorem dX5_onNow_32 : decode cX5_onNow 32 = .ok (.ior, 1) := by decide +kernel
theorem dX5_onNow_33 : decode cX5_onNow 33 = .ok (.istore_n 2, 1) := by decide +kernel
theorem dX5_onNow_34 : decode cX5_onNow 34 = .ok (.iinc 3 1, 3) := by decide +kernel
theorem dX5_onNow_37 : decode cX5_onNow 37 = .ok (.goto (-33), 3) := by decide +kernel
theorem dX5_onNow_40 : decode cX5_onNow 40 = .ok (.iload_n 2, 1) := by decide +kernel
theorem dX5_onNow_41 : decode cX5_onNow 41 = .ok (.ireturn, 1) := by decide +kernel
set_option maxRecDepth 20000 in
theorem ggX5_going_X5_isGoing : GoodIn wsX5_going wsX5_isGoing := goodIn_r _ [11, 12, 13, 14, 10, 15, 29, 30, 31, 32, 33, 34, 35, 36, 37, 38, 39, 40, 41, 42, 43, 44, 45, 46, 47, 48, 49, 50, 51, 52, 53, 54, 55, 56, 57, 58, 59, 60, 61, 62, 63, 64, 65, 66, 67] (by decide +kernel) (by decide +kernel)
set_option maxRecDepth 20000 in
theorem gX5_going_X5_isGoing : GoodIn wsX5_going (wsV RX5 209 RX5 yX5_isGoing wsX5_isGoing) := goodIn_app (goodIn_of _ (by decide +kernel)) ggX5_going_X5_isGoing
set_option maxRecDepth 20000 in
theorem ggX5_going_X5_in : GoodIn wsX5_going wsX5_in := goodIn_r _ [15] (by decide +kernel) (by decide +kernel)
set_option maxRecDepth 20000 in
theorem gX5_going_X5_in : GoodIn wsX5_going (va_wsS RX5 119 yX5_in wsX5_in) := goodIn_app (goodIn_of _ (by decide +kernel)) ggX5_going_X5_in
set_option maxRecDepth 20000 in
theorem ggX5_going_X5_worth : GoodIn wsX5_going wsX5_worth := goodIn_r _ [19, 2, 3, 4, 5, 20, 21, 10, 22, 23, 24, 25, 26, 27, 28, 29, 30, 31, 32, 33, 34, 35, 36, 37, 38, 39, 40, 41, 42, 43, 44, 45, 46, 47, 48, 49, 50, 51, 52, 53, 54, 55, 56, 57, 58, 59, 60, 61, 62, 63, 64, 65, 66, 67] (by decide +kernel) (by decide +kernel)
set_option maxRecDepth 20000 in
theorem gX5_going_X5_worth : GoodIn wsX5_going (wsV RX5 195 RX5 yX5_worth wsX5_worth) := goodIn_app (goodIn_of _ (by decide +kernel)) ggX5_going_X5_worth
theorem dX5_going_0 : decode cX5_going 0 = .ok (.aload_n 0, 1) := by decide +kernel
theorem dX5_going_1 : decode cX5_going 1 = .ok (.iload_n 1, 1) := by decide +kernel
theorem dX5_going_2 : decode cX5_going 2 = .ok (.invokevirtual 209, 3) := by decide +kernel
theorem dX5_going_5 : decode cX5_going 5 = .ok (.ifCond .eq 15, 3) := by decide +kernel
theorem dX5_going_8 : decode cX5_going 8 = .ok (.iload_n 2, 1) := by decide +kernel
theorem dX5_going_9 : decode cX5_going 9 = .ok (.i2l, 1) := by decide +kernel
theorem dX5_going_10 : decode cX5_going 10 = .ok (.lconst 0, 1) := by decide +kernel
theorem dX5_going_11 : decode cX5_going 11 = .ok (.ldc2_w 213, 3) := by decide +kernel
theorem dX5_going_14 : decode cX5_going 14 = .ok (.invokestatic 119, 3) := by decide +kernel
theorem dX5_going_17 : decode cX5_going 17 = .ok (.ifCond .ne 5, 3) := by decide +kernel
theorem dX5_going_20 : decode cX5_going 20 = .ok (.iconst (-1), 1) := by decide +kernel
theorem dX5_going_21 : decode cX5_going 21 = .ok (.ireturn, 1) := by decide +kernel
theorem dX5_going_22 : decode cX5_going 22 = .ok (.aload_n 0, 1) := by decide +kernel
theorem dX5_going_23 : decode cX5_going 23 = .ok (.getfield 70, 3) := by decide +kernel
theorem dX5_going_26 : decode cX5_going 26 = .ok (.bipush 7, 2) := by decide +kernel
theorem dX5_going_28 : decode cX5_going 28 = .ok (.iload_n 1, 1) := by decide +kernel
theorem dX5_going_29 : decode cX5_going 29 = .ok (.iadd, 1) := by decide +kernel
theorem dX5_going_30 : decode cX5_going 30 = .ok (.iaload, 1) := by decide +kernel
theorem dX5_going_31 : decode cX5_going 31 = .ok (.ifCond .ge 8, 3) := by decide +kernel
theorem dX5_going_34 : decode cX5_going 34 = .ok (.bipush (-4), 2) := by decide +kernel
theorem dX5_going_36 : decode cX5_going 36 = .ok (.goto 12, 3) := by decide +kernel
theorem dX5_going_39 : decode cX5_going 39 = .ok (.aload_n 0, 1) := by decide +kernel
theorem dX5_going_40 : decode cX5_going 40 = .ok (.getfield 70, 3) := by decide +kernel
theorem dX5_going_43 : decode cX5_going 43 = .ok (.bipush 7, 2) := by decide +kernel
theorem dX5_going_45 : decode cX5_going 45 = .ok (.iload_n 1, 1) := by decide +kernel
theorem dX5_going_46 : decode cX5_going 46 = .ok (.iadd, 1) := by decide +kernel
theorem dX5_going_47 : decode cX5_going 47 = .ok (.iaload, 1) := by decide +kernel
theorem dX5_going_48 : decode cX5_going 48 = .ok (.istore_n 3, 1) := by decide +kernel
theorem dX5_going_49 : decode cX5_going 49 = .ok (.iload_n 2, 1) := by decide +kernel
theorem dX5_going_50 : decode cX5_going 50 = .ok (.ifCond .ne 12, 3) := by decide +kernel
theorem dX5_going_53 : decode cX5_going 53 = .ok (.aload_n 0, 1) := by decide +kernel
theorem dX5_going_54 : decode cX5_going 54 = .ok (.getfield 7, 3) := by decide +kernel
theorem dX5_going_57 : decode cX5_going 57 = .ok (.iload_n 1, 1) := by decide +kernel
theorem dX5_going_58 : decode cX5_going 58 = .ok (.iaload, 1) := by decide +kernel
theorem dX5_going_59 : decode cX5_going 59 = .ok (.goto 77, 3) := by decide +kernel
theorem dX5_going_62 : decode cX5_going 62 = .ok (.iload_n 2, 1) := by decide +kernel
theorem dX5_going_63 : decode cX5_going 63 = .ok (.iconst 1, 1) := by decide +kernel
theorem dX5_going_64 : decode cX5_going 64 = .ok (.if_icmp .ne 12, 3) := by decide +kernel
theorem dX5_going_67 : decode cX5_going 67 = .ok (.aload_n 0, 1) := by decide +kernel
theorem dX5_going_68 : decode cX5_going 68 = .ok (.getfield 16, 3) := by decide +kernel
theorem dX5_going_71 : decode cX5_going 71 = .ok (.iload_n 1, 1) := by decide +kernel
theorem dX5_going_72 : decode cX5_going 72 = .ok (.iaload, 1) := by decide +kernel
theorem dX5_going_73 : decode cX5_going 73 = .ok (.goto 63, 3) := by decide +kernel
theorem dX5_going_76 : decode cX5_going 76 = .ok (.iload_n 2, 1) := by decide +kernel
theorem dX5_going_77 : decode cX5_going 77 = .ok (.iconst 2, 1) := by decide +kernel
theorem dX5_going_78 : decode cX5_going 78 = .ok (.if_icmp .ne 12, 3) := by decide +kernel
theorem dX5_going_81 : decode cX5_going 81 = .ok (.aload_n 0, 1) := by decide +kernel
theorem dX5_going_82 : decode cX5_going 82 = .ok (.getfield 19, 3) := by decide +kernel
theorem dX5_going_85 : decode cX5_going 85 = .ok (.iload_n 1, 1) := by decide +kernel
theorem dX5_going_86 : decode cX5_going 86 = .ok (.iaload, 1) := by decide +kernel
theorem dX5_going_87 : decode cX5_going 87 = .ok (.goto 49, 3) := by decide +kernel
theorem dX5_going_90 : decode cX5_going 90 = .ok (.iload_n 2, 1) := by decide +kernel
theorem dX5_going_91 : decode cX5_going 91 = .ok (.iconst 3, 1) := by decide +kernel
theorem dX5_going_92 : decode cX5_going 92 = .ok (.if_icmp .ne 12, 3) := by decide +kernel
theorem dX5_going_95 : decode cX5_going 95 = .ok (.aload_n 0, 1) := by decide +kernel
theorem dX5_going_96 : decode cX5_going 96 = .ok (.getfield 22, 3) := by decide +kernel
theorem dX5_going_99 : decode cX5_going 99 = .ok (.iload_n 1, 1) := by decide +kernel
theorem dX5_going_100 : decode cX5_going 100 = .ok (.iaload, 1) := by decide +kernel
theorem dX5_going_101 : decode cX5_going 101 = .ok (.goto 35, 3) := by decide +kernel
theorem dX5_going_104 : decode cX5_going 104 = .ok (.iload_n 2, 1) := by decide +kernel
theorem dX5_going_105 : decode cX5_going 105 = .ok (.iconst 4, 1) := by decide +kernel
theorem dX5_going_106 : decode cX5_going 106 = .ok (.if_icmp .ne 12, 3) := by decide +kernel
theorem dX5_going_109 : decode cX5_going 109 = .ok (.aload_n 0, 1) := by decide +kernel
theorem dX5_going_110 : decode cX5_going 110 = .ok (.getfield 70, 3) := by decide +kernel
theorem dX5_going_113 : decode cX5_going 113 = .ok (.iload_n 1, 1) := by decide +kernel
theorem dX5_going_114 : decode cX5_going 114 = .ok (.iaload, 1) := by decide +kernel
theorem dX5_going_115 : decode cX5_going 115 = .ok (.goto 21, 3) := by decide +kernel
theorem dX5_going_118 : decode cX5_going 118 = .ok (.iload_n 2, 1) := by decide +kernel
theorem dX5_going_119 : decode cX5_going 119 = .ok (.iconst 5, 1) := by decide +kernel
theorem dX5_going_120 : decode cX5_going 120 = .ok (.if_icmp .ne 7, 3) := by decide +kernel
theorem dX5_going_123 : decode cX5_going 123 = .ok (.iload_n 3, 1) := by decide +kernel
theorem dX5_going_124 : decode cX5_going 124 = .ok (.goto 12, 3) := by decide +kernel
theorem dX5_going_127 : decode cX5_going 127 = .ok (.aload_n 0, 1) := by decide +kernel
theorem dX5_going_128 : decode cX5_going 128 = .ok (.iconst 0, 1) := by decide +kernel
theorem dX5_going_129 : decode cX5_going 129 = .ok (.iload_n 1, 1) := by decide +kernel
theorem dX5_going_130 : decode cX5_going 130 = .ok (.invokevirtual 195, 3) := by decide +kernel
theorem dX5_going_133 : decode cX5_going 133 = .ok (.bipush 20, 2) := by decide +kernel
theorem dX5_going_135 : decode cX5_going 135 = .ok (.iadd, 1) := by decide +kernel
theorem dX5_going_136 : decode cX5_going 136 = .ok (.ireturn, 1) := by decide +kernel
set_option maxRecDepth 20000 in
theorem ggX5_canPin_X5_has : GoodIn wsX5_canPin wsX5_has := goodIn_r _ [7] (by decide +kernel) (by decide +kernel)
set_option maxRecDepth 20000 in
theorem gX5_canPin_X5_has : GoodIn wsX5_canPin (va_wsS RX5 152 yX5_has wsX5_has) := goodIn_app (goodIn_of _ (by decide +kernel)) ggX5_canPin_X5_has
theorem dX5_canPin_0 : decode cX5_canPin 0 = .ok (.aload_n 0, 1) := by decide +kernel
theorem dX5_canPin_1 : decode cX5_canPin 1 = .ok (.getfield 70, 3) := by decide +kernel
theorem dX5_canPin_4 : decode cX5_canPin 4 = .ok (.iload_n 1, 1) := by decide +kernel
theorem dX5_canPin_5 : decode cX5_canPin 5 = .ok (.bipush 14, 2) := by decide +kernel
theorem dX5_canPin_7 : decode cX5_canPin 7 = .ok (.iadd, 1) := by decide +kernel
theorem dX5_canPin_8 : decode cX5_canPin 8 = .ok (.iload_n 2, 1) := by decide +kernel
theorem dX5_canPin_9 : decode cX5_canPin 9 = .ok (.iadd, 1) := by decide +kernel
theorem dX5_canPin_10 : decode cX5_canPin 10 = .ok (.iaload, 1) := by decide +kernel
theorem dX5_canPin_11 : decode cX5_canPin 11 = .ok (.ifCond .le 37, 3) := by decide +kernel
theorem dX5_canPin_14 : decode cX5_canPin 14 = .ok (.aload_n 0, 1) := by decide +kernel
theorem dX5_canPin_15 : decode cX5_canPin 15 = .ok (.getfield 70, 3) := by decide +kernel
theorem dX5_canPin_18 : decode cX5_canPin 18 = .ok (.iload_n 1, 1) := by decide +kernel
theorem dX5_canPin_19 : decode cX5_canPin 19 = .ok (.iload_n 3, 1) := by decide +kernel
theorem dX5_canPin_20 : decode cX5_canPin 20 = .ok (.iadd, 1) := by decide +kernel
theorem dX5_canPin_21 : decode cX5_canPin 21 = .ok (.iaload, 1) := by decide +kernel
theorem dX5_canPin_22 : decode cX5_canPin 22 = .ok (.iconst 1, 1) := by decide +kernel
theorem dX5_canPin_23 : decode cX5_canPin 23 = .ok (.if_icmp .ne 25, 3) := by decide +kernel
theorem dX5_canPin_26 : decode cX5_canPin 26 = .ok (.aload_n 0, 1) := by decide +kernel
theorem dX5_canPin_27 : decode cX5_canPin 27 = .ok (.getfield 37, 3) := by decide +kernel
theorem dX5_canPin_30 : decode cX5_canPin 30 = .ok (.iload_n 2, 1) := by decide +kernel
theorem dX5_canPin_31 : decode cX5_canPin 31 = .ok (.iaload, 1) := by decide +kernel
theorem dX5_canPin_32 : decode cX5_canPin 32 = .ok (.aload_n 0, 1) := by decide +kernel
theorem dX5_canPin_33 : decode cX5_canPin 33 = .ok (.getfield 7, 3) := by decide +kernel
theorem dX5_canPin_36 : decode cX5_canPin 36 = .ok (.iload_n 3, 1) := by decide +kernel
theorem dX5_canPin_37 : decode cX5_canPin 37 = .ok (.iaload, 1) := by decide +kernel
theorem dX5_canPin_38 : decode cX5_canPin 38 = .ok (.invokestatic 152, 3) := by decide +kernel
theorem dX5_canPin_41 : decode cX5_canPin 41 = .ok (.ifCond .eq 7, 3) := by decide +kernel
theorem dX5_canPin_44 : decode cX5_canPin 44 = .ok (.iconst 1, 1) := by decide +kernel
theorem dX5_canPin_45 : decode cX5_canPin 45 = .ok (.goto 4, 3) := by decide +kernel
theorem dX5_canPin_48 : decode cX5_canPin 48 = .ok (.iconst 0, 1) := by decide +kernel
theorem dX5_canPin_49 : decode cX5_canPin 49 = .ok (.ireturn, 1) := by decide +kernel
set_option maxRecDepth 20000 in
theorem ggX5_lady_X5_isLady : GoodIn wsX5_lady wsX5_isLady := goodIn_r _ [9, 10, 11, 12, 8, 13, 22, 23, 24, 25, 26, 27, 28, 29, 30, 31, 32, 33, 34, 35, 36, 37, 38, 39, 40, 41, 42, 43, 44, 45, 46, 47, 48, 49, 50, 51, 52, 53, 54, 55, 56, 57, 58, 59, 60] (by decide +kernel) (by decide +kernel)
set_option maxRecDepth 20000 in
theorem gX5_lady_X5_isLady : GoodIn wsX5_lady (wsV RX5 215 RX5 yX5_isLady wsX5_isLady) := goodIn_app (goodIn_of _ (by decide +kernel)) ggX5_lady_X5_isLady
set_option maxRecDepth 20000 in
theorem ggX5_lady_X5_in : GoodIn wsX5_lady wsX5_in := goodIn_r _ [13] (by decide +kernel) (by decide +kernel)
set_option maxRecDepth 20000 in
theorem gX5_lady_X5_in : GoodIn wsX5_lady (va_wsS RX5 119 yX5_in wsX5_in) := goodIn_app (goodIn_of _ (by decide +kernel)) ggX5_lady_X5_in
set_option maxRecDepth 20000 in
theorem ggX5_lady_X5_canPin : GoodIn wsX5_lady wsX5_canPin := goodIn_r _ [17, 3, 4, 18, 19, 20, 8, 21, 22, 23, 24, 25, 26, 27, 28, 29, 30, 31, 32, 33, 34, 35, 36, 37, 38, 39, 40, 41, 42, 43, 44, 45, 46, 47, 48, 49, 50, 51, 52, 53, 54, 55, 56, 57, 58, 59, 60] (by decide +kernel) (by decide +kernel)
set_option maxRecDepth 20000 in
theorem gX5_lady_X5_canPin : GoodIn wsX5_lady (wsV RX5 220 RX5 yX5_canPin wsX5_canPin) := goodIn_app (goodIn_of _ (by decide +kernel)) ggX5_lady_X5_canPin
theorem dX5_lady_0 : decode cX5_lady 0 = .ok (.aload_n 0, 1) := by decide +kernel
theorem dX5_lady_1 : decode cX5_lady 1 = .ok (.iload_n 1, 1) := by decide +kernel
theorem dX5_lady_2 : decode cX5_lady 2 = .ok (.invokevirtual 215, 3) := by decide +kernel
theorem dX5_lady_5 : decode cX5_lady 5 = .ok (.ifCond .eq 15, 3) := by decide +kernel
theorem dX5_lady_8 : decode cX5_lady 8 = .ok (.iload_n 2, 1) := by decide +kernel
theorem dX5_lady_9 : decode cX5_lady 9 = .ok (.i2l, 1) := by decide +kernel
theorem dX5_lady_10 : decode cX5_lady 10 = .ok (.lconst 0, 1) := by decide +kernel
theorem dX5_lady_11 : decode cX5_lady 11 = .ok (.ldc2_w 218, 3) := by decide +kernel
theorem dX5_lady_14 : decode cX5_lady 14 = .ok (.invokestatic 119, 3) := by decide +kernel
theorem dX5_lady_17 : decode cX5_lady 17 = .ok (.ifCond .ne 5, 3) := by decide +kernel
theorem dX5_lady_20 : decode cX5_lady 20 = .ok (.iconst (-1), 1) := by decide +kernel
theorem dX5_lady_21 : decode cX5_lady 21 = .ok (.ireturn, 1) := by decide +kernel
theorem dX5_lady_22 : decode cX5_lady 22 = .ok (.iconst 0, 1) := by decide +kernel
theorem dX5_lady_23 : decode cX5_lady 23 = .ok (.istore_n 3, 1) := by decide +kernel
theorem dX5_lady_24 : decode cX5_lady 24 = .ok (.iconst 0, 1) := by decide +kernel
theorem dX5_lady_25 : decode cX5_lady 25 = .ok (.istore 4, 2) := by decide +kernel
theorem dX5_lady_27 : decode cX5_lady 27 = .ok (.iload 4, 2) := by decide +kernel
theorem dX5_lady_29 : decode cX5_lady 29 = .ok (.aload_n 0, 1) := by decide +kernel
theorem dX5_lady_30 : decode cX5_lady 30 = .ok (.getfield 110, 3) := by decide +kernel
theorem dX5_lady_33 : decode cX5_lady 33 = .ok (.if_icmp .ge 31, 3) := by decide +kernel
theorem dX5_lady_36 : decode cX5_lady 36 = .ok (.iload_n 3, 1) := by decide +kernel
theorem dX5_lady_37 : decode cX5_lady 37 = .ok (.aload_n 0, 1) := by decide +kernel
theorem dX5_lady_38 : decode cX5_lady 38 = .ok (.iconst 0, 1) := by decide +kernel
theorem dX5_lady_39 : decode cX5_lady 39 = .ok (.iload_n 1, 1) := by decide +kernel
theorem dX5_lady_40 : decode cX5_lady 40 = .ok (.iload 4, 2) := by decide +kernel
theorem dX5_lady_42 : decode cX5_lady 42 = .ok (.invokevirtual 220, 3) := by decide +kernel
theorem dX5_lady_45 : decode cX5_lady 45 = .ok (.ifCond .eq 10, 3) := by decide +kernel
theorem dX5_lady_48 : decode cX5_lady 48 = .ok (.iconst 1, 1) := by decide +kernel
theorem dX5_lady_49 : decode cX5_lady 49 = .ok (.iload 4, 2) := by decide +kernel
theorem dX5_lady_51 : decode cX5_lady 51 = .ok (.ishl, 1) := by decide +kernel
theorem dX5_lady_52 : decode cX5_lady 52 = .ok (.goto 4, 3) := by decide +kernel
theorem dX5_lady_55 : decode cX5_lady 55 = .ok (.iconst 0, 1) := by decide +kernel
theorem dX5_lady_56 : decode cX5_lady 56 = .ok (.ior, 1) := by decide +kernel
theorem dX5_lady_57 : decode cX5_lady 57 = .ok (.istore_n 3, 1) := by decide +kernel
theorem dX5_lady_58 : decode cX5_lady 58 = .ok (.iinc 4 1, 3) := by decide +kernel
theorem dX5_lady_61 : decode cX5_lady 61 = .ok (.goto (-34), 3) := by decide +kernel
theorem dX5_lady_64 : decode cX5_lady 64 = .ok (.iload_n 2, 1) := by decide +kernel
theorem dX5_lady_65 : decode cX5_lady 65 = .ok (.ifCond .ne 15, 3) := by decide +kernel
theorem dX5_lady_68 : decode cX5_lady 68 = .ok (.aload_n 0, 1) := by decide +kernel
theorem dX5_lady_69 : decode cX5_lady 69 = .ok (.getfield 70, 3) := by decide +kernel
theorem dX5_lady_72 : decode cX5_lady 72 = .ok (.bipush 14, 2) := by decide +kernel
theorem dX5_lady_74 : decode cX5_lady 74 = .ok (.iload_n 1, 1) := by decide +kernel
theorem dX5_lady_75 : decode cX5_lady 75 = .ok (.iadd, 1) := by decide +kernel
theorem dX5_lady_76 : decode cX5_lady 76 = .ok (.iaload, 1) := by decide +kernel
theorem dX5_lady_77 : decode cX5_lady 77 = .ok (.goto 18, 3) := by decide +kernel
theorem dX5_lady_80 : decode cX5_lady 80 = .ok (.iload_n 2, 1) := by decide +kernel
theorem dX5_lady_81 : decode cX5_lady 81 = .ok (.iconst 1, 1) := by decide +kernel
theorem dX5_lady_82 : decode cX5_lady 82 = .ok (.if_icmp .ne 12, 3) := by decide +kernel
theorem dX5_lady_85 : decode cX5_lady 85 = .ok (.aload_n 0, 1) := by decide +kernel
theorem dX5_lady_86 : decode cX5_lady 86 = .ok (.getfield 37, 3) := by decide +kernel
theorem dX5_lady_89 : decode cX5_lady 89 = .ok (.iload_n 1, 1) := by decide +kernel
theorem dX5_lady_90 : decode cX5_lady 90 = .ok (.iaload, 1) := by decide +kernel
theorem dX5_lady_91 : decode cX5_lady 91 = .ok (.goto 4, 3) := by decide +kernel
theorem dX5_lady_94 : decode cX5_lady 94 = .ok (.iload_n 3, 1) := by decide +kernel
theorem dX5_lady_95 : decode cX5_lady 95 = .ok (.ireturn, 1) := by decide +kernel
set_option maxRecDepth 20000 in
theorem ggX5_known_X5_copies : GoodIn wsX5_known wsX5_copies := goodIn_r _ [7, 2, 8, 9, 10, 11, 12, 13, 14, 15, 16, 17, 18, 19, 20, 21, 22, 23, 24, 25, 26, 27, 28, 29, 30, 31, 32, 33, 34, 35, 36, 37, 38, 39, 40, 41, 42, 43, 44, 45, 46] (by decide +kernel) (by decide +kernel)
set_option maxRecDepth 20000 in
theorem gX5_known_X5_copies : GoodIn wsX5_known (wsV RX5 224 RX5 yX5_copies wsX5_copies) := goodIn_app (goodIn_of _ (by decide +kernel)) ggX5_known_X5_copies
theorem dX5_known_0 : decode cX5_known 0 = .ok (.aload_n 0, 1) := by decide +kernel
theorem dX5_known_1 : decode cX5_known 1 = .ok (.getfield 176, 3) := by decide +kernel
theorem dX5_known_4 : decode cX5_known 4 = .ok (.bipush 8, 2) := by decide +kernel
theorem dX5_known_6 : decode cX5_known 6 = .ok (.if_icmp .ne 40, 3) := by decide +kernel
theorem dX5_known_9 : decode cX5_known 9 = .ok (.bipush 20, 2) := by decide +kernel
theorem dX5_known_11 : decode cX5_known 11 = .ok (.istore_n 1, 1) := by decide +kernel
theorem dX5_known_12 : decode cX5_known 12 = .ok (.iload_n 1, 1) := by decide +kernel
theorem dX5_known_13 : decode cX5_known 13 = .ok (.sipush 160, 3) := by decide +kernel
theorem dX5_known_16 : decode cX5_known 16 = .ok (.if_icmp .ge 24, 3) := by decide +kernel
theorem dX5_known_19 : decode cX5_known 19 = .ok (.aload_n 0, 1) := by decide +kernel
theorem dX5_known_20 : decode cX5_known 20 = .ok (.getfield 70, 3) := by decide +kernel
theorem dX5_known_23 : decode cX5_known 23 = .ok (.iload_n 1, 1) := by decide +kernel
theorem dX5_known_24 : decode cX5_known 24 = .ok (.aload_n 0, 1) := by decide +kernel
theorem dX5_known_25 : decode cX5_known 25 = .ok (.getfield 70, 3) := by decide +kernel
theorem dX5_known_28 : decode cX5_known 28 = .ok (.iload_n 1, 1) := by decide +kernel
theorem dX5_known_29 : decode cX5_known 29 = .ok (.bipush 20, 2) := by decide +kernel
theorem dX5_known_31 : decode cX5_known 31 = .ok (.iadd, 1) := by decide +kernel
theorem dX5_known_32 : decode cX5_known 32 = .ok (.iaload, 1) := by decide +kernel
theorem dX5_known_33 : decode cX5_known 33 = .ok (.iastore, 1) := by decide +kernel
theorem dX5_known_34 : decode cX5_known 34 = .ok (.iinc 1 1, 3) := by decide +kernel
theorem dX5_known_37 : decode cX5_known 37 = .ok (.goto (-25), 3) := by decide +kernel
theorem dX5_known_40 : decode cX5_known 40 = .ok (.aload_n 0, 1) := by decide +kernel
theorem dX5_known_41 : decode cX5_known 41 = .ok (.bipush 7, 2) := by decide +kernel
theorem dX5_known_43 : decode cX5_known 43 = .ok (.putfield 176, 3) := by decide +kernel
theorem dX5_known_46 : decode cX5_known 46 = .ok (.aload_n 0, 1) := by decide +kernel
theorem dX5_known_47 : decode cX5_known 47 = .ok (.dup, 1) := by decide +kernel
theorem dX5_known_48 : decode cX5_known 48 = .ok (.getfield 176, 3) := by decide +kernel
theorem dX5_known_51 : decode cX5_known 51 = .ok (.iconst 1, 1) := by decide +kernel
theorem dX5_known_52 : decode cX5_known 52 = .ok (.iadd, 1) := by decide +kernel
theorem dX5_known_53 : decode cX5_known 53 = .ok (.putfield 176, 3) := by decide +kernel
theorem dX5_known_56 : decode cX5_known 56 = .ok (.aload_n 0, 1) := by decide +kernel
theorem dX5_known_57 : decode cX5_known 57 = .ok (.iconst 0, 1) := by decide +kernel
theorem dX5_known_58 : decode cX5_known 58 = .ok (.aload_n 0, 1) := by decide +kernel
theorem dX5_known_59 : decode cX5_known 59 = .ok (.getfield 176, 3) := by decide +kernel
theorem dX5_known_62 : decode cX5_known 62 = .ok (.bipush 20, 2) := by decide +kernel
theorem dX5_known_64 : decode cX5_known 64 = .ok (.imul, 1) := by decide +kernel
theorem dX5_known_65 : decode cX5_known 65 = .ok (.invokevirtual 224, 3) := by decide +kernel
theorem dX5_known_68 : decode cX5_known 68 = .ok (.return_, 1) := by decide +kernel
set_option maxRecDepth 20000 in
theorem ggX5_pass_X5_in : GoodIn wsX5_pass wsX5_in := goodIn_r _ [6] (by decide +kernel) (by decide +kernel)
set_option maxRecDepth 20000 in
theorem gX5_pass_X5_in : GoodIn wsX5_pass (va_wsS RX5 119 yX5_in wsX5_in) := goodIn_app (goodIn_of _ (by decide +kernel)) ggX5_pass_X5_in
set_option maxRecDepth 20000 in
theorem ggX5_pass_X5_known : GoodIn wsX5_pass wsX5_known := goodIn_r _ [10, 11, 2, 12, 13, 14, 5, 15, 60, 61, 62, 63, 64, 65, 66, 67, 68, 69, 70, 71, 72, 73, 74, 75, 76, 77, 78, 79, 80, 81, 82, 83, 84, 85, 86, 87, 88, 89, 90, 91, 92, 93, 94, 95, 96, 97, 98] (by decide +kernel) (by decide +kernel)
set_option maxRecDepth 20000 in
theorem gX5_pass_X5_known : GoodIn wsX5_pass (wsV RX5 230 RX5 yX5_known wsX5_known) := goodIn_app (goodIn_of _ (by decide +kernel)) ggX5_pass_X5_known
set_option maxRecDepth 20000 in
theorem ggX5_pass_X5_minutes : GoodIn wsX5_pass wsX5_minutes := goodIn_r _ [19, 20, 21, 22, 23, 5, 24, 2, 25, 26, 27, 28, 29, 30, 31, 32, 33, 34, 35, 36, 37, 38, 39, 40, 41, 42, 43, 44, 45, 46, 47, 48, 49, 50, 51, 52, 53, 54, 55, 56, 57, 58, 59, 60, 61, 62, 63, 64, 65, 66, 67, 68, 69, 70, 71, 72, 73, 74, 75, 76, 77, 78, 79, 80, 81, 82, 83, 84, 85, 86, 87, 88, 89, 90, 91, 92, 93, 94, 95, 96, 97, 98] (by decide +kernel) (by decide +kernel)
set_option maxRecDepth 20000 in
theorem gX5_pass_X5_minutes : GoodIn wsX5_pass (wsV RX5 233 RX5 yX5_minutes wsX5_minutes) := goodIn_app (goodIn_of _ (by decide +kernel)) ggX5_pass_X5_minutes
theorem dX5_pass_0 : decode cX5_pass 0 = .ok (.iload_n 1, 1) := by decide +kernel
theorem dX5_pass_1 : decode cX5_pass 1 = .ok (.i2l, 1) := by decide +kernel
theorem dX5_pass_2 : decode cX5_pass 2 = .ok (.lconst 1, 1) := by decide +kernel
theorem dX5_pass_3 : decode cX5_pass 3 = .ok (.ldc2_w 228, 3) := by decide +kernel
theorem dX5_pass_6 : decode cX5_pass 6 = .ok (.invokestatic 119, 3) := by decide +kernel
theorem dX5_pass_9 : decode cX5_pass 9 = .ok (.ifCond .ne 5, 3) := by decide +kernel
theorem dX5_pass_12 : decode cX5_pass 12 = .ok (.iconst (-1), 1) := by decide +kernel
theorem dX5_pass_13 : decode cX5_pass 13 = .ok (.ireturn, 1) := by decide +kernel
theorem dX5_pass_14 : decode cX5_pass 14 = .ok (.aload_n 0, 1) := by decide +kernel
theorem dX5_pass_15 : decode cX5_pass 15 = .ok (.getfield 70, 3) := by decide +kernel
theorem dX5_pass_18 : decode cX5_pass 18 = .ok (.bipush 18, 2) := by decide +kernel
theorem dX5_pass_20 : decode cX5_pass 20 = .ok (.iaload, 1) := by decide +kernel
theorem dX5_pass_21 : decode cX5_pass 21 = .ok (.iload_n 1, 1) := by decide +kernel
theorem dX5_pass_22 : decode cX5_pass 22 = .ok (.iadd, 1) := by decide +kernel
theorem dX5_pass_23 : decode cX5_pass 23 = .ok (.sipush 999, 3) := by decide +kernel
theorem dX5_pass_26 : decode cX5_pass 26 = .ok (.if_icmp .le 6, 3) := by decide +kernel
theorem dX5_pass_29 : decode cX5_pass 29 = .ok (.bipush (-2), 2) := by decide +kernel
theorem dX5_pass_31 : decode cX5_pass 31 = .ok (.ireturn, 1) := by decide +kernel
theorem dX5_pass_32 : decode cX5_pass 32 = .ok (.aload_n 0, 1) := by decide +kernel
theorem dX5_pass_33 : decode cX5_pass 33 = .ok (.invokevirtual 230, 3) := by decide +kernel
theorem dX5_pass_36 : decode cX5_pass 36 = .ok (.aload_n 0, 1) := by decide +kernel
theorem dX5_pass_37 : decode cX5_pass 37 = .ok (.iconst 0, 1) := by decide +kernel
theorem dX5_pass_38 : decode cX5_pass 38 = .ok (.iload_n 1, 1) := by decide +kernel
theorem dX5_pass_39 : decode cX5_pass 39 = .ok (.invokevirtual 233, 3) := by decide +kernel
theorem dX5_pass_42 : decode cX5_pass 42 = .ok (.aload_n 0, 1) := by decide +kernel
theorem dX5_pass_43 : decode cX5_pass 43 = .ok (.getfield 70, 3) := by decide +kernel
theorem dX5_pass_46 : decode cX5_pass 46 = .ok (.bipush 19, 2) := by decide +kernel
theorem dX5_pass_48 : decode cX5_pass 48 = .ok (.iaload, 1) := by decide +kernel
theorem dX5_pass_49 : decode cX5_pass 49 = .ok (.sipush 10000, 3) := by decide +kernel
theorem dX5_pass_52 : decode cX5_pass 52 = .ok (.iadd, 1) := by decide +kernel
theorem dX5_pass_53 : decode cX5_pass 53 = .ok (.ireturn, 1) := by decide +kernel
set_option maxRecDepth 20000 in
theorem ggX5_minutes_X5_goesOn : GoodIn wsX5_minutes wsX5_goesOn := goodIn_r _ [6, 7, 8, 9, 10, 11, 12, 5, 13, 14, 15, 16, 17, 18, 19, 20, 21, 22, 23, 24, 25, 26, 27, 28, 29, 30, 31, 32, 33, 34, 35, 36, 37, 38, 39, 40, 41, 42, 43, 44, 45, 46, 47, 48, 49, 50, 51, 52, 53, 54, 55, 56, 57, 58, 59, 60, 61, 62, 63, 64, 65, 66, 67, 68, 69, 70, 71, 72, 73, 74, 75, 76, 77, 78, 79, 80, 81] (by decide +kernel) (by decide +kernel)
set_option maxRecDepth 20000 in
theorem gX5_minutes_X5_goesOn : GoodIn wsX5_minutes (wsV RX5 239 RX5 yX5_goesOn wsX5_goesOn) := goodIn_app (goodIn_of _ (by decide +kernel)) ggX5_minutes_X5_goesOn
theorem dX5_minutes_0 : decode cX5_minutes 0 = .ok (.aload_n 0, 1) := by decide +kernel
theorem dX5_minutes_1 : decode cX5_minutes 1 = .ok (.iconst 0, 1) := by decide +kernel
theorem dX5_minutes_2 : decode cX5_minutes 2 = .ok (.putfield 236, 3) := by decide +kernel
theorem dX5_minutes_5 : decode cX5_minutes 5 = .ok (.iconst 0, 1) := by decide +kernel
theorem dX5_minutes_6 : decode cX5_minutes 6 = .ok (.istore_n 3, 1) := by decide +kernel
theorem dX5_minutes_7 : decode cX5_minutes 7 = .ok (.iload_n 3, 1) := by decide +kernel
theorem dX5_minutes_8 : decode cX5_minutes 8 = .ok (.iload_n 2, 1) := by decide +kernel
theorem dX5_minutes_9 : decode cX5_minutes 9 = .ok (.if_icmp .ge 23, 3) := by decide +kernel
theorem dX5_minutes_12 : decode cX5_minutes 12 = .ok (.aload_n 0, 1) := by decide +kernel
theorem dX5_minutes_13 : decode cX5_minutes 13 = .ok (.dup, 1) := by decide +kernel
theorem dX5_minutes_14 : decode cX5_minutes 14 = .ok (.getfield 236, 3) := by decide +kernel
theorem dX5_minutes_17 : decode cX5_minutes 17 = .ok (.aload_n 0, 1) := by decide +kernel
theorem dX5_minutes_18 : decode cX5_minutes 18 = .ok (.iload_n 1, 1) := by decide +kernel
theorem dX5_minutes_19 : decode cX5_minutes 19 = .ok (.invokevirtual 239, 3) := by decide +kernel
theorem dX5_minutes_22 : decode cX5_minutes 22 = .ok (.ior, 1) := by decide +kernel
theorem dX5_minutes_23 : decode cX5_minutes 23 = .ok (.putfield 236, 3) := by decide +kernel
theorem dX5_minutes_26 : decode cX5_minutes 26 = .ok (.iinc 3 1, 3) := by decide +kernel
theorem dX5_minutes_29 : decode cX5_minutes 29 = .ok (.goto (-22), 3) := by decide +kernel
theorem dX5_minutes_32 : decode cX5_minutes 32 = .ok (.return_, 1) := by decide +kernel
set_option maxRecDepth 20000 in
theorem ggX5_pin_X5_isLady : GoodIn wsX5_pin wsX5_isLady := goodIn_r _ [6, 7, 8, 9, 5, 10, 46, 47, 48, 49, 50, 51, 52, 53, 54, 55, 56, 57, 58, 59, 60, 61, 62, 63, 64, 65, 66, 67, 68, 69, 70, 71, 72, 73, 74, 75, 76, 77, 78, 79, 80, 81, 82, 83, 84] (by decide +kernel) (by decide +kernel)
set_option maxRecDepth 20000 in
theorem gX5_pin_X5_isLady : GoodIn wsX5_pin (wsV RX5 215 RX5 yX5_isLady wsX5_isLady) := goodIn_app (goodIn_of _ (by decide +kernel)) ggX5_pin_X5_isLady
set_option maxRecDepth 20000 in
theorem ggX5_pin_X5_isGoing : GoodIn wsX5_pin wsX5_isGoing := goodIn_r _ [14, 15, 8, 9, 5, 10, 46, 47, 48, 49, 50, 51, 52, 53, 54, 55, 56, 57, 58, 59, 60, 61, 62, 63, 64, 65, 66, 67, 68, 69, 70, 71, 72, 73, 74, 75, 76, 77, 78, 79, 80, 81, 82, 83, 84] (by decide +kernel) (by decide +kernel)
set_option maxRecDepth 20000 in
theorem gX5_pin_X5_isGoing : GoodIn wsX5_pin (wsV RX5 209 RX5 yX5_isGoing wsX5_isGoing) := goodIn_app (goodIn_of _ (by decide +kernel)) ggX5_pin_X5_isGoing
set_option maxRecDepth 20000 in
theorem ggX5_pin_X5_canPin : GoodIn wsX5_pin wsX5_canPin := goodIn_r _ [19, 1, 20, 21, 22, 23, 5, 24, 46, 47, 48, 49, 50, 51, 52, 53, 54, 55, 56, 57, 58, 59, 60, 61, 62, 63, 64, 65, 66, 67, 68, 69, 70, 71, 72, 73, 74, 75, 76, 77, 78, 79, 80, 81, 82, 83, 84] (by decide +kernel) (by decide +kernel)
set_option maxRecDepth 20000 in
theorem gX5_pin_X5_canPin : GoodIn wsX5_pin (wsV RX5 220 RX5 yX5_canPin wsX5_canPin) := goodIn_app (goodIn_of _ (by decide +kernel)) ggX5_pin_X5_canPin
set_option maxRecDepth 20000 in
theorem ggX5_pin_X5_known : GoodIn wsX5_pin wsX5_known := goodIn_r _ [28, 29, 1, 30, 31, 32, 5, 33, 46, 47, 48, 49, 50, 51, 52, 53, 54, 55, 56, 57, 58, 59, 60, 61, 62, 63, 64, 65, 66, 67, 68, 69, 70, 71, 72, 73, 74, 75, 76, 77, 78, 79, 80, 81, 82, 83, 84] (by decide +kernel) (by decide +kernel)
set_option maxRecDepth 20000 in
theorem gX5_pin_X5_known : GoodIn wsX5_pin (wsV RX5 230 RX5 yX5_known wsX5_known) := goodIn_app (goodIn_of _ (by decide +kernel)) ggX5_pin_X5_known
set_option maxRecDepth 20000 in
theorem ggX5_pin_X5_ends : GoodIn wsX5_pin wsX5_ends := goodIn_r _ [37, 1, 38, 39, 40, 41, 42, 43, 44, 5, 45, 46, 47, 48, 49, 50, 51, 52, 53, 54, 55, 56, 57, 58, 59, 60, 61, 62, 63, 64, 65, 66, 67, 68, 69, 70, 71, 72, 73, 74, 75, 76, 77, 78, 79, 80, 81, 82, 83, 84] (by decide +kernel) (by decide +kernel)
set_option maxRecDepth 20000 in
theorem gX5_pin_X5_ends : GoodIn wsX5_pin (wsV RX5 205 RX5 yX5_ends wsX5_ends) := goodIn_app (goodIn_of _ (by decide +kernel)) ggX5_pin_X5_ends
theorem dX5_pin_0 : decode cX5_pin 0 = .ok (.aload_n 0, 1) := by decide +kernel
theorem dX5_pin_1 : decode cX5_pin 1 = .ok (.iload_n 1, 1) := by decide +kernel
theorem dX5_pin_2 : decode cX5_pin 2 = .ok (.invokevirtual 215, 3) := by decide +kernel
theorem dX5_pin_5 : decode cX5_pin 5 = .ok (.ifCond .eq 11, 3) := by decide +kernel
theorem dX5_pin_8 : decode cX5_pin 8 = .ok (.aload_n 0, 1) := by decide +kernel
theorem dX5_pin_9 : decode cX5_pin 9 = .ok (.iload_n 2, 1) := by decide +kernel
theorem dX5_pin_10 : decode cX5_pin 10 = .ok (.invokevirtual 209, 3) := by decide +kernel
theorem dX5_pin_13 : decode cX5_pin 13 = .ok (.ifCond .ne 5, 3) := by decide +kernel
theorem dX5_pin_16 : decode cX5_pin 16 = .ok (.iconst (-1), 1) := by decide +kernel
theorem dX5_pin_17 : decode cX5_pin 17 = .ok (.ireturn, 1) := by decide +kernel
theorem dX5_pin_18 : decode cX5_pin 18 = .ok (.aload_n 0, 1) := by decide +kernel
theorem dX5_pin_19 : decode cX5_pin 19 = .ok (.iconst 0, 1) := by decide +kernel
theorem dX5_pin_20 : decode cX5_pin 20 = .ok (.iload_n 1, 1) := by decide +kernel
theorem dX5_pin_21 : decode cX5_pin 21 = .ok (.iload_n 2, 1) := by decide +kernel
theorem dX5_pin_22 : decode cX5_pin 22 = .ok (.invokevirtual 220, 3) := by decide +kernel
theorem dX5_pin_25 : decode cX5_pin 25 = .ok (.ifCond .ne 6, 3) := by decide +kernel
theorem dX5_pin_28 : decode cX5_pin 28 = .ok (.bipush (-2), 2) := by decide +kernel
theorem dX5_pin_30 : decode cX5_pin 30 = .ok (.ireturn, 1) := by decide +kernel
theorem dX5_pin_31 : decode cX5_pin 31 = .ok (.aload_n 0, 1) := by decide +kernel
theorem dX5_pin_32 : decode cX5_pin 32 = .ok (.invokevirtual 230, 3) := by decide +kernel
theorem dX5_pin_35 : decode cX5_pin 35 = .ok (.aload_n 0, 1) := by decide +kernel
theorem dX5_pin_36 : decode cX5_pin 36 = .ok (.getfield 70, 3) := by decide +kernel
theorem dX5_pin_39 : decode cX5_pin 39 = .ok (.bipush 14, 2) := by decide +kernel
theorem dX5_pin_41 : decode cX5_pin 41 = .ok (.iload_n 1, 1) := by decide +kernel
theorem dX5_pin_42 : decode cX5_pin 42 = .ok (.iadd, 1) := by decide +kernel
theorem dX5_pin_43 : decode cX5_pin 43 = .ok (.dup2, 1) := by decide +kernel
theorem dX5_pin_44 : decode cX5_pin 44 = .ok (.iaload, 1) := by decide +kernel
theorem dX5_pin_45 : decode cX5_pin 45 = .ok (.iconst 1, 1) := by decide +kernel
theorem dX5_pin_46 : decode cX5_pin 46 = .ok (.isub, 1) := by decide +kernel
theorem dX5_pin_47 : decode cX5_pin 47 = .ok (.iastore, 1) := by decide +kernel
theorem dX5_pin_48 : decode cX5_pin 48 = .ok (.aload_n 0, 1) := by decide +kernel
theorem dX5_pin_49 : decode cX5_pin 49 = .ok (.iconst 0, 1) := by decide +kernel
theorem dX5_pin_50 : decode cX5_pin 50 = .ok (.iload_n 2, 1) := by decide +kernel
theorem dX5_pin_51 : decode cX5_pin 51 = .ok (.iconst 3, 1) := by decide +kernel
theorem dX5_pin_52 : decode cX5_pin 52 = .ok (.aload_n 0, 1) := by decide +kernel
theorem dX5_pin_53 : decode cX5_pin 53 = .ok (.getfield 70, 3) := by decide +kernel
theorem dX5_pin_56 : decode cX5_pin 56 = .ok (.bipush 18, 2) := by decide +kernel
theorem dX5_pin_58 : decode cX5_pin 58 = .ok (.iaload, 1) := by decide +kernel
theorem dX5_pin_59 : decode cX5_pin 59 = .ok (.invokevirtual 205, 3) := by decide +kernel
theorem dX5_pin_62 : decode cX5_pin 62 = .ok (.aload_n 0, 1) := by decide +kernel
theorem dX5_pin_63 : decode cX5_pin 63 = .ok (.getfield 70, 3) := by decide +kernel
theorem dX5_pin_66 : decode cX5_pin 66 = .ok (.bipush 14, 2) := by decide +kernel
theorem dX5_pin_68 : decode cX5_pin 68 = .ok (.iload_n 1, 1) := by decide +kernel
theorem dX5_pin_69 : decode cX5_pin 69 = .ok (.iadd, 1) := by decide +kernel
theorem dX5_pin_70 : decode cX5_pin 70 = .ok (.iaload, 1) := by decide +kernel
theorem dX5_pin_71 : decode cX5_pin 71 = .ok (.ireturn, 1) := by decide +kernel
set_option maxRecDepth 20000 in
theorem ggX5_lend_X5_isLady : GoodIn wsX5_lend wsX5_isLady := goodIn_r _ [6, 7, 8, 9, 5, 10, 20, 21, 22, 23, 24, 25, 26, 27, 28, 29, 30, 31, 32, 33, 34, 35, 36, 37, 38, 39, 40, 41, 42, 43, 44, 45, 46, 47, 48, 49, 50, 51, 52, 53, 54, 55, 56, 57, 58] (by decide +kernel) (by decide +kernel)
set_option maxRecDepth 20000 in
theorem gX5_lend_X5_isLady : GoodIn wsX5_lend (wsV RX5 215 RX5 yX5_isLady wsX5_isLady) := goodIn_app (goodIn_of _ (by decide +kernel)) ggX5_lend_X5_isLady
set_option maxRecDepth 20000 in
theorem ggX5_lend_X5_known : GoodIn wsX5_lend wsX5_known := goodIn_r _ [14, 15, 1, 16, 17, 18, 5, 19, 20, 21, 22, 23, 24, 25, 26, 27, 28, 29, 30, 31, 32, 33, 34, 35, 36, 37, 38, 39, 40, 41, 42, 43, 44, 45, 46, 47, 48, 49, 50, 51, 52, 53, 54, 55, 56, 57, 58] (by decide +kernel) (by decide +kernel)
set_option maxRecDepth 20000 in
theorem gX5_lend_X5_known : GoodIn wsX5_lend (wsV RX5 230 RX5 yX5_known wsX5_known) := goodIn_app (goodIn_of _ (by decide +kernel)) ggX5_lend_X5_known
theorem dX5_lend_0 : decode cX5_lend 0 = .ok (.aload_n 0, 1) := by decide +kernel
theorem dX5_lend_1 : decode cX5_lend 1 = .ok (.iload_n 1, 1) := by decide +kernel
theorem dX5_lend_2 : decode cX5_lend 2 = .ok (.invokevirtual 215, 3) := by decide +kernel
theorem dX5_lend_5 : decode cX5_lend 5 = .ok (.ifCond .eq 16, 3) := by decide +kernel
theorem dX5_lend_8 : decode cX5_lend 8 = .ok (.aload_n 0, 1) := by decide +kernel
theorem dX5_lend_9 : decode cX5_lend 9 = .ok (.iload_n 2, 1) := by decide +kernel
theorem dX5_lend_10 : decode cX5_lend 10 = .ok (.invokevirtual 215, 3) := by decide +kernel
theorem dX5_lend_13 : decode cX5_lend 13 = .ok (.ifCond .eq 8, 3) := by decide +kernel
theorem dX5_lend_16 : decode cX5_lend 16 = .ok (.iload_n 1, 1) := by decide +kernel
theorem dX5_lend_17 : decode cX5_lend 17 = .ok (.iload_n 2, 1) := by decide +kernel
theorem dX5_lend_18 : decode cX5_lend 18 = .ok (.if_icmp .ne 5, 3) := by decide +kernel
theorem dX5_lend_21 : decode cX5_lend 21 = .ok (.iconst (-1), 1) := by decide +kernel
theorem dX5_lend_22 : decode cX5_lend 22 = .ok (.ireturn, 1) := by decide +kernel
theorem dX5_lend_23 : decode cX5_lend 23 = .ok (.aload_n 0, 1) := by decide +kernel
theorem dX5_lend_24 : decode cX5_lend 24 = .ok (.getfield 70, 3) := by decide +kernel
theorem dX5_lend_27 : decode cX5_lend 27 = .ok (.bipush 14, 2) := by decide +kernel
theorem dX5_lend_29 : decode cX5_lend 29 = .ok (.iload_n 1, 1) := by decide +kernel
theorem dX5_lend_30 : decode cX5_lend 30 = .ok (.iadd, 1) := by decide +kernel
theorem dX5_lend_31 : decode cX5_lend 31 = .ok (.iaload, 1) := by decide +kernel
theorem dX5_lend_32 : decode cX5_lend 32 = .ok (.ifCond .ne 6, 3) := by decide +kernel
theorem dX5_lend_35 : decode cX5_lend 35 = .ok (.bipush (-2), 2) := by decide +kernel
theorem dX5_lend_37 : decode cX5_lend 37 = .ok (.ireturn, 1) := by decide +kernel
theorem dX5_lend_38 : decode cX5_lend 38 = .ok (.aload_n 0, 1) := by decide +kernel
theorem dX5_lend_39 : decode cX5_lend 39 = .ok (.getfield 70, 3) := by decide +kernel
theorem dX5_lend_42 : decode cX5_lend 42 = .ok (.bipush 14, 2) := by decide +kernel
theorem dX5_lend_44 : decode cX5_lend 44 = .ok (.iload_n 2, 1) := by decide +kernel
theorem dX5_lend_45 : decode cX5_lend 45 = .ok (.iadd, 1) := by decide +kernel
theorem dX5_lend_46 : decode cX5_lend 46 = .ok (.iaload, 1) := by decide +kernel
theorem dX5_lend_47 : decode cX5_lend 47 = .ok (.bipush 9, 2) := by decide +kernel
theorem dX5_lend_49 : decode cX5_lend 49 = .ok (.if_icmp .ne 6, 3) := by decide +kernel
theorem dX5_lend_52 : decode cX5_lend 52 = .ok (.bipush (-3), 2) := by decide +kernel
theorem dX5_lend_54 : decode cX5_lend 54 = .ok (.ireturn, 1) := by decide +kernel
theorem dX5_lend_55 : decode cX5_lend 55 = .ok (.aload_n 0, 1) := by decide +kernel
theorem dX5_lend_56 : decode cX5_lend 56 = .ok (.invokevirtual 230, 3) := by decide +kernel
theorem dX5_lend_59 : decode cX5_lend 59 = .ok (.aload_n 0, 1) := by decide +kernel
theorem dX5_lend_60 : decode cX5_lend 60 = .ok (.getfield 70, 3) := by decide +kernel
theorem dX5_lend_63 : decode cX5_lend 63 = .ok (.bipush 14, 2) := by decide +kernel
theorem dX5_lend_65 : decode cX5_lend 65 = .ok (.iload_n 1, 1) := by decide +kernel
theorem dX5_lend_66 : decode cX5_lend 66 = .ok (.iadd, 1) := by decide +kernel
theorem dX5_lend_67 : decode cX5_lend 67 = .ok (.dup2, 1) := by decide +kernel
theorem dX5_lend_68 : decode cX5_lend 68 = .ok (.iaload, 1) := by decide +kernel
theorem dX5_lend_69 : decode cX5_lend 69 = .ok (.iconst 1, 1) := by decide +kernel
theorem dX5_lend_70 : decode cX5_lend 70 = .ok (.isub, 1) := by decide +kernel
theorem dX5_lend_71 : decode cX5_lend 71 = .ok (.iastore, 1) := by decide +kernel
theorem dX5_lend_72 : decode cX5_lend 72 = .ok (.aload_n 0, 1) := by decide +kernel
theorem dX5_lend_73 : decode cX5_lend 73 = .ok (.getfield 70, 3) := by decide +kernel
theorem dX5_lend_76 : decode cX5_lend 76 = .ok (.bipush 14, 2) := by decide +kernel
theorem dX5_lend_78 : decode cX5_lend 78 = .ok (.iload_n 2, 1) := by decide +kernel
theorem dX5_lend_79 : decode cX5_lend 79 = .ok (.iadd, 1) := by decide +kernel
theorem dX5_lend_80 : decode cX5_lend 80 = .ok (.dup2, 1) := by decide +kernel
theorem dX5_lend_81 : decode cX5_lend 81 = .ok (.iaload, 1) := by decide +kernel
theorem dX5_lend_82 : decode cX5_lend 82 = .ok (.iconst 1, 1) := by decide +kernel
theorem dX5_lend_83 : decode cX5_lend 83 = .ok (.iadd, 1) := by decide +kernel
theorem dX5_lend_84 : decode cX5_lend 84 = .ok (.iastore, 1) := by decide +kernel
theorem dX5_lend_85 : decode cX5_lend 85 = .ok (.aload_n 0, 1) := by decide +kernel
theorem dX5_lend_86 : decode cX5_lend 86 = .ok (.getfield 70, 3) := by decide +kernel
theorem dX5_lend_89 : decode cX5_lend 89 = .ok (.bipush 14, 2) := by decide +kernel
theorem dX5_lend_91 : decode cX5_lend 91 = .ok (.iload_n 2, 1) := by decide +kernel
theorem dX5_lend_92 : decode cX5_lend 92 = .ok (.iadd, 1) := by decide +kernel
theorem dX5_lend_93 : decode cX5_lend 93 = .ok (.iaload, 1) := by decide +kernel
theorem dX5_lend_94 : decode cX5_lend 94 = .ok (.ireturn, 1) := by decide +kernel
set_option maxRecDepth 20000 in
theorem ggX5_undo_X5_copies : GoodIn wsX5_undo wsX5_copies := goodIn_r _ [6, 7, 8, 9, 10, 11, 12, 13, 14, 15, 16, 17, 18, 19, 20, 21, 22, 23, 24, 25, 26, 27, 28, 29, 30, 31, 32, 33, 34, 35, 36, 37, 38, 39, 40, 41, 42, 43, 44, 45, 46] (by decide +kernel) (by decide +kernel)
set_option maxRecDepth 20000 in
theorem gX5_undo_X5_copies : GoodIn wsX5_undo (wsV RX5 224 RX5 yX5_copies wsX5_copies) := goodIn_app (goodIn_of _ (by decide +kernel)) ggX5_undo_X5_copies
theorem dX5_undo_0 : decode cX5_undo 0 = .ok (.aload_n 0, 1) := by decide +kernel
theorem dX5_undo_1 : decode cX5_undo 1 = .ok (.getfield 176, 3) := by decide +kernel
theorem dX5_undo_4 : decode cX5_undo 4 = .ok (.ifCond .ne 6, 3) := by decide +kernel
theorem dX5_undo_7 : decode cX5_undo 7 = .ok (.bipush (-2), 2) := by decide +kernel
theorem dX5_undo_9 : decode cX5_undo 9 = .ok (.ireturn, 1) := by decide +kernel
theorem dX5_undo_10 : decode cX5_undo 10 = .ok (.aload_n 0, 1) := by decide +kernel
theorem dX5_undo_11 : decode cX5_undo 11 = .ok (.aload_n 0, 1) := by decide +kernel
theorem dX5_undo_12 : decode cX5_undo 12 = .ok (.getfield 176, 3) := by decide +kernel
theorem dX5_undo_15 : decode cX5_undo 15 = .ok (.bipush 20, 2) := by decide +kernel
theorem dX5_undo_17 : decode cX5_undo 17 = .ok (.imul, 1) := by decide +kernel
theorem dX5_undo_18 : decode cX5_undo 18 = .ok (.iconst 0, 1) := by decide +kernel
theorem dX5_undo_19 : decode cX5_undo 19 = .ok (.invokevirtual 224, 3) := by decide +kernel
theorem dX5_undo_22 : decode cX5_undo 22 = .ok (.aload_n 0, 1) := by decide +kernel
theorem dX5_undo_23 : decode cX5_undo 23 = .ok (.dup, 1) := by decide +kernel
theorem dX5_undo_24 : decode cX5_undo 24 = .ok (.getfield 176, 3) := by decide +kernel
theorem dX5_undo_27 : decode cX5_undo 27 = .ok (.iconst 1, 1) := by decide +kernel
theorem dX5_undo_28 : decode cX5_undo 28 = .ok (.isub, 1) := by decide +kernel
theorem dX5_undo_29 : decode cX5_undo 29 = .ok (.putfield 176, 3) := by decide +kernel
theorem dX5_undo_32 : decode cX5_undo 32 = .ok (.aload_n 0, 1) := by decide +kernel
theorem dX5_undo_33 : decode cX5_undo 33 = .ok (.getfield 176, 3) := by decide +kernel
theorem dX5_undo_36 : decode cX5_undo 36 = .ok (.ireturn, 1) := by decide +kernel
set_option maxRecDepth 20000 in
theorem ggX5_behind_X5_in : GoodIn wsX5_behind wsX5_in := goodIn_r _ [6] (by decide +kernel) (by decide +kernel)
set_option maxRecDepth 20000 in
theorem gX5_behind_X5_in : GoodIn wsX5_behind (va_wsS RX5 119 yX5_in wsX5_in) := goodIn_app (goodIn_of _ (by decide +kernel)) ggX5_behind_X5_in
set_option maxRecDepth 20000 in
theorem ggX5_behind_X5_copies : GoodIn wsX5_behind wsX5_copies := goodIn_r _ [10, 2, 59, 60, 61, 62, 63, 64, 65, 66, 67, 68, 69, 70, 71, 72, 73, 74, 75, 76, 77, 78, 79, 80, 81, 82, 83, 84, 85, 86, 87, 88, 89, 90, 91, 92, 93, 94, 95, 96, 97] (by decide +kernel) (by decide +kernel)
set_option maxRecDepth 20000 in
theorem gX5_behind_X5_copies : GoodIn wsX5_behind (wsV RX5 224 RX5 yX5_copies wsX5_copies) := goodIn_app (goodIn_of _ (by decide +kernel)) ggX5_behind_X5_copies
set_option maxRecDepth 20000 in
theorem ggX5_behind_X5_minutes : GoodIn wsX5_behind wsX5_minutes := goodIn_r _ [14, 15, 16, 17, 18, 5, 19, 2, 20, 21, 22, 23, 24, 25, 26, 27, 28, 29, 30, 31, 32, 33, 34, 35, 36, 37, 38, 39, 40, 41, 42, 43, 44, 45, 46, 47, 48, 49, 50, 51, 52, 53, 54, 59, 60, 61, 62, 63, 64, 65, 66, 67, 68, 69, 70, 71, 72, 73, 74, 75, 76, 77, 78, 79, 80, 81, 82, 83, 84, 85, 86, 87, 88, 89, 90, 91, 92, 93, 94, 95, 96, 97] (by decide +kernel) (by decide +kernel)
set_option maxRecDepth 20000 in
theorem gX5_behind_X5_minutes : GoodIn wsX5_behind (wsV RX5 233 RX5 yX5_minutes wsX5_minutes) := goodIn_app (goodIn_of _ (by decide +kernel)) ggX5_behind_X5_minutes
set_option maxRecDepth 20000 in
theorem ggX5_behind_X5_onNow : GoodIn wsX5_behind wsX5_onNow := goodIn_r _ [58, 20, 2, 59, 60, 61, 62, 63, 64, 65, 66, 67, 68, 69, 70, 71, 72, 73, 74, 75, 76, 77, 78, 79, 80, 81, 82, 83, 84, 85, 86, 87, 88, 89, 90, 91, 92, 93, 94, 95, 96, 97] (by decide +kernel) (by decide +kernel)
set_option maxRecDepth 20000 in
theorem gX5_behind_X5_onNow : GoodIn wsX5_behind (wsV RX5 244 RX5 yX5_onNow wsX5_onNow) := goodIn_app (goodIn_of _ (by decide +kernel)) ggX5_behind_X5_onNow
theorem dX5_behind_0 : decode cX5_behind 0 = .ok (.iload_n 1, 1) := by decide +kernel
theorem dX5_behind_1 : decode cX5_behind 1 = .ok (.i2l, 1) := by decide +kernel
theorem dX5_behind_2 : decode cX5_behind 2 = .ok (.lconst 0, 1) := by decide +kernel
theorem dX5_behind_3 : decode cX5_behind 3 = .ok (.ldc2_w 242, 3) := by decide +kernel
theorem dX5_behind_6 : decode cX5_behind 6 = .ok (.invokestatic 119, 3) := by decide +kernel
theorem dX5_behind_9 : decode cX5_behind 9 = .ok (.ifCond .eq 13, 3) := by decide +kernel
theorem dX5_behind_12 : decode cX5_behind 12 = .ok (.iload_n 2, 1) := by decide +kernel
theorem dX5_behind_13 : decode cX5_behind 13 = .ok (.i2l, 1) := by decide +kernel
theorem dX5_behind_14 : decode cX5_behind 14 = .ok (.lconst 0, 1) := by decide +kernel
theorem dX5_behind_15 : decode cX5_behind 15 = .ok (.lconst 1, 1) := by decide +kernel
theorem dX5_behind_16 : decode cX5_behind 16 = .ok (.invokestatic 119, 3) := by decide +kernel
theorem dX5_behind_19 : decode cX5_behind 19 = .ok (.ifCond .ne 5, 3) := by decide +kernel
theorem dX5_behind_22 : decode cX5_behind 22 = .ok (.iconst (-1), 1) := by decide +kernel
theorem dX5_behind_23 : decode cX5_behind 23 = .ok (.ireturn, 1) := by decide +kernel
theorem dX5_behind_24 : decode cX5_behind 24 = .ok (.aload_n 0, 1) := by decide +kernel
theorem dX5_behind_25 : decode cX5_behind 25 = .ok (.iconst 0, 1) := by decide +kernel
theorem dX5_behind_26 : decode cX5_behind 26 = .ok (.sipush 220, 3) := by decide +kernel
theorem dX5_behind_29 : decode cX5_behind 29 = .ok (.invokevirtual 224, 3) := by decide +kernel
theorem dX5_behind_32 : decode cX5_behind 32 = .ok (.aload_n 0, 1) := by decide +kernel
theorem dX5_behind_33 : decode cX5_behind 33 = .ok (.sipush 220, 3) := by decide +kernel
theorem dX5_behind_36 : decode cX5_behind 36 = .ok (.iload_n 1, 1) := by decide +kernel
theorem dX5_behind_37 : decode cX5_behind 37 = .ok (.invokevirtual 233, 3) := by decide +kernel
theorem dX5_behind_40 : decode cX5_behind 40 = .ok (.iload_n 2, 1) := by decide +kernel
theorem dX5_behind_41 : decode cX5_behind 41 = .ok (.ifCond .ne 18, 3) := by decide +kernel
theorem dX5_behind_44 : decode cX5_behind 44 = .ok (.aload_n 0, 1) := by decide +kernel
theorem dX5_behind_45 : decode cX5_behind 45 = .ok (.getfield 70, 3) := by decide +kernel
theorem dX5_behind_48 : decode cX5_behind 48 = .ok (.sipush 239, 3) := by decide +kernel
theorem dX5_behind_51 : decode cX5_behind 51 = .ok (.iaload, 1) := by decide +kernel
theorem dX5_behind_52 : decode cX5_behind 52 = .ok (.sipush 10000, 3) := by decide +kernel
theorem dX5_behind_55 : decode cX5_behind 55 = .ok (.iadd, 1) := by decide +kernel
theorem dX5_behind_56 : decode cX5_behind 56 = .ok (.goto 10, 3) := by decide +kernel
theorem dX5_behind_59 : decode cX5_behind 59 = .ok (.aload_n 0, 1) := by decide +kernel
theorem dX5_behind_60 : decode cX5_behind 60 = .ok (.sipush 220, 3) := by decide +kernel
theorem dX5_behind_63 : decode cX5_behind 63 = .ok (.invokevirtual 244, 3) := by decide +kernel
theorem dX5_behind_66 : decode cX5_behind 66 = .ok (.ireturn, 1) := by decide +kernel
set_option maxRecDepth 20000 in
theorem ggX5_dull_X5_copies : GoodIn wsX5_dull wsX5_copies := goodIn_r _ [6, 1, 51, 52, 53, 54, 55, 56, 57, 58, 59, 60, 61, 62, 63, 64, 65, 66, 67, 68, 69, 70, 71, 72, 73, 74, 75, 76, 77, 78, 79, 80, 81, 82, 83, 84, 85, 86, 87, 88, 89] (by decide +kernel) (by decide +kernel)
set_option maxRecDepth 20000 in
theorem gX5_dull_X5_copies : GoodIn wsX5_dull (wsV RX5 224 RX5 yX5_copies wsX5_copies) := goodIn_app (goodIn_of _ (by decide +kernel)) ggX5_dull_X5_copies
set_option maxRecDepth 20000 in
theorem ggX5_dull_X5_minutes : GoodIn wsX5_dull wsX5_minutes := goodIn_r _ [10, 11, 12, 13, 14, 5, 15, 1, 16, 17, 18, 19, 20, 21, 22, 23, 24, 25, 26, 27, 28, 29, 30, 31, 32, 33, 34, 35, 36, 37, 38, 39, 40, 41, 42, 43, 44, 45, 46, 47, 48, 49, 50, 51, 52, 53, 54, 55, 56, 57, 58, 59, 60, 61, 62, 63, 64, 65, 66, 67, 68, 69, 70, 71, 72, 73, 74, 75, 76, 77, 78, 79, 80, 81, 82, 83, 84, 85, 86, 87, 88, 89] (by decide +kernel) (by decide +kernel)
set_option maxRecDepth 20000 in
theorem gX5_dull_X5_minutes : GoodIn wsX5_dull (wsV RX5 233 RX5 yX5_minutes wsX5_minutes) := goodIn_app (goodIn_of _ (by decide +kernel)) ggX5_dull_X5_minutes
theorem dX5_dull_0 : decode cX5_dull 0 = .ok (.aload_n 0, 1) := by decide +kernel
theorem dX5_dull_1 : decode cX5_dull 1 = .ok (.iconst 0, 1) := by decide +kernel
theorem dX5_dull_2 : decode cX5_dull 2 = .ok (.sipush 220, 3) := by decide +kernel
theorem dX5_dull_5 : decode cX5_dull 5 = .ok (.invokevirtual 224, 3) := by decide +kernel
theorem dX5_dull_8 : decode cX5_dull 8 = .ok (.iconst 0, 1) := by decide +kernel
theorem dX5_dull_9 : decode cX5_dull 9 = .ok (.istore_n 1, 1) := by decide +kernel
theorem dX5_dull_10 : decode cX5_dull 10 = .ok (.iload_n 1, 1) := by decide +kernel
theorem dX5_dull_11 : decode cX5_dull 11 = .ok (.bipush 60, 2) := by decide +kernel
theorem dX5_dull_13 : decode cX5_dull 13 = .ok (.if_icmp .gt 40, 3) := by decide +kernel
theorem dX5_dull_16 : decode cX5_dull 16 = .ok (.aload_n 0, 1) := by decide +kernel
theorem dX5_dull_17 : decode cX5_dull 17 = .ok (.getfield 70, 3) := by decide +kernel
theorem dX5_dull_20 : decode cX5_dull 20 = .ok (.sipush 239, 3) := by decide +kernel
theorem dX5_dull_23 : decode cX5_dull 23 = .ok (.iaload, 1) := by decide +kernel
theorem dX5_dull_24 : decode cX5_dull 24 = .ok (.istore_n 2, 1) := by decide +kernel
theorem dX5_dull_25 : decode cX5_dull 25 = .ok (.aload_n 0, 1) := by decide +kernel
theorem dX5_dull_26 : decode cX5_dull 26 = .ok (.sipush 220, 3) := by decide +kernel
theorem dX5_dull_29 : decode cX5_dull 29 = .ok (.iconst 1, 1) := by decide +kernel
theorem dX5_dull_30 : decode cX5_dull 30 = .ok (.invokevirtual 233, 3) := by decide +kernel
theorem dX5_dull_33 : decode cX5_dull 33 = .ok (.aload_n 0, 1) := by decide +kernel
theorem dX5_dull_34 : decode cX5_dull 34 = .ok (.getfield 70, 3) := by decide +kernel
theorem dX5_dull_37 : decode cX5_dull 37 = .ok (.sipush 239, 3) := by decide +kernel
theorem dX5_dull_40 : decode cX5_dull 40 = .ok (.iaload, 1) := by decide +kernel
theorem dX5_dull_41 : decode cX5_dull 41 = .ok (.iload_n 2, 1) := by decide +kernel
theorem dX5_dull_42 : decode cX5_dull 42 = .ok (.if_icmp .ge 5, 3) := by decide +kernel
theorem dX5_dull_45 : decode cX5_dull 45 = .ok (.iload_n 1, 1) := by decide +kernel
theorem dX5_dull_46 : decode cX5_dull 46 = .ok (.ireturn, 1) := by decide +kernel
theorem dX5_dull_47 : decode cX5_dull 47 = .ok (.iinc 1 1, 3) := by decide +kernel
theorem dX5_dull_50 : decode cX5_dull 50 = .ok (.goto (-40), 3) := by decide +kernel
theorem dX5_dull_53 : decode cX5_dull 53 = .ok (.bipush (-4), 2) := by decide +kernel
theorem dX5_dull_55 : decode cX5_dull 55 = .ok (.ireturn, 1) := by decide +kernel
set_option maxRecDepth 20000 in
theorem ggX5_quiet_X5_copies : GoodIn wsX5_quiet wsX5_copies := goodIn_r _ [5, 6, 46, 47, 48, 49, 50, 51, 52, 53, 54, 55, 56, 57, 58, 59, 60, 61, 62, 63, 64, 65, 66, 67, 68, 69, 70, 71, 72, 73, 74, 75, 76, 77, 78, 79, 80, 81, 82, 83, 84] (by decide +kernel) (by decide +kernel)
set_option maxRecDepth 20000 in
theorem gX5_quiet_X5_copies : GoodIn wsX5_quiet (wsV RX5 224 RX5 yX5_copies wsX5_copies) := goodIn_app (goodIn_of _ (by decide +kernel)) ggX5_quiet_X5_copies
set_option maxRecDepth 20000 in
theorem ggX5_quiet_X5_goesOn : GoodIn wsX5_quiet wsX5_goesOn := goodIn_r _ [10, 6, 11, 12, 13, 14, 15, 4, 16, 17, 18, 19, 20, 21, 22, 23, 24, 25, 26, 27, 28, 29, 30, 31, 32, 33, 34, 35, 36, 37, 38, 39, 40, 41, 42, 43, 44, 45, 46, 47, 48, 49, 50, 51, 52, 53, 54, 55, 56, 57, 58, 59, 60, 61, 62, 63, 64, 65, 66, 67, 68, 69, 70, 71, 72, 73, 74, 75, 76, 77, 78, 79, 80, 81, 82, 83, 84] (by decide +kernel) (by decide +kernel)
set_option maxRecDepth 20000 in
theorem gX5_quiet_X5_goesOn : GoodIn wsX5_quiet (wsV RX5 239 RX5 yX5_goesOn wsX5_goesOn) := goodIn_app (goodIn_of _ (by decide +kernel)) ggX5_quiet_X5_goesOn
set_option maxRecDepth 20000 in
theorem ggX5_quiet_X5_larger : GoodIn wsX5_quiet wsX5_larger := goodIn_r _ [36] (by decide +kernel) (by decide +kernel)
set_option maxRecDepth 20000 in
theorem gX5_quiet_X5_larger : GoodIn wsX5_quiet (va_wsS RX5 188 yX5_larger wsX5_larger) := goodIn_app (goodIn_of _ (by decide +kernel)) ggX5_quiet_X5_larger
theorem dX5_quiet_0 : decode cX5_quiet 0 = .ok (.aload_n 0, 1) := by decide +kernel
theorem dX5_quiet_1 : decode cX5_quiet 1 = .ok (.iconst 0, 1) := by decide +kernel
theorem dX5_quiet_2 : decode cX5_quiet 2 = .ok (.sipush 220, 3) := by decide +kernel
theorem dX5_quiet_5 : decode cX5_quiet 5 = .ok (.invokevirtual 224, 3) := by decide +kernel
theorem dX5_quiet_8 : decode cX5_quiet 8 = .ok (.iconst 0, 1) := by decide +kernel
theorem dX5_quiet_9 : decode cX5_quiet 9 = .ok (.istore_n 1, 1) := by decide +kernel
theorem dX5_quiet_10 : decode cX5_quiet 10 = .ok (.iconst 0, 1) := by decide +kernel
theorem dX5_quiet_11 : decode cX5_quiet 11 = .ok (.istore_n 2, 1) := by decide +kernel
theorem dX5_quiet_12 : decode cX5_quiet 12 = .ok (.iconst 0, 1) := by decide +kernel
theorem dX5_quiet_13 : decode cX5_quiet 13 = .ok (.istore_n 3, 1) := by decide +kernel
theorem dX5_quiet_14 : decode cX5_quiet 14 = .ok (.iload_n 3, 1) := by decide +kernel
theorem dX5_quiet_15 : decode cX5_quiet 15 = .ok (.bipush 60, 2) := by decide +kernel
theorem dX5_quiet_17 : decode cX5_quiet 17 = .ok (.if_icmp .ge 33, 3) := by decide +kernel
theorem dX5_quiet_20 : decode cX5_quiet 20 = .ok (.aload_n 0, 1) := by decide +kernel
theorem dX5_quiet_21 : decode cX5_quiet 21 = .ok (.sipush 220, 3) := by decide +kernel
theorem dX5_quiet_24 : decode cX5_quiet 24 = .ok (.invokevirtual 239, 3) := by decide +kernel
theorem dX5_quiet_27 : decode cX5_quiet 27 = .ok (.ifCond .ne 9, 3) := by decide +kernel
theorem dX5_quiet_30 : decode cX5_quiet 30 = .ok (.iload_n 2, 1) := by decide +kernel
theorem dX5_quiet_31 : decode cX5_quiet 31 = .ok (.iconst 1, 1) := by decide +kernel
theorem dX5_quiet_32 : decode cX5_quiet 32 = .ok (.iadd, 1) := by decide +kernel
theorem dX5_quiet_33 : decode cX5_quiet 33 = .ok (.goto 4, 3) := by decide +kernel
theorem dX5_quiet_36 : decode cX5_quiet 36 = .ok (.iconst 0, 1) := by decide +kernel
theorem dX5_quiet_37 : decode cX5_quiet 37 = .ok (.istore_n 2, 1) := by decide +kernel
theorem dX5_quiet_38 : decode cX5_quiet 38 = .ok (.iload_n 1, 1) := by decide +kernel
theorem dX5_quiet_39 : decode cX5_quiet 39 = .ok (.iload_n 2, 1) := by decide +kernel
theorem dX5_quiet_40 : decode cX5_quiet 40 = .ok (.invokestatic 188, 3) := by decide +kernel
theorem dX5_quiet_43 : decode cX5_quiet 43 = .ok (.istore_n 1, 1) := by decide +kernel
theorem dX5_quiet_44 : decode cX5_quiet 44 = .ok (.iinc 3 1, 3) := by decide +kernel
theorem dX5_quiet_47 : decode cX5_quiet 47 = .ok (.goto (-33), 3) := by decide +kernel
theorem dX5_quiet_50 : decode cX5_quiet 50 = .ok (.iload_n 1, 1) := by decide +kernel
theorem dX5_quiet_51 : decode cX5_quiet 51 = .ok (.ireturn, 1) := by decide +kernel
set_option maxRecDepth 20000 in
theorem ggX5_hadThen_X5_minutes : GoodIn wsX5_hadThen wsX5_minutes := goodIn_r _ [6, 7, 8, 9, 10, 5, 11, 1, 12, 13, 14, 15, 16, 17, 18, 19, 20, 21, 22, 23, 24, 25, 26, 27, 28, 29, 30, 31, 32, 33, 34, 35, 36, 37, 38, 39, 40, 41, 42, 43, 44, 45, 46, 47, 48, 49, 50, 51, 52, 53, 54, 55, 56, 57, 58, 59, 60, 61, 62, 63, 64, 65, 66, 67, 68, 69, 70, 71, 72, 73, 74, 75, 76, 77, 78, 79, 80, 81, 82, 83, 84, 85] (by decide +kernel) (by decide +kernel)
set_option maxRecDepth 20000 in
theorem gX5_hadThen_X5_minutes : GoodIn wsX5_hadThen (wsV RX5 233 RX5 yX5_minutes wsX5_minutes) := goodIn_app (goodIn_of _ (by decide +kernel)) ggX5_hadThen_X5_minutes
theorem dX5_hadThen_0 : decode cX5_hadThen 0 = .ok (.aload_n 0, 1) := by decide +kernel
theorem dX5_hadThen_1 : decode cX5_hadThen 1 = .ok (.sipush 220, 3) := by decide +kernel
theorem dX5_hadThen_4 : decode cX5_hadThen 4 = .ok (.bipush 60, 2) := by decide +kernel
theorem dX5_hadThen_6 : decode cX5_hadThen 6 = .ok (.invokevirtual 233, 3) := by decide +kernel
theorem dX5_hadThen_9 : decode cX5_hadThen 9 = .ok (.aload_n 0, 1) := by decide +kernel
theorem dX5_hadThen_10 : decode cX5_hadThen 10 = .ok (.getfield 70, 3) := by decide +kernel
theorem dX5_hadThen_13 : decode cX5_hadThen 13 = .ok (.sipush 239, 3) := by decide +kernel
theorem dX5_hadThen_16 : decode cX5_hadThen 16 = .ok (.iaload, 1) := by decide +kernel
theorem dX5_hadThen_17 : decode cX5_hadThen 17 = .ok (.ireturn, 1) := by decide +kernel
set_option maxRecDepth 20000 in
theorem ggX5_hadAsItIs_X5_copies : GoodIn wsX5_hadAsItIs wsX5_copies := goodIn_r _ [5, 6, 55, 56, 57, 58, 59, 60, 61, 62, 63, 64, 65, 66, 67, 68, 69, 70, 71, 72, 73, 74, 75, 76, 77, 78, 79, 80, 81, 82, 83, 84, 85, 86, 87, 88, 89, 90, 91, 92, 93] (by decide +kernel) (by decide +kernel)
set_option maxRecDepth 20000 in
theorem gX5_hadAsItIs_X5_copies : GoodIn wsX5_hadAsItIs (wsV RX5 224 RX5 yX5_copies wsX5_copies) := goodIn_app (goodIn_of _ (by decide +kernel)) ggX5_hadAsItIs_X5_copies
set_option maxRecDepth 20000 in
theorem ggX5_hadAsItIs_X5_hadThen : GoodIn wsX5_hadAsItIs wsX5_hadThen := goodIn_r _ [10, 6, 11, 12, 13, 4, 14, 15, 16, 17, 18, 19, 20, 21, 22, 23, 24, 25, 26, 27, 28, 29, 30, 31, 32, 33, 34, 35, 36, 37, 38, 39, 40, 41, 42, 43, 44, 45, 46, 47, 48, 49, 50, 51, 52, 53, 54, 55, 56, 57, 58, 59, 60, 61, 62, 63, 64, 65, 66, 67, 68, 69, 70, 71, 72, 73, 74, 75, 76, 77, 78, 79, 80, 81, 82, 83, 84, 85, 86, 87, 88, 89, 90, 91, 92, 93] (by decide +kernel) (by decide +kernel)
set_option maxRecDepth 20000 in
theorem gX5_hadAsItIs_X5_hadThen : GoodIn wsX5_hadAsItIs (wsV RX5 247 RX5 yX5_hadThen wsX5_hadThen) := goodIn_app (goodIn_of _ (by decide +kernel)) ggX5_hadAsItIs_X5_hadThen
theorem dX5_hadAsItIs_0 : decode cX5_hadAsItIs 0 = .ok (.aload_n 0, 1) := by decide +kernel
theorem dX5_hadAsItIs_1 : decode cX5_hadAsItIs 1 = .ok (.iconst 0, 1) := by decide +kernel
theorem dX5_hadAsItIs_2 : decode cX5_hadAsItIs 2 = .ok (.sipush 220, 3) := by decide +kernel
theorem dX5_hadAsItIs_5 : decode cX5_hadAsItIs 5 = .ok (.invokevirtual 224, 3) := by decide +kernel
theorem dX5_hadAsItIs_8 : decode cX5_hadAsItIs 8 = .ok (.aload_n 0, 1) := by decide +kernel
theorem dX5_hadAsItIs_9 : decode cX5_hadAsItIs 9 = .ok (.invokevirtual 247, 3) := by decide +kernel
theorem dX5_hadAsItIs_12 : decode cX5_hadAsItIs 12 = .ok (.ireturn, 1) := by decide +kernel
set_option maxRecDepth 20000 in
theorem ggX5_hadStopped_X5_copies : GoodIn wsX5_hadStopped wsX5_copies := goodIn_r _ [6, 1, 51, 52, 53, 54, 55, 56, 57, 58, 59, 60, 61, 62, 63, 64, 65, 66, 67, 68, 69, 70, 71, 72, 73, 74, 75, 76, 77, 78, 79, 80, 81, 82, 83, 84, 85, 86, 87, 88, 89] (by decide +kernel) (by decide +kernel)
set_option maxRecDepth 20000 in
theorem gX5_hadStopped_X5_copies : GoodIn wsX5_hadStopped (wsV RX5 224 RX5 yX5_copies wsX5_copies) := goodIn_app (goodIn_of _ (by decide +kernel)) ggX5_hadStopped_X5_copies
set_option maxRecDepth 20000 in
theorem ggX5_hadStopped_X5_ends : GoodIn wsX5_hadStopped wsX5_ends := goodIn_r _ [10, 1, 11, 12, 13, 14, 15, 16, 17, 5, 18, 51, 52, 53, 54, 55, 56, 57, 58, 59, 60, 61, 62, 63, 64, 65, 66, 67, 68, 69, 70, 71, 72, 73, 74, 75, 76, 77, 78, 79, 80, 81, 82, 83, 84, 85, 86, 87, 88, 89] (by decide +kernel) (by decide +kernel)
set_option maxRecDepth 20000 in
theorem gX5_hadStopped_X5_ends : GoodIn wsX5_hadStopped (wsV RX5 205 RX5 yX5_ends wsX5_ends) := goodIn_app (goodIn_of _ (by decide +kernel)) ggX5_hadStopped_X5_ends
set_option maxRecDepth 20000 in
theorem ggX5_hadStopped_X5_minutes : GoodIn wsX5_hadStopped wsX5_minutes := goodIn_r _ [22, 23, 24, 25, 26, 5, 27, 1, 28, 29, 30, 31, 32, 33, 34, 35, 36, 37, 38, 39, 40, 41, 42, 43, 44, 45, 46, 47, 16, 17, 18, 48, 49, 50, 7, 8, 9, 10, 11, 12, 13, 14, 15, 51, 52, 53, 54, 55, 56, 57, 58, 59, 60, 61, 62, 63, 64, 65, 66, 67, 68, 69, 70, 71, 72, 73, 74, 75, 76, 77, 78, 79, 80, 81, 82, 83, 84, 85, 86, 87, 88, 89] (by decide +kernel) (by decide +kernel)
set_option maxRecDepth 20000 in
theorem gX5_hadStopped_X5_minutes : GoodIn wsX5_hadStopped (wsV RX5 233 RX5 yX5_minutes wsX5_minutes) := goodIn_app (goodIn_of _ (by decide +kernel)) ggX5_hadStopped_X5_minutes
theorem dX5_hadStopped_0 : decode cX5_hadStopped 0 = .ok (.aload_n 0, 1) := by decide +kernel
theorem dX5_hadStopped_1 : decode cX5_hadStopped 1 = .ok (.iconst 0, 1) := by decide +kernel
theorem dX5_hadStopped_2 : decode cX5_hadStopped 2 = .ok (.sipush 220, 3) := by decide +kernel
theorem dX5_hadStopped_5 : decode cX5_hadStopped 5 = .ok (.invokevirtual 224, 3) := by decide +kernel
theorem dX5_hadStopped_8 : decode cX5_hadStopped 8 = .ok (.iconst 0, 1) := by decide +kernel
theorem dX5_hadStopped_9 : decode cX5_hadStopped 9 = .ok (.istore_n 3, 1) := by decide +kernel
theorem dX5_hadStopped_10 : decode cX5_hadStopped 10 = .ok (.iload_n 3, 1) := by decide +kernel
theorem dX5_hadStopped_11 : decode cX5_hadStopped 11 = .ok (.bipush 60, 2) := by decide +kernel
theorem dX5_hadStopped_13 : decode cX5_hadStopped 13 = .ok (.if_icmp .ge 53, 3) := by decide +kernel
theorem dX5_hadStopped_16 : decode cX5_hadStopped 16 = .ok (.iload_n 3, 1) := by decide +kernel
theorem dX5_hadStopped_17 : decode cX5_hadStopped 17 = .ok (.iload_n 2, 1) := by decide +kernel
theorem dX5_hadStopped_18 : decode cX5_hadStopped 18 = .ok (.if_icmp .lt 34, 3) := by decide +kernel
theorem dX5_hadStopped_21 : decode cX5_hadStopped 21 = .ok (.aload_n 0, 1) := by decide +kernel
theorem dX5_hadStopped_22 : decode cX5_hadStopped 22 = .ok (.getfield 70, 3) := by decide +kernel
theorem dX5_hadStopped_25 : decode cX5_hadStopped 25 = .ok (.sipush 220, 3) := by decide +kernel
theorem dX5_hadStopped_28 : decode cX5_hadStopped 28 = .ok (.iload_n 1, 1) := by decide +kernel
theorem dX5_hadStopped_29 : decode cX5_hadStopped 29 = .ok (.iadd, 1) := by decide +kernel
theorem dX5_hadStopped_30 : decode cX5_hadStopped 30 = .ok (.iaload, 1) := by decide +kernel
theorem dX5_hadStopped_31 : decode cX5_hadStopped 31 = .ok (.iconst 1, 1) := by decide +kernel
theorem dX5_hadStopped_32 : decode cX5_hadStopped 32 = .ok (.if_icmp .ne 20, 3) := by decide +kernel
theorem dX5_hadStopped_35 : decode cX5_hadStopped 35 = .ok (.aload_n 0, 1) := by decide +kernel
theorem dX5_hadStopped_36 : decode cX5_hadStopped 36 = .ok (.sipush 220, 3) := by decide +kernel
theorem dX5_hadStopped_39 : decode cX5_hadStopped 39 = .ok (.iload_n 1, 1) := by decide +kernel
theorem dX5_hadStopped_40 : decode cX5_hadStopped 40 = .ok (.iconst 3, 1) := by decide +kernel
theorem dX5_hadStopped_41 : decode cX5_hadStopped 41 = .ok (.aload_n 0, 1) := by decide +kernel
theorem dX5_hadStopped_42 : decode cX5_hadStopped 42 = .ok (.getfield 70, 3) := by decide +kernel
theorem dX5_hadStopped_45 : decode cX5_hadStopped 45 = .ok (.sipush 238, 3) := by decide +kernel
theorem dX5_hadStopped_48 : decode cX5_hadStopped 48 = .ok (.iaload, 1) := by decide +kernel
theorem dX5_hadStopped_49 : decode cX5_hadStopped 49 = .ok (.invokevirtual 205, 3) := by decide +kernel
theorem dX5_hadStopped_52 : decode cX5_hadStopped 52 = .ok (.aload_n 0, 1) := by decide +kernel
theorem dX5_hadStopped_53 : decode cX5_hadStopped 53 = .ok (.sipush 220, 3) := by decide +kernel
theorem dX5_hadStopped_56 : decode cX5_hadStopped 56 = .ok (.iconst 1, 1) := by decide +kernel
theorem dX5_hadStopped_57 : decode cX5_hadStopped 57 = .ok (.invokevirtual 233, 3) := by decide +kernel
theorem dX5_hadStopped_60 : decode cX5_hadStopped 60 = .ok (.iinc 3 1, 3) := by decide +kernel
theorem dX5_hadStopped_63 : decode cX5_hadStopped 63 = .ok (.goto (-53), 3) := by decide +kernel
theorem dX5_hadStopped_66 : decode cX5_hadStopped 66 = .ok (.aload_n 0, 1) := by decide +kernel
theorem dX5_hadStopped_67 : decode cX5_hadStopped 67 = .ok (.getfield 70, 3) := by decide +kernel
theorem dX5_hadStopped_70 : decode cX5_hadStopped 70 = .ok (.sipush 239, 3) := by decide +kernel
theorem dX5_hadStopped_73 : decode cX5_hadStopped 73 = .ok (.iaload, 1) := by decide +kernel
theorem dX5_hadStopped_74 : decode cX5_hadStopped 74 = .ok (.ireturn, 1) := by decide +kernel
set_option maxRecDepth 20000 in
theorem ggX5_stop_X5_isGoing : GoodIn wsX5_stop wsX5_isGoing := goodIn_r _ [6, 7, 8, 9, 5, 10, 70, 71, 72, 73, 74, 75, 76, 77, 78, 79, 80, 81, 82, 83, 84, 85, 86, 87, 88, 89, 90, 91, 92, 93, 94, 95, 96, 97, 98, 99, 100, 101, 102, 103, 104, 105, 106, 107, 108] (by decide +kernel) (by decide +kernel)
set_option maxRecDepth 20000 in
theorem gX5_stop_X5_isGoing : GoodIn wsX5_stop (wsV RX5 209 RX5 yX5_isGoing wsX5_isGoing) := goodIn_app (goodIn_of _ (by decide +kernel)) ggX5_stop_X5_isGoing
set_option maxRecDepth 20000 in
theorem ggX5_stop_X5_in : GoodIn wsX5_stop wsX5_in := goodIn_r _ [10] (by decide +kernel) (by decide +kernel)
set_option maxRecDepth 20000 in
theorem gX5_stop_X5_in : GoodIn wsX5_stop (va_wsS RX5 119 yX5_in wsX5_in) := goodIn_app (goodIn_of _ (by decide +kernel)) ggX5_stop_X5_in
set_option maxRecDepth 20000 in
theorem ggX5_stop_X5_hadAsItIs : GoodIn wsX5_stop wsX5_hadAsItIs := goodIn_r _ [14, 15, 16, 17, 5, 18, 1, 19, 20, 21, 22, 23, 24, 25, 26, 27, 28, 29, 30, 31, 7, 32, 33, 34, 35, 36, 37, 38, 39, 40, 41, 42, 43, 44, 45, 46, 47, 48, 49, 50, 51, 52, 53, 54, 55, 56, 57, 58, 59, 60, 61, 62, 63, 64, 65, 70, 71, 72, 73, 74, 75, 76, 77, 78, 79, 80, 81, 82, 83, 84, 85, 86, 87, 88, 89, 90, 91, 92, 93, 94, 95, 96, 97, 98, 99, 100, 101, 102, 103, 104, 105, 106, 107, 108] (by decide +kernel) (by decide +kernel)
set_option maxRecDepth 20000 in
theorem gX5_stop_X5_hadAsItIs : GoodIn wsX5_stop (wsV RX5 250 RX5 yX5_hadAsItIs wsX5_hadAsItIs) := goodIn_app (goodIn_of _ (by decide +kernel)) ggX5_stop_X5_hadAsItIs
set_option maxRecDepth 20000 in
theorem ggX5_stop_X5_hadStopped : GoodIn wsX5_stop wsX5_hadStopped := goodIn_r _ [69, 1, 15, 16, 17, 5, 18, 57, 58, 59, 60, 61, 62, 63, 64, 65, 51, 52, 53, 23, 24, 25, 26, 27, 28, 29, 30, 31, 7, 32, 33, 34, 35, 36, 37, 38, 39, 40, 41, 42, 43, 44, 45, 46, 47, 48, 49, 50, 54, 55, 56, 70, 71, 72, 73, 74, 75, 76, 77, 78, 79, 80, 81, 82, 83, 84, 85, 86, 87, 88, 89, 90, 91, 92, 93, 94, 95, 96, 97, 98, 99, 100, 101, 102, 103, 104, 105, 106, 107, 108] (by decide +kernel) (by decide +kernel)
set_option maxRecDepth 20000 in
theorem gX5_stop_X5_hadStopped : GoodIn wsX5_stop (wsV RX5 253 RX5 yX5_hadStopped wsX5_hadStopped) := goodIn_app (goodIn_of _ (by decide +kernel)) ggX5_stop_X5_hadStopped
set_option maxRecDepth 20000 in
theorem ggX5_stop_X5_larger : GoodIn wsX5_stop wsX5_larger := goodIn_r _ [56] (by decide +kernel) (by decide +kernel)
set_option maxRecDepth 20000 in
theorem gX5_stop_X5_larger : GoodIn wsX5_stop (va_wsS RX5 188 yX5_larger wsX5_larger) := goodIn_app (goodIn_of _ (by decide +kernel)) ggX5_stop_X5_larger
theorem dX5_stop_0 : decode cX5_stop 0 = .ok (.aload_n 0, 1) := by decide +kernel
theorem dX5_stop_1 : decode cX5_stop 1 = .ok (.iload_n 1, 1) := by decide +kernel
theorem dX5_stop_2 : decode cX5_stop 2 = .ok (.invokevirtual 209, 3) := by decide +kernel
theorem dX5_stop_5 : decode cX5_stop 5 = .ok (.ifCond .eq 13, 3) := by decide +kernel
theorem dX5_stop_8 : decode cX5_stop 8 = .ok (.iload_n 2, 1) := by decide +kernel
theorem dX5_stop_9 : decode cX5_stop 9 = .ok (.i2l, 1) := by decide +kernel
theorem dX5_stop_10 : decode cX5_stop 10 = .ok (.lconst 0, 1) := by decide +kernel
theorem dX5_stop_11 : decode cX5_stop 11 = .ok (.lconst 1, 1) := by decide +kernel
theorem dX5_stop_12 : decode cX5_stop 12 = .ok (.invokestatic 119, 3) := by decide +kernel
theorem dX5_stop_15 : decode cX5_stop 15 = .ok (.ifCond .ne 5, 3) := by decide +kernel
theorem dX5_stop_18 : decode cX5_stop 18 = .ok (.iconst (-1), 1) := by decide +kernel
theorem dX5_stop_19 : decode cX5_stop 19 = .ok (.ireturn, 1) := by decide +kernel
theorem dX5_stop_20 : decode cX5_stop 20 = .ok (.aload_n 0, 1) := by decide +kernel
theorem dX5_stop_21 : decode cX5_stop 21 = .ok (.getfield 70, 3) := by decide +kernel
theorem dX5_stop_24 : decode cX5_stop 24 = .ok (.iload_n 1, 1) := by decide +kernel
theorem dX5_stop_25 : decode cX5_stop 25 = .ok (.iaload, 1) := by decide +kernel
theorem dX5_stop_26 : decode cX5_stop 26 = .ok (.iconst 1, 1) := by decide +kernel
theorem dX5_stop_27 : decode cX5_stop 27 = .ok (.if_icmp .le 6, 3) := by decide +kernel
theorem dX5_stop_30 : decode cX5_stop 30 = .ok (.bipush (-2), 2) := by decide +kernel
theorem dX5_stop_32 : decode cX5_stop 32 = .ok (.ireturn, 1) := by decide +kernel
theorem dX5_stop_33 : decode cX5_stop 33 = .ok (.aload_n 0, 1) := by decide +kernel
theorem dX5_stop_34 : decode cX5_stop 34 = .ok (.invokevirtual 250, 3) := by decide +kernel
theorem dX5_stop_37 : decode cX5_stop 37 = .ok (.istore_n 3, 1) := by decide +kernel
theorem dX5_stop_38 : decode cX5_stop 38 = .ok (.bipush (-4), 2) := by decide +kernel
theorem dX5_stop_40 : decode cX5_stop 40 = .ok (.istore 4, 2) := by decide +kernel
theorem dX5_stop_42 : decode cX5_stop 42 = .ok (.iconst 0, 1) := by decide +kernel
theorem dX5_stop_43 : decode cX5_stop 43 = .ok (.istore 5, 2) := by decide +kernel
theorem dX5_stop_45 : decode cX5_stop 45 = .ok (.iload 5, 2) := by decide +kernel
theorem dX5_stop_47 : decode cX5_stop 47 = .ok (.bipush 40, 2) := by decide +kernel
theorem dX5_stop_49 : decode cX5_stop 49 = .ok (.if_icmp .gt 40, 3) := by decide +kernel
theorem dX5_stop_52 : decode cX5_stop 52 = .ok (.aload_n 0, 1) := by decide +kernel
theorem dX5_stop_53 : decode cX5_stop 53 = .ok (.iload_n 1, 1) := by decide +kernel
theorem dX5_stop_54 : decode cX5_stop 54 = .ok (.iload 5, 2) := by decide +kernel
theorem dX5_stop_56 : decode cX5_stop 56 = .ok (.invokevirtual 253, 3) := by decide +kernel
theorem dX5_stop_59 : decode cX5_stop 59 = .ok (.istore 6, 2) := by decide +kernel
theorem dX5_stop_61 : decode cX5_stop 61 = .ok (.iload 6, 2) := by decide +kernel
theorem dX5_stop_63 : decode cX5_stop 63 = .ok (.iload_n 3, 1) := by decide +kernel
theorem dX5_stop_64 : decode cX5_stop 64 = .ok (.if_icmp .le 8, 3) := by decide +kernel
theorem dX5_stop_67 : decode cX5_stop 67 = .ok (.iload 5, 2) := by decide +kernel
theorem dX5_stop_69 : decode cX5_stop 69 = .ok (.goto 5, 3) := by decide +kernel
theorem dX5_stop_72 : decode cX5_stop 72 = .ok (.iload 4, 2) := by decide +kernel
theorem dX5_stop_74 : decode cX5_stop 74 = .ok (.istore 4, 2) := by decide +kernel
theorem dX5_stop_76 : decode cX5_stop 76 = .ok (.iload_n 3, 1) := by decide +kernel
theorem dX5_stop_77 : decode cX5_stop 77 = .ok (.iload 6, 2) := by decide +kernel
theorem dX5_stop_79 : decode cX5_stop 79 = .ok (.invokestatic 188, 3) := by decide +kernel
theorem dX5_stop_82 : decode cX5_stop 82 = .ok (.istore_n 3, 1) := by decide +kernel
theorem dX5_stop_83 : decode cX5_stop 83 = .ok (.iinc 5 1, 3) := by decide +kernel
theorem dX5_stop_86 : decode cX5_stop 86 = .ok (.goto (-41), 3) := by decide +kernel
theorem dX5_stop_89 : decode cX5_stop 89 = .ok (.iload 4, 2) := by decide +kernel
theorem dX5_stop_91 : decode cX5_stop 91 = .ok (.ifCond .lt 7, 3) := by decide +kernel
theorem dX5_stop_94 : decode cX5_stop 94 = .ok (.iload_n 2, 1) := by decide +kernel
theorem dX5_stop_95 : decode cX5_stop 95 = .ok (.ifCond .ne 8, 3) := by decide +kernel
theorem dX5_stop_98 : decode cX5_stop 98 = .ok (.iload 4, 2) := by decide +kernel
theorem dX5_stop_100 : decode cX5_stop 100 = .ok (.goto 8, 3) := by decide +kernel
theorem dX5_stop_103 : decode cX5_stop 103 = .ok (.iload_n 3, 1) := by decide +kernel
theorem dX5_stop_104 : decode cX5_stop 104 = .ok (.sipush 10000, 3) := by decide +kernel
theorem dX5_stop_107 : decode cX5_stop 107 = .ok (.iadd, 1) := by decide +kernel
theorem dX5_stop_108 : decode cX5_stop 108 = .ok (.ireturn, 1) := by decide +kernel
set_option maxRecDepth 20000 in
theorem ggX5_best_X5_in : GoodIn wsX5_best wsX5_in := goodIn_r _ [7] (by decide +kernel) (by decide +kernel)
set_option maxRecDepth 20000 in
theorem gX5_best_X5_in : GoodIn wsX5_best (va_wsS RX5 119 yX5_in wsX5_in) := goodIn_app (goodIn_of _ (by decide +kernel)) ggX5_best_X5_in
set_option maxRecDepth 20000 in
theorem ggX5_best_X5_hadAsItIs : GoodIn wsX5_best wsX5_hadAsItIs := goodIn_r _ [11, 12, 13, 14, 6, 15, 3, 16, 17, 18, 19, 20, 21, 22, 23, 24, 25, 26, 27, 28, 2, 29, 30, 31, 32, 33, 34, 35, 36, 37, 38, 39, 40, 41, 42, 43, 44, 45, 46, 47, 48, 49, 50, 51, 52, 53, 54, 55, 56, 57, 58, 59, 60, 61, 62, 71, 72, 73, 74, 75, 76, 77, 78, 79, 80, 81, 82, 83, 84, 85, 86, 87, 88, 89, 90, 91, 92, 93, 94, 95, 96, 97, 98, 99, 100, 101, 102, 103, 104, 105, 106, 107, 108, 109] (by decide +kernel) (by decide +kernel)
set_option maxRecDepth 20000 in
theorem gX5_best_X5_hadAsItIs : GoodIn wsX5_best (wsV RX5 250 RX5 yX5_hadAsItIs wsX5_hadAsItIs) := goodIn_app (goodIn_of _ (by decide +kernel)) ggX5_best_X5_hadAsItIs
set_option maxRecDepth 20000 in
theorem ggX5_best_X5_canPin : GoodIn wsX5_best wsX5_canPin := goodIn_r _ [66, 3, 67, 42, 68, 69, 6, 70, 71, 72, 73, 74, 75, 76, 77, 78, 79, 80, 81, 82, 83, 84, 85, 86, 87, 88, 89, 90, 91, 92, 93, 94, 95, 96, 97, 98, 99, 100, 101, 102, 103, 104, 105, 106, 107, 108, 109] (by decide +kernel) (by decide +kernel)
set_option maxRecDepth 20000 in
theorem gX5_best_X5_canPin : GoodIn wsX5_best (wsV RX5 220 RX5 yX5_canPin wsX5_canPin) := goodIn_app (goodIn_of _ (by decide +kernel)) ggX5_best_X5_canPin
set_option maxRecDepth 20000 in
theorem ggX5_best_X5_copies : GoodIn wsX5_best wsX5_copies := goodIn_r _ [15, 3, 71, 72, 73, 74, 75, 76, 77, 78, 79, 80, 81, 82, 83, 84, 85, 86, 87, 88, 89, 90, 91, 92, 93, 94, 95, 96, 97, 98, 99, 100, 101, 102, 103, 104, 105, 106, 107, 108, 109] (by decide +kernel) (by decide +kernel)
set_option maxRecDepth 20000 in
theorem gX5_best_X5_copies : GoodIn wsX5_best (wsV RX5 224 RX5 yX5_copies wsX5_copies) := goodIn_app (goodIn_of _ (by decide +kernel)) ggX5_best_X5_copies
set_option maxRecDepth 20000 in
theorem ggX5_best_X5_ends : GoodIn wsX5_best wsX5_ends := goodIn_r _ [57, 3, 58, 59, 60, 61, 62, 48, 49, 6, 50, 71, 72, 73, 74, 75, 76, 77, 78, 79, 80, 81, 82, 83, 84, 85, 86, 87, 88, 89, 90, 91, 92, 93, 94, 95, 96, 97, 98, 99, 100, 101, 102, 103, 104, 105, 106, 107, 108, 109] (by decide +kernel) (by decide +kernel)
set_option maxRecDepth 20000 in
theorem gX5_best_X5_ends : GoodIn wsX5_best (wsV RX5 205 RX5 yX5_ends wsX5_ends) := goodIn_app (goodIn_of _ (by decide +kernel)) ggX5_best_X5_ends
set_option maxRecDepth 20000 in
theorem ggX5_best_X5_hadThen : GoodIn wsX5_best wsX5_hadThen := goodIn_r _ [19, 3, 20, 21, 22, 6, 23, 24, 25, 26, 27, 28, 2, 29, 30, 31, 32, 33, 34, 35, 36, 37, 38, 39, 40, 41, 42, 43, 44, 45, 46, 47, 48, 49, 50, 51, 52, 53, 54, 55, 56, 57, 58, 59, 60, 61, 62, 71, 72, 73, 74, 75, 76, 77, 78, 79, 80, 81, 82, 83, 84, 85, 86, 87, 88, 89, 90, 91, 92, 93, 94, 95, 96, 97, 98, 99, 100, 101, 102, 103, 104, 105, 106, 107, 108, 109] (by decide +kernel) (by decide +kernel)
set_option maxRecDepth 20000 in
theorem gX5_best_X5_hadThen : GoodIn wsX5_best (wsV RX5 247 RX5 yX5_hadThen wsX5_hadThen) := goodIn_app (goodIn_of _ (by decide +kernel)) ggX5_best_X5_hadThen
set_option maxRecDepth 20000 in
theorem ggX5_best_X5_larger : GoodIn wsX5_best wsX5_larger := goodIn_r _ [53] (by decide +kernel) (by decide +kernel)
set_option maxRecDepth 20000 in
theorem gX5_best_X5_larger : GoodIn wsX5_best (va_wsS RX5 188 yX5_larger wsX5_larger) := goodIn_app (goodIn_of _ (by decide +kernel)) ggX5_best_X5_larger
theorem dX5_best_0 : decode cX5_best 0 = .ok (.iload_n 1, 1) := by decide +kernel
theorem dX5_best_1 : decode cX5_best 1 = .ok (.i2l, 1) := by decide +kernel
theorem dX5_best_2 : decode cX5_best 2 = .ok (.lconst 0, 1) := by decide +kernel
theorem dX5_best_3 : decode cX5_best 3 = .ok (.lconst 1, 1) := by decide +kernel
theorem dX5_best_4 : decode cX5_best 4 = .ok (.invokestatic 119, 3) := by decide +kernel
theorem dX5_best_7 : decode cX5_best 7 = .ok (.ifCond .ne 5, 3) := by decide +kernel
theorem dX5_best_10 : decode cX5_best 10 = .ok (.iconst (-1), 1) := by decide +kernel
theorem dX5_best_11 : decode cX5_best 11 = .ok (.ireturn, 1) := by decide +kernel
theorem dX5_best_12 : decode cX5_best 12 = .ok (.aload_n 0, 1) := by decide +kernel
theorem dX5_best_13 : decode cX5_best 13 = .ok (.invokevirtual 250, 3) := by decide +kernel
theorem dX5_best_16 : decode cX5_best 16 = .ok (.istore_n 2, 1) := by decide +kernel
theorem dX5_best_17 : decode cX5_best 17 = .ok (.bipush (-4), 2) := by decide +kernel
theorem dX5_best_19 : decode cX5_best 19 = .ok (.istore_n 3, 1) := by decide +kernel
theorem dX5_best_20 : decode cX5_best 20 = .ok (.iconst 0, 1) := by decide +kernel
theorem dX5_best_21 : decode cX5_best 21 = .ok (.istore 4, 2) := by decide +kernel
theorem dX5_best_23 : decode cX5_best 23 = .ok (.iload 4, 2) := by decide +kernel
theorem dX5_best_25 : decode cX5_best 25 = .ok (.aload_n 0, 1) := by decide +kernel
theorem dX5_best_26 : decode cX5_best 26 = .ok (.getfield 116, 3) := by decide +kernel
theorem dX5_best_29 : decode cX5_best 29 = .ok (.aload_n 0, 1) := by decide +kernel
theorem dX5_best_30 : decode cX5_best 30 = .ok (.getfield 110, 3) := by decide +kernel
theorem dX5_best_33 : decode cX5_best 33 = .ok (.imul, 1) := by decide +kernel
theorem dX5_best_34 : decode cX5_best 34 = .ok (.if_icmp .ge 96, 3) := by decide +kernel
theorem dX5_best_37 : decode cX5_best 37 = .ok (.iload 4, 2) := by decide +kernel
theorem dX5_best_39 : decode cX5_best 39 = .ok (.aload_n 0, 1) := by decide +kernel
theorem dX5_best_40 : decode cX5_best 40 = .ok (.getfield 110, 3) := by decide +kernel
theorem dX5_best_43 : decode cX5_best 43 = .ok (.idiv, 1) := by decide +kernel
theorem dX5_best_44 : decode cX5_best 44 = .ok (.istore 5, 2) := by decide +kernel
theorem dX5_best_46 : decode cX5_best 46 = .ok (.iload 4, 2) := by decide +kernel
theorem dX5_best_48 : decode cX5_best 48 = .ok (.aload_n 0, 1) := by decide +kernel
theorem dX5_best_49 : decode cX5_best 49 = .ok (.getfield 110, 3) := by decide +kernel
theorem dX5_best_52 : decode cX5_best 52 = .ok (.irem, 1) := by decide +kernel
theorem dX5_best_53 : decode cX5_best 53 = .ok (.istore 6, 2) := by decide +kernel
theorem dX5_best_55 : decode cX5_best 55 = .ok (.aload_n 0, 1) := by decide +kernel
theorem dX5_best_56 : decode cX5_best 56 = .ok (.iconst 0, 1) := by decide +kernel
theorem dX5_best_57 : decode cX5_best 57 = .ok (.iload 5, 2) := by decide +kernel
theorem dX5_best_59 : decode cX5_best 59 = .ok (.iload 6, 2) := by decide +kernel
theorem dX5_best_61 : decode cX5_best 61 = .ok (.invokevirtual 220, 3) := by decide +kernel
theorem dX5_best_64 : decode cX5_best 64 = .ok (.ifCond .eq 60, 3) := by decide +kernel
theorem dX5_best_67 : decode cX5_best 67 = .ok (.aload_n 0, 1) := by decide +kernel
theorem dX5_best_68 : decode cX5_best 68 = .ok (.iconst 0, 1) := by decide +kernel
theorem dX5_best_69 : decode cX5_best 69 = .ok (.sipush 220, 3) := by decide +kernel
theorem dX5_best_72 : decode cX5_best 72 = .ok (.invokevirtual 224, 3) := by decide +kernel
theorem dX5_best_75 : decode cX5_best 75 = .ok (.aload_n 0, 1) := by decide +kernel
theorem dX5_best_76 : decode cX5_best 76 = .ok (.sipush 220, 3) := by decide +kernel
theorem dX5_best_79 : decode cX5_best 79 = .ok (.iload 6, 2) := by decide +kernel
theorem dX5_best_81 : decode cX5_best 81 = .ok (.iconst 3, 1) := by decide +kernel
theorem dX5_best_82 : decode cX5_best 82 = .ok (.aload_n 0, 1) := by decide +kernel
theorem dX5_best_83 : decode cX5_best 83 = .ok (.getfield 70, 3) := by decide +kernel
theorem dX5_best_86 : decode cX5_best 86 = .ok (.bipush 18, 2) := by decide +kernel
theorem dX5_best_88 : decode cX5_best 88 = .ok (.iaload, 1) := by decide +kernel
theorem dX5_best_89 : decode cX5_best 89 = .ok (.invokevirtual 205, 3) := by decide +kernel
theorem dX5_best_92 : decode cX5_best 92 = .ok (.aload_n 0, 1) := by decide +kernel
theorem dX5_best_93 : decode cX5_best 93 = .ok (.invokevirtual 247, 3) := by decide +kernel
theorem dX5_best_96 : decode cX5_best 96 = .ok (.istore 7, 2) := by decide +kernel
theorem dX5_best_98 : decode cX5_best 98 = .ok (.iload 7, 2) := by decide +kernel
theorem dX5_best_100 : decode cX5_best 100 = .ok (.iload_n 2, 1) := by decide +kernel
theorem dX5_best_101 : decode cX5_best 101 = .ok (.if_icmp .le 14, 3) := by decide +kernel
theorem dX5_best_104 : decode cX5_best 104 = .ok (.bipush 10, 2) := by decide +kernel
theorem dX5_best_106 : decode cX5_best 106 = .ok (.iload 5, 2) := by decide +kernel
theorem dX5_best_108 : decode cX5_best 108 = .ok (.imul, 1) := by decide +kernel
theorem dX5_best_109 : decode cX5_best 109 = .ok (.iload 6, 2) := by decide +kernel
theorem dX5_best_111 : decode cX5_best 111 = .ok (.iadd, 1) := by decide +kernel
theorem dX5_best_112 : decode cX5_best 112 = .ok (.goto 4, 3) := by decide +kernel
theorem dX5_best_115 : decode cX5_best 115 = .ok (.iload_n 3, 1) := by decide +kernel
theorem dX5_best_116 : decode cX5_best 116 = .ok (.istore_n 3, 1) := by decide +kernel
theorem dX5_best_117 : decode cX5_best 117 = .ok (.iload_n 2, 1) := by decide +kernel
theorem dX5_best_118 : decode cX5_best 118 = .ok (.iload 7, 2) := by decide +kernel
theorem dX5_best_120 : decode cX5_best 120 = .ok (.invokestatic 188, 3) := by decide +kernel
theorem dX5_best_123 : decode cX5_best 123 = .ok (.istore_n 2, 1) := by decide +kernel
theorem dX5_best_124 : decode cX5_best 124 = .ok (.iinc 4 1, 3) := by decide +kernel
theorem dX5_best_127 : decode cX5_best 127 = .ok (.goto (-104), 3) := by decide +kernel
theorem dX5_best_130 : decode cX5_best 130 = .ok (.iload_n 3, 1) := by decide +kernel
theorem dX5_best_131 : decode cX5_best 131 = .ok (.ifCond .lt 7, 3) := by decide +kernel
theorem dX5_best_134 : decode cX5_best 134 = .ok (.iload_n 1, 1) := by decide +kernel
theorem dX5_best_135 : decode cX5_best 135 = .ok (.ifCond .ne 7, 3) := by decide +kernel
theorem dX5_best_138 : decode cX5_best 138 = .ok (.iload_n 3, 1) := by decide +kernel
theorem dX5_best_139 : decode cX5_best 139 = .ok (.goto 8, 3) := by decide +kernel
theorem dX5_best_142 : decode cX5_best 142 = .ok (.iload_n 2, 1) := by decide +kernel
theorem dX5_best_143 : decode cX5_best 143 = .ok (.sipush 10000, 3) := by decide +kernel
theorem dX5_best_146 : decode cX5_best 146 = .ok (.iadd, 1) := by decide +kernel
theorem dX5_best_147 : decode cX5_best 147 = .ok (.ireturn, 1) := by decide +kernel
set_option maxRecDepth 20000 in
theorem ggX5_both_X5_in : GoodIn wsX5_both wsX5_in := goodIn_r _ [6] (by decide +kernel) (by decide +kernel)
set_option maxRecDepth 20000 in
theorem gX5_both_X5_in : GoodIn wsX5_both (va_wsS RX5 119 yX5_in wsX5_in) := goodIn_app (goodIn_of _ (by decide +kernel)) ggX5_both_X5_in
set_option maxRecDepth 20000 in
theorem ggX5_both_X5_copies : GoodIn wsX5_both wsX5_copies := goodIn_r _ [10, 2, 58, 59, 60, 61, 62, 63, 64, 65, 66, 67, 68, 69, 70, 71, 72, 73, 74, 75, 76, 77, 78, 79, 80, 81, 82, 83, 84, 85, 86, 87, 88, 89, 90, 91, 92, 93, 94, 95, 96] (by decide +kernel) (by decide +kernel)
set_option maxRecDepth 20000 in
theorem gX5_both_X5_copies : GoodIn wsX5_both (wsV RX5 224 RX5 yX5_copies wsX5_copies) := goodIn_app (goodIn_of _ (by decide +kernel)) ggX5_both_X5_copies
set_option maxRecDepth 20000 in
theorem ggX5_both_X5_ends : GoodIn wsX5_both wsX5_ends := goodIn_r _ [14, 2, 15, 16, 17, 18, 19, 20, 21, 5, 22, 58, 59, 60, 61, 62, 63, 64, 65, 66, 67, 68, 69, 70, 71, 72, 73, 74, 75, 76, 77, 78, 79, 80, 81, 82, 83, 84, 85, 86, 87, 88, 89, 90, 91, 92, 93, 94, 95, 96] (by decide +kernel) (by decide +kernel)
set_option maxRecDepth 20000 in
theorem gX5_both_X5_ends : GoodIn wsX5_both (wsV RX5 205 RX5 yX5_ends wsX5_ends) := goodIn_app (goodIn_of _ (by decide +kernel)) ggX5_both_X5_ends
set_option maxRecDepth 20000 in
theorem ggX5_both_X5_hadThen : GoodIn wsX5_both wsX5_hadThen := goodIn_r _ [26, 2, 27, 28, 29, 5, 30, 31, 32, 33, 34, 35, 1, 36, 37, 38, 39, 40, 41, 42, 43, 44, 45, 46, 47, 48, 49, 50, 51, 52, 53, 54, 20, 21, 22, 55, 56, 57, 11, 12, 13, 14, 15, 16, 17, 18, 19, 58, 59, 60, 61, 62, 63, 64, 65, 66, 67, 68, 69, 70, 71, 72, 73, 74, 75, 76, 77, 78, 79, 80, 81, 82, 83, 84, 85, 86, 87, 88, 89, 90, 91, 92, 93, 94, 95, 96] (by decide +kernel) (by decide +kernel)
set_option maxRecDepth 20000 in
theorem gX5_both_X5_hadThen : GoodIn wsX5_both (wsV RX5 247 RX5 yX5_hadThen wsX5_hadThen) := goodIn_app (goodIn_of _ (by decide +kernel)) ggX5_both_X5_hadThen
theorem dX5_both_0 : decode cX5_both 0 = .ok (.iload_n 1, 1) := by decide +kernel
theorem dX5_both_1 : decode cX5_both 1 = .ok (.i2l, 1) := by decide +kernel
theorem dX5_both_2 : decode cX5_both 2 = .ok (.lconst 0, 1) := by decide +kernel
theorem dX5_both_3 : decode cX5_both 3 = .ok (.lconst 1, 1) := by decide +kernel
theorem dX5_both_4 : decode cX5_both 4 = .ok (.invokestatic 119, 3) := by decide +kernel
theorem dX5_both_7 : decode cX5_both 7 = .ok (.ifCond .ne 5, 3) := by decide +kernel
theorem dX5_both_10 : decode cX5_both 10 = .ok (.iconst (-1), 1) := by decide +kernel
theorem dX5_both_11 : decode cX5_both 11 = .ok (.ireturn, 1) := by decide +kernel
theorem dX5_both_12 : decode cX5_both 12 = .ok (.iconst 0, 1) := by decide +kernel
theorem dX5_both_13 : decode cX5_both 13 = .ok (.istore_n 2, 1) := by decide +kernel
theorem dX5_both_14 : decode cX5_both 14 = .ok (.bipush (-4), 2) := by decide +kernel
theorem dX5_both_16 : decode cX5_both 16 = .ok (.istore_n 3, 1) := by decide +kernel
theorem dX5_both_17 : decode cX5_both 17 = .ok (.iconst 0, 1) := by decide +kernel
theorem dX5_both_18 : decode cX5_both 18 = .ok (.istore 4, 2) := by decide +kernel
theorem dX5_both_20 : decode cX5_both 20 = .ok (.iload 4, 2) := by decide +kernel
theorem dX5_both_22 : decode cX5_both 22 = .ok (.aload_n 0, 1) := by decide +kernel
theorem dX5_both_23 : decode cX5_both 23 = .ok (.getfield 110, 3) := by decide +kernel
theorem dX5_both_26 : decode cX5_both 26 = .ok (.if_icmp .ge 147, 3) := by decide +kernel
theorem dX5_both_29 : decode cX5_both 29 = .ok (.iload 4, 2) := by decide +kernel
theorem dX5_both_31 : decode cX5_both 31 = .ok (.iconst 1, 1) := by decide +kernel
theorem dX5_both_32 : decode cX5_both 32 = .ok (.iadd, 1) := by decide +kernel
theorem dX5_both_33 : decode cX5_both 33 = .ok (.istore 5, 2) := by decide +kernel
theorem dX5_both_35 : decode cX5_both 35 = .ok (.iload 5, 2) := by decide +kernel
theorem dX5_both_37 : decode cX5_both 37 = .ok (.aload_n 0, 1) := by decide +kernel
theorem dX5_both_38 : decode cX5_both 38 = .ok (.getfield 110, 3) := by decide +kernel
theorem dX5_both_41 : decode cX5_both 41 = .ok (.if_icmp .ge 126, 3) := by decide +kernel
theorem dX5_both_44 : decode cX5_both 44 = .ok (.aload_n 0, 1) := by decide +kernel
theorem dX5_both_45 : decode cX5_both 45 = .ok (.getfield 70, 3) := by decide +kernel
theorem dX5_both_48 : decode cX5_both 48 = .ok (.iload 4, 2) := by decide +kernel
theorem dX5_both_50 : decode cX5_both 50 = .ok (.iaload, 1) := by decide +kernel
theorem dX5_both_51 : decode cX5_both 51 = .ok (.iconst 1, 1) := by decide +kernel
theorem dX5_both_52 : decode cX5_both 52 = .ok (.if_icmp .ne 109, 3) := by decide +kernel
theorem dX5_both_55 : decode cX5_both 55 = .ok (.aload_n 0, 1) := by decide +kernel
theorem dX5_both_56 : decode cX5_both 56 = .ok (.getfield 70, 3) := by decide +kernel
theorem dX5_both_59 : decode cX5_both 59 = .ok (.iload 5, 2) := by decide +kernel
theorem dX5_both_61 : decode cX5_both 61 = .ok (.iaload, 1) := by decide +kernel
theorem dX5_both_62 : decode cX5_both 62 = .ok (.iconst 1, 1) := by decide +kernel
theorem dX5_both_63 : decode cX5_both 63 = .ok (.if_icmp .ne 98, 3) := by decide +kernel
theorem dX5_both_66 : decode cX5_both 66 = .ok (.aload_n 0, 1) := by decide +kernel
theorem dX5_both_67 : decode cX5_both 67 = .ok (.iconst 0, 1) := by decide +kernel
theorem dX5_both_68 : decode cX5_both 68 = .ok (.sipush 220, 3) := by decide +kernel
theorem dX5_both_71 : decode cX5_both 71 = .ok (.invokevirtual 224, 3) := by decide +kernel
theorem dX5_both_74 : decode cX5_both 74 = .ok (.aload_n 0, 1) := by decide +kernel
theorem dX5_both_75 : decode cX5_both 75 = .ok (.sipush 220, 3) := by decide +kernel
theorem dX5_both_78 : decode cX5_both 78 = .ok (.iload 4, 2) := by decide +kernel
theorem dX5_both_80 : decode cX5_both 80 = .ok (.iconst 3, 1) := by decide +kernel
theorem dX5_both_81 : decode cX5_both 81 = .ok (.aload_n 0, 1) := by decide +kernel
theorem dX5_both_82 : decode cX5_both 82 = .ok (.getfield 70, 3) := by decide +kernel
theorem dX5_both_85 : decode cX5_both 85 = .ok (.bipush 18, 2) := by decide +kernel
theorem dX5_both_87 : decode cX5_both 87 = .ok (.iaload, 1) := by decide +kernel
theorem dX5_both_88 : decode cX5_both 88 = .ok (.invokevirtual 205, 3) := by decide +kernel
theorem dX5_both_91 : decode cX5_both 91 = .ok (.aload_n 0, 1) := by decide +kernel
theorem dX5_both_92 : decode cX5_both 92 = .ok (.sipush 220, 3) := by decide +kernel
theorem dX5_both_95 : decode cX5_both 95 = .ok (.iload 5, 2) := by decide +kernel
theorem dX5_both_97 : decode cX5_both 97 = .ok (.iconst 3, 1) := by decide +kernel
theorem dX5_both_98 : decode cX5_both 98 = .ok (.aload_n 0, 1) := by decide +kernel
theorem dX5_both_99 : decode cX5_both 99 = .ok (.getfield 70, 3) := by decide +kernel
theorem dX5_both_102 : decode cX5_both 102 = .ok (.bipush 18, 2) := by decide +kernel
theorem dX5_both_104 : decode cX5_both 104 = .ok (.iaload, 1) := by decide +kernel
theorem dX5_both_105 : decode cX5_both 105 = .ok (.invokevirtual 205, 3) := by decide +kernel
theorem dX5_both_108 : decode cX5_both 108 = .ok (.aload_n 0, 1) := by decide +kernel
theorem dX5_both_109 : decode cX5_both 109 = .ok (.invokevirtual 247, 3) := by decide +kernel
theorem dX5_both_112 : decode cX5_both 112 = .ok (.istore 6, 2) := by decide +kernel
theorem dX5_both_114 : decode cX5_both 114 = .ok (.iload_n 3, 1) := by decide +kernel
theorem dX5_both_115 : decode cX5_both 115 = .ok (.ifCond .lt 9, 3) := by decide +kernel
theorem dX5_both_118 : decode cX5_both 118 = .ok (.iload 6, 2) := by decide +kernel
theorem dX5_both_120 : decode cX5_both 120 = .ok (.iload_n 2, 1) := by decide +kernel
theorem dX5_both_121 : decode cX5_both 121 = .ok (.if_icmp .le 7, 3) := by decide +kernel
theorem dX5_both_124 : decode cX5_both 124 = .ok (.iconst 1, 1) := by decide +kernel
theorem dX5_both_125 : decode cX5_both 125 = .ok (.goto 4, 3) := by decide +kernel
theorem dX5_both_128 : decode cX5_both 128 = .ok (.iconst 0, 1) := by decide +kernel
theorem dX5_both_129 : decode cX5_both 129 = .ok (.istore 7, 2) := by decide +kernel
theorem dX5_both_131 : decode cX5_both 131 = .ok (.iload 7, 2) := by decide +kernel
theorem dX5_both_133 : decode cX5_both 133 = .ok (.ifCond .eq 14, 3) := by decide +kernel
theorem dX5_both_136 : decode cX5_both 136 = .ok (.bipush 10, 2) := by decide +kernel
theorem dX5_both_138 : decode cX5_both 138 = .ok (.iload 4, 2) := by decide +kernel
theorem dX5_both_140 : decode cX5_both 140 = .ok (.imul, 1) := by decide +kernel
theorem dX5_both_141 : decode cX5_both 141 = .ok (.iload 5, 2) := by decide +kernel
theorem dX5_both_143 : decode cX5_both 143 = .ok (.iadd, 1) := by decide +kernel
theorem dX5_both_144 : decode cX5_both 144 = .ok (.goto 4, 3) := by decide +kernel
theorem dX5_both_147 : decode cX5_both 147 = .ok (.iload_n 3, 1) := by decide +kernel
theorem dX5_both_148 : decode cX5_both 148 = .ok (.istore_n 3, 1) := by decide +kernel
theorem dX5_both_149 : decode cX5_both 149 = .ok (.iload 7, 2) := by decide +kernel
theorem dX5_both_151 : decode cX5_both 151 = .ok (.ifCond .eq 8, 3) := by decide +kernel
theorem dX5_both_154 : decode cX5_both 154 = .ok (.iload 6, 2) := by decide +kernel
theorem dX5_both_156 : decode cX5_both 156 = .ok (.goto 4, 3) := by decide +kernel
theorem dX5_both_159 : decode cX5_both 159 = .ok (.iload_n 2, 1) := by decide +kernel
theorem dX5_both_160 : decode cX5_both 160 = .ok (.istore_n 2, 1) := by decide +kernel
theorem dX5_both_161 : decode cX5_both 161 = .ok (.iinc 5 1, 3) := by decide +kernel
theorem dX5_both_164 : decode cX5_both 164 = .ok (.goto (-129), 3) := by decide +kernel
theorem dX5_both_167 : decode cX5_both 167 = .ok (.iinc 4 1, 3) := by decide +kernel
theorem dX5_both_170 : decode cX5_both 170 = .ok (.goto (-150), 3) := by decide +kernel
theorem dX5_both_173 : decode cX5_both 173 = .ok (.iload_n 3, 1) := by decide +kernel
theorem dX5_both_174 : decode cX5_both 174 = .ok (.ifCond .lt 7, 3) := by decide +kernel
theorem dX5_both_177 : decode cX5_both 177 = .ok (.iload_n 1, 1) := by decide +kernel
theorem dX5_both_178 : decode cX5_both 178 = .ok (.ifCond .ne 7, 3) := by decide +kernel
theorem dX5_both_181 : decode cX5_both 181 = .ok (.iload_n 3, 1) := by decide +kernel
theorem dX5_both_182 : decode cX5_both 182 = .ok (.goto 8, 3) := by decide +kernel
theorem dX5_both_185 : decode cX5_both 185 = .ok (.iload_n 2, 1) := by decide +kernel
theorem dX5_both_186 : decode cX5_both 186 = .ok (.sipush 10000, 3) := by decide +kernel
theorem dX5_both_189 : decode cX5_both 189 = .ok (.iadd, 1) := by decide +kernel
theorem dX5_both_190 : decode cX5_both 190 = .ok (.ireturn, 1) := by decide +kernel
set_option maxRecDepth 20000 in
theorem ggX5_never_X5_in : GoodIn wsX5_never wsX5_in := goodIn_r _ [7] (by decide +kernel) (by decide +kernel)
set_option maxRecDepth 20000 in
theorem gX5_never_X5_in : GoodIn wsX5_never (va_wsS RX5 119 yX5_in wsX5_in) := goodIn_app (goodIn_of _ (by decide +kernel)) ggX5_never_X5_in
set_option maxRecDepth 20000 in
theorem ggX5_never_X5_hadAsItIs : GoodIn wsX5_never wsX5_hadAsItIs := goodIn_r _ [11, 12, 13, 14, 6, 15, 2, 16, 17, 18, 19, 20, 21, 22, 23, 24, 25, 26, 27, 28, 1, 29, 30, 31, 32, 33, 34, 35, 36, 37, 38, 39, 40, 41, 42, 43, 44, 45, 46, 47, 48, 49, 50, 51, 52, 53, 54, 55, 56, 57, 58, 59, 60, 3, 61, 62, 63, 64, 65, 66, 67, 68, 69, 70, 71, 72, 73, 74, 75, 76, 77, 78, 79, 80, 81, 82, 83, 84, 85, 86, 87, 88, 89, 90, 91, 92, 93, 94, 95, 96, 97, 98, 99, 100] (by decide +kernel) (by decide +kernel)
set_option maxRecDepth 20000 in
theorem gX5_never_X5_hadAsItIs : GoodIn wsX5_never (wsV RX5 250 RX5 yX5_hadAsItIs wsX5_hadAsItIs) := goodIn_app (goodIn_of _ (by decide +kernel)) ggX5_never_X5_hadAsItIs
set_option maxRecDepth 20000 in
theorem ggX5_never_X5_copies : GoodIn wsX5_never wsX5_copies := goodIn_r _ [15, 2, 62, 63, 64, 65, 66, 67, 68, 69, 70, 71, 72, 73, 74, 75, 76, 77, 78, 79, 80, 81, 82, 83, 84, 85, 86, 87, 88, 89, 90, 91, 92, 93, 94, 95, 96, 97, 98, 99, 100] (by decide +kernel) (by decide +kernel)
set_option maxRecDepth 20000 in
theorem gX5_never_X5_copies : GoodIn wsX5_never (wsV RX5 224 RX5 yX5_copies wsX5_copies) := goodIn_app (goodIn_of _ (by decide +kernel)) ggX5_never_X5_copies
set_option maxRecDepth 20000 in
theorem ggX5_never_X5_hadThen : GoodIn wsX5_never wsX5_hadThen := goodIn_r _ [19, 2, 20, 21, 22, 6, 23, 24, 25, 26, 27, 28, 1, 29, 30, 31, 32, 33, 34, 35, 36, 37, 38, 39, 40, 41, 42, 43, 44, 45, 46, 47, 48, 49, 50, 51, 52, 53, 54, 55, 56, 57, 58, 59, 60, 3, 61, 62, 63, 64, 65, 66, 67, 68, 69, 70, 71, 72, 73, 74, 75, 76, 77, 78, 79, 80, 81, 82, 83, 84, 85, 86, 87, 88, 89, 90, 91, 92, 93, 94, 95, 96, 97, 98, 99, 100] (by decide +kernel) (by decide +kernel)
set_option maxRecDepth 20000 in
theorem gX5_never_X5_hadThen : GoodIn wsX5_never (wsV RX5 247 RX5 yX5_hadThen wsX5_hadThen) := goodIn_app (goodIn_of _ (by decide +kernel)) ggX5_never_X5_hadThen
set_option maxRecDepth 20000 in
theorem ggX5_never_X5_larger : GoodIn wsX5_never wsX5_larger := goodIn_r _ [53] (by decide +kernel) (by decide +kernel)
set_option maxRecDepth 20000 in
theorem gX5_never_X5_larger : GoodIn wsX5_never (va_wsS RX5 188 yX5_larger wsX5_larger) := goodIn_app (goodIn_of _ (by decide +kernel)) ggX5_never_X5_larger
theorem dX5_never_0 : decode cX5_never 0 = .ok (.iload_n 1, 1) := by decide +kernel
theorem dX5_never_1 : decode cX5_never 1 = .ok (.i2l, 1) := by decide +kernel
theorem dX5_never_2 : decode cX5_never 2 = .ok (.lconst 0, 1) := by decide +kernel
theorem dX5_never_3 : decode cX5_never 3 = .ok (.lconst 1, 1) := by decide +kernel
theorem dX5_never_4 : decode cX5_never 4 = .ok (.invokestatic 119, 3) := by decide +kernel
theorem dX5_never_7 : decode cX5_never 7 = .ok (.ifCond .ne 5, 3) := by decide +kernel
theorem dX5_never_10 : decode cX5_never 10 = .ok (.iconst (-1), 1) := by decide +kernel
theorem dX5_never_11 : decode cX5_never 11 = .ok (.ireturn, 1) := by decide +kernel
theorem dX5_never_12 : decode cX5_never 12 = .ok (.aload_n 0, 1) := by decide +kernel
theorem dX5_never_13 : decode cX5_never 13 = .ok (.invokevirtual 250, 3) := by decide +kernel
theorem dX5_never_16 : decode cX5_never 16 = .ok (.istore_n 2, 1) := by decide +kernel
theorem dX5_never_17 : decode cX5_never 17 = .ok (.bipush (-4), 2) := by decide +kernel
theorem dX5_never_19 : decode cX5_never 19 = .ok (.istore_n 3, 1) := by decide +kernel
theorem dX5_never_20 : decode cX5_never 20 = .ok (.iconst 0, 1) := by decide +kernel
theorem dX5_never_21 : decode cX5_never 21 = .ok (.istore 4, 2) := by decide +kernel
theorem dX5_never_23 : decode cX5_never 23 = .ok (.iload 4, 2) := by decide +kernel
theorem dX5_never_25 : decode cX5_never 25 = .ok (.aload_n 0, 1) := by decide +kernel
theorem dX5_never_26 : decode cX5_never 26 = .ok (.getfield 110, 3) := by decide +kernel
theorem dX5_never_29 : decode cX5_never 29 = .ok (.if_icmp .ge 77, 3) := by decide +kernel
theorem dX5_never_32 : decode cX5_never 32 = .ok (.aload_n 0, 1) := by decide +kernel
theorem dX5_never_33 : decode cX5_never 33 = .ok (.getfield 70, 3) := by decide +kernel
theorem dX5_never_36 : decode cX5_never 36 = .ok (.iload 4, 2) := by decide +kernel
theorem dX5_never_38 : decode cX5_never 38 = .ok (.iaload, 1) := by decide +kernel
theorem dX5_never_39 : decode cX5_never 39 = .ok (.ifCond .ne 61, 3) := by decide +kernel
theorem dX5_never_42 : decode cX5_never 42 = .ok (.aload_n 0, 1) := by decide +kernel
theorem dX5_never_43 : decode cX5_never 43 = .ok (.iconst 0, 1) := by decide +kernel
theorem dX5_never_44 : decode cX5_never 44 = .ok (.sipush 220, 3) := by decide +kernel
theorem dX5_never_47 : decode cX5_never 47 = .ok (.invokevirtual 224, 3) := by decide +kernel
theorem dX5_never_50 : decode cX5_never 50 = .ok (.aload_n 0, 1) := by decide +kernel
theorem dX5_never_51 : decode cX5_never 51 = .ok (.getfield 70, 3) := by decide +kernel
theorem dX5_never_54 : decode cX5_never 54 = .ok (.sipush 227, 3) := by decide +kernel
theorem dX5_never_57 : decode cX5_never 57 = .ok (.iload 4, 2) := by decide +kernel
theorem dX5_never_59 : decode cX5_never 59 = .ok (.iadd, 1) := by decide +kernel
theorem dX5_never_60 : decode cX5_never 60 = .ok (.iconst (-1), 1) := by decide +kernel
theorem dX5_never_61 : decode cX5_never 61 = .ok (.iastore, 1) := by decide +kernel
theorem dX5_never_62 : decode cX5_never 62 = .ok (.aload_n 0, 1) := by decide +kernel
theorem dX5_never_63 : decode cX5_never 63 = .ok (.iload 4, 2) := by decide +kernel
theorem dX5_never_65 : decode cX5_never 65 = .ok (.putfield 83, 3) := by decide +kernel
theorem dX5_never_68 : decode cX5_never 68 = .ok (.aload_n 0, 1) := by decide +kernel
theorem dX5_never_69 : decode cX5_never 69 = .ok (.invokevirtual 247, 3) := by decide +kernel
theorem dX5_never_72 : decode cX5_never 72 = .ok (.istore 5, 2) := by decide +kernel
theorem dX5_never_74 : decode cX5_never 74 = .ok (.aload_n 0, 1) := by decide +kernel
theorem dX5_never_75 : decode cX5_never 75 = .ok (.bipush (-4), 2) := by decide +kernel
theorem dX5_never_77 : decode cX5_never 77 = .ok (.putfield 83, 3) := by decide +kernel
theorem dX5_never_80 : decode cX5_never 80 = .ok (.iload 5, 2) := by decide +kernel
theorem dX5_never_82 : decode cX5_never 82 = .ok (.iload_n 2, 1) := by decide +kernel
theorem dX5_never_83 : decode cX5_never 83 = .ok (.if_icmp .le 8, 3) := by decide +kernel
theorem dX5_never_86 : decode cX5_never 86 = .ok (.iload 4, 2) := by decide +kernel
theorem dX5_never_88 : decode cX5_never 88 = .ok (.goto 4, 3) := by decide +kernel
theorem dX5_never_91 : decode cX5_never 91 = .ok (.iload_n 3, 1) := by decide +kernel
theorem dX5_never_92 : decode cX5_never 92 = .ok (.istore_n 3, 1) := by decide +kernel
theorem dX5_never_93 : decode cX5_never 93 = .ok (.iload_n 2, 1) := by decide +kernel
theorem dX5_never_94 : decode cX5_never 94 = .ok (.iload 5, 2) := by decide +kernel
theorem dX5_never_96 : decode cX5_never 96 = .ok (.invokestatic 188, 3) := by decide +kernel
theorem dX5_never_99 : decode cX5_never 99 = .ok (.istore_n 2, 1) := by decide +kernel
theorem dX5_never_100 : decode cX5_never 100 = .ok (.iinc 4 1, 3) := by decide +kernel
theorem dX5_never_103 : decode cX5_never 103 = .ok (.goto (-80), 3) := by decide +kernel
theorem dX5_never_106 : decode cX5_never 106 = .ok (.iload_n 3, 1) := by decide +kernel
theorem dX5_never_107 : decode cX5_never 107 = .ok (.ifCond .lt 7, 3) := by decide +kernel
theorem dX5_never_110 : decode cX5_never 110 = .ok (.iload_n 1, 1) := by decide +kernel
theorem dX5_never_111 : decode cX5_never 111 = .ok (.ifCond .ne 7, 3) := by decide +kernel
theorem dX5_never_114 : decode cX5_never 114 = .ok (.iload_n 3, 1) := by decide +kernel
theorem dX5_never_115 : decode cX5_never 115 = .ok (.goto 8, 3) := by decide +kernel
theorem dX5_never_118 : decode cX5_never 118 = .ok (.iload_n 2, 1) := by decide +kernel
theorem dX5_never_119 : decode cX5_never 119 = .ok (.sipush 10000, 3) := by decide +kernel
theorem dX5_never_122 : decode cX5_never 122 = .ok (.iadd, 1) := by decide +kernel
theorem dX5_never_123 : decode cX5_never 123 = .ok (.ireturn, 1) := by decide +kernel
set_option maxRecDepth 20000 in
theorem ggX5_note_X5_in : GoodIn wsX5_note wsX5_in := goodIn_r _ [10] (by decide +kernel) (by decide +kernel)
set_option maxRecDepth 20000 in
theorem gX5_note_X5_in : GoodIn wsX5_note (va_wsS RX5 119 yX5_in wsX5_in) := goodIn_app (goodIn_of _ (by decide +kernel)) ggX5_note_X5_in
theorem dX5_note_0 : decode cX5_note 0 = .ok (.iload_n 1, 1) := by decide +kernel
theorem dX5_note_1 : decode cX5_note 1 = .ok (.i2l, 1) := by decide +kernel
theorem dX5_note_2 : decode cX5_note 2 = .ok (.lconst 0, 1) := by decide +kernel
theorem dX5_note_3 : decode cX5_note 3 = .ok (.ldc2_w 256, 3) := by decide +kernel
theorem dX5_note_6 : decode cX5_note 6 = .ok (.invokestatic 119, 3) := by decide +kernel
theorem dX5_note_9 : decode cX5_note 9 = .ok (.ifCond .eq 17, 3) := by decide +kernel
theorem dX5_note_12 : decode cX5_note 12 = .ok (.iload_n 2, 1) := by decide +kernel
theorem dX5_note_13 : decode cX5_note 13 = .ok (.i2l, 1) := by decide +kernel
theorem dX5_note_14 : decode cX5_note 14 = .ok (.ldc2_w 258, 3) := by decide +kernel
theorem dX5_note_17 : decode cX5_note 17 = .ok (.ldc2_w 260, 3) := by decide +kernel
theorem dX5_note_20 : decode cX5_note 20 = .ok (.invokestatic 119, 3) := by decide +kernel
theorem dX5_note_23 : decode cX5_note 23 = .ok (.ifCond .ne 5, 3) := by decide +kernel
theorem dX5_note_26 : decode cX5_note 26 = .ok (.iconst (-1), 1) := by decide +kernel
theorem dX5_note_27 : decode cX5_note 27 = .ok (.ireturn, 1) := by decide +kernel
theorem dX5_note_28 : decode cX5_note 28 = .ok (.aload_n 0, 1) := by decide +kernel
theorem dX5_note_29 : decode cX5_note 29 = .ok (.getfield 182, 3) := by decide +kernel
theorem dX5_note_32 : decode cX5_note 32 = .ok (.bipush 8, 2) := by decide +kernel
theorem dX5_note_34 : decode cX5_note 34 = .ok (.if_icmp .ne 6, 3) := by decide +kernel
theorem dX5_note_37 : decode cX5_note 37 = .ok (.bipush (-3), 2) := by decide +kernel
theorem dX5_note_39 : decode cX5_note 39 = .ok (.ireturn, 1) := by decide +kernel
theorem dX5_note_40 : decode cX5_note 40 = .ok (.aload_n 0, 1) := by decide +kernel
theorem dX5_note_41 : decode cX5_note 41 = .ok (.getfield 77, 3) := by decide +kernel
theorem dX5_note_44 : decode cX5_note 44 = .ok (.aload_n 0, 1) := by decide +kernel
theorem dX5_note_45 : decode cX5_note 45 = .ok (.getfield 182, 3) := by decide +kernel
theorem dX5_note_48 : decode cX5_note 48 = .ok (.iload_n 1, 1) := by decide +kernel
theorem dX5_note_49 : decode cX5_note 49 = .ok (.iastore, 1) := by decide +kernel
theorem dX5_note_50 : decode cX5_note 50 = .ok (.aload_n 0, 1) := by decide +kernel
theorem dX5_note_51 : decode cX5_note 51 = .ok (.getfield 80, 3) := by decide +kernel
theorem dX5_note_54 : decode cX5_note 54 = .ok (.aload_n 0, 1) := by decide +kernel
theorem dX5_note_55 : decode cX5_note 55 = .ok (.getfield 182, 3) := by decide +kernel
theorem dX5_note_58 : decode cX5_note 58 = .ok (.iload_n 2, 1) := by decide +kernel
theorem dX5_note_59 : decode cX5_note 59 = .ok (.iastore, 1) := by decide +kernel
theorem dX5_note_60 : decode cX5_note 60 = .ok (.aload_n 0, 1) := by decide +kernel
theorem dX5_note_61 : decode cX5_note 61 = .ok (.dup, 1) := by decide +kernel
theorem dX5_note_62 : decode cX5_note 62 = .ok (.getfield 182, 3) := by decide +kernel
theorem dX5_note_65 : decode cX5_note 65 = .ok (.iconst 1, 1) := by decide +kernel
theorem dX5_note_66 : decode cX5_note 66 = .ok (.iadd, 1) := by decide +kernel
theorem dX5_note_67 : decode cX5_note 67 = .ok (.putfield 182, 3) := by decide +kernel
theorem dX5_note_70 : decode cX5_note 70 = .ok (.aload_n 0, 1) := by decide +kernel
theorem dX5_note_71 : decode cX5_note 71 = .ok (.getfield 182, 3) := by decide +kernel
theorem dX5_note_74 : decode cX5_note 74 = .ok (.ireturn, 1) := by decide +kernel
theorem dX5_forget_0 : decode cX5_forget 0 = .ok (.aload_n 0, 1) := by decide +kernel
theorem dX5_forget_1 : decode cX5_forget 1 = .ok (.getfield 182, 3) := by decide +kernel
theorem dX5_forget_4 : decode cX5_forget 4 = .ok (.istore_n 1, 1) := by decide +kernel
theorem dX5_forget_5 : decode cX5_forget 5 = .ok (.aload_n 0, 1) := by decide +kernel
theorem dX5_forget_6 : decode cX5_forget 6 = .ok (.iconst 0, 1) := by decide +kernel
theorem dX5_forget_7 : decode cX5_forget 7 = .ok (.putfield 182, 3) := by decide +kernel
theorem dX5_forget_10 : decode cX5_forget 10 = .ok (.iload_n 1, 1) := by decide +kernel
theorem dX5_forget_11 : decode cX5_forget 11 = .ok (.ireturn, 1) := by decide +kernel
set_option maxRecDepth 20000 in
theorem ggX5_isSo_X5_worthOf : GoodIn wsX5_isSo wsX5_worthOf := goodIn_r _ [7, 8, 9, 6, 10, 11, 12, 13] (by decide +kernel) (by decide +kernel)
set_option maxRecDepth 20000 in
theorem gX5_isSo_X5_worthOf : GoodIn wsX5_isSo (va_wsS RX5 191 yX5_worthOf wsX5_worthOf) := goodIn_app (goodIn_of _ (by decide +kernel)) ggX5_isSo_X5_worthOf
theorem dX5_isSo_0 : decode cX5_isSo 0 = .ok (.iconst 1, 1) := by decide +kernel
theorem dX5_isSo_1 : decode cX5_isSo 1 = .ok (.istore 4, 2) := by decide +kernel
theorem dX5_isSo_3 : decode cX5_isSo 3 = .ok (.iconst 0, 1) := by decide +kernel
theorem dX5_isSo_4 : decode cX5_isSo 4 = .ok (.istore 5, 2) := by decide +kernel
theorem dX5_isSo_6 : decode cX5_isSo 6 = .ok (.iload 5, 2) := by decide +kernel
theorem dX5_isSo_8 : decode cX5_isSo 8 = .ok (.aload_n 0, 1) := by decide +kernel
theorem dX5_isSo_9 : decode cX5_isSo 9 = .ok (.getfield 182, 3) := by decide +kernel
theorem dX5_isSo_12 : decode cX5_isSo 12 = .ok (.if_icmp .ge 44, 3) := by decide +kernel
theorem dX5_isSo_15 : decode cX5_isSo 15 = .ok (.iload 4, 2) := by decide +kernel
theorem dX5_isSo_17 : decode cX5_isSo 17 = .ok (.ifCond .eq 30, 3) := by decide +kernel
theorem dX5_isSo_20 : decode cX5_isSo 20 = .ok (.iload_n 1, 1) := by decide +kernel
theorem dX5_isSo_21 : decode cX5_isSo 21 = .ok (.iload_n 2, 1) := by decide +kernel
theorem dX5_isSo_22 : decode cX5_isSo 22 = .ok (.iload_n 3, 1) := by decide +kernel
theorem dX5_isSo_23 : decode cX5_isSo 23 = .ok (.aload_n 0, 1) := by decide +kernel
theorem dX5_isSo_24 : decode cX5_isSo 24 = .ok (.getfield 77, 3) := by decide +kernel
theorem dX5_isSo_27 : decode cX5_isSo 27 = .ok (.iload 5, 2) := by decide +kernel
theorem dX5_isSo_29 : decode cX5_isSo 29 = .ok (.iaload, 1) := by decide +kernel
theorem dX5_isSo_30 : decode cX5_isSo 30 = .ok (.invokestatic 191, 3) := by decide +kernel
theorem dX5_isSo_33 : decode cX5_isSo 33 = .ok (.aload_n 0, 1) := by decide +kernel
theorem dX5_isSo_34 : decode cX5_isSo 34 = .ok (.getfield 80, 3) := by decide +kernel
theorem dX5_isSo_37 : decode cX5_isSo 37 = .ok (.iload 5, 2) := by decide +kernel
theorem dX5_isSo_39 : decode cX5_isSo 39 = .ok (.iaload, 1) := by decide +kernel
theorem dX5_isSo_40 : decode cX5_isSo 40 = .ok (.if_icmp .ne 7, 3) := by decide +kernel
theorem dX5_isSo_43 : decode cX5_isSo 43 = .ok (.iconst 1, 1) := by decide +kernel
theorem dX5_isSo_44 : decode cX5_isSo 44 = .ok (.goto 4, 3) := by decide +kernel
theorem dX5_isSo_47 : decode cX5_isSo 47 = .ok (.iconst 0, 1) := by decide +kernel
theorem dX5_isSo_48 : decode cX5_isSo 48 = .ok (.istore 4, 2) := by decide +kernel
theorem dX5_isSo_50 : decode cX5_isSo 50 = .ok (.iinc 5 1, 3) := by decide +kernel
theorem dX5_isSo_53 : decode cX5_isSo 53 = .ok (.goto (-47), 3) := by decide +kernel
theorem dX5_isSo_56 : decode cX5_isSo 56 = .ok (.iload 4, 2) := by decide +kernel
theorem dX5_isSo_58 : decode cX5_isSo 58 = .ok (.ireturn, 1) := by decide +kernel
set_option maxRecDepth 20000 in
theorem ggX5_waning_X5_in : GoodIn wsX5_waning wsX5_in := goodIn_r _ [4] (by decide +kernel) (by decide +kernel)
set_option maxRecDepth 20000 in
theorem gX5_waning_X5_in : GoodIn wsX5_waning (va_wsS RX5 119 yX5_in wsX5_in) := goodIn_app (goodIn_of _ (by decide +kernel)) ggX5_waning_X5_in
set_option maxRecDepth 20000 in
theorem ggX5_waning_X5_isSo : GoodIn wsX5_waning wsX5_isSo := goodIn_r _ [8, 9, 10, 11, 12, 13, 3, 14, 15, 16, 17, 18, 19, 20, 21, 22, 23, 24, 25, 26, 27, 28, 29, 30, 31, 32, 33, 34, 35, 36, 37, 38, 39, 40, 41, 42, 43, 44, 45, 46, 47, 48, 49, 50, 51, 52, 53, 54, 55, 56, 57, 58, 59] (by decide +kernel) (by decide +kernel)
set_option maxRecDepth 20000 in
theorem gX5_waning_X5_isSo : GoodIn wsX5_waning (wsV RX5 262 RX5 yX5_isSo wsX5_isSo) := goodIn_app (goodIn_of _ (by decide +kernel)) ggX5_waning_X5_isSo
theorem dX5_waning_0 : decode cX5_waning 0 = .ok (.iload_n 1, 1) := by decide +kernel
theorem dX5_waning_1 : decode cX5_waning 1 = .ok (.i2l, 1) := by decide +kernel
theorem dX5_waning_2 : decode cX5_waning 2 = .ok (.lconst 0, 1) := by decide +kernel
theorem dX5_waning_3 : decode cX5_waning 3 = .ok (.lconst 1, 1) := by decide +kernel
theorem dX5_waning_4 : decode cX5_waning 4 = .ok (.invokestatic 119, 3) := by decide +kernel
theorem dX5_waning_7 : decode cX5_waning 7 = .ok (.ifCond .ne 5, 3) := by decide +kernel
theorem dX5_waning_10 : decode cX5_waning 10 = .ok (.iconst (-1), 1) := by decide +kernel
theorem dX5_waning_11 : decode cX5_waning 11 = .ok (.ireturn, 1) := by decide +kernel
theorem dX5_waning_12 : decode cX5_waning 12 = .ok (.iconst 0, 1) := by decide +kernel
theorem dX5_waning_13 : decode cX5_waning 13 = .ok (.istore_n 2, 1) := by decide +kernel
theorem dX5_waning_14 : decode cX5_waning 14 = .ok (.bipush (-4), 2) := by decide +kernel
theorem dX5_waning_16 : decode cX5_waning 16 = .ok (.istore_n 3, 1) := by decide +kernel
theorem dX5_waning_17 : decode cX5_waning 17 = .ok (.bipush 20, 2) := by decide +kernel
theorem dX5_waning_19 : decode cX5_waning 19 = .ok (.istore 4, 2) := by decide +kernel
theorem dX5_waning_21 : decode cX5_waning 21 = .ok (.iload 4, 2) := by decide +kernel
theorem dX5_waning_23 : decode cX5_waning 23 = .ok (.ifCond .lt 68, 3) := by decide +kernel
theorem dX5_waning_26 : decode cX5_waning 26 = .ok (.iconst 5, 1) := by decide +kernel
theorem dX5_waning_27 : decode cX5_waning 27 = .ok (.istore 5, 2) := by decide +kernel
theorem dX5_waning_29 : decode cX5_waning 29 = .ok (.iload 5, 2) := by decide +kernel
theorem dX5_waning_31 : decode cX5_waning 31 = .ok (.ifCond .lt 54, 3) := by decide +kernel
theorem dX5_waning_34 : decode cX5_waning 34 = .ok (.iload_n 2, 1) := by decide +kernel
theorem dX5_waning_35 : decode cX5_waning 35 = .ok (.aload_n 0, 1) := by decide +kernel
theorem dX5_waning_36 : decode cX5_waning 36 = .ok (.iconst 0, 1) := by decide +kernel
theorem dX5_waning_37 : decode cX5_waning 37 = .ok (.iload 4, 2) := by decide +kernel
theorem dX5_waning_39 : decode cX5_waning 39 = .ok (.iload 5, 2) := by decide +kernel
theorem dX5_waning_41 : decode cX5_waning 41 = .ok (.invokevirtual 262, 3) := by decide +kernel
theorem dX5_waning_44 : decode cX5_waning 44 = .ok (.ifCond .eq 7, 3) := by decide +kernel
theorem dX5_waning_47 : decode cX5_waning 47 = .ok (.iconst 1, 1) := by decide +kernel
theorem dX5_waning_48 : decode cX5_waning 48 = .ok (.goto 4, 3) := by decide +kernel
theorem dX5_waning_51 : decode cX5_waning 51 = .ok (.iconst 0, 1) := by decide +kernel
theorem dX5_waning_52 : decode cX5_waning 52 = .ok (.iadd, 1) := by decide +kernel
theorem dX5_waning_53 : decode cX5_waning 53 = .ok (.istore_n 2, 1) := by decide +kernel
theorem dX5_waning_54 : decode cX5_waning 54 = .ok (.aload_n 0, 1) := by decide +kernel
theorem dX5_waning_55 : decode cX5_waning 55 = .ok (.iconst 0, 1) := by decide +kernel
theorem dX5_waning_56 : decode cX5_waning 56 = .ok (.iload 4, 2) := by decide +kernel
theorem dX5_waning_58 : decode cX5_waning 58 = .ok (.iload 5, 2) := by decide +kernel
theorem dX5_waning_60 : decode cX5_waning 60 = .ok (.invokevirtual 262, 3) := by decide +kernel
theorem dX5_waning_63 : decode cX5_waning 63 = .ok (.ifCond .eq 14, 3) := by decide +kernel
theorem dX5_waning_66 : decode cX5_waning 66 = .ok (.bipush 10, 2) := by decide +kernel
theorem dX5_waning_68 : decode cX5_waning 68 = .ok (.iload 4, 2) := by decide +kernel
theorem dX5_waning_70 : decode cX5_waning 70 = .ok (.imul, 1) := by decide +kernel
theorem dX5_waning_71 : decode cX5_waning 71 = .ok (.iload 5, 2) := by decide +kernel
theorem dX5_waning_73 : decode cX5_waning 73 = .ok (.iadd, 1) := by decide +kernel
theorem dX5_waning_74 : decode cX5_waning 74 = .ok (.goto 4, 3) := by decide +kernel
theorem dX5_waning_77 : decode cX5_waning 77 = .ok (.iload_n 3, 1) := by decide +kernel
theorem dX5_waning_78 : decode cX5_waning 78 = .ok (.istore_n 3, 1) := by decide +kernel
theorem dX5_waning_79 : decode cX5_waning 79 = .ok (.iinc 5 (-1), 3) := by decide +kernel
theorem dX5_waning_82 : decode cX5_waning 82 = .ok (.goto (-53), 3) := by decide +kernel
theorem dX5_waning_85 : decode cX5_waning 85 = .ok (.iinc 4 (-1), 3) := by decide +kernel
theorem dX5_waning_88 : decode cX5_waning 88 = .ok (.goto (-67), 3) := by decide +kernel
theorem dX5_waning_91 : decode cX5_waning 91 = .ok (.iload_n 1, 1) := by decide +kernel
theorem dX5_waning_92 : decode cX5_waning 92 = .ok (.ifCond .ne 7, 3) := by decide +kernel
theorem dX5_waning_95 : decode cX5_waning 95 = .ok (.iload_n 2, 1) := by decide +kernel
theorem dX5_waning_96 : decode cX5_waning 96 = .ok (.goto 4, 3) := by decide +kernel
theorem dX5_waning_99 : decode cX5_waning 99 = .ok (.iload_n 3, 1) := by decide +kernel
theorem dX5_waning_100 : decode cX5_waning 100 = .ok (.ireturn, 1) := by decide +kernel
set_option maxRecDepth 20000 in
theorem ggX5_kinds_X5_isGoing : GoodIn wsX5_kinds wsX5_isGoing := goodIn_r _ [7, 8, 9, 10, 6, 11, 28, 29, 30, 31, 32, 33, 34, 35, 36, 37, 38, 39, 40, 41, 42, 43, 44, 45, 46, 47, 48, 49, 50, 51, 52, 53, 54, 55, 56, 57, 58, 59, 60, 61, 62, 63, 64, 65, 66] (by decide +kernel) (by decide +kernel)
set_option maxRecDepth 20000 in
theorem gX5_kinds_X5_isGoing : GoodIn wsX5_kinds (wsV RX5 209 RX5 yX5_isGoing wsX5_isGoing) := goodIn_app (goodIn_of _ (by decide +kernel)) ggX5_kinds_X5_isGoing
set_option maxRecDepth 20000 in
theorem ggX5_kinds_X5_isSo : GoodIn wsX5_kinds wsX5_isSo := goodIn_r _ [15, 16, 17, 18, 19, 20, 6, 21, 22, 23, 24, 25, 26, 27, 28, 29, 30, 31, 32, 33, 34, 35, 36, 37, 38, 39, 40, 41, 42, 43, 44, 45, 46, 47, 48, 49, 50, 51, 52, 53, 54, 55, 56, 57, 58, 59, 60, 61, 62, 63, 64, 65, 66] (by decide +kernel) (by decide +kernel)
set_option maxRecDepth 20000 in
theorem gX5_kinds_X5_isSo : GoodIn wsX5_kinds (wsV RX5 262 RX5 yX5_isSo wsX5_isSo) := goodIn_app (goodIn_of _ (by decide +kernel)) ggX5_kinds_X5_isSo
theorem dX5_kinds_0 : decode cX5_kinds 0 = .ok (.aload_n 0, 1) := by decide +kernel
theorem dX5_kinds_1 : decode cX5_kinds 1 = .ok (.iload_n 1, 1) := by decide +kernel
theorem dX5_kinds_2 : decode cX5_kinds 2 = .ok (.invokevirtual 209, 3) := by decide +kernel
theorem dX5_kinds_5 : decode cX5_kinds 5 = .ok (.ifCond .ne 5, 3) := by decide +kernel
theorem dX5_kinds_8 : decode cX5_kinds 8 = .ok (.iconst (-1), 1) := by decide +kernel
theorem dX5_kinds_9 : decode cX5_kinds 9 = .ok (.ireturn, 1) := by decide +kernel
theorem dX5_kinds_10 : decode cX5_kinds 10 = .ok (.iconst 0, 1) := by decide +kernel
theorem dX5_kinds_11 : decode cX5_kinds 11 = .ok (.istore_n 2, 1) := by decide +kernel
theorem dX5_kinds_12 : decode cX5_kinds 12 = .ok (.iconst 0, 1) := by decide +kernel
theorem dX5_kinds_13 : decode cX5_kinds 13 = .ok (.istore_n 3, 1) := by decide +kernel
theorem dX5_kinds_14 : decode cX5_kinds 14 = .ok (.iload_n 3, 1) := by decide +kernel
theorem dX5_kinds_15 : decode cX5_kinds 15 = .ok (.iconst 4, 1) := by decide +kernel
theorem dX5_kinds_16 : decode cX5_kinds 16 = .ok (.if_icmp .ge 39, 3) := by decide +kernel
theorem dX5_kinds_19 : decode cX5_kinds 19 = .ok (.iload_n 2, 1) := by decide +kernel
theorem dX5_kinds_20 : decode cX5_kinds 20 = .ok (.aload_n 0, 1) := by decide +kernel
theorem dX5_kinds_21 : decode cX5_kinds 21 = .ok (.iload_n 3, 1) := by decide +kernel
theorem dX5_kinds_22 : decode cX5_kinds 22 = .ok (.aload_n 0, 1) := by decide +kernel
theorem dX5_kinds_23 : decode cX5_kinds 23 = .ok (.getfield 16, 3) := by decide +kernel
theorem dX5_kinds_26 : decode cX5_kinds 26 = .ok (.iload_n 1, 1) := by decide +kernel
theorem dX5_kinds_27 : decode cX5_kinds 27 = .ok (.iaload, 1) := by decide +kernel
theorem dX5_kinds_28 : decode cX5_kinds 28 = .ok (.aload_n 0, 1) := by decide +kernel
theorem dX5_kinds_29 : decode cX5_kinds 29 = .ok (.getfield 19, 3) := by decide +kernel
theorem dX5_kinds_32 : decode cX5_kinds 32 = .ok (.iload_n 1, 1) := by decide +kernel
theorem dX5_kinds_33 : decode cX5_kinds 33 = .ok (.iaload, 1) := by decide +kernel
theorem dX5_kinds_34 : decode cX5_kinds 34 = .ok (.invokevirtual 262, 3) := by decide +kernel
theorem dX5_kinds_37 : decode cX5_kinds 37 = .ok (.ifCond .eq 9, 3) := by decide +kernel
theorem dX5_kinds_40 : decode cX5_kinds 40 = .ok (.iconst 1, 1) := by decide +kernel
theorem dX5_kinds_41 : decode cX5_kinds 41 = .ok (.iload_n 3, 1) := by decide +kernel
theorem dX5_kinds_42 : decode cX5_kinds 42 = .ok (.ishl, 1) := by decide +kernel
theorem dX5_kinds_43 : decode cX5_kinds 43 = .ok (.goto 4, 3) := by decide +kernel
theorem dX5_kinds_46 : decode cX5_kinds 46 = .ok (.iconst 0, 1) := by decide +kernel
theorem dX5_kinds_47 : decode cX5_kinds 47 = .ok (.ior, 1) := by decide +kernel
theorem dX5_kinds_48 : decode cX5_kinds 48 = .ok (.istore_n 2, 1) := by decide +kernel
theorem dX5_kinds_49 : decode cX5_kinds 49 = .ok (.iinc 3 1, 3) := by decide +kernel
theorem dX5_kinds_52 : decode cX5_kinds 52 = .ok (.goto (-38), 3) := by decide +kernel
theorem dX5_kinds_55 : decode cX5_kinds 55 = .ok (.iload_n 2, 1) := by decide +kernel
theorem dX5_kinds_56 : decode cX5_kinds 56 = .ok (.ireturn, 1) := by decide +kernel
theorem dX5_isSoon_0 : decode cX5_isSoon 0 = .ok (.aload_n 0, 1) := by decide +kernel
theorem dX5_isSoon_1 : decode cX5_isSoon 1 = .ok (.getfield 70, 3) := by decide +kernel
theorem dX5_isSoon_4 : decode cX5_isSoon 4 = .ok (.iload_n 1, 1) := by decide +kernel
theorem dX5_isSoon_5 : decode cX5_isSoon 5 = .ok (.iaload, 1) := by decide +kernel
theorem dX5_isSoon_6 : decode cX5_isSoon 6 = .ok (.ifCond .ne 41, 3) := by decide +kernel
theorem dX5_isSoon_9 : decode cX5_isSoon 9 = .ok (.aload_n 0, 1) := by decide +kernel
theorem dX5_isSoon_10 : decode cX5_isSoon 10 = .ok (.getfield 70, 3) := by decide +kernel
theorem dX5_isSoon_13 : decode cX5_isSoon 13 = .ok (.bipush 7, 2) := by decide +kernel
theorem dX5_isSoon_15 : decode cX5_isSoon 15 = .ok (.iload_n 1, 1) := by decide +kernel
theorem dX5_isSoon_16 : decode cX5_isSoon 16 = .ok (.iadd, 1) := by decide +kernel
theorem dX5_isSoon_17 : decode cX5_isSoon 17 = .ok (.iaload, 1) := by decide +kernel
theorem dX5_isSoon_18 : decode cX5_isSoon 18 = .ok (.ifCond .lt 29, 3) := by decide +kernel
theorem dX5_isSoon_21 : decode cX5_isSoon 21 = .ok (.aload_n 0, 1) := by decide +kernel
theorem dX5_isSoon_22 : decode cX5_isSoon 22 = .ok (.getfield 70, 3) := by decide +kernel
theorem dX5_isSoon_25 : decode cX5_isSoon 25 = .ok (.bipush 7, 2) := by decide +kernel
theorem dX5_isSoon_27 : decode cX5_isSoon 27 = .ok (.iload_n 1, 1) := by decide +kernel
theorem dX5_isSoon_28 : decode cX5_isSoon 28 = .ok (.iadd, 1) := by decide +kernel
theorem dX5_isSoon_29 : decode cX5_isSoon 29 = .ok (.iaload, 1) := by decide +kernel
theorem dX5_isSoon_30 : decode cX5_isSoon 30 = .ok (.aload_n 0, 1) := by decide +kernel
theorem dX5_isSoon_31 : decode cX5_isSoon 31 = .ok (.getfield 70, 3) := by decide +kernel
theorem dX5_isSoon_34 : decode cX5_isSoon 34 = .ok (.bipush 18, 2) := by decide +kernel
theorem dX5_isSoon_36 : decode cX5_isSoon 36 = .ok (.iaload, 1) := by decide +kernel
theorem dX5_isSoon_37 : decode cX5_isSoon 37 = .ok (.bipush 8, 2) := by decide +kernel
theorem dX5_isSoon_39 : decode cX5_isSoon 39 = .ok (.iadd, 1) := by decide +kernel
theorem dX5_isSoon_40 : decode cX5_isSoon 40 = .ok (.if_icmp .gt 7, 3) := by decide +kernel
theorem dX5_isSoon_43 : decode cX5_isSoon 43 = .ok (.iconst 1, 1) := by decide +kernel
theorem dX5_isSoon_44 : decode cX5_isSoon 44 = .ok (.goto 4, 3) := by decide +kernel
theorem dX5_isSoon_47 : decode cX5_isSoon 47 = .ok (.iconst 0, 1) := by decide +kernel
theorem dX5_isSoon_48 : decode cX5_isSoon 48 = .ok (.ireturn, 1) := by decide +kernel
set_option maxRecDepth 20000 in
theorem ggX5_late_X5_in : GoodIn wsX5_late wsX5_in := goodIn_r _ [9] (by decide +kernel) (by decide +kernel)
set_option maxRecDepth 20000 in
theorem gX5_late_X5_in : GoodIn wsX5_late (va_wsS RX5 119 yX5_in wsX5_in) := goodIn_app (goodIn_of _ (by decide +kernel)) ggX5_late_X5_in
set_option maxRecDepth 20000 in
theorem ggX5_late_X5_copies : GoodIn wsX5_late wsX5_copies := goodIn_r _ [13, 5, 68, 69, 70, 71, 72, 73, 74, 75, 76, 77, 78, 79, 80, 81, 82, 83, 84, 85, 86, 87, 88, 89, 90, 91, 92, 93, 94, 95, 96, 97, 98, 99, 100, 101, 102, 103, 104, 105, 106] (by decide +kernel) (by decide +kernel)
set_option maxRecDepth 20000 in
theorem gX5_late_X5_copies : GoodIn wsX5_late (wsV RX5 224 RX5 yX5_copies wsX5_copies) := goodIn_app (goodIn_of _ (by decide +kernel)) ggX5_late_X5_copies
set_option maxRecDepth 20000 in
theorem ggX5_late_X5_isSoon : GoodIn wsX5_late wsX5_isSoon := goodIn_r _ [17, 5, 68, 69, 70, 71, 72, 73, 74, 75, 76, 77, 78, 79, 80, 81, 82, 83, 84, 85, 86, 87, 88, 89, 90, 91, 92, 93, 94, 95, 96, 97, 98, 99, 100, 101, 102, 103, 104, 105, 106] (by decide +kernel) (by decide +kernel)
set_option maxRecDepth 20000 in
theorem gX5_late_X5_isSoon : GoodIn wsX5_late (wsV RX5 269 RX5 yX5_isSoon wsX5_isSoon) := goodIn_app (goodIn_of _ (by decide +kernel)) ggX5_late_X5_isSoon
set_option maxRecDepth 20000 in
theorem ggX5_late_X5_has : GoodIn wsX5_late wsX5_has := goodIn_r _ [20] (by decide +kernel) (by decide +kernel)
set_option maxRecDepth 20000 in
theorem gX5_late_X5_has : GoodIn wsX5_late (va_wsS RX5 152 yX5_has wsX5_has) := goodIn_app (goodIn_of _ (by decide +kernel)) ggX5_late_X5_has
set_option maxRecDepth 20000 in
theorem ggX5_late_X5_hadThen : GoodIn wsX5_late wsX5_hadThen := goodIn_r _ [24, 5, 25, 26, 27, 8, 28, 29, 30, 31, 32, 33, 4, 34, 35, 36, 37, 38, 39, 40, 41, 42, 43, 44, 45, 46, 47, 48, 49, 50, 51, 52, 53, 54, 55, 56, 57, 58, 59, 60, 61, 62, 63, 64, 65, 66, 67, 68, 69, 70, 71, 72, 73, 74, 75, 76, 77, 78, 79, 80, 81, 82, 83, 84, 85, 86, 87, 88, 89, 90, 91, 92, 93, 94, 95, 96, 97, 98, 99, 100, 101, 102, 103, 104, 105, 106] (by decide +kernel) (by decide +kernel)
set_option maxRecDepth 20000 in
theorem gX5_late_X5_hadThen : GoodIn wsX5_late (wsV RX5 247 RX5 yX5_hadThen wsX5_hadThen) := goodIn_app (goodIn_of _ (by decide +kernel)) ggX5_late_X5_hadThen
theorem dX5_late_0 : decode cX5_late 0 = .ok (.iload_n 1, 1) := by decide +kernel
theorem dX5_late_1 : decode cX5_late 1 = .ok (.i2l, 1) := by decide +kernel
theorem dX5_late_2 : decode cX5_late 2 = .ok (.lconst 1, 1) := by decide +kernel
theorem dX5_late_3 : decode cX5_late 3 = .ok (.ldc2_w 260, 3) := by decide +kernel
theorem dX5_late_6 : decode cX5_late 6 = .ok (.invokestatic 119, 3) := by decide +kernel
theorem dX5_late_9 : decode cX5_late 9 = .ok (.ifCond .eq 38, 3) := by decide +kernel
theorem dX5_late_12 : decode cX5_late 12 = .ok (.iload_n 2, 1) := by decide +kernel
theorem dX5_late_13 : decode cX5_late 13 = .ok (.i2l, 1) := by decide +kernel
theorem dX5_late_14 : decode cX5_late 14 = .ok (.lconst 0, 1) := by decide +kernel
theorem dX5_late_15 : decode cX5_late 15 = .ok (.ldc2_w 265, 3) := by decide +kernel
theorem dX5_late_18 : decode cX5_late 18 = .ok (.invokestatic 119, 3) := by decide +kernel
theorem dX5_late_21 : decode cX5_late 21 = .ok (.ifCond .eq 26, 3) := by decide +kernel
theorem dX5_late_24 : decode cX5_late 24 = .ok (.iload_n 3, 1) := by decide +kernel
theorem dX5_late_25 : decode cX5_late 25 = .ok (.i2l, 1) := by decide +kernel
theorem dX5_late_26 : decode cX5_late 26 = .ok (.lconst 0, 1) := by decide +kernel
theorem dX5_late_27 : decode cX5_late 27 = .ok (.ldc2_w 267, 3) := by decide +kernel
theorem dX5_late_30 : decode cX5_late 30 = .ok (.invokestatic 119, 3) := by decide +kernel
theorem dX5_late_33 : decode cX5_late 33 = .ok (.ifCond .eq 14, 3) := by decide +kernel
theorem dX5_late_36 : decode cX5_late 36 = .ok (.iload 4, 2) := by decide +kernel
theorem dX5_late_38 : decode cX5_late 38 = .ok (.i2l, 1) := by decide +kernel
theorem dX5_late_39 : decode cX5_late 39 = .ok (.lconst 0, 1) := by decide +kernel
theorem dX5_late_40 : decode cX5_late 40 = .ok (.lconst 1, 1) := by decide +kernel
theorem dX5_late_41 : decode cX5_late 41 = .ok (.invokestatic 119, 3) := by decide +kernel
theorem dX5_late_44 : decode cX5_late 44 = .ok (.ifCond .ne 5, 3) := by decide +kernel
theorem dX5_late_47 : decode cX5_late 47 = .ok (.iconst (-1), 1) := by decide +kernel
theorem dX5_late_48 : decode cX5_late 48 = .ok (.ireturn, 1) := by decide +kernel
theorem dX5_late_49 : decode cX5_late 49 = .ok (.iconst 0, 1) := by decide +kernel
theorem dX5_late_50 : decode cX5_late 50 = .ok (.istore 5, 2) := by decide +kernel
theorem dX5_late_52 : decode cX5_late 52 = .ok (.iconst 0, 1) := by decide +kernel
theorem dX5_late_53 : decode cX5_late 53 = .ok (.istore 6, 2) := by decide +kernel
theorem dX5_late_55 : decode cX5_late 55 = .ok (.iconst 0, 1) := by decide +kernel
theorem dX5_late_56 : decode cX5_late 56 = .ok (.istore 7, 2) := by decide +kernel
theorem dX5_late_58 : decode cX5_late 58 = .ok (.iload 7, 2) := by decide +kernel
theorem dX5_late_60 : decode cX5_late 60 = .ok (.iconst 1, 1) := by decide +kernel
theorem dX5_late_61 : decode cX5_late 61 = .ok (.aload_n 0, 1) := by decide +kernel
theorem dX5_late_62 : decode cX5_late 62 = .ok (.getfield 110, 3) := by decide +kernel
theorem dX5_late_65 : decode cX5_late 65 = .ok (.ishl, 1) := by decide +kernel
theorem dX5_late_66 : decode cX5_late 66 = .ok (.if_icmp .ge 173, 3) := by decide +kernel
theorem dX5_late_69 : decode cX5_late 69 = .ok (.aload_n 0, 1) := by decide +kernel
theorem dX5_late_70 : decode cX5_late 70 = .ok (.iconst 0, 1) := by decide +kernel
theorem dX5_late_71 : decode cX5_late 71 = .ok (.sipush 220, 3) := by decide +kernel
theorem dX5_late_74 : decode cX5_late 74 = .ok (.invokevirtual 224, 3) := by decide +kernel
theorem dX5_late_77 : decode cX5_late 77 = .ok (.iconst 1, 1) := by decide +kernel
theorem dX5_late_78 : decode cX5_late 78 = .ok (.istore 8, 2) := by decide +kernel
theorem dX5_late_80 : decode cX5_late 80 = .ok (.iconst 1, 1) := by decide +kernel
theorem dX5_late_81 : decode cX5_late 81 = .ok (.istore 9, 2) := by decide +kernel
theorem dX5_late_83 : decode cX5_late 83 = .ok (.iconst 0, 1) := by decide +kernel
theorem dX5_late_84 : decode cX5_late 84 = .ok (.istore 10, 2) := by decide +kernel
theorem dX5_late_86 : decode cX5_late 86 = .ok (.iload 10, 2) := by decide +kernel
theorem dX5_late_88 : decode cX5_late 88 = .ok (.aload_n 0, 1) := by decide +kernel
theorem dX5_late_89 : decode cX5_late 89 = .ok (.getfield 110, 3) := by decide +kernel
theorem dX5_late_92 : decode cX5_late 92 = .ok (.if_icmp .ge 110, 3) := by decide +kernel
theorem dX5_late_95 : decode cX5_late 95 = .ok (.aload_n 0, 1) := by decide +kernel
end
section
theorem dX5_late_96 : decode cX5_late 96 = .ok (.iload 10, 2) := by decide +kernel
theorem dX5_late_98 : decode cX5_late 98 = .ok (.invokevirtual 269, 3) := by decide +kernel
theorem dX5_late_101 : decode cX5_late 101 = .ok (.istore 11, 2) := by decide +kernel
theorem dX5_late_103 : decode cX5_late 103 = .ok (.iload 9, 2) := by decide +kernel
theorem dX5_late_105 : decode cX5_late 105 = .ok (.ifCond .eq 22, 3) := by decide +kernel
theorem dX5_late_108 : decode cX5_late 108 = .ok (.iload 11, 2) := by decide +kernel
theorem dX5_late_110 : decode cX5_late 110 = .ok (.ifCond .ne 13, 3) := by decide +kernel
theorem dX5_late_113 : decode cX5_late 113 = .ok (.iload 7, 2) := by decide +kernel
theorem dX5_late_115 : decode cX5_late 115 = .ok (.iload 10, 2) := by decide +kernel
theorem dX5_late_117 : decode cX5_late 117 = .ok (.invokestatic 152, 3) := by decide +kernel
theorem dX5_late_120 : decode cX5_late 120 = .ok (.ifCond .ne 7, 3) := by decide +kernel
theorem dX5_late_123 : decode cX5_late 123 = .ok (.iconst 1, 1) := by decide +kernel
theorem dX5_late_124 : decode cX5_late 124 = .ok (.goto 4, 3) := by decide +kernel
theorem dX5_late_127 : decode cX5_late 127 = .ok (.iconst 0, 1) := by decide +kernel
theorem dX5_late_128 : decode cX5_late 128 = .ok (.istore 9, 2) := by decide +kernel
theorem dX5_late_130 : decode cX5_late 130 = .ok (.iload 8, 2) := by decide +kernel
theorem dX5_late_132 : decode cX5_late 132 = .ok (.iload 11, 2) := by decide +kernel
theorem dX5_late_134 : decode cX5_late 134 = .ok (.ifCond .eq 24, 3) := by decide +kernel
theorem dX5_late_137 : decode cX5_late 137 = .ok (.iload 7, 2) := by decide +kernel
theorem dX5_late_139 : decode cX5_late 139 = .ok (.iload 10, 2) := by decide +kernel
theorem dX5_late_141 : decode cX5_late 141 = .ok (.invokestatic 152, 3) := by decide +kernel
theorem dX5_late_144 : decode cX5_late 144 = .ok (.ifCond .eq 7, 3) := by decide +kernel
theorem dX5_late_147 : decode cX5_late 147 = .ok (.iload_n 2, 1) := by decide +kernel
theorem dX5_late_148 : decode cX5_late 148 = .ok (.goto 11, 3) := by decide +kernel
theorem dX5_late_151 : decode cX5_late 151 = .ok (.bipush 10, 2) := by decide +kernel
theorem dX5_late_153 : decode cX5_late 153 = .ok (.iload_n 2, 1) := by decide +kernel
theorem dX5_late_154 : decode cX5_late 154 = .ok (.isub, 1) := by decide +kernel
theorem dX5_late_155 : decode cX5_late 155 = .ok (.goto 4, 3) := by decide +kernel
theorem dX5_late_158 : decode cX5_late 158 = .ok (.iconst 1, 1) := by decide +kernel
theorem dX5_late_159 : decode cX5_late 159 = .ok (.imul, 1) := by decide +kernel
theorem dX5_late_160 : decode cX5_late 160 = .ok (.istore 8, 2) := by decide +kernel
theorem dX5_late_162 : decode cX5_late 162 = .ok (.aload_n 0, 1) := by decide +kernel
theorem dX5_late_163 : decode cX5_late 163 = .ok (.getfield 70, 3) := by decide +kernel
theorem dX5_late_166 : decode cX5_late 166 = .ok (.sipush 227, 3) := by decide +kernel
theorem dX5_late_169 : decode cX5_late 169 = .ok (.iload 10, 2) := by decide +kernel
theorem dX5_late_171 : decode cX5_late 171 = .ok (.iadd, 1) := by decide +kernel
theorem dX5_late_172 : decode cX5_late 172 = .ok (.dup2, 1) := by decide +kernel
theorem dX5_late_173 : decode cX5_late 173 = .ok (.iaload, 1) := by decide +kernel
theorem dX5_late_174 : decode cX5_late 174 = .ok (.iload 11, 2) := by decide +kernel
theorem dX5_late_176 : decode cX5_late 176 = .ok (.ifCond .eq 17, 3) := by decide +kernel
theorem dX5_late_179 : decode cX5_late 179 = .ok (.iload 7, 2) := by decide +kernel
theorem dX5_late_181 : decode cX5_late 181 = .ok (.iload 10, 2) := by decide +kernel
theorem dX5_late_183 : decode cX5_late 183 = .ok (.invokestatic 152, 3) := by decide +kernel
theorem dX5_late_186 : decode cX5_late 186 = .ok (.ifCond .eq 7, 3) := by decide +kernel
theorem dX5_late_189 : decode cX5_late 189 = .ok (.iload_n 1, 1) := by decide +kernel
theorem dX5_late_190 : decode cX5_late 190 = .ok (.goto 4, 3) := by decide +kernel
theorem dX5_late_193 : decode cX5_late 193 = .ok (.iconst 0, 1) := by decide +kernel
theorem dX5_late_194 : decode cX5_late 194 = .ok (.iadd, 1) := by decide +kernel
theorem dX5_late_195 : decode cX5_late 195 = .ok (.iastore, 1) := by decide +kernel
theorem dX5_late_196 : decode cX5_late 196 = .ok (.iinc 10 1, 3) := by decide +kernel
theorem dX5_late_199 : decode cX5_late 199 = .ok (.goto (-113), 3) := by decide +kernel
theorem dX5_late_202 : decode cX5_late 202 = .ok (.iload 9, 2) := by decide +kernel
theorem dX5_late_204 : decode cX5_late 204 = .ok (.ifCond .eq 29, 3) := by decide +kernel
theorem dX5_late_207 : decode cX5_late 207 = .ok (.iload 6, 2) := by decide +kernel
theorem dX5_late_209 : decode cX5_late 209 = .ok (.iload 8, 2) := by decide +kernel
theorem dX5_late_211 : decode cX5_late 211 = .ok (.iadd, 1) := by decide +kernel
theorem dX5_late_212 : decode cX5_late 212 = .ok (.istore 6, 2) := by decide +kernel
theorem dX5_late_214 : decode cX5_late 214 = .ok (.iload 5, 2) := by decide +kernel
theorem dX5_late_216 : decode cX5_late 216 = .ok (.aload_n 0, 1) := by decide +kernel
theorem dX5_late_217 : decode cX5_late 217 = .ok (.invokevirtual 247, 3) := by decide +kernel
theorem dX5_late_220 : decode cX5_late 220 = .ok (.iload_n 3, 1) := by decide +kernel
theorem dX5_late_221 : decode cX5_late 221 = .ok (.if_icmp .lt 8, 3) := by decide +kernel
theorem dX5_late_224 : decode cX5_late 224 = .ok (.iload 8, 2) := by decide +kernel
theorem dX5_late_226 : decode cX5_late 226 = .ok (.goto 4, 3) := by decide +kernel
theorem dX5_late_229 : decode cX5_late 229 = .ok (.iconst 0, 1) := by decide +kernel
theorem dX5_late_230 : decode cX5_late 230 = .ok (.iadd, 1) := by decide +kernel
theorem dX5_late_231 : decode cX5_late 231 = .ok (.istore 5, 2) := by decide +kernel
theorem dX5_late_233 : decode cX5_late 233 = .ok (.iinc 7 1, 3) := by decide +kernel
theorem dX5_late_236 : decode cX5_late 236 = .ok (.goto (-178), 3) := by decide +kernel
theorem dX5_late_239 : decode cX5_late 239 = .ok (.iload 5, 2) := by decide +kernel
theorem dX5_late_241 : decode cX5_late 241 = .ok (.istore 7, 2) := by decide +kernel
theorem dX5_late_243 : decode cX5_late 243 = .ok (.iload 6, 2) := by decide +kernel
theorem dX5_late_245 : decode cX5_late 245 = .ok (.istore 8, 2) := by decide +kernel
theorem dX5_late_247 : decode cX5_late 247 = .ok (.iload 8, 2) := by decide +kernel
theorem dX5_late_249 : decode cX5_late 249 = .ok (.ifCond .eq 21, 3) := by decide +kernel
theorem dX5_late_252 : decode cX5_late 252 = .ok (.iload 7, 2) := by decide +kernel
theorem dX5_late_254 : decode cX5_late 254 = .ok (.iload 8, 2) := by decide +kernel
theorem dX5_late_256 : decode cX5_late 256 = .ok (.irem, 1) := by decide +kernel
theorem dX5_late_257 : decode cX5_late 257 = .ok (.istore 9, 2) := by decide +kernel
theorem dX5_late_259 : decode cX5_late 259 = .ok (.iload 8, 2) := by decide +kernel
theorem dX5_late_261 : decode cX5_late 261 = .ok (.istore 7, 2) := by decide +kernel
theorem dX5_late_263 : decode cX5_late 263 = .ok (.iload 9, 2) := by decide +kernel
theorem dX5_late_265 : decode cX5_late 265 = .ok (.istore 8, 2) := by decide +kernel
theorem dX5_late_267 : decode cX5_late 267 = .ok (.goto (-20), 3) := by decide +kernel
theorem dX5_late_270 : decode cX5_late 270 = .ok (.iload 4, 2) := by decide +kernel
theorem dX5_late_272 : decode cX5_late 272 = .ok (.ifCond .ne 11, 3) := by decide +kernel
theorem dX5_late_275 : decode cX5_late 275 = .ok (.iload 5, 2) := by decide +kernel
theorem dX5_late_277 : decode cX5_late 277 = .ok (.iload 7, 2) := by decide +kernel
theorem dX5_late_279 : decode cX5_late 279 = .ok (.idiv, 1) := by decide +kernel
theorem dX5_late_280 : decode cX5_late 280 = .ok (.goto 8, 3) := by decide +kernel
theorem dX5_late_283 : decode cX5_late 283 = .ok (.iload 6, 2) := by decide +kernel
theorem dX5_late_285 : decode cX5_late 285 = .ok (.iload 7, 2) := by decide +kernel
theorem dX5_late_287 : decode cX5_late 287 = .ok (.idiv, 1) := by decide +kernel
theorem dX5_late_288 : decode cX5_late 288 = .ok (.ireturn, 1) := by decide +kernel
set_option maxRecDepth 20000 in
theorem ggX5_does_X5_canPin : GoodIn wsX5_does wsX5_canPin := goodIn_r _ [8, 3, 9, 10, 11, 12, 7, 13, 26, 27, 28, 29, 30, 31, 32, 33, 34, 35, 36, 37, 38, 39, 40, 41, 42, 43, 44, 45, 46, 47, 48, 49, 50, 51, 52, 53, 54, 55, 56, 57, 58, 59, 60, 61, 62, 63, 64] (by decide +kernel) (by decide +kernel)
set_option maxRecDepth 20000 in
theorem gX5_does_X5_canPin : GoodIn wsX5_does (wsV RX5 220 RX5 yX5_canPin wsX5_canPin) := goodIn_app (goodIn_of _ (by decide +kernel)) ggX5_does_X5_canPin
set_option maxRecDepth 20000 in
theorem ggX5_does_X5_ends : GoodIn wsX5_does wsX5_ends := goodIn_r _ [17, 3, 18, 19, 20, 21, 22, 23, 24, 7, 25, 26, 27, 28, 29, 30, 31, 32, 33, 34, 35, 36, 37, 38, 39, 40, 41, 42, 43, 44, 45, 46, 47, 48, 49, 50, 51, 52, 53, 54, 55, 56, 57, 58, 59, 60, 61, 62, 63, 64] (by decide +kernel) (by decide +kernel)
set_option maxRecDepth 20000 in
theorem gX5_does_X5_ends : GoodIn wsX5_does (wsV RX5 205 RX5 yX5_ends wsX5_ends) := goodIn_app (goodIn_of _ (by decide +kernel)) ggX5_does_X5_ends
theorem dX5_does_0 : decode cX5_does 0 = .ok (.iload_n 2, 1) := by decide +kernel
theorem dX5_does_1 : decode cX5_does 1 = .ok (.bipush 8, 2) := by decide +kernel
theorem dX5_does_3 : decode cX5_does 3 = .ok (.idiv, 1) := by decide +kernel
theorem dX5_does_4 : decode cX5_does 4 = .ok (.aload_n 0, 1) := by decide +kernel
theorem dX5_does_5 : decode cX5_does 5 = .ok (.getfield 116, 3) := by decide +kernel
theorem dX5_does_8 : decode cX5_does 8 = .ok (.irem, 1) := by decide +kernel
theorem dX5_does_9 : decode cX5_does 9 = .ok (.istore_n 3, 1) := by decide +kernel
theorem dX5_does_10 : decode cX5_does 10 = .ok (.iload_n 2, 1) := by decide +kernel
theorem dX5_does_11 : decode cX5_does 11 = .ok (.bipush 8, 2) := by decide +kernel
theorem dX5_does_13 : decode cX5_does 13 = .ok (.irem, 1) := by decide +kernel
theorem dX5_does_14 : decode cX5_does 14 = .ok (.istore 4, 2) := by decide +kernel
theorem dX5_does_16 : decode cX5_does 16 = .ok (.iload 4, 2) := by decide +kernel
theorem dX5_does_18 : decode cX5_does 18 = .ok (.iconst 2, 1) := by decide +kernel
theorem dX5_does_19 : decode cX5_does 19 = .ok (.if_icmp .ge 63, 3) := by decide +kernel
theorem dX5_does_22 : decode cX5_does 22 = .ok (.aload_n 0, 1) := by decide +kernel
theorem dX5_does_23 : decode cX5_does 23 = .ok (.iload_n 1, 1) := by decide +kernel
theorem dX5_does_24 : decode cX5_does 24 = .ok (.iload_n 3, 1) := by decide +kernel
theorem dX5_does_25 : decode cX5_does 25 = .ok (.iload_n 2, 1) := by decide +kernel
theorem dX5_does_26 : decode cX5_does 26 = .ok (.bipush 64, 2) := by decide +kernel
theorem dX5_does_28 : decode cX5_does 28 = .ok (.idiv, 1) := by decide +kernel
theorem dX5_does_29 : decode cX5_does 29 = .ok (.aload_n 0, 1) := by decide +kernel
theorem dX5_does_30 : decode cX5_does 30 = .ok (.getfield 110, 3) := by decide +kernel
theorem dX5_does_33 : decode cX5_does 33 = .ok (.irem, 1) := by decide +kernel
theorem dX5_does_34 : decode cX5_does 34 = .ok (.invokevirtual 220, 3) := by decide +kernel
theorem dX5_does_37 : decode cX5_does 37 = .ok (.ifCond .eq 45, 3) := by decide +kernel
theorem dX5_does_40 : decode cX5_does 40 = .ok (.aload_n 0, 1) := by decide +kernel
theorem dX5_does_41 : decode cX5_does 41 = .ok (.getfield 70, 3) := by decide +kernel
theorem dX5_does_44 : decode cX5_does 44 = .ok (.iload_n 1, 1) := by decide +kernel
theorem dX5_does_45 : decode cX5_does 45 = .ok (.bipush 14, 2) := by decide +kernel
theorem dX5_does_47 : decode cX5_does 47 = .ok (.iadd, 1) := by decide +kernel
theorem dX5_does_48 : decode cX5_does 48 = .ok (.iload_n 3, 1) := by decide +kernel
theorem dX5_does_49 : decode cX5_does 49 = .ok (.iadd, 1) := by decide +kernel
theorem dX5_does_50 : decode cX5_does 50 = .ok (.dup2, 1) := by decide +kernel
theorem dX5_does_51 : decode cX5_does 51 = .ok (.iaload, 1) := by decide +kernel
theorem dX5_does_52 : decode cX5_does 52 = .ok (.iconst 1, 1) := by decide +kernel
theorem dX5_does_53 : decode cX5_does 53 = .ok (.isub, 1) := by decide +kernel
theorem dX5_does_54 : decode cX5_does 54 = .ok (.iastore, 1) := by decide +kernel
theorem dX5_does_55 : decode cX5_does 55 = .ok (.aload_n 0, 1) := by decide +kernel
theorem dX5_does_56 : decode cX5_does 56 = .ok (.iload_n 1, 1) := by decide +kernel
theorem dX5_does_57 : decode cX5_does 57 = .ok (.iload_n 2, 1) := by decide +kernel
theorem dX5_does_58 : decode cX5_does 58 = .ok (.bipush 64, 2) := by decide +kernel
theorem dX5_does_60 : decode cX5_does 60 = .ok (.idiv, 1) := by decide +kernel
theorem dX5_does_61 : decode cX5_does 61 = .ok (.aload_n 0, 1) := by decide +kernel
theorem dX5_does_62 : decode cX5_does 62 = .ok (.getfield 110, 3) := by decide +kernel
theorem dX5_does_65 : decode cX5_does 65 = .ok (.irem, 1) := by decide +kernel
theorem dX5_does_66 : decode cX5_does 66 = .ok (.iconst 3, 1) := by decide +kernel
theorem dX5_does_67 : decode cX5_does 67 = .ok (.aload_n 0, 1) := by decide +kernel
theorem dX5_does_68 : decode cX5_does 68 = .ok (.getfield 70, 3) := by decide +kernel
theorem dX5_does_71 : decode cX5_does 71 = .ok (.iload_n 1, 1) := by decide +kernel
theorem dX5_does_72 : decode cX5_does 72 = .ok (.bipush 18, 2) := by decide +kernel
theorem dX5_does_74 : decode cX5_does 74 = .ok (.iadd, 1) := by decide +kernel
theorem dX5_does_75 : decode cX5_does 75 = .ok (.iaload, 1) := by decide +kernel
theorem dX5_does_76 : decode cX5_does 76 = .ok (.invokevirtual 205, 3) := by decide +kernel
theorem dX5_does_79 : decode cX5_does 79 = .ok (.goto 113, 3) := by decide +kernel
theorem dX5_does_82 : decode cX5_does 82 = .ok (.iload 4, 2) := by decide +kernel
theorem dX5_does_84 : decode cX5_does 84 = .ok (.iconst 2, 1) := by decide +kernel
theorem dX5_does_85 : decode cX5_does 85 = .ok (.if_icmp .ne 107, 3) := by decide +kernel
theorem dX5_does_88 : decode cX5_does 88 = .ok (.iload_n 2, 1) := by decide +kernel
theorem dX5_does_89 : decode cX5_does 89 = .ok (.bipush 64, 2) := by decide +kernel
theorem dX5_does_91 : decode cX5_does 91 = .ok (.idiv, 1) := by decide +kernel
theorem dX5_does_92 : decode cX5_does 92 = .ok (.aload_n 0, 1) := by decide +kernel
theorem dX5_does_93 : decode cX5_does 93 = .ok (.getfield 116, 3) := by decide +kernel
theorem dX5_does_96 : decode cX5_does 96 = .ok (.irem, 1) := by decide +kernel
theorem dX5_does_97 : decode cX5_does 97 = .ok (.istore 5, 2) := by decide +kernel
theorem dX5_does_99 : decode cX5_does 99 = .ok (.iload_n 3, 1) := by decide +kernel
theorem dX5_does_100 : decode cX5_does 100 = .ok (.iload 5, 2) := by decide +kernel
theorem dX5_does_102 : decode cX5_does 102 = .ok (.if_icmp .eq 38, 3) := by decide +kernel
theorem dX5_does_105 : decode cX5_does 105 = .ok (.aload_n 0, 1) := by decide +kernel
theorem dX5_does_106 : decode cX5_does 106 = .ok (.getfield 70, 3) := by decide +kernel
theorem dX5_does_109 : decode cX5_does 109 = .ok (.iload_n 1, 1) := by decide +kernel
theorem dX5_does_110 : decode cX5_does 110 = .ok (.bipush 14, 2) := by decide +kernel
theorem dX5_does_112 : decode cX5_does 112 = .ok (.iadd, 1) := by decide +kernel
theorem dX5_does_113 : decode cX5_does 113 = .ok (.iload_n 3, 1) := by decide +kernel
theorem dX5_does_114 : decode cX5_does 114 = .ok (.iadd, 1) := by decide +kernel
theorem dX5_does_115 : decode cX5_does 115 = .ok (.iaload, 1) := by decide +kernel
theorem dX5_does_116 : decode cX5_does 116 = .ok (.ifCond .le 24, 3) := by decide +kernel
theorem dX5_does_119 : decode cX5_does 119 = .ok (.aload_n 0, 1) := by decide +kernel
theorem dX5_does_120 : decode cX5_does 120 = .ok (.getfield 70, 3) := by decide +kernel
theorem dX5_does_123 : decode cX5_does 123 = .ok (.iload_n 1, 1) := by decide +kernel
theorem dX5_does_124 : decode cX5_does 124 = .ok (.bipush 14, 2) := by decide +kernel
theorem dX5_does_126 : decode cX5_does 126 = .ok (.iadd, 1) := by decide +kernel
theorem dX5_does_127 : decode cX5_does 127 = .ok (.iload 5, 2) := by decide +kernel
theorem dX5_does_129 : decode cX5_does 129 = .ok (.iadd, 1) := by decide +kernel
theorem dX5_does_130 : decode cX5_does 130 = .ok (.iaload, 1) := by decide +kernel
theorem dX5_does_131 : decode cX5_does 131 = .ok (.bipush 9, 2) := by decide +kernel
theorem dX5_does_133 : decode cX5_does 133 = .ok (.if_icmp .ge 7, 3) := by decide +kernel
theorem dX5_does_136 : decode cX5_does 136 = .ok (.iconst 1, 1) := by decide +kernel
theorem dX5_does_137 : decode cX5_does 137 = .ok (.goto 4, 3) := by decide +kernel
theorem dX5_does_140 : decode cX5_does 140 = .ok (.iconst 0, 1) := by decide +kernel
theorem dX5_does_141 : decode cX5_does 141 = .ok (.istore 6, 2) := by decide +kernel
theorem dX5_does_143 : decode cX5_does 143 = .ok (.aload_n 0, 1) := by decide +kernel
theorem dX5_does_144 : decode cX5_does 144 = .ok (.getfield 70, 3) := by decide +kernel
theorem dX5_does_147 : decode cX5_does 147 = .ok (.iload_n 1, 1) := by decide +kernel
theorem dX5_does_148 : decode cX5_does 148 = .ok (.bipush 14, 2) := by decide +kernel
theorem dX5_does_150 : decode cX5_does 150 = .ok (.iadd, 1) := by decide +kernel
theorem dX5_does_151 : decode cX5_does 151 = .ok (.iload_n 3, 1) := by decide +kernel
theorem dX5_does_152 : decode cX5_does 152 = .ok (.iadd, 1) := by decide +kernel
theorem dX5_does_153 : decode cX5_does 153 = .ok (.dup2, 1) := by decide +kernel
theorem dX5_does_154 : decode cX5_does 154 = .ok (.iaload, 1) := by decide +kernel
theorem dX5_does_155 : decode cX5_does 155 = .ok (.iload 6, 2) := by decide +kernel
theorem dX5_does_157 : decode cX5_does 157 = .ok (.ifCond .eq 7, 3) := by decide +kernel
theorem dX5_does_160 : decode cX5_does 160 = .ok (.iconst 1, 1) := by decide +kernel
theorem dX5_does_161 : decode cX5_does 161 = .ok (.goto 4, 3) := by decide +kernel
theorem dX5_does_164 : decode cX5_does 164 = .ok (.iconst 0, 1) := by decide +kernel
theorem dX5_does_165 : decode cX5_does 165 = .ok (.isub, 1) := by decide +kernel
theorem dX5_does_166 : decode cX5_does 166 = .ok (.iastore, 1) := by decide +kernel
theorem dX5_does_167 : decode cX5_does 167 = .ok (.aload_n 0, 1) := by decide +kernel
theorem dX5_does_168 : decode cX5_does 168 = .ok (.getfield 70, 3) := by decide +kernel
theorem dX5_does_171 : decode cX5_does 171 = .ok (.iload_n 1, 1) := by decide +kernel
theorem dX5_does_172 : decode cX5_does 172 = .ok (.bipush 14, 2) := by decide +kernel
theorem dX5_does_174 : decode cX5_does 174 = .ok (.iadd, 1) := by decide +kernel
theorem dX5_does_175 : decode cX5_does 175 = .ok (.iload 5, 2) := by decide +kernel
theorem dX5_does_177 : decode cX5_does 177 = .ok (.iadd, 1) := by decide +kernel
theorem dX5_does_178 : decode cX5_does 178 = .ok (.dup2, 1) := by decide +kernel
theorem dX5_does_179 : decode cX5_does 179 = .ok (.iaload, 1) := by decide +kernel
theorem dX5_does_180 : decode cX5_does 180 = .ok (.iload 6, 2) := by decide +kernel
theorem dX5_does_182 : decode cX5_does 182 = .ok (.ifCond .eq 7, 3) := by decide +kernel
theorem dX5_does_185 : decode cX5_does 185 = .ok (.iconst 1, 1) := by decide +kernel
theorem dX5_does_186 : decode cX5_does 186 = .ok (.goto 4, 3) := by decide +kernel
theorem dX5_does_189 : decode cX5_does 189 = .ok (.iconst 0, 1) := by decide +kernel
theorem dX5_does_190 : decode cX5_does 190 = .ok (.iadd, 1) := by decide +kernel
theorem dX5_does_191 : decode cX5_does 191 = .ok (.iastore, 1) := by decide +kernel
theorem dX5_does_192 : decode cX5_does 192 = .ok (.return_, 1) := by decide +kernel
theorem dX5_pins_0 : decode cX5_pins 0 = .ok (.iconst 0, 1) := by decide +kernel
theorem dX5_pins_1 : decode cX5_pins 1 = .ok (.istore_n 2, 1) := by decide +kernel
theorem dX5_pins_2 : decode cX5_pins 2 = .ok (.iconst 0, 1) := by decide +kernel
theorem dX5_pins_3 : decode cX5_pins 3 = .ok (.istore_n 3, 1) := by decide +kernel
theorem dX5_pins_4 : decode cX5_pins 4 = .ok (.iload_n 3, 1) := by decide +kernel
theorem dX5_pins_5 : decode cX5_pins 5 = .ok (.aload_n 0, 1) := by decide +kernel
theorem dX5_pins_6 : decode cX5_pins 6 = .ok (.getfield 116, 3) := by decide +kernel
theorem dX5_pins_9 : decode cX5_pins 9 = .ok (.if_icmp .ge 23, 3) := by decide +kernel
theorem dX5_pins_12 : decode cX5_pins 12 = .ok (.iload_n 2, 1) := by decide +kernel
theorem dX5_pins_13 : decode cX5_pins 13 = .ok (.aload_n 0, 1) := by decide +kernel
theorem dX5_pins_14 : decode cX5_pins 14 = .ok (.getfield 70, 3) := by decide +kernel
theorem dX5_pins_17 : decode cX5_pins 17 = .ok (.iload_n 1, 1) := by decide +kernel
theorem dX5_pins_18 : decode cX5_pins 18 = .ok (.bipush 14, 2) := by decide +kernel
theorem dX5_pins_20 : decode cX5_pins 20 = .ok (.iadd, 1) := by decide +kernel
theorem dX5_pins_21 : decode cX5_pins 21 = .ok (.iload_n 3, 1) := by decide +kernel
theorem dX5_pins_22 : decode cX5_pins 22 = .ok (.iadd, 1) := by decide +kernel
theorem dX5_pins_23 : decode cX5_pins 23 = .ok (.iaload, 1) := by decide +kernel
theorem dX5_pins_24 : decode cX5_pins 24 = .ok (.iadd, 1) := by decide +kernel
theorem dX5_pins_25 : decode cX5_pins 25 = .ok (.istore_n 2, 1) := by decide +kernel
theorem dX5_pins_26 : decode cX5_pins 26 = .ok (.iinc 3 1, 3) := by decide +kernel
theorem dX5_pins_29 : decode cX5_pins 29 = .ok (.goto (-25), 3) := by decide +kernel
theorem dX5_pins_32 : decode cX5_pins 32 = .ok (.iload_n 2, 1) := by decide +kernel
theorem dX5_pins_33 : decode cX5_pins 33 = .ok (.ireturn, 1) := by decide +kernel
set_option maxRecDepth 20000 in
theorem ggX5_season_X5_in : GoodIn wsX5_season wsX5_in := goodIn_r _ [11] (by decide +kernel) (by decide +kernel)
set_option maxRecDepth 20000 in
theorem gX5_season_X5_in : GoodIn wsX5_season (va_wsS RX5 119 yX5_in wsX5_in) := goodIn_app (goodIn_of _ (by decide +kernel)) ggX5_season_X5_in
set_option maxRecDepth 20000 in
theorem ggX5_season_X5_copies : GoodIn wsX5_season wsX5_copies := goodIn_r _ [15, 7, 76, 77, 78, 79, 80, 81, 82, 83, 84, 85, 86, 87, 88, 89, 90, 91, 92, 93, 94, 95, 96, 97, 98, 99, 100, 101, 102, 103, 104, 105, 106, 107, 108, 109, 110, 111, 112, 113, 114] (by decide +kernel) (by decide +kernel)
set_option maxRecDepth 20000 in
theorem gX5_season_X5_copies : GoodIn wsX5_season (wsV RX5 224 RX5 yX5_copies wsX5_copies) := goodIn_app (goodIn_of _ (by decide +kernel)) ggX5_season_X5_copies
set_option maxRecDepth 20000 in
theorem ggX5_season_X5_does : GoodIn wsX5_season wsX5_does := goodIn_r _ [19, 5, 20, 7, 21, 22, 23, 10, 24, 25, 26, 27, 28, 29, 30, 31, 32, 33, 34, 35, 36, 37, 38, 39, 40, 41, 76, 77, 78, 79, 80, 81, 82, 83, 84, 85, 86, 87, 88, 89, 90, 91, 92, 93, 94, 95, 96, 97, 98, 99, 100, 101, 102, 103, 104, 105, 106, 107, 108, 109, 110, 111, 112, 113, 114] (by decide +kernel) (by decide +kernel)
set_option maxRecDepth 20000 in
theorem gX5_season_X5_does : GoodIn wsX5_season (wsV RX5 280 RX5 yX5_does wsX5_does) := goodIn_app (goodIn_of _ (by decide +kernel)) ggX5_season_X5_does
set_option maxRecDepth 20000 in
theorem ggX5_season_X5_minutes : GoodIn wsX5_season wsX5_minutes := goodIn_r _ [45, 46, 47, 48, 49, 10, 50, 7, 20, 51, 52, 53, 54, 55, 56, 57, 58, 59, 60, 61, 62, 63, 26, 64, 65, 66, 67, 68, 39, 40, 41, 69, 70, 71, 30, 31, 32, 33, 34, 35, 36, 37, 38, 76, 77, 78, 79, 80, 81, 82, 83, 84, 85, 86, 87, 88, 89, 90, 91, 92, 93, 94, 95, 96, 97, 98, 99, 100, 101, 102, 103, 104, 105, 106, 107, 108, 109, 110, 111, 112, 113, 114] (by decide +kernel) (by decide +kernel)
set_option maxRecDepth 20000 in
theorem gX5_season_X5_minutes : GoodIn wsX5_season (wsV RX5 233 RX5 yX5_minutes wsX5_minutes) := goodIn_app (goodIn_of _ (by decide +kernel)) ggX5_season_X5_minutes
set_option maxRecDepth 20000 in
theorem ggX5_season_X5_pins : GoodIn wsX5_season wsX5_pins := goodIn_r _ [75, 5, 7, 76, 77, 78, 79, 80, 81, 82, 83, 84, 85, 86, 87, 88, 89, 90, 91, 92, 93, 94, 95, 96, 97, 98, 99, 100, 101, 102, 103, 104, 105, 106, 107, 108, 109, 110, 111, 112, 113, 114] (by decide +kernel) (by decide +kernel)
set_option maxRecDepth 20000 in
theorem gX5_season_X5_pins : GoodIn wsX5_season (wsV RX5 283 RX5 yX5_pins wsX5_pins) := goodIn_app (goodIn_of _ (by decide +kernel)) ggX5_season_X5_pins
theorem dX5_season_0 : decode cX5_season 0 = .ok (.iload_n 1, 1) := by decide +kernel
theorem dX5_season_1 : decode cX5_season 1 = .ok (.i2l, 1) := by decide +kernel
theorem dX5_season_2 : decode cX5_season 2 = .ok (.lconst 0, 1) := by decide +kernel
theorem dX5_season_3 : decode cX5_season 3 = .ok (.ldc2_w 272, 3) := by decide +kernel
theorem dX5_season_6 : decode cX5_season 6 = .ok (.invokestatic 119, 3) := by decide +kernel
theorem dX5_season_9 : decode cX5_season 9 = .ok (.ifCond .eq 25, 3) := by decide +kernel
theorem dX5_season_12 : decode cX5_season 12 = .ok (.iload_n 2, 1) := by decide +kernel
theorem dX5_season_13 : decode cX5_season 13 = .ok (.i2l, 1) := by decide +kernel
theorem dX5_season_14 : decode cX5_season 14 = .ok (.lconst 1, 1) := by decide +kernel
theorem dX5_season_15 : decode cX5_season 15 = .ok (.ldc2_w 242, 3) := by decide +kernel
theorem dX5_season_18 : decode cX5_season 18 = .ok (.invokestatic 119, 3) := by decide +kernel
theorem dX5_season_21 : decode cX5_season 21 = .ok (.ifCond .eq 13, 3) := by decide +kernel
theorem dX5_season_24 : decode cX5_season 24 = .ok (.iload_n 3, 1) := by decide +kernel
theorem dX5_season_25 : decode cX5_season 25 = .ok (.i2l, 1) := by decide +kernel
theorem dX5_season_26 : decode cX5_season 26 = .ok (.lconst 0, 1) := by decide +kernel
theorem dX5_season_27 : decode cX5_season 27 = .ok (.lconst 1, 1) := by decide +kernel
theorem dX5_season_28 : decode cX5_season 28 = .ok (.invokestatic 119, 3) := by decide +kernel
theorem dX5_season_31 : decode cX5_season 31 = .ok (.ifCond .ne 5, 3) := by decide +kernel
theorem dX5_season_34 : decode cX5_season 34 = .ok (.iconst (-1), 1) := by decide +kernel
theorem dX5_season_35 : decode cX5_season 35 = .ok (.ireturn, 1) := by decide +kernel
theorem dX5_season_36 : decode cX5_season 36 = .ok (.aload_n 0, 1) := by decide +kernel
theorem dX5_season_37 : decode cX5_season 37 = .ok (.iconst 0, 1) := by decide +kernel
theorem dX5_season_38 : decode cX5_season 38 = .ok (.sipush 220, 3) := by decide +kernel
theorem dX5_season_41 : decode cX5_season 41 = .ok (.invokevirtual 224, 3) := by decide +kernel
theorem dX5_season_44 : decode cX5_season 44 = .ok (.iconst 0, 1) := by decide +kernel
theorem dX5_season_45 : decode cX5_season 45 = .ok (.istore 4, 2) := by decide +kernel
theorem dX5_season_47 : decode cX5_season 47 = .ok (.iload 4, 2) := by decide +kernel
theorem dX5_season_49 : decode cX5_season 49 = .ok (.iload_n 2, 1) := by decide +kernel
theorem dX5_season_50 : decode cX5_season 50 = .ok (.if_icmp .ge 59, 3) := by decide +kernel
theorem dX5_season_53 : decode cX5_season 53 = .ok (.ldc2_w 274, 3) := by decide +kernel
theorem dX5_season_56 : decode cX5_season 56 = .ok (.iload_n 1, 1) := by decide +kernel
theorem dX5_season_57 : decode cX5_season 57 = .ok (.i2l, 1) := by decide +kernel
theorem dX5_season_58 : decode cX5_season 58 = .ok (.lmul, 1) := by decide +kernel
theorem dX5_season_59 : decode cX5_season 59 = .ok (.ldc2_w 276, 3) := by decide +kernel
theorem dX5_season_62 : decode cX5_season 62 = .ok (.iload 4, 2) := by decide +kernel
theorem dX5_season_64 : decode cX5_season 64 = .ok (.i2l, 1) := by decide +kernel
theorem dX5_season_65 : decode cX5_season 65 = .ok (.lmul, 1) := by decide +kernel
theorem dX5_season_66 : decode cX5_season 66 = .ok (.ladd, 1) := by decide +kernel
theorem dX5_season_67 : decode cX5_season 67 = .ok (.lconst 1, 1) := by decide +kernel
theorem dX5_season_68 : decode cX5_season 68 = .ok (.ladd, 1) := by decide +kernel
theorem dX5_season_69 : decode cX5_season 69 = .ok (.lstore 5, 2) := by decide +kernel
theorem dX5_season_71 : decode cX5_season 71 = .ok (.aload_n 0, 1) := by decide +kernel
theorem dX5_season_72 : decode cX5_season 72 = .ok (.getfield 116, 3) := by decide +kernel
theorem dX5_season_75 : decode cX5_season 75 = .ok (.ifCond .le 20, 3) := by decide +kernel
theorem dX5_season_78 : decode cX5_season 78 = .ok (.aload_n 0, 1) := by decide +kernel
theorem dX5_season_79 : decode cX5_season 79 = .ok (.sipush 220, 3) := by decide +kernel
theorem dX5_season_82 : decode cX5_season 82 = .ok (.lload 5, 2) := by decide +kernel
theorem dX5_season_84 : decode cX5_season 84 = .ok (.lload 5, 2) := by decide +kernel
theorem dX5_season_86 : decode cX5_season 86 = .ok (.lmul, 1) := by decide +kernel
theorem dX5_season_87 : decode cX5_season 87 = .ok (.ldc2_w 278, 3) := by decide +kernel
theorem dX5_season_90 : decode cX5_season 90 = .ok (.lrem, 1) := by decide +kernel
theorem dX5_season_91 : decode cX5_season 91 = .ok (.l2i, 1) := by decide +kernel
theorem dX5_season_92 : decode cX5_season 92 = .ok (.invokevirtual 280, 3) := by decide +kernel
theorem dX5_season_95 : decode cX5_season 95 = .ok (.aload_n 0, 1) := by decide +kernel
theorem dX5_season_96 : decode cX5_season 96 = .ok (.sipush 220, 3) := by decide +kernel
theorem dX5_season_99 : decode cX5_season 99 = .ok (.iconst 1, 1) := by decide +kernel
theorem dX5_season_100 : decode cX5_season 100 = .ok (.invokevirtual 233, 3) := by decide +kernel
theorem dX5_season_103 : decode cX5_season 103 = .ok (.iinc 4 1, 3) := by decide +kernel
theorem dX5_season_106 : decode cX5_season 106 = .ok (.goto (-59), 3) := by decide +kernel
theorem dX5_season_109 : decode cX5_season 109 = .ok (.iload_n 3, 1) := by decide +kernel
theorem dX5_season_110 : decode cX5_season 110 = .ok (.ifCond .ne 18, 3) := by decide +kernel
theorem dX5_season_113 : decode cX5_season 113 = .ok (.aload_n 0, 1) := by decide +kernel
theorem dX5_season_114 : decode cX5_season 114 = .ok (.getfield 70, 3) := by decide +kernel
theorem dX5_season_117 : decode cX5_season 117 = .ok (.sipush 239, 3) := by decide +kernel
theorem dX5_season_120 : decode cX5_season 120 = .ok (.iaload, 1) := by decide +kernel
theorem dX5_season_121 : decode cX5_season 121 = .ok (.sipush 10000, 3) := by decide +kernel
theorem dX5_season_124 : decode cX5_season 124 = .ok (.iadd, 1) := by decide +kernel
theorem dX5_season_125 : decode cX5_season 125 = .ok (.goto 10, 3) := by decide +kernel
theorem dX5_season_128 : decode cX5_season 128 = .ok (.aload_n 0, 1) := by decide +kernel
theorem dX5_season_129 : decode cX5_season 129 = .ok (.sipush 220, 3) := by decide +kernel
theorem dX5_season_132 : decode cX5_season 132 = .ok (.invokevirtual 283, 3) := by decide +kernel
theorem dX5_season_135 : decode cX5_season 135 = .ok (.ireturn, 1) := by decide +kernel
set_option maxRecDepth 20000 in
theorem ggX5_keep_X5_copies : GoodIn wsX5_keep wsX5_copies := goodIn_r _ [6, 7, 8, 9, 10, 11, 12, 13, 14, 15, 16, 17, 18, 19, 20, 21, 22, 23, 24, 25, 26, 27, 28, 29, 30, 31, 32, 33, 34, 35, 36, 37, 38, 39, 40, 41, 42, 43, 44, 45, 46] (by decide +kernel) (by decide +kernel)
set_option maxRecDepth 20000 in
theorem gX5_keep_X5_copies : GoodIn wsX5_keep (wsV RX5 224 RX5 yX5_copies wsX5_copies) := goodIn_app (goodIn_of _ (by decide +kernel)) ggX5_keep_X5_copies
theorem dX5_keep_0 : decode cX5_keep 0 = .ok (.aload_n 0, 1) := by decide +kernel
theorem dX5_keep_1 : decode cX5_keep 1 = .ok (.getfield 179, 3) := by decide +kernel
theorem dX5_keep_4 : decode cX5_keep 4 = .ok (.iconst 2, 1) := by decide +kernel
theorem dX5_keep_5 : decode cX5_keep 5 = .ok (.if_icmp .ne 6, 3) := by decide +kernel
theorem dX5_keep_8 : decode cX5_keep 8 = .ok (.bipush (-3), 2) := by decide +kernel
theorem dX5_keep_10 : decode cX5_keep 10 = .ok (.ireturn, 1) := by decide +kernel
theorem dX5_keep_11 : decode cX5_keep 11 = .ok (.aload_n 0, 1) := by decide +kernel
theorem dX5_keep_12 : decode cX5_keep 12 = .ok (.iconst 0, 1) := by decide +kernel
theorem dX5_keep_13 : decode cX5_keep 13 = .ok (.bipush 9, 2) := by decide +kernel
theorem dX5_keep_15 : decode cX5_keep 15 = .ok (.aload_n 0, 1) := by decide +kernel
theorem dX5_keep_16 : decode cX5_keep 16 = .ok (.getfield 179, 3) := by decide +kernel
theorem dX5_keep_19 : decode cX5_keep 19 = .ok (.iadd, 1) := by decide +kernel
theorem dX5_keep_20 : decode cX5_keep 20 = .ok (.bipush 20, 2) := by decide +kernel
theorem dX5_keep_22 : decode cX5_keep 22 = .ok (.imul, 1) := by decide +kernel
theorem dX5_keep_23 : decode cX5_keep 23 = .ok (.invokevirtual 224, 3) := by decide +kernel
theorem dX5_keep_26 : decode cX5_keep 26 = .ok (.aload_n 0, 1) := by decide +kernel
theorem dX5_keep_27 : decode cX5_keep 27 = .ok (.dup, 1) := by decide +kernel
theorem dX5_keep_28 : decode cX5_keep 28 = .ok (.getfield 179, 3) := by decide +kernel
theorem dX5_keep_31 : decode cX5_keep 31 = .ok (.iconst 1, 1) := by decide +kernel
theorem dX5_keep_32 : decode cX5_keep 32 = .ok (.iadd, 1) := by decide +kernel
theorem dX5_keep_33 : decode cX5_keep 33 = .ok (.putfield 179, 3) := by decide +kernel
theorem dX5_keep_36 : decode cX5_keep 36 = .ok (.aload_n 0, 1) := by decide +kernel
theorem dX5_keep_37 : decode cX5_keep 37 = .ok (.getfield 179, 3) := by decide +kernel
theorem dX5_keep_40 : decode cX5_keep 40 = .ok (.ireturn, 1) := by decide +kernel
set_option maxRecDepth 20000 in
theorem ggX5_back_X5_copies : GoodIn wsX5_back wsX5_copies := goodIn_r _ [7, 8, 9, 10, 11, 12, 13, 14, 15, 16, 17, 18, 19, 20, 21, 22, 23, 24, 25, 26, 27, 28, 29, 30, 31, 32, 33, 34, 35, 36, 37, 38, 39, 40, 41, 42, 43, 44, 45, 46, 47] (by decide +kernel) (by decide +kernel)
set_option maxRecDepth 20000 in
theorem gX5_back_X5_copies : GoodIn wsX5_back (wsV RX5 224 RX5 yX5_copies wsX5_copies) := goodIn_app (goodIn_of _ (by decide +kernel)) ggX5_back_X5_copies
theorem dX5_back_0 : decode cX5_back 0 = .ok (.aload_n 0, 1) := by decide +kernel
theorem dX5_back_1 : decode cX5_back 1 = .ok (.getfield 179, 3) := by decide +kernel
theorem dX5_back_4 : decode cX5_back 4 = .ok (.ifCond .ne 6, 3) := by decide +kernel
theorem dX5_back_7 : decode cX5_back 7 = .ok (.bipush (-2), 2) := by decide +kernel
theorem dX5_back_9 : decode cX5_back 9 = .ok (.ireturn, 1) := by decide +kernel
theorem dX5_back_10 : decode cX5_back 10 = .ok (.aload_n 0, 1) := by decide +kernel
theorem dX5_back_11 : decode cX5_back 11 = .ok (.dup, 1) := by decide +kernel
theorem dX5_back_12 : decode cX5_back 12 = .ok (.getfield 179, 3) := by decide +kernel
theorem dX5_back_15 : decode cX5_back 15 = .ok (.iconst 1, 1) := by decide +kernel
theorem dX5_back_16 : decode cX5_back 16 = .ok (.isub, 1) := by decide +kernel
theorem dX5_back_17 : decode cX5_back 17 = .ok (.putfield 179, 3) := by decide +kernel
theorem dX5_back_20 : decode cX5_back 20 = .ok (.aload_n 0, 1) := by decide +kernel
theorem dX5_back_21 : decode cX5_back 21 = .ok (.bipush 9, 2) := by decide +kernel
theorem dX5_back_23 : decode cX5_back 23 = .ok (.aload_n 0, 1) := by decide +kernel
theorem dX5_back_24 : decode cX5_back 24 = .ok (.getfield 179, 3) := by decide +kernel
theorem dX5_back_27 : decode cX5_back 27 = .ok (.iadd, 1) := by decide +kernel
theorem dX5_back_28 : decode cX5_back 28 = .ok (.bipush 20, 2) := by decide +kernel
theorem dX5_back_30 : decode cX5_back 30 = .ok (.imul, 1) := by decide +kernel
theorem dX5_back_31 : decode cX5_back 31 = .ok (.iconst 0, 1) := by decide +kernel
theorem dX5_back_32 : decode cX5_back 32 = .ok (.invokevirtual 224, 3) := by decide +kernel
theorem dX5_back_35 : decode cX5_back 35 = .ok (.aload_n 0, 1) := by decide +kernel
theorem dX5_back_36 : decode cX5_back 36 = .ok (.iconst 0, 1) := by decide +kernel
theorem dX5_back_37 : decode cX5_back 37 = .ok (.putfield 176, 3) := by decide +kernel
theorem dX5_back_40 : decode cX5_back 40 = .ok (.aload_n 0, 1) := by decide +kernel
theorem dX5_back_41 : decode cX5_back 41 = .ok (.getfield 179, 3) := by decide +kernel
theorem dX5_back_44 : decode cX5_back 44 = .ok (.ireturn, 1) := by decide +kernel
theorem dX5_manyOf_0 : decode cX5_manyOf 0 = .ok (.iconst 0, 1) := by decide +kernel
theorem dX5_manyOf_1 : decode cX5_manyOf 1 = .ok (.istore_n 2, 1) := by decide +kernel
theorem dX5_manyOf_2 : decode cX5_manyOf 2 = .ok (.iconst 0, 1) := by decide +kernel
theorem dX5_manyOf_3 : decode cX5_manyOf 3 = .ok (.istore_n 3, 1) := by decide +kernel
theorem dX5_manyOf_4 : decode cX5_manyOf 4 = .ok (.iload_n 3, 1) := by decide +kernel
theorem dX5_manyOf_5 : decode cX5_manyOf 5 = .ok (.aload_n 0, 1) := by decide +kernel
theorem dX5_manyOf_6 : decode cX5_manyOf 6 = .ok (.getfield 110, 3) := by decide +kernel
theorem dX5_manyOf_9 : decode cX5_manyOf 9 = .ok (.if_icmp .ge 27, 3) := by decide +kernel
theorem dX5_manyOf_12 : decode cX5_manyOf 12 = .ok (.iload_n 2, 1) := by decide +kernel
theorem dX5_manyOf_13 : decode cX5_manyOf 13 = .ok (.aload_n 0, 1) := by decide +kernel
theorem dX5_manyOf_14 : decode cX5_manyOf 14 = .ok (.getfield 70, 3) := by decide +kernel
theorem dX5_manyOf_17 : decode cX5_manyOf 17 = .ok (.iload_n 3, 1) := by decide +kernel
theorem dX5_manyOf_18 : decode cX5_manyOf 18 = .ok (.iaload, 1) := by decide +kernel
theorem dX5_manyOf_19 : decode cX5_manyOf 19 = .ok (.iload_n 1, 1) := by decide +kernel
theorem dX5_manyOf_20 : decode cX5_manyOf 20 = .ok (.if_icmp .ne 7, 3) := by decide +kernel
theorem dX5_manyOf_23 : decode cX5_manyOf 23 = .ok (.iconst 1, 1) := by decide +kernel
theorem dX5_manyOf_24 : decode cX5_manyOf 24 = .ok (.goto 4, 3) := by decide +kernel
theorem dX5_manyOf_27 : decode cX5_manyOf 27 = .ok (.iconst 0, 1) := by decide +kernel
theorem dX5_manyOf_28 : decode cX5_manyOf 28 = .ok (.iadd, 1) := by decide +kernel
theorem dX5_manyOf_29 : decode cX5_manyOf 29 = .ok (.istore_n 2, 1) := by decide +kernel
theorem dX5_manyOf_30 : decode cX5_manyOf 30 = .ok (.iinc 3 1, 3) := by decide +kernel
theorem dX5_manyOf_33 : decode cX5_manyOf 33 = .ok (.goto (-29), 3) := by decide +kernel
theorem dX5_manyOf_36 : decode cX5_manyOf 36 = .ok (.iload_n 2, 1) := by decide +kernel
theorem dX5_manyOf_37 : decode cX5_manyOf 37 = .ok (.ireturn, 1) := by decide +kernel
set_option maxRecDepth 20000 in
theorem ggX5_count_X5_manyOf : GoodIn wsX5_count wsX5_manyOf := goodIn_r _ [12, 1, 3, 17, 18, 19, 20, 21, 22, 23, 24, 25, 26, 27, 28, 29, 30, 31, 32, 33, 34, 35, 36, 37, 38, 39, 40, 41, 42, 43, 44, 45, 46, 47, 48, 49, 50, 51, 52, 53, 54, 55] (by decide +kernel) (by decide +kernel)
set_option maxRecDepth 20000 in
theorem gX5_count_X5_manyOf : GoodIn wsX5_count (wsV RX5 286 RX5 yX5_manyOf wsX5_manyOf) := goodIn_app (goodIn_of _ (by decide +kernel)) ggX5_count_X5_manyOf
set_option maxRecDepth 20000 in
theorem ggX5_count_X5_pins : GoodIn wsX5_count wsX5_pins := goodIn_r _ [16, 2, 3, 17, 18, 19, 20, 21, 22, 23, 24, 25, 26, 27, 28, 29, 30, 31, 32, 33, 34, 35, 36, 37, 38, 39, 40, 41, 42, 43, 44, 45, 46, 47, 48, 49, 50, 51, 52, 53, 54, 55] (by decide +kernel) (by decide +kernel)
set_option maxRecDepth 20000 in
theorem gX5_count_X5_pins : GoodIn wsX5_count (wsV RX5 283 RX5 yX5_pins wsX5_pins) := goodIn_app (goodIn_of _ (by decide +kernel)) ggX5_count_X5_pins
theorem dX5_count_0 : decode cX5_count 0 = .ok (.iload_n 1, 1) := by decide +kernel
theorem dX5_count_1 : decode cX5_count 1 = .ok (.ifCond .ne 10, 3) := by decide +kernel
theorem dX5_count_4 : decode cX5_count 4 = .ok (.aload_n 0, 1) := by decide +kernel
theorem dX5_count_5 : decode cX5_count 5 = .ok (.getfield 110, 3) := by decide +kernel
theorem dX5_count_8 : decode cX5_count 8 = .ok (.goto 170, 3) := by decide +kernel
theorem dX5_count_11 : decode cX5_count 11 = .ok (.iload_n 1, 1) := by decide +kernel
theorem dX5_count_12 : decode cX5_count 12 = .ok (.iconst 1, 1) := by decide +kernel
theorem dX5_count_13 : decode cX5_count 13 = .ok (.if_icmp .ne 10, 3) := by decide +kernel
theorem dX5_count_16 : decode cX5_count 16 = .ok (.aload_n 0, 1) := by decide +kernel
theorem dX5_count_17 : decode cX5_count 17 = .ok (.getfield 116, 3) := by decide +kernel
theorem dX5_count_20 : decode cX5_count 20 = .ok (.goto 158, 3) := by decide +kernel
theorem dX5_count_23 : decode cX5_count 23 = .ok (.iload_n 1, 1) := by decide +kernel
theorem dX5_count_24 : decode cX5_count 24 = .ok (.iconst 2, 1) := by decide +kernel
theorem dX5_count_25 : decode cX5_count 25 = .ok (.if_icmp .ne 13, 3) := by decide +kernel
theorem dX5_count_28 : decode cX5_count 28 = .ok (.aload_n 0, 1) := by decide +kernel
theorem dX5_count_29 : decode cX5_count 29 = .ok (.getfield 70, 3) := by decide +kernel
theorem dX5_count_32 : decode cX5_count 32 = .ok (.bipush 18, 2) := by decide +kernel
theorem dX5_count_34 : decode cX5_count 34 = .ok (.iaload, 1) := by decide +kernel
theorem dX5_count_35 : decode cX5_count 35 = .ok (.goto 143, 3) := by decide +kernel
theorem dX5_count_38 : decode cX5_count 38 = .ok (.iload_n 1, 1) := by decide +kernel
theorem dX5_count_39 : decode cX5_count 39 = .ok (.iconst 3, 1) := by decide +kernel
theorem dX5_count_40 : decode cX5_count 40 = .ok (.if_icmp .ne 11, 3) := by decide +kernel
theorem dX5_count_43 : decode cX5_count 43 = .ok (.aload_n 0, 1) := by decide +kernel
theorem dX5_count_44 : decode cX5_count 44 = .ok (.iconst 0, 1) := by decide +kernel
theorem dX5_count_45 : decode cX5_count 45 = .ok (.invokevirtual 286, 3) := by decide +kernel
theorem dX5_count_48 : decode cX5_count 48 = .ok (.goto 130, 3) := by decide +kernel
theorem dX5_count_51 : decode cX5_count 51 = .ok (.iload_n 1, 1) := by decide +kernel
theorem dX5_count_52 : decode cX5_count 52 = .ok (.iconst 4, 1) := by decide +kernel
theorem dX5_count_53 : decode cX5_count 53 = .ok (.if_icmp .ne 11, 3) := by decide +kernel
theorem dX5_count_56 : decode cX5_count 56 = .ok (.aload_n 0, 1) := by decide +kernel
theorem dX5_count_57 : decode cX5_count 57 = .ok (.iconst 1, 1) := by decide +kernel
theorem dX5_count_58 : decode cX5_count 58 = .ok (.invokevirtual 286, 3) := by decide +kernel
theorem dX5_count_61 : decode cX5_count 61 = .ok (.goto 117, 3) := by decide +kernel
theorem dX5_count_64 : decode cX5_count 64 = .ok (.iload_n 1, 1) := by decide +kernel
theorem dX5_count_65 : decode cX5_count 65 = .ok (.iconst 5, 1) := by decide +kernel
theorem dX5_count_66 : decode cX5_count 66 = .ok (.if_icmp .ne 11, 3) := by decide +kernel
theorem dX5_count_69 : decode cX5_count 69 = .ok (.aload_n 0, 1) := by decide +kernel
theorem dX5_count_70 : decode cX5_count 70 = .ok (.iconst 2, 1) := by decide +kernel
theorem dX5_count_71 : decode cX5_count 71 = .ok (.invokevirtual 286, 3) := by decide +kernel
theorem dX5_count_74 : decode cX5_count 74 = .ok (.goto 104, 3) := by decide +kernel
theorem dX5_count_77 : decode cX5_count 77 = .ok (.iload_n 1, 1) := by decide +kernel
theorem dX5_count_78 : decode cX5_count 78 = .ok (.bipush 6, 2) := by decide +kernel
theorem dX5_count_80 : decode cX5_count 80 = .ok (.if_icmp .ne 11, 3) := by decide +kernel
theorem dX5_count_83 : decode cX5_count 83 = .ok (.aload_n 0, 1) := by decide +kernel
theorem dX5_count_84 : decode cX5_count 84 = .ok (.iconst 3, 1) := by decide +kernel
theorem dX5_count_85 : decode cX5_count 85 = .ok (.invokevirtual 286, 3) := by decide +kernel
theorem dX5_count_88 : decode cX5_count 88 = .ok (.goto 90, 3) := by decide +kernel
theorem dX5_count_91 : decode cX5_count 91 = .ok (.iload_n 1, 1) := by decide +kernel
theorem dX5_count_92 : decode cX5_count 92 = .ok (.bipush 7, 2) := by decide +kernel
theorem dX5_count_94 : decode cX5_count 94 = .ok (.if_icmp .ne 17, 3) := by decide +kernel
theorem dX5_count_97 : decode cX5_count 97 = .ok (.aload_n 0, 1) := by decide +kernel
theorem dX5_count_98 : decode cX5_count 98 = .ok (.getfield 70, 3) := by decide +kernel
theorem dX5_count_101 : decode cX5_count 101 = .ok (.bipush 19, 2) := by decide +kernel
theorem dX5_count_103 : decode cX5_count 103 = .ok (.iaload, 1) := by decide +kernel
theorem dX5_count_104 : decode cX5_count 104 = .ok (.sipush 10000, 3) := by decide +kernel
theorem dX5_count_107 : decode cX5_count 107 = .ok (.iadd, 1) := by decide +kernel
theorem dX5_count_108 : decode cX5_count 108 = .ok (.goto 70, 3) := by decide +kernel
theorem dX5_count_111 : decode cX5_count 111 = .ok (.iload_n 1, 1) := by decide +kernel
theorem dX5_count_112 : decode cX5_count 112 = .ok (.bipush 8, 2) := by decide +kernel
theorem dX5_count_114 : decode cX5_count 114 = .ok (.if_icmp .ne 11, 3) := by decide +kernel
theorem dX5_count_117 : decode cX5_count 117 = .ok (.aload_n 0, 1) := by decide +kernel
theorem dX5_count_118 : decode cX5_count 118 = .ok (.iconst 0, 1) := by decide +kernel
theorem dX5_count_119 : decode cX5_count 119 = .ok (.invokevirtual 283, 3) := by decide +kernel
theorem dX5_count_122 : decode cX5_count 122 = .ok (.goto 56, 3) := by decide +kernel
theorem dX5_count_125 : decode cX5_count 125 = .ok (.iload_n 1, 1) := by decide +kernel
theorem dX5_count_126 : decode cX5_count 126 = .ok (.bipush 9, 2) := by decide +kernel
theorem dX5_count_128 : decode cX5_count 128 = .ok (.if_icmp .ne 10, 3) := by decide +kernel
theorem dX5_count_131 : decode cX5_count 131 = .ok (.aload_n 0, 1) := by decide +kernel
theorem dX5_count_132 : decode cX5_count 132 = .ok (.getfield 182, 3) := by decide +kernel
theorem dX5_count_135 : decode cX5_count 135 = .ok (.goto 43, 3) := by decide +kernel
theorem dX5_count_138 : decode cX5_count 138 = .ok (.iload_n 1, 1) := by decide +kernel
theorem dX5_count_139 : decode cX5_count 139 = .ok (.bipush 10, 2) := by decide +kernel
theorem dX5_count_141 : decode cX5_count 141 = .ok (.if_icmp .ne 10, 3) := by decide +kernel
theorem dX5_count_144 : decode cX5_count 144 = .ok (.aload_n 0, 1) := by decide +kernel
theorem dX5_count_145 : decode cX5_count 145 = .ok (.getfield 176, 3) := by decide +kernel
theorem dX5_count_148 : decode cX5_count 148 = .ok (.goto 30, 3) := by decide +kernel
theorem dX5_count_151 : decode cX5_count 151 = .ok (.iload_n 1, 1) := by decide +kernel
theorem dX5_count_152 : decode cX5_count 152 = .ok (.bipush 11, 2) := by decide +kernel
theorem dX5_count_154 : decode cX5_count 154 = .ok (.if_icmp .ne 10, 3) := by decide +kernel
theorem dX5_count_157 : decode cX5_count 157 = .ok (.aload_n 0, 1) := by decide +kernel
theorem dX5_count_158 : decode cX5_count 158 = .ok (.getfield 179, 3) := by decide +kernel
theorem dX5_count_161 : decode cX5_count 161 = .ok (.goto 17, 3) := by decide +kernel
theorem dX5_count_164 : decode cX5_count 164 = .ok (.iload_n 1, 1) := by decide +kernel
theorem dX5_count_165 : decode cX5_count 165 = .ok (.bipush 12, 2) := by decide +kernel
theorem dX5_count_167 : decode cX5_count 167 = .ok (.if_icmp .ne 10, 3) := by decide +kernel
theorem dX5_count_170 : decode cX5_count 170 = .ok (.aload_n 0, 1) := by decide +kernel
theorem dX5_count_171 : decode cX5_count 171 = .ok (.getfield 127, 3) := by decide +kernel
theorem dX5_count_174 : decode cX5_count 174 = .ok (.goto 4, 3) := by decide +kernel
theorem dX5_count_177 : decode cX5_count 177 = .ok (.iconst (-1), 1) := by decide +kernel
theorem dX5_count_178 : decode cX5_count 178 = .ok (.ireturn, 1) := by decide +kernel
theorem dJ9_max_7cf53_0 : decode cJ9_max_7cf53 0 = .ok (.iload_n 0, 1) := by decide +kernel
theorem dJ9_max_7cf53_1 : decode cJ9_max_7cf53 1 = .ok (.iload_n 1, 1) := by decide +kernel
theorem dJ9_max_7cf53_2 : decode cJ9_max_7cf53 2 = .ok (.if_icmp .lt 7, 3) := by decide +kernel
theorem dJ9_max_7cf53_5 : decode cJ9_max_7cf53 5 = .ok (.iload_n 0, 1) := by decide +kernel
theorem dJ9_max_7cf53_6 : decode cJ9_max_7cf53 6 = .ok (.goto 4, 3) := by decide +kernel
theorem dJ9_max_7cf53_9 : decode cJ9_max_7cf53 9 = .ok (.iload_n 1, 1) := by decide +kernel
theorem dJ9_max_7cf53_10 : decode cJ9_max_7cf53 10 = .ok (.ireturn, 1) := by decide +kernel
theorem dJ9_min_7cf53_0 : decode cJ9_min_7cf53 0 = .ok (.iload_n 0, 1) := by decide +kernel
theorem dJ9_min_7cf53_1 : decode cJ9_min_7cf53 1 = .ok (.iload_n 1, 1) := by decide +kernel
theorem dJ9_min_7cf53_2 : decode cJ9_min_7cf53 2 = .ok (.if_icmp .gt 7, 3) := by decide +kernel
theorem dJ9_min_7cf53_5 : decode cJ9_min_7cf53 5 = .ok (.iload_n 0, 1) := by decide +kernel
theorem dJ9_min_7cf53_6 : decode cJ9_min_7cf53 6 = .ok (.goto 4, 3) := by decide +kernel
theorem dJ9_min_7cf53_9 : decode cJ9_min_7cf53 9 = .ok (.iload_n 1, 1) := by decide +kernel
theorem dJ9_min_7cf53_10 : decode cJ9_min_7cf53 10 = .ok (.ireturn, 1) := by decide +kernel
set_option maxRecDepth 20000 in
theorem ggJ0_length_8abf5_J0_coder_7d493 : GoodIn wsJ0_length_8abf5 wsJ0_coder_7d493 := goodIn_r _ [6, 7, 8] (by decide +kernel) (by decide +kernel)
set_option maxRecDepth 20000 in
theorem gJ0_length_8abf5_J0_coder_7d493 : GoodIn wsJ0_length_8abf5 (wsV RJ0 335 RJ0 yJ0_coder_7d493 wsJ0_coder_7d493) := goodIn_app (goodIn_of _ (by decide +kernel)) ggJ0_length_8abf5_J0_coder_7d493
theorem dJ0_length_8abf5_0 : decode cJ0_length_8abf5 0 = .ok (.aload_n 0, 1) := by decide +kernel
theorem dJ0_length_8abf5_1 : decode cJ0_length_8abf5 1 = .ok (.getfield 9, 3) := by decide +kernel
theorem dJ0_length_8abf5_4 : decode cJ0_length_8abf5 4 = .ok (.arraylength, 1) := by decide +kernel
theorem dJ0_length_8abf5_5 : decode cJ0_length_8abf5 5 = .ok (.aload_n 0, 1) := by decide +kernel
theorem dJ0_length_8abf5_6 : decode cJ0_length_8abf5 6 = .ok (.invokevirtual 335, 3) := by decide +kernel
theorem dJ0_length_8abf5_9 : decode cJ0_length_8abf5 9 = .ok (.ishr, 1) := by decide +kernel
theorem dJ0_length_8abf5_10 : decode cJ0_length_8abf5 10 = .ok (.ireturn, 1) := by decide +kernel
set_option maxRecDepth 20000 in
theorem ggJ0_charAt_5068e_J0_isLatin1_aae02 : GoodIn wsJ0_charAt_5068e wsJ0_isLatin1_aae02 := goodIn_r _ [6, 7, 8] (by decide +kernel) (by decide +kernel)
set_option maxRecDepth 20000 in
theorem gJ0_charAt_5068e_J0_isLatin1_aae02 : GoodIn wsJ0_charAt_5068e (wsV RJ0 492 RJ0 yJ0_isLatin1_aae02 wsJ0_isLatin1_aae02) := goodIn_app (goodIn_of _ (by decide +kernel)) ggJ0_charAt_5068e_J0_isLatin1_aae02
set_option maxRecDepth 20000 in
theorem ggJ0_charAt_5068e_J1_charAt_3b067 : GoodIn wsJ0_charAt_5068e wsJ1_charAt_3b067 := goodIn_r _ [12, 13, 14, 5, 15, 16, 17, 18, 19, 20] (by decide +kernel) (by decide +kernel)
set_option maxRecDepth 20000 in
theorem gJ0_charAt_5068e_J1_charAt_3b067 : GoodIn wsJ0_charAt_5068e (va_wsS RJ0 495 yJ1_charAt_3b067 wsJ1_charAt_3b067) := goodIn_app (goodIn_of _ (by decide +kernel)) ggJ0_charAt_5068e_J1_charAt_3b067
set_option maxRecDepth 20000 in
theorem ggJ0_charAt_5068e_J2_charAt_3b067 : GoodIn wsJ0_charAt_5068e wsJ2_charAt_3b067 := goodIn_r _ [24, 25, 26, 23, 27, 28, 29, 30, 31, 14, 5, 15, 16, 17, 18, 19, 20, 32, 33, 34, 35, 36, 37] (by decide +kernel) (by decide +kernel)
set_option maxRecDepth 20000 in
theorem gJ0_charAt_5068e_J2_charAt_3b067 : GoodIn wsJ0_charAt_5068e (va_wsS RJ0 498 yJ2_charAt_3b067 wsJ2_charAt_3b067) := goodIn_app (goodIn_of _ (by decide +kernel)) ggJ0_charAt_5068e_J2_charAt_3b067
theorem dJ0_charAt_5068e_0 : decode cJ0_charAt_5068e 0 = .ok (.aload_n 0, 1) := by decide +kernel
theorem dJ0_charAt_5068e_1 : decode cJ0_charAt_5068e 1 = .ok (.invokevirtual 492, 3) := by decide +kernel
theorem dJ0_charAt_5068e_4 : decode cJ0_charAt_5068e 4 = .ok (.ifCond .eq 12, 3) := by decide +kernel
theorem dJ0_charAt_5068e_7 : decode cJ0_charAt_5068e 7 = .ok (.aload_n 0, 1) := by decide +kernel
theorem dJ0_charAt_5068e_8 : decode cJ0_charAt_5068e 8 = .ok (.getfield 9, 3) := by decide +kernel
theorem dJ0_charAt_5068e_11 : decode cJ0_charAt_5068e 11 = .ok (.iload_n 1, 1) := by decide +kernel
theorem dJ0_charAt_5068e_12 : decode cJ0_charAt_5068e 12 = .ok (.invokestatic 495, 3) := by decide +kernel
theorem dJ0_charAt_5068e_15 : decode cJ0_charAt_5068e 15 = .ok (.ireturn, 1) := by decide +kernel
theorem dJ0_charAt_5068e_16 : decode cJ0_charAt_5068e 16 = .ok (.aload_n 0, 1) := by decide +kernel
theorem dJ0_charAt_5068e_17 : decode cJ0_charAt_5068e 17 = .ok (.getfield 9, 3) := by decide +kernel
theorem dJ0_charAt_5068e_20 : decode cJ0_charAt_5068e 20 = .ok (.iload_n 1, 1) := by decide +kernel
theorem dJ0_charAt_5068e_21 : decode cJ0_charAt_5068e 21 = .ok (.invokestatic 498, 3) := by decide +kernel
theorem dJ0_charAt_5068e_24 : decode cJ0_charAt_5068e 24 = .ok (.ireturn, 1) := by decide +kernel
theorem dJ0_coder_7d493_0 : decode cJ0_coder_7d493 0 = .ok (.getstatic 38, 3) := by decide +kernel
theorem dJ0_coder_7d493_3 : decode cJ0_coder_7d493 3 = .ok (.ifCond .eq 10, 3) := by decide +kernel
theorem dJ0_coder_7d493_6 : decode cJ0_coder_7d493 6 = .ok (.aload_n 0, 1) := by decide +kernel
theorem dJ0_coder_7d493_7 : decode cJ0_coder_7d493 7 = .ok (.getfield 15, 3) := by decide +kernel
theorem dJ0_coder_7d493_10 : decode cJ0_coder_7d493 10 = .ok (.goto 4, 3) := by decide +kernel
theorem dJ0_coder_7d493_13 : decode cJ0_coder_7d493 13 = .ok (.iconst 1, 1) := by decide +kernel
theorem dJ0_coder_7d493_14 : decode cJ0_coder_7d493 14 = .ok (.ireturn, 1) := by decide +kernel
theorem dJ0_isLatin1_aae02_0 : decode cJ0_isLatin1_aae02 0 = .ok (.getstatic 38, 3) := by decide +kernel
theorem dJ0_isLatin1_aae02_3 : decode cJ0_isLatin1_aae02 3 = .ok (.ifCond .eq 14, 3) := by decide +kernel
theorem dJ0_isLatin1_aae02_6 : decode cJ0_isLatin1_aae02 6 = .ok (.aload_n 0, 1) := by decide +kernel
theorem dJ0_isLatin1_aae02_7 : decode cJ0_isLatin1_aae02 7 = .ok (.getfield 15, 3) := by decide +kernel
theorem dJ0_isLatin1_aae02_10 : decode cJ0_isLatin1_aae02 10 = .ok (.ifCond .ne 7, 3) := by decide +kernel
theorem dJ0_isLatin1_aae02_13 : decode cJ0_isLatin1_aae02 13 = .ok (.iconst 1, 1) := by decide +kernel
theorem dJ0_isLatin1_aae02_14 : decode cJ0_isLatin1_aae02 14 = .ok (.goto 4, 3) := by decide +kernel
theorem dJ0_isLatin1_aae02_17 : decode cJ0_isLatin1_aae02 17 = .ok (.iconst 0, 1) := by decide +kernel
theorem dJ0_isLatin1_aae02_18 : decode cJ0_isLatin1_aae02 18 = .ok (.ireturn, 1) := by decide +kernel
set_option maxRecDepth 20000 in
theorem ggJ0_checkIndex_df160_J3_checkIndex_8e157 : GoodIn wsJ0_checkIndex_df160 wsJ3_checkIndex_8e157 := goodIn_r _ [5] (by decide +kernel) (by decide +kernel)
set_option maxRecDepth 20000 in
theorem gJ0_checkIndex_df160_J3_checkIndex_8e157 : GoodIn wsJ0_checkIndex_df160 (va_wsS RJ0 1059 yJ3_checkIndex_8e157 wsJ3_checkIndex_8e157) := goodIn_app (goodIn_of _ (by decide +kernel)) ggJ0_checkIndex_df160_J3_checkIndex_8e157
theorem dJ0_checkIndex_df160_0 : decode cJ0_checkIndex_df160 0 = .ok (.iload_n 0, 1) := by decide +kernel
theorem dJ0_checkIndex_df160_1 : decode cJ0_checkIndex_df160 1 = .ok (.iload_n 1, 1) := by decide +kernel
theorem dJ0_checkIndex_df160_2 : decode cJ0_checkIndex_df160 2 = .ok (.getstatic 1053, 3) := by decide +kernel
theorem dJ0_checkIndex_df160_5 : decode cJ0_checkIndex_df160 5 = .ok (.invokestatic 1059, 3) := by decide +kernel
theorem dJ0_checkIndex_df160_8 : decode cJ0_checkIndex_df160 8 = .ok (.pop, 1) := by decide +kernel
theorem dJ0_checkIndex_df160_9 : decode cJ0_checkIndex_df160 9 = .ok (.return_, 1) := by decide +kernel
set_option maxRecDepth 20000 in
theorem ggJ1_charAt_3b067_J0_checkIndex_df160 : GoodIn wsJ1_charAt_3b067 wsJ0_checkIndex_df160 := goodIn_r _ [4, 5, 6, 7, 8, 9] (by decide +kernel) (by decide +kernel)
set_option maxRecDepth 20000 in
theorem gJ1_charAt_3b067_J0_checkIndex_df160 : GoodIn wsJ1_charAt_3b067 (va_wsS RJ1 9 yJ0_checkIndex_df160 wsJ0_checkIndex_df160) := goodIn_app (goodIn_of _ (by decide +kernel)) ggJ1_charAt_3b067_J0_checkIndex_df160
theorem dJ1_charAt_3b067_0 : decode cJ1_charAt_3b067 0 = .ok (.iload_n 1, 1) := by decide +kernel
theorem dJ1_charAt_3b067_1 : decode cJ1_charAt_3b067 1 = .ok (.aload_n 0, 1) := by decide +kernel
theorem dJ1_charAt_3b067_2 : decode cJ1_charAt_3b067 2 = .ok (.arraylength, 1) := by decide +kernel
theorem dJ1_charAt_3b067_3 : decode cJ1_charAt_3b067 3 = .ok (.invokestatic 9, 3) := by decide +kernel
theorem dJ1_charAt_3b067_6 : decode cJ1_charAt_3b067 6 = .ok (.aload_n 0, 1) := by decide +kernel
theorem dJ1_charAt_3b067_7 : decode cJ1_charAt_3b067 7 = .ok (.iload_n 1, 1) := by decide +kernel
theorem dJ1_charAt_3b067_8 : decode cJ1_charAt_3b067 8 = .ok (.baload, 1) := by decide +kernel
theorem dJ1_charAt_3b067_9 : decode cJ1_charAt_3b067 9 = .ok (.sipush 255, 3) := by decide +kernel
theorem dJ1_charAt_3b067_12 : decode cJ1_charAt_3b067 12 = .ok (.iand, 1) := by decide +kernel
theorem dJ1_charAt_3b067_13 : decode cJ1_charAt_3b067 13 = .ok (.i2c, 1) := by decide +kernel
theorem dJ1_charAt_3b067_14 : decode cJ1_charAt_3b067 14 = .ok (.ireturn, 1) := by decide +kernel
set_option maxRecDepth 20000 in
theorem ggJ2_getChar_3b067_J2_length_9d52b : GoodIn wsJ2_getChar_3b067 wsJ2_length_9d52b := goodIn_r _ [7] (by decide +kernel) (by decide +kernel)
set_option maxRecDepth 20000 in
theorem gJ2_getChar_3b067_J2_length_9d52b : GoodIn wsJ2_getChar_3b067 (va_wsS RJ2 48 yJ2_length_9d52b wsJ2_length_9d52b) := goodIn_app (goodIn_of _ (by decide +kernel)) ggJ2_getChar_3b067_J2_length_9d52b
theorem dJ2_getChar_3b067_0 : decode cJ2_getChar_3b067 0 = .ok (.getstatic 44, 3) := by decide +kernel
theorem dJ2_getChar_3b067_3 : decode cJ2_getChar_3b067 3 = .ok (.ifCond .ne 25, 3) := by decide +kernel
theorem dJ2_getChar_3b067_6 : decode cJ2_getChar_3b067 6 = .ok (.iload_n 1, 1) := by decide +kernel
theorem dJ2_getChar_3b067_7 : decode cJ2_getChar_3b067 7 = .ok (.ifCond .lt 11, 3) := by decide +kernel
theorem dJ2_getChar_3b067_10 : decode cJ2_getChar_3b067 10 = .ok (.iload_n 1, 1) := by decide +kernel
theorem dJ2_getChar_3b067_11 : decode cJ2_getChar_3b067 11 = .ok (.aload_n 0, 1) := by decide +kernel
theorem dJ2_getChar_3b067_12 : decode cJ2_getChar_3b067 12 = .ok (.invokestatic 48, 3) := by decide +kernel
theorem dJ2_getChar_3b067_15 : decode cJ2_getChar_3b067 15 = .ok (.if_icmp .lt 13, 3) := by decide +kernel
theorem dJ2_getChar_3b067_18 : decode cJ2_getChar_3b067 18 = .ok (.new 52, 3) := by decide +kernel
theorem dJ2_getChar_3b067_21 : decode cJ2_getChar_3b067 21 = .ok (.dup, 1) := by decide +kernel
theorem dJ2_getChar_3b067_22 : decode cJ2_getChar_3b067 22 = .ok (.ldc 54, 2) := by decide +kernel
theorem dJ2_getChar_3b067_24 : decode cJ2_getChar_3b067 24 = .ok (.invokespecial 56, 3) := by decide +kernel
theorem dJ2_getChar_3b067_27 : decode cJ2_getChar_3b067 27 = .ok (.athrow, 1) := by decide +kernel
theorem dJ2_getChar_3b067_28 : decode cJ2_getChar_3b067 28 = .ok (.iload_n 1, 1) := by decide +kernel
theorem dJ2_getChar_3b067_29 : decode cJ2_getChar_3b067 29 = .ok (.iconst 1, 1) := by decide +kernel
theorem dJ2_getChar_3b067_30 : decode cJ2_getChar_3b067 30 = .ok (.ishl, 1) := by decide +kernel
theorem dJ2_getChar_3b067_31 : decode cJ2_getChar_3b067 31 = .ok (.istore_n 1, 1) := by decide +kernel
theorem dJ2_getChar_3b067_32 : decode cJ2_getChar_3b067 32 = .ok (.aload_n 0, 1) := by decide +kernel
theorem dJ2_getChar_3b067_33 : decode cJ2_getChar_3b067 33 = .ok (.iload_n 1, 1) := by decide +kernel
theorem dJ2_getChar_3b067_34 : decode cJ2_getChar_3b067 34 = .ok (.iinc 1 1, 3) := by decide +kernel
theorem dJ2_getChar_3b067_37 : decode cJ2_getChar_3b067 37 = .ok (.baload, 1) := by decide +kernel
theorem dJ2_getChar_3b067_38 : decode cJ2_getChar_3b067 38 = .ok (.sipush 255, 3) := by decide +kernel
theorem dJ2_getChar_3b067_41 : decode cJ2_getChar_3b067 41 = .ok (.iand, 1) := by decide +kernel
theorem dJ2_getChar_3b067_42 : decode cJ2_getChar_3b067 42 = .ok (.getstatic 59, 3) := by decide +kernel
theorem dJ2_getChar_3b067_45 : decode cJ2_getChar_3b067 45 = .ok (.ishl, 1) := by decide +kernel
theorem dJ2_getChar_3b067_46 : decode cJ2_getChar_3b067 46 = .ok (.aload_n 0, 1) := by decide +kernel
theorem dJ2_getChar_3b067_47 : decode cJ2_getChar_3b067 47 = .ok (.iload_n 1, 1) := by decide +kernel
theorem dJ2_getChar_3b067_48 : decode cJ2_getChar_3b067 48 = .ok (.baload, 1) := by decide +kernel
theorem dJ2_getChar_3b067_49 : decode cJ2_getChar_3b067 49 = .ok (.sipush 255, 3) := by decide +kernel
theorem dJ2_getChar_3b067_52 : decode cJ2_getChar_3b067 52 = .ok (.iand, 1) := by decide +kernel
theorem dJ2_getChar_3b067_53 : decode cJ2_getChar_3b067 53 = .ok (.getstatic 63, 3) := by decide +kernel
theorem dJ2_getChar_3b067_56 : decode cJ2_getChar_3b067 56 = .ok (.ishl, 1) := by decide +kernel
theorem dJ2_getChar_3b067_57 : decode cJ2_getChar_3b067 57 = .ok (.ior, 1) := by decide +kernel
theorem dJ2_getChar_3b067_58 : decode cJ2_getChar_3b067 58 = .ok (.i2c, 1) := by decide +kernel
theorem dJ2_getChar_3b067_59 : decode cJ2_getChar_3b067 59 = .ok (.ireturn, 1) := by decide +kernel
theorem dJ2_length_9d52b_0 : decode cJ2_length_9d52b 0 = .ok (.aload_n 0, 1) := by decide +kernel
theorem dJ2_length_9d52b_1 : decode cJ2_length_9d52b 1 = .ok (.arraylength, 1) := by decide +kernel
theorem dJ2_length_9d52b_2 : decode cJ2_length_9d52b 2 = .ok (.iconst 1, 1) := by decide +kernel
theorem dJ2_length_9d52b_3 : decode cJ2_length_9d52b 3 = .ok (.ishr, 1) := by decide +kernel
theorem dJ2_length_9d52b_4 : decode cJ2_length_9d52b 4 = .ok (.ireturn, 1) := by decide +kernel
set_option maxRecDepth 20000 in
theorem ggJ2_charAt_3b067_J2_checkIndex_2214a : GoodIn wsJ2_charAt_3b067 wsJ2_checkIndex_2214a := goodIn_r _ [4, 5, 6, 3, 7, 8, 9, 10, 11, 12, 13, 14, 15, 16] (by decide +kernel) (by decide +kernel)
set_option maxRecDepth 20000 in
theorem gJ2_charAt_3b067_J2_checkIndex_2214a : GoodIn wsJ2_charAt_3b067 (va_wsS RJ2 67 yJ2_checkIndex_2214a wsJ2_checkIndex_2214a) := goodIn_app (goodIn_of _ (by decide +kernel)) ggJ2_charAt_3b067_J2_checkIndex_2214a
set_option maxRecDepth 20000 in
theorem ggJ2_charAt_3b067_J2_getChar_3b067 : GoodIn wsJ2_charAt_3b067 wsJ2_getChar_3b067 := goodIn_r _ [19, 20, 21, 22, 5, 6, 3, 7] (by decide +kernel) (by decide +kernel)
set_option maxRecDepth 20000 in
theorem gJ2_charAt_3b067_J2_getChar_3b067 : GoodIn wsJ2_charAt_3b067 (va_wsS RJ2 71 yJ2_getChar_3b067 wsJ2_getChar_3b067) := goodIn_app (goodIn_of _ (by decide +kernel)) ggJ2_charAt_3b067_J2_getChar_3b067
theorem dJ2_charAt_3b067_0 : decode cJ2_charAt_3b067 0 = .ok (.iload_n 1, 1) := by decide +kernel
theorem dJ2_charAt_3b067_1 : decode cJ2_charAt_3b067 1 = .ok (.aload_n 0, 1) := by decide +kernel
theorem dJ2_charAt_3b067_2 : decode cJ2_charAt_3b067 2 = .ok (.invokestatic 67, 3) := by decide +kernel
theorem dJ2_charAt_3b067_5 : decode cJ2_charAt_3b067 5 = .ok (.aload_n 0, 1) := by decide +kernel
theorem dJ2_charAt_3b067_6 : decode cJ2_charAt_3b067 6 = .ok (.iload_n 1, 1) := by decide +kernel
theorem dJ2_charAt_3b067_7 : decode cJ2_charAt_3b067 7 = .ok (.invokestatic 71, 3) := by decide +kernel
theorem dJ2_charAt_3b067_10 : decode cJ2_charAt_3b067 10 = .ok (.ireturn, 1) := by decide +kernel
set_option maxRecDepth 20000 in
theorem ggJ2_checkIndex_2214a_J2_length_9d52b : GoodIn wsJ2_checkIndex_2214a wsJ2_length_9d52b := goodIn_r _ [4] (by decide +kernel) (by decide +kernel)
set_option maxRecDepth 20000 in
theorem gJ2_checkIndex_2214a_J2_length_9d52b : GoodIn wsJ2_checkIndex_2214a (va_wsS RJ2 48 yJ2_length_9d52b wsJ2_length_9d52b) := goodIn_app (goodIn_of _ (by decide +kernel)) ggJ2_checkIndex_2214a_J2_length_9d52b
set_option maxRecDepth 20000 in
theorem ggJ2_checkIndex_2214a_J0_checkIndex_df160 : GoodIn wsJ2_checkIndex_2214a wsJ0_checkIndex_df160 := goodIn_r _ [8, 9, 10, 11, 12, 13] (by decide +kernel) (by decide +kernel)
set_option maxRecDepth 20000 in
theorem gJ2_checkIndex_2214a_J0_checkIndex_df160 : GoodIn wsJ2_checkIndex_2214a (va_wsS RJ2 414 yJ0_checkIndex_df160 wsJ0_checkIndex_df160) := goodIn_app (goodIn_of _ (by decide +kernel)) ggJ2_checkIndex_2214a_J0_checkIndex_df160
theorem dJ2_checkIndex_2214a_0 : decode cJ2_checkIndex_2214a 0 = .ok (.iload_n 0, 1) := by decide +kernel
theorem dJ2_checkIndex_2214a_1 : decode cJ2_checkIndex_2214a 1 = .ok (.aload_n 1, 1) := by decide +kernel
theorem dJ2_checkIndex_2214a_2 : decode cJ2_checkIndex_2214a 2 = .ok (.invokestatic 48, 3) := by decide +kernel
theorem dJ2_checkIndex_2214a_5 : decode cJ2_checkIndex_2214a 5 = .ok (.invokestatic 414, 3) := by decide +kernel
theorem dJ2_checkIndex_2214a_8 : decode cJ2_checkIndex_2214a 8 = .ok (.return_, 1) := by decide +kernel
theorem dJ3_checkIndex_8e157_0 : decode cJ3_checkIndex_8e157 0 = .ok (.iload_n 0, 1) := by decide +kernel
theorem dJ3_checkIndex_8e157_1 : decode cJ3_checkIndex_8e157 1 = .ok (.ifCond .lt 8, 3) := by decide +kernel
theorem dJ3_checkIndex_8e157_4 : decode cJ3_checkIndex_8e157 4 = .ok (.iload_n 0, 1) := by decide +kernel
theorem dJ3_checkIndex_8e157_5 : decode cJ3_checkIndex_8e157 5 = .ok (.iload_n 1, 1) := by decide +kernel
theorem dJ3_checkIndex_8e157_6 : decode cJ3_checkIndex_8e157 6 = .ok (.if_icmp .lt 10, 3) := by decide +kernel
theorem dJ3_checkIndex_8e157_9 : decode cJ3_checkIndex_8e157 9 = .ok (.aload_n 2, 1) := by decide +kernel
theorem dJ3_checkIndex_8e157_10 : decode cJ3_checkIndex_8e157 10 = .ok (.iload_n 0, 1) := by decide +kernel
theorem dJ3_checkIndex_8e157_11 : decode cJ3_checkIndex_8e157 11 = .ok (.iload_n 1, 1) := by decide +kernel
theorem dJ3_checkIndex_8e157_12 : decode cJ3_checkIndex_8e157 12 = .ok (.invokestatic 95, 3) := by decide +kernel
theorem dJ3_checkIndex_8e157_15 : decode cJ3_checkIndex_8e157 15 = .ok (.athrow, 1) := by decide +kernel
theorem dJ3_checkIndex_8e157_16 : decode cJ3_checkIndex_8e157 16 = .ok (.iload_n 0, 1) := by decide +kernel
theorem dJ3_checkIndex_8e157_17 : decode cJ3_checkIndex_8e157 17 = .ok (.ireturn, 1) := by decide +kernel
set_option maxRecDepth 20000 in
theorem ggL_law_X4_init : GoodIn wsL_law wsX4_init := goodIn_r _ [8, 9, 10, 11, 12, 13, 14, 15, 16, 17, 18, 19, 20, 21, 22, 23, 24, 25, 26, 27, 28, 29, 30, 31, 32, 33, 34, 35, 36, 37, 38, 39, 40, 41, 42, 43, 44, 45, 46, 47, 48, 49, 50, 51, 52, 53, 54, 55, 56, 57, 58, 59, 60, 61, 62, 63, 64, 65, 66, 67, 68, 69, 70, 71, 72, 73, 74, 75, 76, 77, 78, 79, 80, 81, 82, 83, 84, 85, 86, 87, 88, 89, 90, 91, 92, 93, 94, 95, 96, 97, 98, 99, 100, 101, 102, 103, 104, 105, 106, 107, 108, 109, 110, 111, 112, 113, 114, 115, 116, 117, 118, 119, 120, 121, 122, 123, 124, 125, 126, 127, 128, 129, 130, 131, 132, 133, 134, 135, 136, 137, 138, 139, 140, 141, 142, 143, 144, 145, 146, 147, 148, 149, 150, 151, 152, 153, 154, 155, 156, 157, 158, 159, 160, 161, 162, 163, 164, 165, 166, 167, 168, 169, 170, 171, 172, 173, 174, 175, 176, 809, 810, 811, 812, 760, 761, 762, 763, 764, 765, 766, 767, 768, 769, 813, 814, 815, 816, 817, 818, 819, 820, 821, 822, 823, 824, 825, 826, 827, 828, 829, 830, 831, 832, 833] (by decide +kernel) (by decide +kernel)
set_option maxRecDepth 20000 in
theorem gL_law_X4_init : GoodIn wsL_law (wsX4_init) := ggL_law_X4_init
set_option maxRecDepth 20000 in
theorem ggL_law_X5_init : GoodIn wsL_law wsX5_init := goodIn_r _ [179, 180, 10, 11, 31, 181, 182, 183, 184, 185, 186, 187, 188, 189, 190, 191, 192, 193, 194, 195, 196, 197, 198, 199, 200, 201, 202, 203, 204, 205, 206, 207, 208, 209, 210, 5, 211, 212, 213, 214, 215, 216, 217, 218, 219, 220, 221, 222, 223, 224, 225, 226, 227, 228, 770, 771, 772, 773, 774, 775, 776, 777, 778, 779, 780, 781, 782, 783, 784, 785, 786, 787, 788, 789, 790, 791, 792, 793, 794, 795, 796, 797, 798, 799, 800, 801, 802, 803, 804, 805, 806, 807, 808] (by decide +kernel) (by decide +kernel)
set_option maxRecDepth 20000 in
theorem gL_law_X5_init : GoodIn wsL_law (wsX5_init) := ggL_law_X5_init
set_option maxRecDepth 20000 in
theorem ggL_law_X4_write : GoodIn wsL_law wsX4_write := goodIn_r _ [232, 15, 34, 119, 120, 121, 14, 122, 123, 38, 760, 761, 762, 763, 764, 765, 766, 767, 768, 769, 809, 810, 811, 812] (by decide +kernel) (by decide +kernel)
set_option maxRecDepth 20000 in
theorem gL_law_X4_write : GoodIn wsL_law (wsV RL 13 RX4 yX4_write wsX4_write) := goodIn_app (goodIn_of _ (by decide +kernel)) ggL_law_X4_write
set_option maxRecDepth 20000 in
theorem ggL_law_X5_write : GoodIn wsL_law wsX5_write := goodIn_r _ [236, 237, 238, 239, 203, 240, 241, 5, 242, 770, 771, 772, 773, 774, 775, 776, 777, 778, 779, 780, 781, 782, 783, 784, 785, 786, 787, 788, 789, 790, 791, 792, 793, 794, 795, 796, 797, 798, 799, 800, 801, 802, 803, 804, 805, 806, 807, 808] (by decide +kernel) (by decide +kernel)
set_option maxRecDepth 20000 in
theorem gL_law_X5_write : GoodIn wsL_law (wsV RL 17 RX5 yX5_write wsX5_write) := goodIn_app (goodIn_of _ (by decide +kernel)) ggL_law_X5_write
set_option maxRecDepth 20000 in
theorem ggL_law_X4_wipe : GoodIn wsL_law wsX4_wipe := goodIn_r _ [246, 15, 34, 760, 761, 762, 763, 764, 765, 766, 767, 768, 769, 809, 810, 811, 812] (by decide +kernel) (by decide +kernel)
set_option maxRecDepth 20000 in
theorem gL_law_X4_wipe : GoodIn wsL_law (wsV RL 18 RX4 yX4_wipe wsX4_wipe) := goodIn_app (goodIn_of _ (by decide +kernel)) ggL_law_X4_wipe
set_option maxRecDepth 20000 in
theorem ggL_law_X5_wipe : GoodIn wsL_law wsX5_wipe := goodIn_r _ [250, 239, 770, 771, 772, 773, 774, 775, 776, 777, 778, 779, 780, 781, 782, 783, 784, 785, 786, 787, 788, 789, 790, 791, 792, 793, 794, 795, 796, 797, 798, 799, 800, 801, 802, 803, 804, 805, 806, 807, 808] (by decide +kernel) (by decide +kernel)
set_option maxRecDepth 20000 in
theorem gL_law_X5_wipe : GoodIn wsL_law (wsV RL 22 RX5 yX5_wipe wsX5_wipe) := goodIn_app (goodIn_of _ (by decide +kernel)) ggL_law_X5_wipe
set_option maxRecDepth 20000 in
theorem ggL_law_X4_fault : GoodIn wsL_law wsX4_fault := goodIn_r _ [254, 15, 20, 124, 125, 126, 14, 127, 123, 39, 128, 129, 130, 131, 18, 132, 133, 134, 135, 136, 137, 138, 139, 140, 141, 142, 143, 144, 145, 146, 147, 38, 148, 149, 150, 151, 152, 153, 154, 155, 43, 44, 45, 46, 47, 156, 157, 158, 159, 48, 49, 50, 160, 161, 162, 163, 51, 52, 760, 761, 762, 763, 764, 765, 766, 767, 768, 769, 809, 810, 811, 812, 813, 814, 815, 816, 817, 818, 819, 820, 821, 822, 823, 824, 825] (by decide +kernel) (by decide +kernel)
set_option maxRecDepth 20000 in
theorem gL_law_X4_fault : GoodIn wsL_law (wsV RL 23 RX4 yX4_fault wsX4_fault) := goodIn_app (goodIn_of _ (by decide +kernel)) ggL_law_X4_fault
set_option maxRecDepth 20000 in
theorem ggL_law_X5_fault : GoodIn wsL_law wsX5_fault := goodIn_r _ [258, 259, 260, 261, 262, 5, 263, 264, 265, 239, 208, 209, 210, 211, 212, 213, 207, 266, 267, 268, 269, 203, 270, 271, 272, 273, 274, 275, 276, 277, 278, 279, 280, 281, 282, 283, 240, 241, 242, 284, 285, 286, 287, 214, 215, 216, 217, 191, 192, 193, 194, 195, 288, 289, 290, 291, 218, 219, 220, 221, 196, 197, 198, 292, 293, 294, 295, 199, 200, 296, 297, 298, 770, 771, 772, 773, 774, 775, 776, 777, 778, 779, 780, 781, 782, 783, 784, 785, 786, 787, 788, 789, 790, 791, 792, 793, 794, 795, 796, 797, 798, 799, 800, 801, 802, 803, 804, 805, 806, 807, 808] (by decide +kernel) (by decide +kernel)
set_option maxRecDepth 20000 in
theorem gL_law_X5_fault : GoodIn wsL_law (wsV RL 26 RX5 yX5_fault wsX5_fault) := goodIn_app (goodIn_of _ (by decide +kernel)) ggL_law_X5_fault
set_option maxRecDepth 20000 in
theorem ggL_law_X4_lay : GoodIn wsL_law wsX4_lay := goodIn_r _ [302, 15, 20, 303, 19, 24, 29, 304, 30, 305, 124, 125, 126, 14, 127, 123, 39, 128, 129, 130, 131, 18, 132, 133, 134, 135, 136, 137, 138, 139, 140, 141, 142, 143, 144, 145, 146, 147, 38, 148, 149, 150, 151, 152, 153, 154, 155, 43, 44, 45, 46, 47, 156, 157, 158, 159, 48, 49, 50, 160, 161, 162, 163, 51, 52, 164, 165, 166, 23, 167, 168, 169, 56, 57, 170, 171, 58, 172, 59, 173, 174, 175, 176, 760, 761, 762, 763, 764, 765, 766, 767, 768, 769, 813, 814, 815, 816, 817, 818, 819, 820, 821, 822, 823, 824, 825, 832, 833, 809, 810, 811, 812, 826, 827, 828, 829, 830, 831] (by decide +kernel) (by decide +kernel)
set_option maxRecDepth 20000 in
theorem gL_law_X4_lay : GoodIn wsL_law (wsV RL 27 RX4 yX4_lay wsX4_lay) := goodIn_app (goodIn_of _ (by decide +kernel)) ggL_law_X4_lay
set_option maxRecDepth 20000 in
theorem ggL_law_X5_lay : GoodIn wsL_law wsX5_lay := goodIn_r _ [309, 212, 310, 311, 312, 226, 260, 261, 262, 5, 263, 264, 265, 239, 259, 208, 209, 210, 211, 213, 207, 266, 267, 268, 269, 203, 270, 271, 272, 273, 274, 275, 276, 277, 278, 279, 280, 281, 282, 283, 240, 241, 242, 284, 285, 286, 287, 214, 215, 216, 217, 191, 192, 193, 194, 195, 288, 289, 290, 291, 218, 219, 220, 221, 196, 197, 198, 292, 293, 294, 295, 199, 200, 296, 297, 298, 222, 223, 224, 225, 227, 228, 181, 182, 183, 184, 185, 201, 186, 187, 188, 189, 190, 770, 771, 772, 773, 774, 775, 776, 777, 778, 779, 780, 781, 782, 783, 784, 785, 786, 787, 788, 789, 790, 791, 792, 793, 794, 795, 796, 797, 798, 799, 800, 801, 802, 803, 804, 805, 806, 807, 808] (by decide +kernel) (by decide +kernel)
set_option maxRecDepth 20000 in
theorem gL_law_X5_lay : GoodIn wsL_law (wsV RL 30 RX5 yX5_lay wsX5_lay) := goodIn_app (goodIn_of _ (by decide +kernel)) ggL_law_X5_lay
set_option maxRecDepth 20000 in
theorem ggL_law_X4_going : GoodIn wsL_law wsX4_going := goodIn_r _ [316, 19, 317, 318, 319, 320, 24, 321, 322, 323, 324, 2, 325, 303, 326, 327, 328, 23, 329, 56, 58, 57, 171, 330, 331, 332, 333, 334, 335, 336, 168, 337, 338, 339, 340, 66, 341, 342, 65, 67, 760, 761, 762, 763, 764, 765, 766, 767, 768, 769, 813, 814, 815, 816, 817, 818, 819, 820, 821, 822, 823, 824, 825, 826, 827, 828, 829, 830, 831] (by decide +kernel) (by decide +kernel)
set_option maxRecDepth 20000 in
theorem gL_law_X4_going : GoodIn wsL_law (wsV RL 31 RX4 yX4_going wsX4_going) := goodIn_app (goodIn_of _ (by decide +kernel)) ggL_law_X4_going
set_option maxRecDepth 20000 in
theorem ggL_law_X5_going : GoodIn wsL_law wsX5_going := goodIn_r _ [346, 347, 201, 181, 183, 184, 185, 348, 349, 350, 5, 351, 226, 240, 241, 242, 352, 353, 354, 355, 356, 357, 358, 359, 360, 361, 362, 363, 364, 770, 771, 772, 773, 774, 775, 776, 777, 778, 779, 780, 781, 782, 783, 784, 785, 786, 787, 788, 789, 790, 791, 792, 793, 794, 795, 796, 797, 798, 799, 800, 801, 802, 803, 804, 805, 806, 807, 808] (by decide +kernel) (by decide +kernel)
set_option maxRecDepth 20000 in
theorem gL_law_X5_going : GoodIn wsL_law (wsV RL 35 RX5 yX5_going wsX5_going) := goodIn_app (goodIn_of _ (by decide +kernel)) ggL_law_X5_going
set_option maxRecDepth 20000 in
theorem ggL_law_X4_lady : GoodIn wsL_law wsX4_lady := goodIn_r _ [368, 24, 369, 19, 370, 371, 372, 373, 2, 374, 375, 376, 377, 378, 23, 379, 380, 381, 382, 383, 384, 385, 334, 59, 56, 760, 761, 762, 763, 764, 765, 766, 767, 768, 769, 826, 827, 828, 829, 830, 831, 813, 814, 815, 816, 817, 818, 819, 820, 821, 822, 823, 824, 825] (by decide +kernel) (by decide +kernel)
set_option maxRecDepth 20000 in
theorem gL_law_X4_lady : GoodIn wsL_law (wsV RL 36 RX4 yX4_lady wsX4_lady) := goodIn_app (goodIn_of _ (by decide +kernel)) ggL_law_X4_lady
set_option maxRecDepth 20000 in
theorem ggL_law_X5_lady : GoodIn wsL_law wsX5_lady := goodIn_r _ [389, 390, 226, 201, 190, 391, 392, 393, 5, 394, 228, 240, 241, 242, 395, 396, 397, 398, 181, 296, 297, 298, 770, 771, 772, 773, 774, 775, 776, 777, 778, 779, 780, 781, 782, 783, 784, 785, 786, 787, 788, 789, 790, 791, 792, 793, 794, 795, 796, 797, 798, 799, 800, 801, 802, 803, 804, 805, 806, 807, 808] (by decide +kernel) (by decide +kernel)
set_option maxRecDepth 20000 in
theorem gL_law_X5_lady : GoodIn wsL_law (wsV RL 39 RX5 yX5_lady wsX5_lady) := goodIn_app (goodIn_of _ (by decide +kernel)) ggL_law_X5_lady
set_option maxRecDepth 20000 in
theorem ggL_law_X4_pass : GoodIn wsL_law wsX4_pass := goodIn_r _ [402, 24, 403, 29, 19, 404, 405, 406, 407, 28, 408, 409, 69, 410, 411, 412, 413, 414, 415, 416, 23, 417, 168, 169, 56, 173, 174, 175, 176, 57, 58, 59, 418, 419, 420, 421, 422, 423, 424, 425, 380, 426, 427, 428, 429, 430, 331, 332, 333, 334, 335, 336, 337, 2, 338, 339, 340, 66, 341, 342, 65, 67, 431, 432, 433, 434, 435, 436, 437, 438, 439, 440, 441, 442, 443, 444, 760, 761, 762, 763, 764, 765, 766, 767, 768, 769, 826, 827, 828, 829, 830, 831, 832, 833, 813, 814, 815, 816, 817, 818, 819, 820, 821, 822, 823, 824, 825] (by decide +kernel) (by decide +kernel)
set_option maxRecDepth 20000 in
theorem gL_law_X4_pass : GoodIn wsL_law (wsV RL 40 RX4 yX4_pass wsX4_pass) := goodIn_app (goodIn_of _ (by decide +kernel)) ggL_law_X4_pass
set_option maxRecDepth 20000 in
theorem ggL_law_X5_pass : GoodIn wsL_law wsX5_pass := goodIn_r _ [448, 449, 201, 240, 241, 5, 242, 450, 451, 452, 453, 310, 454, 455, 456, 457, 458, 459, 460, 461, 462, 463, 464, 465, 466, 226, 185, 467, 468, 469, 470, 471, 472, 473, 474, 352, 353, 354, 355, 181, 183, 184, 356, 357, 358, 359, 360, 361, 362, 363, 364, 475, 476, 477, 478, 227, 187, 186, 206, 188, 770, 771, 772, 773, 774, 775, 776, 777, 778, 779, 780, 781, 782, 783, 784, 785, 786, 787, 788, 789, 790, 791, 792, 793, 794, 795, 796, 797, 798, 799, 800, 801, 802, 803, 804, 805, 806, 807, 808] (by decide +kernel) (by decide +kernel)
set_option maxRecDepth 20000 in
theorem gL_law_X5_pass : GoodIn wsL_law (wsV RL 43 RX5 yX5_pass wsX5_pass) := goodIn_app (goodIn_of _ (by decide +kernel)) ggL_law_X5_pass
set_option maxRecDepth 20000 in
theorem ggL_law_X4_pin : GoodIn wsL_law wsX4_pin := goodIn_r _ [482, 24, 19, 29, 369, 371, 372, 373, 2, 374, 375, 322, 323, 324, 325, 303, 483, 382, 383, 23, 384, 385, 334, 59, 56, 405, 406, 407, 28, 408, 409, 69, 410, 411, 412, 413, 414, 415, 416, 417, 168, 169, 173, 174, 175, 176, 57, 58, 484, 485, 486, 487, 436, 437, 438, 439, 440, 441, 442, 443, 444, 340, 66, 341, 760, 761, 762, 763, 764, 765, 766, 767, 768, 769, 826, 827, 828, 829, 830, 831, 813, 814, 815, 816, 817, 818, 819, 820, 821, 822, 823, 824, 825, 832, 833] (by decide +kernel) (by decide +kernel)
set_option maxRecDepth 20000 in
theorem gL_law_X4_pin : GoodIn wsL_law (wsV RL 44 RX4 yX4_pin wsX4_pin) := goodIn_app (goodIn_of _ (by decide +kernel)) ggL_law_X4_pin
set_option maxRecDepth 20000 in
theorem ggL_law_X5_pin : GoodIn wsL_law wsX5_pin := goodIn_r _ [491, 201, 391, 392, 393, 5, 394, 228, 240, 241, 242, 348, 349, 350, 351, 226, 395, 396, 397, 398, 190, 181, 296, 297, 298, 450, 451, 452, 453, 310, 454, 455, 456, 457, 475, 476, 477, 478, 227, 187, 186, 206, 188, 359, 360, 361, 770, 771, 772, 773, 774, 775, 776, 777, 778, 779, 780, 781, 782, 783, 784, 785, 786, 787, 788, 789, 790, 791, 792, 793, 794, 795, 796, 797, 798, 799, 800, 801, 802, 803, 804, 805, 806, 807, 808] (by decide +kernel) (by decide +kernel)
set_option maxRecDepth 20000 in
theorem gL_law_X5_pin : GoodIn wsL_law (wsV RL 47 RX5 yX5_pin wsX5_pin) := goodIn_app (goodIn_of _ (by decide +kernel)) ggL_law_X5_pin
set_option maxRecDepth 20000 in
theorem ggL_law_X4_lend : GoodIn wsL_law wsX4_lend := goodIn_r _ [495, 24, 369, 29, 371, 372, 373, 2, 374, 19, 375, 405, 406, 407, 28, 408, 409, 69, 410, 411, 412, 413, 414, 415, 416, 23, 417, 168, 169, 56, 173, 174, 175, 176, 57, 58, 59, 496, 497, 498, 499, 760, 761, 762, 763, 764, 765, 766, 767, 768, 769, 826, 827, 828, 829, 830, 831, 813, 814, 815, 816, 817, 818, 819, 820, 821, 822, 823, 824, 825, 832, 833] (by decide +kernel) (by decide +kernel)
set_option maxRecDepth 20000 in
theorem gL_law_X4_lend : GoodIn wsL_law (wsV RL 48 RX4 yX4_lend wsX4_lend) := goodIn_app (goodIn_of _ (by decide +kernel)) ggL_law_X4_lend
set_option maxRecDepth 20000 in
theorem ggL_law_X5_lend : GoodIn wsL_law wsX5_lend := goodIn_r _ [503, 201, 391, 392, 393, 5, 394, 228, 240, 241, 242, 450, 451, 452, 453, 310, 454, 455, 456, 457, 770, 771, 772, 773, 774, 775, 776, 777, 778, 779, 780, 781, 782, 783, 784, 785, 786, 787, 788, 789, 790, 791, 792, 793, 794, 795, 796, 797, 798, 799, 800, 801, 802, 803, 804, 805, 806, 807, 808] (by decide +kernel) (by decide +kernel)
set_option maxRecDepth 20000 in
theorem gL_law_X5_lend : GoodIn wsL_law (wsV RL 51 RX5 yX5_lend wsX5_lend) := goodIn_app (goodIn_of _ (by decide +kernel)) ggL_law_X5_lend
set_option maxRecDepth 20000 in
theorem ggL_law_X4_undo : GoodIn wsL_law wsX4_undo := goodIn_r _ [507, 29, 24, 304, 508, 509, 510, 28, 511, 409, 69, 414, 415, 416, 23, 417, 168, 169, 56, 173, 174, 175, 176, 57, 58, 59, 760, 761, 762, 763, 764, 765, 766, 767, 768, 769, 832, 833, 826, 827, 828, 829, 830, 831] (by decide +kernel) (by decide +kernel)
set_option maxRecDepth 20000 in
theorem gL_law_X4_undo : GoodIn wsL_law (wsV RL 52 RX4 yX4_undo wsX4_undo) := goodIn_app (goodIn_of _ (by decide +kernel)) ggL_law_X4_undo
set_option maxRecDepth 20000 in
theorem ggL_law_X5_undo : GoodIn wsL_law wsX5_undo := goodIn_r _ [515, 310, 454, 455, 456, 5, 457, 201, 770, 771, 772, 773, 774, 775, 776, 777, 778, 779, 780, 781, 782, 783, 784, 785, 786, 787, 788, 789, 790, 791, 792, 793, 794, 795, 796, 797, 798, 799, 800, 801, 802, 803, 804, 805, 806, 807, 808] (by decide +kernel) (by decide +kernel)
set_option maxRecDepth 20000 in
theorem gL_law_X5_undo : GoodIn wsL_law (wsV RL 55 RX5 yX5_undo wsX5_undo) := goodIn_app (goodIn_of _ (by decide +kernel)) ggL_law_X5_undo
set_option maxRecDepth 20000 in
theorem ggL_law_X4_behind : GoodIn wsL_law wsX4_behind := goodIn_r _ [519, 25, 24, 19, 404, 520, 521, 2, 522, 523, 415, 416, 23, 417, 168, 169, 56, 173, 174, 175, 176, 57, 58, 59, 418, 419, 420, 421, 422, 423, 424, 425, 380, 426, 427, 428, 429, 430, 331, 332, 333, 334, 335, 336, 337, 338, 339, 340, 66, 341, 342, 65, 67, 431, 432, 433, 434, 435, 436, 437, 438, 439, 440, 441, 442, 443, 444, 524, 525, 526, 527, 760, 761, 762, 763, 764, 765, 766, 767, 768, 769, 826, 827, 828, 829, 830, 831, 813, 814, 815, 816, 817, 818, 819, 820, 821, 822, 823, 824, 825] (by decide +kernel) (by decide +kernel)
set_option maxRecDepth 20000 in
theorem gL_law_X4_behind : GoodIn wsL_law (wsV RL 56 RX4 yX4_behind wsX4_behind) := goodIn_app (goodIn_of _ (by decide +kernel)) ggL_law_X4_behind
set_option maxRecDepth 20000 in
theorem ggL_law_X5_behind : GoodIn wsL_law wsX5_behind := goodIn_r _ [531, 532, 201, 240, 241, 5, 242, 454, 455, 456, 457, 458, 459, 460, 461, 462, 463, 464, 465, 466, 226, 185, 467, 468, 469, 470, 471, 472, 473, 474, 352, 353, 354, 355, 181, 183, 184, 356, 357, 358, 359, 360, 361, 362, 363, 364, 475, 476, 477, 478, 227, 187, 186, 206, 188, 533, 534, 535, 536, 770, 771, 772, 773, 774, 775, 776, 777, 778, 779, 780, 781, 782, 783, 784, 785, 786, 787, 788, 789, 790, 791, 792, 793, 794, 795, 796, 797, 798, 799, 800, 801, 802, 803, 804, 805, 806, 807, 808] (by decide +kernel) (by decide +kernel)
set_option maxRecDepth 20000 in
theorem gL_law_X5_behind : GoodIn wsL_law (wsV RL 59 RX5 yX5_behind wsX5_behind) := goodIn_app (goodIn_of _ (by decide +kernel)) ggL_law_X5_behind
set_option maxRecDepth 20000 in
theorem ggL_law_X4_dull : GoodIn wsL_law wsX4_dull := goodIn_r _ [540, 25, 24, 19, 523, 415, 416, 23, 417, 168, 169, 56, 173, 174, 175, 176, 57, 58, 59, 541, 423, 424, 425, 380, 542, 427, 428, 429, 430, 331, 332, 333, 334, 335, 336, 337, 2, 338, 339, 340, 66, 341, 342, 65, 67, 543, 432, 433, 434, 435, 436, 437, 438, 439, 440, 441, 442, 443, 444, 760, 761, 762, 763, 764, 765, 766, 767, 768, 769, 826, 827, 828, 829, 830, 831, 813, 814, 815, 816, 817, 818, 819, 820, 821, 822, 823, 824, 825] (by decide +kernel) (by decide +kernel)
set_option maxRecDepth 20000 in
theorem gL_law_X4_dull : GoodIn wsL_law (wsV RL 60 RX4 yX4_dull wsX4_dull) := goodIn_app (goodIn_of _ (by decide +kernel)) ggL_law_X4_dull
set_option maxRecDepth 20000 in
theorem ggL_law_X5_dull : GoodIn wsL_law wsX5_dull := goodIn_r _ [547, 201, 454, 455, 456, 5, 457, 458, 459, 460, 461, 462, 463, 464, 465, 466, 226, 185, 467, 468, 469, 470, 471, 472, 473, 474, 352, 353, 354, 355, 181, 183, 184, 356, 357, 358, 359, 360, 361, 362, 363, 364, 475, 476, 477, 478, 227, 187, 186, 206, 188, 770, 771, 772, 773, 774, 775, 776, 777, 778, 779, 780, 781, 782, 783, 784, 785, 786, 787, 788, 789, 790, 791, 792, 793, 794, 795, 796, 797, 798, 799, 800, 801, 802, 803, 804, 805, 806, 807, 808] (by decide +kernel) (by decide +kernel)
set_option maxRecDepth 20000 in
theorem gL_law_X5_dull : GoodIn wsL_law (wsV RL 63 RX5 yX5_dull wsX5_dull) := goodIn_app (goodIn_of _ (by decide +kernel)) ggL_law_X5_dull
set_option maxRecDepth 20000 in
theorem ggL_law_X4_quiet : GoodIn wsL_law wsX4_quiet := goodIn_r _ [551, 25, 24, 19, 342, 65, 66, 67, 523, 415, 416, 23, 417, 168, 169, 56, 173, 174, 175, 176, 57, 58, 59, 541, 423, 424, 425, 380, 524, 525, 526, 527, 543, 432, 433, 434, 435, 436, 437, 438, 439, 440, 441, 442, 443, 444, 340, 341, 760, 761, 762, 763, 764, 765, 766, 767, 768, 769, 826, 827, 828, 829, 830, 831, 813, 814, 815, 816, 817, 818, 819, 820, 821, 822, 823, 824, 825] (by decide +kernel) (by decide +kernel)
set_option maxRecDepth 20000 in
theorem gL_law_X4_quiet : GoodIn wsL_law (wsV RL 64 RX4 yX4_quiet wsX4_quiet) := goodIn_app (goodIn_of _ (by decide +kernel)) ggL_law_X4_quiet
set_option maxRecDepth 20000 in
theorem ggL_law_X5_quiet : GoodIn wsL_law wsX5_quiet := goodIn_r _ [555, 454, 455, 456, 5, 457, 201, 463, 464, 465, 466, 226, 185, 467, 468, 469, 470, 471, 472, 473, 474, 352, 353, 354, 355, 181, 183, 184, 356, 357, 358, 359, 360, 361, 362, 363, 364, 475, 476, 477, 478, 227, 187, 186, 206, 188, 770, 771, 772, 773, 774, 775, 776, 777, 778, 779, 780, 781, 782, 783, 784, 785, 786, 787, 788, 789, 790, 791, 792, 793, 794, 795, 796, 797, 798, 799, 800, 801, 802, 803, 804, 805, 806, 807, 808] (by decide +kernel) (by decide +kernel)
set_option maxRecDepth 20000 in
theorem gL_law_X5_quiet : GoodIn wsL_law (wsV RL 67 RX5 yX5_quiet wsX5_quiet) := goodIn_app (goodIn_of _ (by decide +kernel)) ggL_law_X5_quiet
set_option maxRecDepth 20000 in
theorem ggL_law_X4_stop : GoodIn wsL_law wsX4_stop := goodIn_r _ [559, 24, 321, 322, 323, 324, 2, 325, 19, 303, 520, 521, 522, 560, 561, 562, 563, 25, 404, 523, 415, 416, 23, 417, 168, 169, 56, 173, 174, 175, 176, 57, 58, 59, 418, 419, 420, 421, 422, 423, 424, 425, 380, 426, 427, 428, 429, 430, 331, 332, 333, 334, 335, 336, 337, 338, 339, 340, 66, 341, 342, 65, 67, 431, 432, 433, 434, 435, 436, 437, 438, 439, 440, 441, 442, 443, 444, 564, 565, 566, 567, 568, 569, 570, 571, 760, 761, 762, 763, 764, 765, 766, 767, 768, 769, 826, 827, 828, 829, 830, 831, 813, 814, 815, 816, 817, 818, 819, 820, 821, 822, 823, 824, 825] (by decide +kernel) (by decide +kernel)
set_option maxRecDepth 20000 in
theorem gL_law_X4_stop : GoodIn wsL_law (wsV RL 68 RX4 yX4_stop wsX4_stop) := goodIn_app (goodIn_of _ (by decide +kernel)) ggL_law_X4_stop
set_option maxRecDepth 20000 in
theorem ggL_law_X5_stop : GoodIn wsL_law wsX5_stop := goodIn_r _ [575, 201, 348, 349, 350, 5, 351, 226, 240, 241, 242, 576, 577, 578, 579, 454, 455, 456, 457, 580, 581, 582, 583, 458, 459, 460, 461, 462, 463, 464, 465, 466, 185, 467, 468, 469, 470, 471, 472, 473, 474, 352, 353, 354, 355, 181, 183, 184, 356, 357, 358, 359, 360, 361, 362, 363, 364, 475, 476, 477, 478, 227, 187, 186, 206, 188, 584, 585, 586, 587, 770, 771, 772, 773, 774, 775, 776, 777, 778, 779, 780, 781, 782, 783, 784, 785, 786, 787, 788, 789, 790, 791, 792, 793, 794, 795, 796, 797, 798, 799, 800, 801, 802, 803, 804, 805, 806, 807, 808] (by decide +kernel) (by decide +kernel)
set_option maxRecDepth 20000 in
theorem gL_law_X5_stop : GoodIn wsL_law (wsV RL 71 RX5 yX5_stop wsX5_stop) := goodIn_app (goodIn_of _ (by decide +kernel)) ggL_law_X5_stop
set_option maxRecDepth 20000 in
theorem ggL_law_X4_best : GoodIn wsL_law wsX4_best := goodIn_r _ [591, 19, 375, 303, 24, 520, 521, 2, 522, 560, 561, 562, 563, 25, 404, 523, 415, 416, 23, 417, 168, 169, 56, 173, 174, 175, 176, 57, 58, 59, 418, 419, 420, 421, 422, 423, 424, 425, 380, 426, 427, 428, 429, 430, 331, 332, 333, 334, 335, 336, 337, 338, 339, 340, 66, 341, 342, 65, 67, 431, 432, 433, 434, 435, 436, 437, 438, 439, 440, 441, 442, 443, 444, 483, 382, 383, 384, 385, 592, 593, 594, 595, 568, 569, 570, 571, 760, 761, 762, 763, 764, 765, 766, 767, 768, 769, 813, 814, 815, 816, 817, 818, 819, 820, 821, 822, 823, 824, 825, 826, 827, 828, 829, 830, 831] (by decide +kernel) (by decide +kernel)
set_option maxRecDepth 20000 in
theorem gL_law_X4_best : GoodIn wsL_law (wsV RL 72 RX4 yX4_best wsX4_best) := goodIn_app (goodIn_of _ (by decide +kernel)) ggL_law_X4_best
set_option maxRecDepth 20000 in
theorem ggL_law_X5_best : GoodIn wsL_law wsX5_best := goodIn_r _ [599, 228, 226, 201, 240, 241, 5, 242, 576, 577, 578, 579, 454, 455, 456, 457, 580, 581, 582, 583, 458, 459, 460, 461, 462, 463, 464, 465, 466, 185, 467, 468, 469, 470, 471, 472, 473, 474, 352, 353, 354, 355, 181, 183, 184, 356, 357, 358, 359, 360, 361, 362, 363, 364, 475, 476, 477, 478, 227, 187, 186, 206, 188, 395, 396, 397, 398, 190, 296, 297, 298, 770, 771, 772, 773, 774, 775, 776, 777, 778, 779, 780, 781, 782, 783, 784, 785, 786, 787, 788, 789, 790, 791, 792, 793, 794, 795, 796, 797, 798, 799, 800, 801, 802, 803, 804, 805, 806, 807, 808] (by decide +kernel) (by decide +kernel)
set_option maxRecDepth 20000 in
theorem gL_law_X5_best : GoodIn wsL_law (wsV RL 75 RX5 yX5_best wsX5_best) := goodIn_app (goodIn_of _ (by decide +kernel)) ggL_law_X5_best
set_option maxRecDepth 20000 in
theorem ggL_law_X4_both : GoodIn wsL_law wsX4_both := goodIn_r _ [603, 19, 303, 24, 321, 520, 521, 2, 522, 592, 593, 594, 595, 25, 404, 523, 415, 416, 23, 417, 168, 169, 56, 173, 174, 175, 176, 57, 58, 59, 568, 437, 438, 439, 440, 441, 442, 443, 444, 340, 66, 341, 418, 419, 420, 421, 422, 423, 424, 425, 380, 426, 427, 428, 429, 430, 331, 332, 333, 334, 335, 336, 337, 338, 339, 342, 65, 67, 431, 432, 433, 434, 435, 436, 569, 570, 571, 760, 761, 762, 763, 764, 765, 766, 767, 768, 769, 813, 814, 815, 816, 817, 818, 819, 820, 821, 822, 823, 824, 825, 826, 827, 828, 829, 830, 831] (by decide +kernel) (by decide +kernel)
set_option maxRecDepth 20000 in
theorem gL_law_X4_both : GoodIn wsL_law (wsV RL 76 RX4 yX4_both wsX4_both) := goodIn_app (goodIn_of _ (by decide +kernel)) ggL_law_X4_both
set_option maxRecDepth 20000 in
theorem ggL_law_X5_both : GoodIn wsL_law wsX5_both := goodIn_r _ [607, 226, 201, 240, 241, 5, 242, 454, 455, 456, 457, 475, 476, 477, 478, 227, 187, 186, 206, 188, 359, 360, 361, 580, 581, 582, 583, 458, 459, 460, 461, 462, 463, 464, 465, 466, 185, 467, 468, 469, 470, 471, 472, 473, 474, 352, 353, 354, 355, 181, 183, 184, 356, 357, 358, 362, 363, 364, 770, 771, 772, 773, 774, 775, 776, 777, 778, 779, 780, 781, 782, 783, 784, 785, 786, 787, 788, 789, 790, 791, 792, 793, 794, 795, 796, 797, 798, 799, 800, 801, 802, 803, 804, 805, 806, 807, 808] (by decide +kernel) (by decide +kernel)
set_option maxRecDepth 20000 in
theorem gL_law_X5_both : GoodIn wsL_law (wsV RL 79 RX5 yX5_both wsX5_both) := goodIn_app (goodIn_of _ (by decide +kernel)) ggL_law_X5_both
set_option maxRecDepth 20000 in
theorem ggL_law_X4_never : GoodIn wsL_law wsX4_never := goodIn_r _ [611, 19, 303, 24, 321, 520, 521, 2, 522, 560, 561, 562, 563, 25, 404, 523, 415, 416, 23, 417, 168, 169, 56, 173, 174, 175, 176, 57, 58, 59, 418, 419, 420, 421, 422, 423, 424, 425, 380, 426, 427, 428, 429, 430, 331, 332, 333, 334, 335, 336, 337, 338, 339, 340, 66, 341, 342, 65, 67, 431, 432, 433, 434, 435, 436, 437, 438, 439, 440, 441, 442, 443, 444, 612, 613, 614, 615, 569, 570, 571, 760, 761, 762, 763, 764, 765, 766, 767, 768, 769, 813, 814, 815, 816, 817, 818, 819, 820, 821, 822, 823, 824, 825, 826, 827, 828, 829, 830, 831] (by decide +kernel) (by decide +kernel)
set_option maxRecDepth 20000 in
theorem gL_law_X4_never : GoodIn wsL_law (wsV RL 80 RX4 yX4_never wsX4_never) := goodIn_app (goodIn_of _ (by decide +kernel)) ggL_law_X4_never
set_option maxRecDepth 20000 in
theorem ggL_law_X5_never : GoodIn wsL_law wsX5_never := goodIn_r _ [619, 226, 201, 206, 240, 241, 5, 242, 576, 577, 578, 579, 454, 455, 456, 457, 580, 581, 582, 583, 458, 459, 460, 461, 462, 463, 464, 465, 466, 185, 467, 468, 469, 470, 471, 472, 473, 474, 352, 353, 354, 355, 181, 183, 184, 356, 357, 358, 359, 360, 361, 362, 363, 364, 475, 476, 477, 478, 227, 187, 186, 188, 770, 771, 772, 773, 774, 775, 776, 777, 778, 779, 780, 781, 782, 783, 784, 785, 786, 787, 788, 789, 790, 791, 792, 793, 794, 795, 796, 797, 798, 799, 800, 801, 802, 803, 804, 805, 806, 807, 808] (by decide +kernel) (by decide +kernel)
set_option maxRecDepth 20000 in
theorem gL_law_X5_never : GoodIn wsL_law (wsV RL 83 RX5 yX5_never wsX5_never) := goodIn_app (goodIn_of _ (by decide +kernel)) ggL_law_X5_never
set_option maxRecDepth 20000 in
theorem ggL_law_X4_note : GoodIn wsL_law wsX4_note := goodIn_r _ [623, 305, 32, 33, 760, 761, 762, 763, 764, 765, 766, 767, 768, 769] (by decide +kernel) (by decide +kernel)
set_option maxRecDepth 20000 in
theorem gL_law_X4_note : GoodIn wsL_law (wsV RL 84 RX4 yX4_note wsX4_note) := goodIn_app (goodIn_of _ (by decide +kernel)) ggL_law_X4_note
set_option maxRecDepth 20000 in
theorem ggL_law_X5_note : GoodIn wsL_law wsX5_note := goodIn_r _ [627, 628, 629, 630, 312, 204, 205, 240, 241, 5, 242, 770, 771, 772, 773, 774, 775, 776, 777, 778, 779, 780, 781, 782, 783, 784, 785, 786, 787, 788, 789, 790, 791, 792, 793, 794, 795, 796, 797, 798, 799, 800, 801, 802, 803, 804, 805, 806, 807, 808] (by decide +kernel) (by decide +kernel)
set_option maxRecDepth 20000 in
theorem gL_law_X5_note : GoodIn wsL_law (wsV RL 87 RX5 yX5_note wsX5_note) := goodIn_app (goodIn_of _ (by decide +kernel)) ggL_law_X5_note
set_option maxRecDepth 20000 in
theorem ggL_law_X4_forget : GoodIn wsL_law wsX4_forget := goodIn_r _ [634, 305, 760, 761, 762, 763, 764, 765, 766, 767, 768, 769] (by decide +kernel) (by decide +kernel)
set_option maxRecDepth 20000 in
theorem gL_law_X4_forget : GoodIn wsL_law (wsV RL 88 RX4 yX4_forget wsX4_forget) := goodIn_app (goodIn_of _ (by decide +kernel)) ggL_law_X4_forget
set_option maxRecDepth 20000 in
theorem ggL_law_X5_forget : GoodIn wsL_law wsX5_forget := goodIn_r _ [638, 312, 770, 771, 772, 773, 774, 775, 776, 777, 778, 779, 780, 781, 782, 783, 784, 785, 786, 787, 788, 789, 790, 791, 792, 793, 794, 795, 796, 797, 798, 799, 800, 801, 802, 803, 804, 805, 806, 807, 808] (by decide +kernel) (by decide +kernel)
set_option maxRecDepth 20000 in
theorem gL_law_X5_forget : GoodIn wsL_law (wsV RL 91 RX5 yX5_forget wsX5_forget) := goodIn_app (goodIn_of _ (by decide +kernel)) ggL_law_X5_forget
set_option maxRecDepth 20000 in
theorem ggL_law_X4_waning : GoodIn wsL_law wsX4_waning := goodIn_r _ [642, 520, 521, 2, 522, 643, 644, 645, 646, 305, 32, 33, 647, 337, 338, 339, 340, 66, 341, 342, 65, 67, 760, 761, 762, 763, 764, 765, 766, 767, 768, 769] (by decide +kernel) (by decide +kernel)
set_option maxRecDepth 20000 in
theorem gL_law_X4_waning : GoodIn wsL_law (wsV RL 92 RX4 yX4_waning wsX4_waning) := goodIn_app (goodIn_of _ (by decide +kernel)) ggL_law_X4_waning
set_option maxRecDepth 20000 in
theorem ggL_law_X5_waning : GoodIn wsL_law wsX5_waning := goodIn_r _ [651, 240, 241, 5, 242, 652, 653, 654, 655, 312, 204, 205, 356, 357, 358, 359, 360, 361, 362, 363, 364, 770, 771, 772, 773, 774, 775, 776, 777, 778, 779, 780, 781, 782, 783, 784, 785, 786, 787, 788, 789, 790, 791, 792, 793, 794, 795, 796, 797, 798, 799, 800, 801, 802, 803, 804, 805, 806, 807, 808] (by decide +kernel) (by decide +kernel)
set_option maxRecDepth 20000 in
theorem gL_law_X5_waning : GoodIn wsL_law (wsV RL 95 RX5 yX5_waning wsX5_waning) := goodIn_app (goodIn_of _ (by decide +kernel)) ggL_law_X5_waning
set_option maxRecDepth 20000 in
theorem ggL_law_X4_kinds : GoodIn wsL_law wsX4_kinds := goodIn_r _ [659, 19, 318, 319, 322, 323, 324, 2, 325, 303, 643, 644, 645, 646, 305, 32, 33, 647, 337, 338, 339, 340, 66, 341, 342, 65, 67, 760, 761, 762, 763, 764, 765, 766, 767, 768, 769, 813, 814, 815, 816, 817, 818, 819, 820, 821, 822, 823, 824, 825] (by decide +kernel) (by decide +kernel)
set_option maxRecDepth 20000 in
theorem gL_law_X4_kinds : GoodIn wsL_law (wsV RL 96 RX4 yX4_kinds wsX4_kinds) := goodIn_app (goodIn_of _ (by decide +kernel)) ggL_law_X4_kinds
set_option maxRecDepth 20000 in
theorem ggL_law_X5_kinds : GoodIn wsL_law wsX5_kinds := goodIn_r _ [663, 183, 184, 348, 349, 350, 5, 351, 226, 240, 241, 242, 652, 653, 654, 655, 312, 204, 205, 356, 357, 358, 359, 360, 361, 362, 363, 364, 770, 771, 772, 773, 774, 775, 776, 777, 778, 779, 780, 781, 782, 783, 784, 785, 786, 787, 788, 789, 790, 791, 792, 793, 794, 795, 796, 797, 798, 799, 800, 801, 802, 803, 804, 805, 806, 807, 808] (by decide +kernel) (by decide +kernel)
set_option maxRecDepth 20000 in
theorem gL_law_X5_kinds : GoodIn wsL_law (wsV RL 99 RX5 yX5_kinds wsX5_kinds) := goodIn_app (goodIn_of _ (by decide +kernel)) ggL_law_X5_kinds
set_option maxRecDepth 20000 in
theorem ggL_law_X4_late : GoodIn wsL_law wsX4_late := goodIn_r _ [667, 24, 19, 303, 520, 521, 2, 522, 668, 669, 670, 23, 671, 380, 56, 57, 168, 672, 673, 674, 675, 676, 677, 678, 25, 679, 404, 523, 415, 416, 417, 169, 173, 174, 175, 176, 58, 59, 418, 419, 420, 421, 422, 423, 424, 425, 426, 427, 428, 429, 430, 331, 332, 333, 334, 335, 336, 337, 338, 339, 340, 66, 341, 342, 65, 67, 431, 432, 433, 434, 435, 436, 437, 438, 439, 440, 441, 442, 443, 444, 680, 681, 682, 760, 761, 762, 763, 764, 765, 766, 767, 768, 769, 813, 814, 815, 816, 817, 818, 819, 820, 821, 822, 823, 824, 825, 826, 827, 828, 829, 830, 831] (by decide +kernel) (by decide +kernel)
set_option maxRecDepth 20000 in
theorem gL_law_X4_late : GoodIn wsL_law (wsV RL 100 RX4 yX4_late wsX4_late) := goodIn_app (goodIn_of _ (by decide +kernel)) ggL_law_X4_late
set_option maxRecDepth 20000 in
theorem ggL_law_X5_late : GoodIn wsL_law wsX5_late := goodIn_r _ [686, 630, 687, 688, 226, 201, 240, 241, 5, 242, 454, 455, 456, 457, 689, 690, 691, 692, 296, 297, 298, 580, 581, 582, 583, 458, 459, 460, 461, 462, 463, 464, 465, 466, 185, 467, 468, 469, 470, 471, 472, 473, 474, 352, 353, 354, 355, 181, 183, 184, 356, 357, 358, 359, 360, 361, 362, 363, 364, 475, 476, 477, 478, 227, 187, 186, 206, 188, 770, 771, 772, 773, 774, 775, 776, 777, 778, 779, 780, 781, 782, 783, 784, 785, 786, 787, 788, 789, 790, 791, 792, 793, 794, 795, 796, 797, 798, 799, 800, 801, 802, 803, 804, 805, 806, 807, 808] (by decide +kernel) (by decide +kernel)
set_option maxRecDepth 20000 in
theorem gL_law_X5_late : GoodIn wsL_law (wsV RL 104 RX5 yX5_late wsX5_late) := goodIn_app (goodIn_of _ (by decide +kernel)) ggL_law_X5_late
set_option maxRecDepth 20000 in
theorem ggL_law_X4_season : GoodIn wsL_law wsX4_season := goodIn_r _ [696, 25, 24, 19, 404, 520, 521, 2, 522, 523, 415, 416, 23, 417, 168, 169, 56, 173, 174, 175, 176, 57, 58, 59, 697, 698, 699, 700, 701, 702, 703, 704, 705, 706, 375, 303, 369, 483, 382, 383, 384, 385, 334, 484, 485, 486, 487, 436, 437, 438, 439, 440, 441, 442, 443, 444, 340, 66, 341, 496, 497, 498, 499, 418, 419, 420, 421, 422, 423, 424, 425, 380, 426, 427, 428, 429, 430, 331, 332, 333, 335, 336, 337, 338, 339, 342, 65, 67, 431, 432, 433, 434, 435, 707, 708, 709, 710, 711, 760, 761, 762, 763, 764, 765, 766, 767, 768, 769, 826, 827, 828, 829, 830, 831, 813, 814, 815, 816, 817, 818, 819, 820, 821, 822, 823, 824, 825] (by decide +kernel) (by decide +kernel)
set_option maxRecDepth 20000 in
theorem gL_law_X4_season : GoodIn wsL_law (wsV RL 105 RX4 yX4_season wsX4_season) := goodIn_app (goodIn_of _ (by decide +kernel)) ggL_law_X4_season
set_option maxRecDepth 20000 in
theorem ggL_law_X5_season : GoodIn wsL_law wsX5_season := goodIn_r _ [715, 716, 532, 717, 718, 228, 719, 201, 240, 241, 5, 242, 454, 455, 456, 457, 720, 721, 722, 723, 226, 395, 396, 397, 398, 190, 181, 296, 297, 298, 475, 476, 477, 478, 227, 187, 186, 206, 188, 359, 360, 361, 458, 459, 460, 461, 462, 463, 464, 465, 466, 185, 467, 468, 469, 470, 471, 472, 473, 474, 352, 353, 354, 355, 183, 184, 356, 357, 358, 362, 363, 364, 724, 725, 726, 727, 770, 771, 772, 773, 774, 775, 776, 777, 778, 779, 780, 781, 782, 783, 784, 785, 786, 787, 788, 789, 790, 791, 792, 793, 794, 795, 796, 797, 798, 799, 800, 801, 802, 803, 804, 805, 806, 807, 808] (by decide +kernel) (by decide +kernel)
set_option maxRecDepth 20000 in
theorem gL_law_X5_season : GoodIn wsL_law (wsV RL 109 RX5 yX5_season wsX5_season) := goodIn_app (goodIn_of _ (by decide +kernel)) ggL_law_X5_season
set_option maxRecDepth 20000 in
theorem ggL_law_X4_keep : GoodIn wsL_law wsX4_keep := goodIn_r _ [731, 30, 304, 24, 405, 406, 407, 28, 408, 409, 69, 410, 411, 412, 413, 414, 415, 416, 23, 417, 168, 169, 56, 173, 174, 175, 176, 57, 58, 59, 760, 761, 762, 763, 764, 765, 766, 767, 768, 769, 832, 833, 826, 827, 828, 829, 830, 831] (by decide +kernel) (by decide +kernel)
set_option maxRecDepth 20000 in
theorem gL_law_X4_keep : GoodIn wsL_law (wsV RL 110 RX4 yX4_keep wsX4_keep) := goodIn_app (goodIn_of _ (by decide +kernel)) ggL_law_X4_keep
set_option maxRecDepth 20000 in
theorem ggL_law_X5_keep : GoodIn wsL_law wsX5_keep := goodIn_r _ [735, 311, 454, 455, 456, 5, 457, 201, 770, 771, 772, 773, 774, 775, 776, 777, 778, 779, 780, 781, 782, 783, 784, 785, 786, 787, 788, 789, 790, 791, 792, 793, 794, 795, 796, 797, 798, 799, 800, 801, 802, 803, 804, 805, 806, 807, 808] (by decide +kernel) (by decide +kernel)
set_option maxRecDepth 20000 in
theorem gL_law_X5_keep : GoodIn wsL_law (wsV RL 113 RX5 yX5_keep wsX5_keep) := goodIn_app (goodIn_of _ (by decide +kernel)) ggL_law_X5_keep
set_option maxRecDepth 20000 in
theorem ggL_law_X4_back : GoodIn wsL_law wsX4_back := goodIn_r _ [739, 30, 24, 29, 304, 508, 509, 510, 28, 511, 409, 69, 414, 415, 416, 23, 417, 168, 169, 56, 173, 174, 175, 176, 57, 58, 59, 760, 761, 762, 763, 764, 765, 766, 767, 768, 769, 832, 833, 826, 827, 828, 829, 830, 831] (by decide +kernel) (by decide +kernel)
set_option maxRecDepth 20000 in
theorem gL_law_X4_back : GoodIn wsL_law (wsV RL 114 RX4 yX4_back wsX4_back) := goodIn_app (goodIn_of _ (by decide +kernel)) ggL_law_X4_back
set_option maxRecDepth 20000 in
theorem ggL_law_X5_back : GoodIn wsL_law wsX5_back := goodIn_r _ [743, 311, 310, 454, 455, 456, 5, 457, 201, 770, 771, 772, 773, 774, 775, 776, 777, 778, 779, 780, 781, 782, 783, 784, 785, 786, 787, 788, 789, 790, 791, 792, 793, 794, 795, 796, 797, 798, 799, 800, 801, 802, 803, 804, 805, 806, 807, 808] (by decide +kernel) (by decide +kernel)
set_option maxRecDepth 20000 in
theorem gL_law_X5_back : GoodIn wsL_law (wsV RL 117 RX5 yX5_back wsX5_back) := goodIn_app (goodIn_of _ (by decide +kernel)) ggL_law_X5_back
set_option maxRecDepth 20000 in
theorem ggL_law_X4_count : GoodIn wsL_law wsX4_count := goodIn_r _ [747, 19, 303, 375, 24, 403, 404, 305, 29, 304, 30, 15, 34, 748, 749, 750, 23, 751, 380, 56, 707, 708, 709, 710, 711, 59, 760, 761, 762, 763, 764, 765, 766, 767, 768, 769, 813, 814, 815, 816, 817, 818, 819, 820, 821, 822, 823, 824, 825, 826, 827, 828, 829, 830, 831, 832, 833, 809, 810, 811, 812] (by decide +kernel) (by decide +kernel)
set_option maxRecDepth 20000 in
theorem gL_law_X4_count : GoodIn wsL_law (wsV RL 118 RX4 yX4_count wsX4_count) := goodIn_app (goodIn_of _ (by decide +kernel)) ggL_law_X4_count
set_option maxRecDepth 20000 in
theorem ggL_law_X5_count : GoodIn wsL_law wsX5_count := goodIn_r _ [755, 226, 228, 201, 312, 310, 311, 239, 756, 757, 758, 5, 759, 724, 725, 726, 727, 770, 771, 772, 773, 774, 775, 776, 777, 778, 779, 780, 781, 782, 783, 784, 785, 786, 787, 788, 789, 790, 791, 792, 793, 794, 795, 796, 797, 798, 799, 800, 801, 802, 803, 804, 805, 806, 807, 808] (by decide +kernel) (by decide +kernel)
set_option maxRecDepth 20000 in
theorem gL_law_X5_count : GoodIn wsL_law (wsV RL 121 RX5 yX5_count wsX5_count) := goodIn_app (goodIn_of _ (by decide +kernel)) ggL_law_X5_count
theorem dL_law_0 : decode cL_law 0 = .ok (.new 7, 3) := by decide +kernel
theorem dL_law_3 : decode cL_law 3 = .ok (.dup, 1) := by decide +kernel
theorem dL_law_4 : decode cL_law 4 = .ok (.invokespecial 9, 3) := by decide +kernel
theorem dL_law_7 : decode cL_law 7 = .ok (.astore_n 1, 1) := by decide +kernel
theorem dL_law_8 : decode cL_law 8 = .ok (.new 10, 3) := by decide +kernel
theorem dL_law_11 : decode cL_law 11 = .ok (.dup, 1) := by decide +kernel
theorem dL_law_12 : decode cL_law 12 = .ok (.invokespecial 12, 3) := by decide +kernel
theorem dL_law_15 : decode cL_law 15 = .ok (.astore_n 2, 1) := by decide +kernel
theorem dL_law_16 : decode cL_law 16 = .ok (.iconst 0, 1) := by decide +kernel
theorem dL_law_17 : decode cL_law 17 = .ok (.istore_n 3, 1) := by decide +kernel
theorem dL_law_18 : decode cL_law 18 = .ok (.iload_n 3, 1) := by decide +kernel
theorem dL_law_19 : decode cL_law 19 = .ok (.aload_n 0, 1) := by decide +kernel
theorem dL_law_20 : decode cL_law 20 = .ok (.arraylength, 1) := by decide +kernel
theorem dL_law_21 : decode cL_law 21 = .ok (.iconst 5, 1) := by decide +kernel
theorem dL_law_22 : decode cL_law 22 = .ok (.isub, 1) := by decide +kernel
theorem dL_law_23 : decode cL_law 23 = .ok (.if_icmp .gt 763, 3) := by decide +kernel
theorem dL_law_26 : decode cL_law 26 = .ok (.aload_n 0, 1) := by decide +kernel
theorem dL_law_27 : decode cL_law 27 = .ok (.iload_n 3, 1) := by decide +kernel
theorem dL_law_28 : decode cL_law 28 = .ok (.iaload, 1) := by decide +kernel
theorem dL_law_29 : decode cL_law 29 = .ok (.bipush 31, 2) := by decide +kernel
theorem dL_law_31 : decode cL_law 31 = .ok (.iand, 1) := by decide +kernel
theorem dL_law_32 : decode cL_law 32 = .ok (.tableswitch 748 0 25 #[120, 143, 156, 169, 182, 215, 248, 271, 304, 337, 350, 383, 396, 409, 442, 465, 488, 511, 544, 557, 580, 603, 656, 699, 712, 725], 120) := by decide +kernel
theorem dL_law_152 : decode cL_law 152 = .ok (.aload_n 1, 1) := by decide +kernel
theorem dL_law_153 : decode cL_law 153 = .ok (.aload_n 0, 1) := by decide +kernel
theorem dL_law_154 : decode cL_law 154 = .ok (.iload_n 3, 1) := by decide +kernel
theorem dL_law_155 : decode cL_law 155 = .ok (.iconst 1, 1) := by decide +kernel
theorem dL_law_156 : decode cL_law 156 = .ok (.iadd, 1) := by decide +kernel
theorem dL_law_157 : decode cL_law 157 = .ok (.iaload, 1) := by decide +kernel
theorem dL_law_158 : decode cL_law 158 = .ok (.invokevirtual 13, 3) := by decide +kernel
theorem dL_law_161 : decode cL_law 161 = .ok (.aload_n 2, 1) := by decide +kernel
theorem dL_law_162 : decode cL_law 162 = .ok (.aload_n 0, 1) := by decide +kernel
theorem dL_law_163 : decode cL_law 163 = .ok (.iload_n 3, 1) := by decide +kernel
theorem dL_law_164 : decode cL_law 164 = .ok (.iconst 1, 1) := by decide +kernel
theorem dL_law_165 : decode cL_law 165 = .ok (.iadd, 1) := by decide +kernel
theorem dL_law_166 : decode cL_law 166 = .ok (.iaload, 1) := by decide +kernel
theorem dL_law_167 : decode cL_law 167 = .ok (.invokevirtual 17, 3) := by decide +kernel
theorem dL_law_170 : decode cL_law 170 = .ok (.if_icmp .eq 610, 3) := by decide +kernel
theorem dL_law_173 : decode cL_law 173 = .ok (.iconst 0, 1) := by decide +kernel
theorem dL_law_174 : decode cL_law 174 = .ok (.ireturn, 1) := by decide +kernel
theorem dL_law_175 : decode cL_law 175 = .ok (.aload_n 1, 1) := by decide +kernel
theorem dL_law_176 : decode cL_law 176 = .ok (.invokevirtual 18, 3) := by decide +kernel
theorem dL_law_179 : decode cL_law 179 = .ok (.aload_n 2, 1) := by decide +kernel
theorem dL_law_180 : decode cL_law 180 = .ok (.invokevirtual 22, 3) := by decide +kernel
theorem dL_law_183 : decode cL_law 183 = .ok (.if_icmp .eq 597, 3) := by decide +kernel
theorem dL_law_186 : decode cL_law 186 = .ok (.iconst 0, 1) := by decide +kernel
theorem dL_law_187 : decode cL_law 187 = .ok (.ireturn, 1) := by decide +kernel
theorem dL_law_188 : decode cL_law 188 = .ok (.aload_n 1, 1) := by decide +kernel
theorem dL_law_189 : decode cL_law 189 = .ok (.invokevirtual 23, 3) := by decide +kernel
theorem dL_law_192 : decode cL_law 192 = .ok (.aload_n 2, 1) := by decide +kernel
theorem dL_law_193 : decode cL_law 193 = .ok (.invokevirtual 26, 3) := by decide +kernel
theorem dL_law_196 : decode cL_law 196 = .ok (.if_icmp .eq 584, 3) := by decide +kernel
theorem dL_law_199 : decode cL_law 199 = .ok (.iconst 0, 1) := by decide +kernel
theorem dL_law_200 : decode cL_law 200 = .ok (.ireturn, 1) := by decide +kernel
theorem dL_law_201 : decode cL_law 201 = .ok (.aload_n 1, 1) := by decide +kernel
theorem dL_law_202 : decode cL_law 202 = .ok (.invokevirtual 27, 3) := by decide +kernel
theorem dL_law_205 : decode cL_law 205 = .ok (.aload_n 2, 1) := by decide +kernel
theorem dL_law_206 : decode cL_law 206 = .ok (.invokevirtual 30, 3) := by decide +kernel
theorem dL_law_209 : decode cL_law 209 = .ok (.if_icmp .eq 571, 3) := by decide +kernel
theorem dL_law_212 : decode cL_law 212 = .ok (.iconst 0, 1) := by decide +kernel
theorem dL_law_213 : decode cL_law 213 = .ok (.ireturn, 1) := by decide +kernel
theorem dL_law_214 : decode cL_law 214 = .ok (.aload_n 1, 1) := by decide +kernel
theorem dL_law_215 : decode cL_law 215 = .ok (.aload_n 0, 1) := by decide +kernel
theorem dL_law_216 : decode cL_law 216 = .ok (.iload_n 3, 1) := by decide +kernel
theorem dL_law_217 : decode cL_law 217 = .ok (.iconst 1, 1) := by decide +kernel
theorem dL_law_218 : decode cL_law 218 = .ok (.iadd, 1) := by decide +kernel
theorem dL_law_219 : decode cL_law 219 = .ok (.iaload, 1) := by decide +kernel
theorem dL_law_220 : decode cL_law 220 = .ok (.aload_n 0, 1) := by decide +kernel
theorem dL_law_221 : decode cL_law 221 = .ok (.iload_n 3, 1) := by decide +kernel
theorem dL_law_222 : decode cL_law 222 = .ok (.iconst 2, 1) := by decide +kernel
theorem dL_law_223 : decode cL_law 223 = .ok (.iadd, 1) := by decide +kernel
theorem dL_law_224 : decode cL_law 224 = .ok (.iaload, 1) := by decide +kernel
theorem dL_law_225 : decode cL_law 225 = .ok (.invokevirtual 31, 3) := by decide +kernel
theorem dL_law_228 : decode cL_law 228 = .ok (.aload_n 2, 1) := by decide +kernel
theorem dL_law_229 : decode cL_law 229 = .ok (.aload_n 0, 1) := by decide +kernel
theorem dL_law_230 : decode cL_law 230 = .ok (.iload_n 3, 1) := by decide +kernel
theorem dL_law_231 : decode cL_law 231 = .ok (.iconst 1, 1) := by decide +kernel
theorem dL_law_232 : decode cL_law 232 = .ok (.iadd, 1) := by decide +kernel
theorem dL_law_233 : decode cL_law 233 = .ok (.iaload, 1) := by decide +kernel
theorem dL_law_234 : decode cL_law 234 = .ok (.aload_n 0, 1) := by decide +kernel
theorem dL_law_235 : decode cL_law 235 = .ok (.iload_n 3, 1) := by decide +kernel
theorem dL_law_236 : decode cL_law 236 = .ok (.iconst 2, 1) := by decide +kernel
theorem dL_law_237 : decode cL_law 237 = .ok (.iadd, 1) := by decide +kernel
theorem dL_law_238 : decode cL_law 238 = .ok (.iaload, 1) := by decide +kernel
theorem dL_law_239 : decode cL_law 239 = .ok (.invokevirtual 35, 3) := by decide +kernel
theorem dL_law_242 : decode cL_law 242 = .ok (.if_icmp .eq 538, 3) := by decide +kernel
theorem dL_law_245 : decode cL_law 245 = .ok (.iconst 0, 1) := by decide +kernel
theorem dL_law_246 : decode cL_law 246 = .ok (.ireturn, 1) := by decide +kernel
theorem dL_law_247 : decode cL_law 247 = .ok (.aload_n 1, 1) := by decide +kernel
theorem dL_law_248 : decode cL_law 248 = .ok (.aload_n 0, 1) := by decide +kernel
theorem dL_law_249 : decode cL_law 249 = .ok (.iload_n 3, 1) := by decide +kernel
theorem dL_law_250 : decode cL_law 250 = .ok (.iconst 1, 1) := by decide +kernel
theorem dL_law_251 : decode cL_law 251 = .ok (.iadd, 1) := by decide +kernel
theorem dL_law_252 : decode cL_law 252 = .ok (.iaload, 1) := by decide +kernel
theorem dL_law_253 : decode cL_law 253 = .ok (.aload_n 0, 1) := by decide +kernel
theorem dL_law_254 : decode cL_law 254 = .ok (.iload_n 3, 1) := by decide +kernel
theorem dL_law_255 : decode cL_law 255 = .ok (.iconst 2, 1) := by decide +kernel
theorem dL_law_256 : decode cL_law 256 = .ok (.iadd, 1) := by decide +kernel
theorem dL_law_257 : decode cL_law 257 = .ok (.iaload, 1) := by decide +kernel
theorem dL_law_258 : decode cL_law 258 = .ok (.invokevirtual 36, 3) := by decide +kernel
theorem dL_law_261 : decode cL_law 261 = .ok (.aload_n 2, 1) := by decide +kernel
theorem dL_law_262 : decode cL_law 262 = .ok (.aload_n 0, 1) := by decide +kernel
theorem dL_law_263 : decode cL_law 263 = .ok (.iload_n 3, 1) := by decide +kernel
theorem dL_law_264 : decode cL_law 264 = .ok (.iconst 1, 1) := by decide +kernel
theorem dL_law_265 : decode cL_law 265 = .ok (.iadd, 1) := by decide +kernel
theorem dL_law_266 : decode cL_law 266 = .ok (.iaload, 1) := by decide +kernel
theorem dL_law_267 : decode cL_law 267 = .ok (.aload_n 0, 1) := by decide +kernel
theorem dL_law_268 : decode cL_law 268 = .ok (.iload_n 3, 1) := by decide +kernel
theorem dL_law_269 : decode cL_law 269 = .ok (.iconst 2, 1) := by decide +kernel
theorem dL_law_270 : decode cL_law 270 = .ok (.iadd, 1) := by decide +kernel
theorem dL_law_271 : decode cL_law 271 = .ok (.iaload, 1) := by decide +kernel
theorem dL_law_272 : decode cL_law 272 = .ok (.invokevirtual 39, 3) := by decide +kernel
theorem dL_law_275 : decode cL_law 275 = .ok (.if_icmp .eq 505, 3) := by decide +kernel
theorem dL_law_278 : decode cL_law 278 = .ok (.iconst 0, 1) := by decide +kernel
theorem dL_law_279 : decode cL_law 279 = .ok (.ireturn, 1) := by decide +kernel
theorem dL_law_280 : decode cL_law 280 = .ok (.aload_n 1, 1) := by decide +kernel
theorem dL_law_281 : decode cL_law 281 = .ok (.aload_n 0, 1) := by decide +kernel
theorem dL_law_282 : decode cL_law 282 = .ok (.iload_n 3, 1) := by decide +kernel
theorem dL_law_283 : decode cL_law 283 = .ok (.iconst 1, 1) := by decide +kernel
theorem dL_law_284 : decode cL_law 284 = .ok (.iadd, 1) := by decide +kernel
theorem dL_law_285 : decode cL_law 285 = .ok (.iaload, 1) := by decide +kernel
theorem dL_law_286 : decode cL_law 286 = .ok (.invokevirtual 40, 3) := by decide +kernel
theorem dL_law_289 : decode cL_law 289 = .ok (.aload_n 2, 1) := by decide +kernel
theorem dL_law_290 : decode cL_law 290 = .ok (.aload_n 0, 1) := by decide +kernel
theorem dL_law_291 : decode cL_law 291 = .ok (.iload_n 3, 1) := by decide +kernel
theorem dL_law_292 : decode cL_law 292 = .ok (.iconst 1, 1) := by decide +kernel
theorem dL_law_293 : decode cL_law 293 = .ok (.iadd, 1) := by decide +kernel
theorem dL_law_294 : decode cL_law 294 = .ok (.iaload, 1) := by decide +kernel
theorem dL_law_295 : decode cL_law 295 = .ok (.invokevirtual 43, 3) := by decide +kernel
theorem dL_law_298 : decode cL_law 298 = .ok (.if_icmp .eq 482, 3) := by decide +kernel
theorem dL_law_301 : decode cL_law 301 = .ok (.iconst 0, 1) := by decide +kernel
theorem dL_law_302 : decode cL_law 302 = .ok (.ireturn, 1) := by decide +kernel
theorem dL_law_303 : decode cL_law 303 = .ok (.aload_n 1, 1) := by decide +kernel
theorem dL_law_304 : decode cL_law 304 = .ok (.aload_n 0, 1) := by decide +kernel
theorem dL_law_305 : decode cL_law 305 = .ok (.iload_n 3, 1) := by decide +kernel
theorem dL_law_306 : decode cL_law 306 = .ok (.iconst 1, 1) := by decide +kernel
theorem dL_law_307 : decode cL_law 307 = .ok (.iadd, 1) := by decide +kernel
theorem dL_law_308 : decode cL_law 308 = .ok (.iaload, 1) := by decide +kernel
theorem dL_law_309 : decode cL_law 309 = .ok (.aload_n 0, 1) := by decide +kernel
theorem dL_law_310 : decode cL_law 310 = .ok (.iload_n 3, 1) := by decide +kernel
theorem dL_law_311 : decode cL_law 311 = .ok (.iconst 2, 1) := by decide +kernel
theorem dL_law_312 : decode cL_law 312 = .ok (.iadd, 1) := by decide +kernel
theorem dL_law_313 : decode cL_law 313 = .ok (.iaload, 1) := by decide +kernel
theorem dL_law_314 : decode cL_law 314 = .ok (.invokevirtual 44, 3) := by decide +kernel
theorem dL_law_317 : decode cL_law 317 = .ok (.aload_n 2, 1) := by decide +kernel
theorem dL_law_318 : decode cL_law 318 = .ok (.aload_n 0, 1) := by decide +kernel
theorem dL_law_319 : decode cL_law 319 = .ok (.iload_n 3, 1) := by decide +kernel
theorem dL_law_320 : decode cL_law 320 = .ok (.iconst 1, 1) := by decide +kernel
theorem dL_law_321 : decode cL_law 321 = .ok (.iadd, 1) := by decide +kernel
theorem dL_law_322 : decode cL_law 322 = .ok (.iaload, 1) := by decide +kernel
theorem dL_law_323 : decode cL_law 323 = .ok (.aload_n 0, 1) := by decide +kernel
theorem dL_law_324 : decode cL_law 324 = .ok (.iload_n 3, 1) := by decide +kernel
theorem dL_law_325 : decode cL_law 325 = .ok (.iconst 2, 1) := by decide +kernel
theorem dL_law_326 : decode cL_law 326 = .ok (.iadd, 1) := by decide +kernel
theorem dL_law_327 : decode cL_law 327 = .ok (.iaload, 1) := by decide +kernel
theorem dL_law_328 : decode cL_law 328 = .ok (.invokevirtual 47, 3) := by decide +kernel
theorem dL_law_331 : decode cL_law 331 = .ok (.if_icmp .eq 449, 3) := by decide +kernel
theorem dL_law_334 : decode cL_law 334 = .ok (.iconst 0, 1) := by decide +kernel
theorem dL_law_335 : decode cL_law 335 = .ok (.ireturn, 1) := by decide +kernel
theorem dL_law_336 : decode cL_law 336 = .ok (.aload_n 1, 1) := by decide +kernel
theorem dL_law_337 : decode cL_law 337 = .ok (.aload_n 0, 1) := by decide +kernel
theorem dL_law_338 : decode cL_law 338 = .ok (.iload_n 3, 1) := by decide +kernel
theorem dL_law_339 : decode cL_law 339 = .ok (.iconst 1, 1) := by decide +kernel
theorem dL_law_340 : decode cL_law 340 = .ok (.iadd, 1) := by decide +kernel
theorem dL_law_341 : decode cL_law 341 = .ok (.iaload, 1) := by decide +kernel
theorem dL_law_342 : decode cL_law 342 = .ok (.aload_n 0, 1) := by decide +kernel
theorem dL_law_343 : decode cL_law 343 = .ok (.iload_n 3, 1) := by decide +kernel
theorem dL_law_344 : decode cL_law 344 = .ok (.iconst 2, 1) := by decide +kernel
theorem dL_law_345 : decode cL_law 345 = .ok (.iadd, 1) := by decide +kernel
theorem dL_law_346 : decode cL_law 346 = .ok (.iaload, 1) := by decide +kernel
theorem dL_law_347 : decode cL_law 347 = .ok (.invokevirtual 48, 3) := by decide +kernel
theorem dL_law_350 : decode cL_law 350 = .ok (.aload_n 2, 1) := by decide +kernel
theorem dL_law_351 : decode cL_law 351 = .ok (.aload_n 0, 1) := by decide +kernel
theorem dL_law_352 : decode cL_law 352 = .ok (.iload_n 3, 1) := by decide +kernel
theorem dL_law_353 : decode cL_law 353 = .ok (.iconst 1, 1) := by decide +kernel
theorem dL_law_354 : decode cL_law 354 = .ok (.iadd, 1) := by decide +kernel
theorem dL_law_355 : decode cL_law 355 = .ok (.iaload, 1) := by decide +kernel
theorem dL_law_356 : decode cL_law 356 = .ok (.aload_n 0, 1) := by decide +kernel
theorem dL_law_357 : decode cL_law 357 = .ok (.iload_n 3, 1) := by decide +kernel
theorem dL_law_358 : decode cL_law 358 = .ok (.iconst 2, 1) := by decide +kernel
theorem dL_law_359 : decode cL_law 359 = .ok (.iadd, 1) := by decide +kernel
theorem dL_law_360 : decode cL_law 360 = .ok (.iaload, 1) := by decide +kernel
theorem dL_law_361 : decode cL_law 361 = .ok (.invokevirtual 51, 3) := by decide +kernel
theorem dL_law_364 : decode cL_law 364 = .ok (.if_icmp .eq 416, 3) := by decide +kernel
theorem dL_law_367 : decode cL_law 367 = .ok (.iconst 0, 1) := by decide +kernel
theorem dL_law_368 : decode cL_law 368 = .ok (.ireturn, 1) := by decide +kernel
theorem dL_law_369 : decode cL_law 369 = .ok (.aload_n 1, 1) := by decide +kernel
theorem dL_law_370 : decode cL_law 370 = .ok (.invokevirtual 52, 3) := by decide +kernel
theorem dL_law_373 : decode cL_law 373 = .ok (.aload_n 2, 1) := by decide +kernel
theorem dL_law_374 : decode cL_law 374 = .ok (.invokevirtual 55, 3) := by decide +kernel
theorem dL_law_377 : decode cL_law 377 = .ok (.if_icmp .eq 403, 3) := by decide +kernel
theorem dL_law_380 : decode cL_law 380 = .ok (.iconst 0, 1) := by decide +kernel
theorem dL_law_381 : decode cL_law 381 = .ok (.ireturn, 1) := by decide +kernel
theorem dL_law_382 : decode cL_law 382 = .ok (.aload_n 1, 1) := by decide +kernel
theorem dL_law_383 : decode cL_law 383 = .ok (.aload_n 0, 1) := by decide +kernel
theorem dL_law_384 : decode cL_law 384 = .ok (.iload_n 3, 1) := by decide +kernel
theorem dL_law_385 : decode cL_law 385 = .ok (.iconst 1, 1) := by decide +kernel
theorem dL_law_386 : decode cL_law 386 = .ok (.iadd, 1) := by decide +kernel
theorem dL_law_387 : decode cL_law 387 = .ok (.iaload, 1) := by decide +kernel
theorem dL_law_388 : decode cL_law 388 = .ok (.aload_n 0, 1) := by decide +kernel
theorem dL_law_389 : decode cL_law 389 = .ok (.iload_n 3, 1) := by decide +kernel
theorem dL_law_390 : decode cL_law 390 = .ok (.iconst 2, 1) := by decide +kernel
theorem dL_law_391 : decode cL_law 391 = .ok (.iadd, 1) := by decide +kernel
theorem dL_law_392 : decode cL_law 392 = .ok (.iaload, 1) := by decide +kernel
theorem dL_law_393 : decode cL_law 393 = .ok (.invokevirtual 56, 3) := by decide +kernel
theorem dL_law_396 : decode cL_law 396 = .ok (.aload_n 2, 1) := by decide +kernel
theorem dL_law_397 : decode cL_law 397 = .ok (.aload_n 0, 1) := by decide +kernel
theorem dL_law_398 : decode cL_law 398 = .ok (.iload_n 3, 1) := by decide +kernel
theorem dL_law_399 : decode cL_law 399 = .ok (.iconst 1, 1) := by decide +kernel
theorem dL_law_400 : decode cL_law 400 = .ok (.iadd, 1) := by decide +kernel
theorem dL_law_401 : decode cL_law 401 = .ok (.iaload, 1) := by decide +kernel
theorem dL_law_402 : decode cL_law 402 = .ok (.aload_n 0, 1) := by decide +kernel
theorem dL_law_403 : decode cL_law 403 = .ok (.iload_n 3, 1) := by decide +kernel
theorem dL_law_404 : decode cL_law 404 = .ok (.iconst 2, 1) := by decide +kernel
theorem dL_law_405 : decode cL_law 405 = .ok (.iadd, 1) := by decide +kernel
theorem dL_law_406 : decode cL_law 406 = .ok (.iaload, 1) := by decide +kernel
theorem dL_law_407 : decode cL_law 407 = .ok (.invokevirtual 59, 3) := by decide +kernel
theorem dL_law_410 : decode cL_law 410 = .ok (.if_icmp .eq 370, 3) := by decide +kernel
theorem dL_law_413 : decode cL_law 413 = .ok (.iconst 0, 1) := by decide +kernel
theorem dL_law_414 : decode cL_law 414 = .ok (.ireturn, 1) := by decide +kernel
theorem dL_law_415 : decode cL_law 415 = .ok (.aload_n 1, 1) := by decide +kernel
theorem dL_law_416 : decode cL_law 416 = .ok (.invokevirtual 60, 3) := by decide +kernel
theorem dL_law_419 : decode cL_law 419 = .ok (.aload_n 2, 1) := by decide +kernel
theorem dL_law_420 : decode cL_law 420 = .ok (.invokevirtual 63, 3) := by decide +kernel
theorem dL_law_423 : decode cL_law 423 = .ok (.if_icmp .eq 357, 3) := by decide +kernel
theorem dL_law_426 : decode cL_law 426 = .ok (.iconst 0, 1) := by decide +kernel
theorem dL_law_427 : decode cL_law 427 = .ok (.ireturn, 1) := by decide +kernel
theorem dL_law_428 : decode cL_law 428 = .ok (.aload_n 1, 1) := by decide +kernel
theorem dL_law_429 : decode cL_law 429 = .ok (.invokevirtual 64, 3) := by decide +kernel
theorem dL_law_432 : decode cL_law 432 = .ok (.aload_n 2, 1) := by decide +kernel
theorem dL_law_433 : decode cL_law 433 = .ok (.invokevirtual 67, 3) := by decide +kernel
theorem dL_law_436 : decode cL_law 436 = .ok (.if_icmp .eq 344, 3) := by decide +kernel
theorem dL_law_439 : decode cL_law 439 = .ok (.iconst 0, 1) := by decide +kernel
theorem dL_law_440 : decode cL_law 440 = .ok (.ireturn, 1) := by decide +kernel
theorem dL_law_441 : decode cL_law 441 = .ok (.aload_n 1, 1) := by decide +kernel
theorem dL_law_442 : decode cL_law 442 = .ok (.aload_n 0, 1) := by decide +kernel
theorem dL_law_443 : decode cL_law 443 = .ok (.iload_n 3, 1) := by decide +kernel
theorem dL_law_444 : decode cL_law 444 = .ok (.iconst 1, 1) := by decide +kernel
theorem dL_law_445 : decode cL_law 445 = .ok (.iadd, 1) := by decide +kernel
theorem dL_law_446 : decode cL_law 446 = .ok (.iaload, 1) := by decide +kernel
theorem dL_law_447 : decode cL_law 447 = .ok (.aload_n 0, 1) := by decide +kernel
theorem dL_law_448 : decode cL_law 448 = .ok (.iload_n 3, 1) := by decide +kernel
theorem dL_law_449 : decode cL_law 449 = .ok (.iconst 2, 1) := by decide +kernel
theorem dL_law_450 : decode cL_law 450 = .ok (.iadd, 1) := by decide +kernel
theorem dL_law_451 : decode cL_law 451 = .ok (.iaload, 1) := by decide +kernel
theorem dL_law_452 : decode cL_law 452 = .ok (.invokevirtual 68, 3) := by decide +kernel
theorem dL_law_455 : decode cL_law 455 = .ok (.aload_n 2, 1) := by decide +kernel
theorem dL_law_456 : decode cL_law 456 = .ok (.aload_n 0, 1) := by decide +kernel
theorem dL_law_457 : decode cL_law 457 = .ok (.iload_n 3, 1) := by decide +kernel
theorem dL_law_458 : decode cL_law 458 = .ok (.iconst 1, 1) := by decide +kernel
theorem dL_law_459 : decode cL_law 459 = .ok (.iadd, 1) := by decide +kernel
theorem dL_law_460 : decode cL_law 460 = .ok (.iaload, 1) := by decide +kernel
theorem dL_law_461 : decode cL_law 461 = .ok (.aload_n 0, 1) := by decide +kernel
theorem dL_law_462 : decode cL_law 462 = .ok (.iload_n 3, 1) := by decide +kernel
theorem dL_law_463 : decode cL_law 463 = .ok (.iconst 2, 1) := by decide +kernel
theorem dL_law_464 : decode cL_law 464 = .ok (.iadd, 1) := by decide +kernel
theorem dL_law_465 : decode cL_law 465 = .ok (.iaload, 1) := by decide +kernel
theorem dL_law_466 : decode cL_law 466 = .ok (.invokevirtual 71, 3) := by decide +kernel
theorem dL_law_469 : decode cL_law 469 = .ok (.if_icmp .eq 311, 3) := by decide +kernel
theorem dL_law_472 : decode cL_law 472 = .ok (.iconst 0, 1) := by decide +kernel
theorem dL_law_473 : decode cL_law 473 = .ok (.ireturn, 1) := by decide +kernel
theorem dL_law_474 : decode cL_law 474 = .ok (.aload_n 1, 1) := by decide +kernel
theorem dL_law_475 : decode cL_law 475 = .ok (.aload_n 0, 1) := by decide +kernel
theorem dL_law_476 : decode cL_law 476 = .ok (.iload_n 3, 1) := by decide +kernel
theorem dL_law_477 : decode cL_law 477 = .ok (.iconst 1, 1) := by decide +kernel
theorem dL_law_478 : decode cL_law 478 = .ok (.iadd, 1) := by decide +kernel
theorem dL_law_479 : decode cL_law 479 = .ok (.iaload, 1) := by decide +kernel
theorem dL_law_480 : decode cL_law 480 = .ok (.invokevirtual 72, 3) := by decide +kernel
theorem dL_law_483 : decode cL_law 483 = .ok (.aload_n 2, 1) := by decide +kernel
theorem dL_law_484 : decode cL_law 484 = .ok (.aload_n 0, 1) := by decide +kernel
theorem dL_law_485 : decode cL_law 485 = .ok (.iload_n 3, 1) := by decide +kernel
theorem dL_law_486 : decode cL_law 486 = .ok (.iconst 1, 1) := by decide +kernel
theorem dL_law_487 : decode cL_law 487 = .ok (.iadd, 1) := by decide +kernel
theorem dL_law_488 : decode cL_law 488 = .ok (.iaload, 1) := by decide +kernel
theorem dL_law_489 : decode cL_law 489 = .ok (.invokevirtual 75, 3) := by decide +kernel
theorem dL_law_492 : decode cL_law 492 = .ok (.if_icmp .eq 288, 3) := by decide +kernel
theorem dL_law_495 : decode cL_law 495 = .ok (.iconst 0, 1) := by decide +kernel
theorem dL_law_496 : decode cL_law 496 = .ok (.ireturn, 1) := by decide +kernel
theorem dL_law_497 : decode cL_law 497 = .ok (.aload_n 1, 1) := by decide +kernel
theorem dL_law_498 : decode cL_law 498 = .ok (.aload_n 0, 1) := by decide +kernel
theorem dL_law_499 : decode cL_law 499 = .ok (.iload_n 3, 1) := by decide +kernel
theorem dL_law_500 : decode cL_law 500 = .ok (.iconst 1, 1) := by decide +kernel
theorem dL_law_501 : decode cL_law 501 = .ok (.iadd, 1) := by decide +kernel
theorem dL_law_502 : decode cL_law 502 = .ok (.iaload, 1) := by decide +kernel
theorem dL_law_503 : decode cL_law 503 = .ok (.invokevirtual 76, 3) := by decide +kernel
theorem dL_law_506 : decode cL_law 506 = .ok (.aload_n 2, 1) := by decide +kernel
theorem dL_law_507 : decode cL_law 507 = .ok (.aload_n 0, 1) := by decide +kernel
theorem dL_law_508 : decode cL_law 508 = .ok (.iload_n 3, 1) := by decide +kernel
theorem dL_law_509 : decode cL_law 509 = .ok (.iconst 1, 1) := by decide +kernel
theorem dL_law_510 : decode cL_law 510 = .ok (.iadd, 1) := by decide +kernel
theorem dL_law_511 : decode cL_law 511 = .ok (.iaload, 1) := by decide +kernel
theorem dL_law_512 : decode cL_law 512 = .ok (.invokevirtual 79, 3) := by decide +kernel
theorem dL_law_515 : decode cL_law 515 = .ok (.if_icmp .eq 265, 3) := by decide +kernel
theorem dL_law_518 : decode cL_law 518 = .ok (.iconst 0, 1) := by decide +kernel
theorem dL_law_519 : decode cL_law 519 = .ok (.ireturn, 1) := by decide +kernel
theorem dL_law_520 : decode cL_law 520 = .ok (.aload_n 1, 1) := by decide +kernel
theorem dL_law_521 : decode cL_law 521 = .ok (.aload_n 0, 1) := by decide +kernel
theorem dL_law_522 : decode cL_law 522 = .ok (.iload_n 3, 1) := by decide +kernel
theorem dL_law_523 : decode cL_law 523 = .ok (.iconst 1, 1) := by decide +kernel
theorem dL_law_524 : decode cL_law 524 = .ok (.iadd, 1) := by decide +kernel
theorem dL_law_525 : decode cL_law 525 = .ok (.iaload, 1) := by decide +kernel
theorem dL_law_526 : decode cL_law 526 = .ok (.invokevirtual 80, 3) := by decide +kernel
theorem dL_law_529 : decode cL_law 529 = .ok (.aload_n 2, 1) := by decide +kernel
theorem dL_law_530 : decode cL_law 530 = .ok (.aload_n 0, 1) := by decide +kernel
theorem dL_law_531 : decode cL_law 531 = .ok (.iload_n 3, 1) := by decide +kernel
theorem dL_law_532 : decode cL_law 532 = .ok (.iconst 1, 1) := by decide +kernel
theorem dL_law_533 : decode cL_law 533 = .ok (.iadd, 1) := by decide +kernel
theorem dL_law_534 : decode cL_law 534 = .ok (.iaload, 1) := by decide +kernel
theorem dL_law_535 : decode cL_law 535 = .ok (.invokevirtual 83, 3) := by decide +kernel
theorem dL_law_538 : decode cL_law 538 = .ok (.if_icmp .eq 242, 3) := by decide +kernel
theorem dL_law_541 : decode cL_law 541 = .ok (.iconst 0, 1) := by decide +kernel
theorem dL_law_542 : decode cL_law 542 = .ok (.ireturn, 1) := by decide +kernel
theorem dL_law_543 : decode cL_law 543 = .ok (.aload_n 1, 1) := by decide +kernel
theorem dL_law_544 : decode cL_law 544 = .ok (.aload_n 0, 1) := by decide +kernel
theorem dL_law_545 : decode cL_law 545 = .ok (.iload_n 3, 1) := by decide +kernel
theorem dL_law_546 : decode cL_law 546 = .ok (.iconst 1, 1) := by decide +kernel
theorem dL_law_547 : decode cL_law 547 = .ok (.iadd, 1) := by decide +kernel
theorem dL_law_548 : decode cL_law 548 = .ok (.iaload, 1) := by decide +kernel
theorem dL_law_549 : decode cL_law 549 = .ok (.aload_n 0, 1) := by decide +kernel
theorem dL_law_550 : decode cL_law 550 = .ok (.iload_n 3, 1) := by decide +kernel
theorem dL_law_551 : decode cL_law 551 = .ok (.iconst 2, 1) := by decide +kernel
theorem dL_law_552 : decode cL_law 552 = .ok (.iadd, 1) := by decide +kernel
theorem dL_law_553 : decode cL_law 553 = .ok (.iaload, 1) := by decide +kernel
theorem dL_law_554 : decode cL_law 554 = .ok (.invokevirtual 84, 3) := by decide +kernel
theorem dL_law_557 : decode cL_law 557 = .ok (.aload_n 2, 1) := by decide +kernel
theorem dL_law_558 : decode cL_law 558 = .ok (.aload_n 0, 1) := by decide +kernel
theorem dL_law_559 : decode cL_law 559 = .ok (.iload_n 3, 1) := by decide +kernel
theorem dL_law_560 : decode cL_law 560 = .ok (.iconst 1, 1) := by decide +kernel
theorem dL_law_561 : decode cL_law 561 = .ok (.iadd, 1) := by decide +kernel
theorem dL_law_562 : decode cL_law 562 = .ok (.iaload, 1) := by decide +kernel
theorem dL_law_563 : decode cL_law 563 = .ok (.aload_n 0, 1) := by decide +kernel
theorem dL_law_564 : decode cL_law 564 = .ok (.iload_n 3, 1) := by decide +kernel
theorem dL_law_565 : decode cL_law 565 = .ok (.iconst 2, 1) := by decide +kernel
theorem dL_law_566 : decode cL_law 566 = .ok (.iadd, 1) := by decide +kernel
theorem dL_law_567 : decode cL_law 567 = .ok (.iaload, 1) := by decide +kernel
theorem dL_law_568 : decode cL_law 568 = .ok (.invokevirtual 87, 3) := by decide +kernel
theorem dL_law_571 : decode cL_law 571 = .ok (.if_icmp .eq 209, 3) := by decide +kernel
theorem dL_law_574 : decode cL_law 574 = .ok (.iconst 0, 1) := by decide +kernel
theorem dL_law_575 : decode cL_law 575 = .ok (.ireturn, 1) := by decide +kernel
theorem dL_law_576 : decode cL_law 576 = .ok (.aload_n 1, 1) := by decide +kernel
theorem dL_law_577 : decode cL_law 577 = .ok (.invokevirtual 88, 3) := by decide +kernel
theorem dL_law_580 : decode cL_law 580 = .ok (.aload_n 2, 1) := by decide +kernel
theorem dL_law_581 : decode cL_law 581 = .ok (.invokevirtual 91, 3) := by decide +kernel
theorem dL_law_584 : decode cL_law 584 = .ok (.if_icmp .eq 196, 3) := by decide +kernel
theorem dL_law_587 : decode cL_law 587 = .ok (.iconst 0, 1) := by decide +kernel
theorem dL_law_588 : decode cL_law 588 = .ok (.ireturn, 1) := by decide +kernel
theorem dL_law_589 : decode cL_law 589 = .ok (.aload_n 1, 1) := by decide +kernel
theorem dL_law_590 : decode cL_law 590 = .ok (.aload_n 0, 1) := by decide +kernel
theorem dL_law_591 : decode cL_law 591 = .ok (.iload_n 3, 1) := by decide +kernel
theorem dL_law_592 : decode cL_law 592 = .ok (.iconst 1, 1) := by decide +kernel
theorem dL_law_593 : decode cL_law 593 = .ok (.iadd, 1) := by decide +kernel
theorem dL_law_594 : decode cL_law 594 = .ok (.iaload, 1) := by decide +kernel
theorem dL_law_595 : decode cL_law 595 = .ok (.invokevirtual 92, 3) := by decide +kernel
theorem dL_law_598 : decode cL_law 598 = .ok (.aload_n 2, 1) := by decide +kernel
theorem dL_law_599 : decode cL_law 599 = .ok (.aload_n 0, 1) := by decide +kernel
theorem dL_law_600 : decode cL_law 600 = .ok (.iload_n 3, 1) := by decide +kernel
theorem dL_law_601 : decode cL_law 601 = .ok (.iconst 1, 1) := by decide +kernel
theorem dL_law_602 : decode cL_law 602 = .ok (.iadd, 1) := by decide +kernel
theorem dL_law_603 : decode cL_law 603 = .ok (.iaload, 1) := by decide +kernel
theorem dL_law_604 : decode cL_law 604 = .ok (.invokevirtual 95, 3) := by decide +kernel
theorem dL_law_607 : decode cL_law 607 = .ok (.if_icmp .eq 173, 3) := by decide +kernel
theorem dL_law_610 : decode cL_law 610 = .ok (.iconst 0, 1) := by decide +kernel
theorem dL_law_611 : decode cL_law 611 = .ok (.ireturn, 1) := by decide +kernel
theorem dL_law_612 : decode cL_law 612 = .ok (.aload_n 1, 1) := by decide +kernel
theorem dL_law_613 : decode cL_law 613 = .ok (.aload_n 0, 1) := by decide +kernel
theorem dL_law_614 : decode cL_law 614 = .ok (.iload_n 3, 1) := by decide +kernel
theorem dL_law_615 : decode cL_law 615 = .ok (.iconst 1, 1) := by decide +kernel
theorem dL_law_616 : decode cL_law 616 = .ok (.iadd, 1) := by decide +kernel
theorem dL_law_617 : decode cL_law 617 = .ok (.iaload, 1) := by decide +kernel
theorem dL_law_618 : decode cL_law 618 = .ok (.invokevirtual 96, 3) := by decide +kernel
theorem dL_law_621 : decode cL_law 621 = .ok (.aload_n 2, 1) := by decide +kernel
theorem dL_law_622 : decode cL_law 622 = .ok (.aload_n 0, 1) := by decide +kernel
theorem dL_law_623 : decode cL_law 623 = .ok (.iload_n 3, 1) := by decide +kernel
theorem dL_law_624 : decode cL_law 624 = .ok (.iconst 1, 1) := by decide +kernel
theorem dL_law_625 : decode cL_law 625 = .ok (.iadd, 1) := by decide +kernel
theorem dL_law_626 : decode cL_law 626 = .ok (.iaload, 1) := by decide +kernel
theorem dL_law_627 : decode cL_law 627 = .ok (.invokevirtual 99, 3) := by decide +kernel
theorem dL_law_630 : decode cL_law 630 = .ok (.if_icmp .eq 150, 3) := by decide +kernel
theorem dL_law_633 : decode cL_law 633 = .ok (.iconst 0, 1) := by decide +kernel
theorem dL_law_634 : decode cL_law 634 = .ok (.ireturn, 1) := by decide +kernel
theorem dL_law_635 : decode cL_law 635 = .ok (.aload_n 1, 1) := by decide +kernel
theorem dL_law_636 : decode cL_law 636 = .ok (.aload_n 0, 1) := by decide +kernel
theorem dL_law_637 : decode cL_law 637 = .ok (.iload_n 3, 1) := by decide +kernel
theorem dL_law_638 : decode cL_law 638 = .ok (.iconst 1, 1) := by decide +kernel
theorem dL_law_639 : decode cL_law 639 = .ok (.iadd, 1) := by decide +kernel
theorem dL_law_640 : decode cL_law 640 = .ok (.iaload, 1) := by decide +kernel
theorem dL_law_641 : decode cL_law 641 = .ok (.aload_n 0, 1) := by decide +kernel
theorem dL_law_642 : decode cL_law 642 = .ok (.iload_n 3, 1) := by decide +kernel
theorem dL_law_643 : decode cL_law 643 = .ok (.iconst 2, 1) := by decide +kernel
theorem dL_law_644 : decode cL_law 644 = .ok (.iadd, 1) := by decide +kernel
theorem dL_law_645 : decode cL_law 645 = .ok (.iaload, 1) := by decide +kernel
theorem dL_law_646 : decode cL_law 646 = .ok (.aload_n 0, 1) := by decide +kernel
theorem dL_law_647 : decode cL_law 647 = .ok (.iload_n 3, 1) := by decide +kernel
theorem dL_law_648 : decode cL_law 648 = .ok (.iconst 3, 1) := by decide +kernel
theorem dL_law_649 : decode cL_law 649 = .ok (.iadd, 1) := by decide +kernel
theorem dL_law_650 : decode cL_law 650 = .ok (.iaload, 1) := by decide +kernel
theorem dL_law_651 : decode cL_law 651 = .ok (.aload_n 0, 1) := by decide +kernel
theorem dL_law_652 : decode cL_law 652 = .ok (.iload_n 3, 1) := by decide +kernel
theorem dL_law_653 : decode cL_law 653 = .ok (.iconst 4, 1) := by decide +kernel
theorem dL_law_654 : decode cL_law 654 = .ok (.iadd, 1) := by decide +kernel
theorem dL_law_655 : decode cL_law 655 = .ok (.iaload, 1) := by decide +kernel
theorem dL_law_656 : decode cL_law 656 = .ok (.invokevirtual 100, 3) := by decide +kernel
theorem dL_law_659 : decode cL_law 659 = .ok (.aload_n 2, 1) := by decide +kernel
theorem dL_law_660 : decode cL_law 660 = .ok (.aload_n 0, 1) := by decide +kernel
theorem dL_law_661 : decode cL_law 661 = .ok (.iload_n 3, 1) := by decide +kernel
theorem dL_law_662 : decode cL_law 662 = .ok (.iconst 1, 1) := by decide +kernel
theorem dL_law_663 : decode cL_law 663 = .ok (.iadd, 1) := by decide +kernel
theorem dL_law_664 : decode cL_law 664 = .ok (.iaload, 1) := by decide +kernel
theorem dL_law_665 : decode cL_law 665 = .ok (.aload_n 0, 1) := by decide +kernel
theorem dL_law_666 : decode cL_law 666 = .ok (.iload_n 3, 1) := by decide +kernel
theorem dL_law_667 : decode cL_law 667 = .ok (.iconst 2, 1) := by decide +kernel
theorem dL_law_668 : decode cL_law 668 = .ok (.iadd, 1) := by decide +kernel
theorem dL_law_669 : decode cL_law 669 = .ok (.iaload, 1) := by decide +kernel
theorem dL_law_670 : decode cL_law 670 = .ok (.aload_n 0, 1) := by decide +kernel
theorem dL_law_671 : decode cL_law 671 = .ok (.iload_n 3, 1) := by decide +kernel
theorem dL_law_672 : decode cL_law 672 = .ok (.iconst 3, 1) := by decide +kernel
theorem dL_law_673 : decode cL_law 673 = .ok (.iadd, 1) := by decide +kernel
theorem dL_law_674 : decode cL_law 674 = .ok (.iaload, 1) := by decide +kernel
theorem dL_law_675 : decode cL_law 675 = .ok (.aload_n 0, 1) := by decide +kernel
theorem dL_law_676 : decode cL_law 676 = .ok (.iload_n 3, 1) := by decide +kernel
theorem dL_law_677 : decode cL_law 677 = .ok (.iconst 4, 1) := by decide +kernel
theorem dL_law_678 : decode cL_law 678 = .ok (.iadd, 1) := by decide +kernel
theorem dL_law_679 : decode cL_law 679 = .ok (.iaload, 1) := by decide +kernel
theorem dL_law_680 : decode cL_law 680 = .ok (.invokevirtual 104, 3) := by decide +kernel
theorem dL_law_683 : decode cL_law 683 = .ok (.if_icmp .eq 97, 3) := by decide +kernel
theorem dL_law_686 : decode cL_law 686 = .ok (.iconst 0, 1) := by decide +kernel
theorem dL_law_687 : decode cL_law 687 = .ok (.ireturn, 1) := by decide +kernel
theorem dL_law_688 : decode cL_law 688 = .ok (.aload_n 1, 1) := by decide +kernel
theorem dL_law_689 : decode cL_law 689 = .ok (.aload_n 0, 1) := by decide +kernel
theorem dL_law_690 : decode cL_law 690 = .ok (.iload_n 3, 1) := by decide +kernel
theorem dL_law_691 : decode cL_law 691 = .ok (.iconst 1, 1) := by decide +kernel
theorem dL_law_692 : decode cL_law 692 = .ok (.iadd, 1) := by decide +kernel
theorem dL_law_693 : decode cL_law 693 = .ok (.iaload, 1) := by decide +kernel
theorem dL_law_694 : decode cL_law 694 = .ok (.aload_n 0, 1) := by decide +kernel
theorem dL_law_695 : decode cL_law 695 = .ok (.iload_n 3, 1) := by decide +kernel
theorem dL_law_696 : decode cL_law 696 = .ok (.iconst 2, 1) := by decide +kernel
theorem dL_law_697 : decode cL_law 697 = .ok (.iadd, 1) := by decide +kernel
theorem dL_law_698 : decode cL_law 698 = .ok (.iaload, 1) := by decide +kernel
theorem dL_law_699 : decode cL_law 699 = .ok (.aload_n 0, 1) := by decide +kernel
theorem dL_law_700 : decode cL_law 700 = .ok (.iload_n 3, 1) := by decide +kernel
theorem dL_law_701 : decode cL_law 701 = .ok (.iconst 3, 1) := by decide +kernel
theorem dL_law_702 : decode cL_law 702 = .ok (.iadd, 1) := by decide +kernel
theorem dL_law_703 : decode cL_law 703 = .ok (.iaload, 1) := by decide +kernel
theorem dL_law_704 : decode cL_law 704 = .ok (.invokevirtual 105, 3) := by decide +kernel
theorem dL_law_707 : decode cL_law 707 = .ok (.aload_n 2, 1) := by decide +kernel
theorem dL_law_708 : decode cL_law 708 = .ok (.aload_n 0, 1) := by decide +kernel
theorem dL_law_709 : decode cL_law 709 = .ok (.iload_n 3, 1) := by decide +kernel
theorem dL_law_710 : decode cL_law 710 = .ok (.iconst 1, 1) := by decide +kernel
theorem dL_law_711 : decode cL_law 711 = .ok (.iadd, 1) := by decide +kernel
theorem dL_law_712 : decode cL_law 712 = .ok (.iaload, 1) := by decide +kernel
theorem dL_law_713 : decode cL_law 713 = .ok (.aload_n 0, 1) := by decide +kernel
theorem dL_law_714 : decode cL_law 714 = .ok (.iload_n 3, 1) := by decide +kernel
theorem dL_law_715 : decode cL_law 715 = .ok (.iconst 2, 1) := by decide +kernel
theorem dL_law_716 : decode cL_law 716 = .ok (.iadd, 1) := by decide +kernel
theorem dL_law_717 : decode cL_law 717 = .ok (.iaload, 1) := by decide +kernel
theorem dL_law_718 : decode cL_law 718 = .ok (.aload_n 0, 1) := by decide +kernel
theorem dL_law_719 : decode cL_law 719 = .ok (.iload_n 3, 1) := by decide +kernel
theorem dL_law_720 : decode cL_law 720 = .ok (.iconst 3, 1) := by decide +kernel
theorem dL_law_721 : decode cL_law 721 = .ok (.iadd, 1) := by decide +kernel
theorem dL_law_722 : decode cL_law 722 = .ok (.iaload, 1) := by decide +kernel
theorem dL_law_723 : decode cL_law 723 = .ok (.invokevirtual 109, 3) := by decide +kernel
theorem dL_law_726 : decode cL_law 726 = .ok (.if_icmp .eq 54, 3) := by decide +kernel
theorem dL_law_729 : decode cL_law 729 = .ok (.iconst 0, 1) := by decide +kernel
theorem dL_law_730 : decode cL_law 730 = .ok (.ireturn, 1) := by decide +kernel
theorem dL_law_731 : decode cL_law 731 = .ok (.aload_n 1, 1) := by decide +kernel
theorem dL_law_732 : decode cL_law 732 = .ok (.invokevirtual 110, 3) := by decide +kernel
theorem dL_law_735 : decode cL_law 735 = .ok (.aload_n 2, 1) := by decide +kernel
theorem dL_law_736 : decode cL_law 736 = .ok (.invokevirtual 113, 3) := by decide +kernel
theorem dL_law_739 : decode cL_law 739 = .ok (.if_icmp .eq 41, 3) := by decide +kernel
theorem dL_law_742 : decode cL_law 742 = .ok (.iconst 0, 1) := by decide +kernel
theorem dL_law_743 : decode cL_law 743 = .ok (.ireturn, 1) := by decide +kernel
theorem dL_law_744 : decode cL_law 744 = .ok (.aload_n 1, 1) := by decide +kernel
theorem dL_law_745 : decode cL_law 745 = .ok (.invokevirtual 114, 3) := by decide +kernel
theorem dL_law_748 : decode cL_law 748 = .ok (.aload_n 2, 1) := by decide +kernel
theorem dL_law_749 : decode cL_law 749 = .ok (.invokevirtual 117, 3) := by decide +kernel
theorem dL_law_752 : decode cL_law 752 = .ok (.if_icmp .eq 28, 3) := by decide +kernel
theorem dL_law_755 : decode cL_law 755 = .ok (.iconst 0, 1) := by decide +kernel
theorem dL_law_756 : decode cL_law 756 = .ok (.ireturn, 1) := by decide +kernel
theorem dL_law_757 : decode cL_law 757 = .ok (.aload_n 1, 1) := by decide +kernel
theorem dL_law_758 : decode cL_law 758 = .ok (.aload_n 0, 1) := by decide +kernel
theorem dL_law_759 : decode cL_law 759 = .ok (.iload_n 3, 1) := by decide +kernel
theorem dL_law_760 : decode cL_law 760 = .ok (.iconst 1, 1) := by decide +kernel
theorem dL_law_761 : decode cL_law 761 = .ok (.iadd, 1) := by decide +kernel
theorem dL_law_762 : decode cL_law 762 = .ok (.iaload, 1) := by decide +kernel
theorem dL_law_763 : decode cL_law 763 = .ok (.invokevirtual 118, 3) := by decide +kernel
theorem dL_law_766 : decode cL_law 766 = .ok (.aload_n 2, 1) := by decide +kernel
theorem dL_law_767 : decode cL_law 767 = .ok (.aload_n 0, 1) := by decide +kernel
theorem dL_law_768 : decode cL_law 768 = .ok (.iload_n 3, 1) := by decide +kernel
theorem dL_law_769 : decode cL_law 769 = .ok (.iconst 1, 1) := by decide +kernel
theorem dL_law_770 : decode cL_law 770 = .ok (.iadd, 1) := by decide +kernel
theorem dL_law_771 : decode cL_law 771 = .ok (.iaload, 1) := by decide +kernel
theorem dL_law_772 : decode cL_law 772 = .ok (.invokevirtual 121, 3) := by decide +kernel
theorem dL_law_775 : decode cL_law 775 = .ok (.if_icmp .eq 5, 3) := by decide +kernel
theorem dL_law_778 : decode cL_law 778 = .ok (.iconst 0, 1) := by decide +kernel
theorem dL_law_779 : decode cL_law 779 = .ok (.ireturn, 1) := by decide +kernel
theorem dL_law_780 : decode cL_law 780 = .ok (.iinc 3 5, 3) := by decide +kernel
theorem dL_law_783 : decode cL_law 783 = .ok (.goto (-765), 3) := by decide +kernel
theorem dL_law_786 : decode cL_law 786 = .ok (.iconst 1, 1) := by decide +kernel
theorem dL_law_787 : decode cL_law 787 = .ok (.ireturn, 1) := by decide +kernel
abbrev vwCl : List vw_C := [(RX0, TX0, 13), (RX1, TX1, 2), (RX2, TX2, 6), (RX3, TX3, 4), (RX4, TX4, 10), (RX5, TX5, 39)]
end
