section
def lw_okq (q : MethodName × Nat) : Prop := (q.1.cls ≠ "java/lang/invoke/MethodHandle" ∧ q.1.cls ≠ "java/lang/invoke/VarHandle") ∧ Cond.instantiable q.1.cls q.2 ∈ tables_1 ∧ Cond.privateMethod q.1 ∈ tables_1 ∧ Cond.instanceMethod q.1 ∈ tables_1
theorem lw_p0 : lw_okq (⟨"SealKeeper", "addBytes", "(I)V"⟩, 9) := ⟨⟨by decide +kernel, by decide +kernel⟩, List.mem_of_getElem? (i := 20) (by decide +kernel), List.mem_of_getElem? (i := 378) (by decide +kernel), List.mem_of_getElem? (i := 379) (by decide +kernel)⟩
theorem lw_p1 : lw_okq (⟨"SealKeeper$Tokens", "add", "(II)V"⟩, 3) := ⟨⟨by decide +kernel, by decide +kernel⟩, List.mem_of_getElem? (i := 144) (by decide +kernel), List.mem_of_getElem? (i := 483) (by decide +kernel), List.mem_of_getElem? (i := 484) (by decide +kernel)⟩
theorem lw_p2 : lw_okq (⟨"SealKeeper$Reader", "readMethod", "()Z"⟩, 7) := ⟨⟨by decide +kernel, by decide +kernel⟩, List.mem_of_getElem? (i := 138) (by decide +kernel), List.mem_of_getElem? (i := 499) (by decide +kernel), List.mem_of_getElem? (i := 500) (by decide +kernel)⟩
theorem lw_p3 : lw_okq (⟨"SealKeeper$Reader", "take", "(I)Z"⟩, 7) := ⟨⟨by decide +kernel, by decide +kernel⟩, List.mem_of_getElem? (i := 138) (by decide +kernel), List.mem_of_getElem? (i := 503) (by decide +kernel), List.mem_of_getElem? (i := 504) (by decide +kernel)⟩
theorem lw_p4 : lw_okq (⟨"SealKeeper$Reader", "broken", "(II)I"⟩, 7) := ⟨⟨by decide +kernel, by decide +kernel⟩, List.mem_of_getElem? (i := 138) (by decide +kernel), List.mem_of_getElem? (i := 511) (by decide +kernel), List.mem_of_getElem? (i := 512) (by decide +kernel)⟩
theorem lw_p5 : lw_okq (⟨"SealKeeper$Reader", "readNumber", "(I)I"⟩, 7) := ⟨⟨by decide +kernel, by decide +kernel⟩, List.mem_of_getElem? (i := 138) (by decide +kernel), List.mem_of_getElem? (i := 515) (by decide +kernel), List.mem_of_getElem? (i := 516) (by decide +kernel)⟩
theorem lw_p6 : lw_okq (⟨"SealKeeper$Reader", "readBlock", "(I)I"⟩, 7) := ⟨⟨by decide +kernel, by decide +kernel⟩, List.mem_of_getElem? (i := 138) (by decide +kernel), List.mem_of_getElem? (i := 524) (by decide +kernel), List.mem_of_getElem? (i := 525) (by decide +kernel)⟩
theorem lw_p7 : lw_okq (⟨"SealKeeper$Reader", "readStep", "(I)I"⟩, 7) := ⟨⟨by decide +kernel, by decide +kernel⟩, List.mem_of_getElem? (i := 138) (by decide +kernel), List.mem_of_getElem? (i := 529) (by decide +kernel), List.mem_of_getElem? (i := 530) (by decide +kernel)⟩
theorem lw_p8 : lw_okq (⟨"SealKeeper$Reader", "readNumbers", "(II)Z"⟩, 7) := ⟨⟨by decide +kernel, by decide +kernel⟩, List.mem_of_getElem? (i := 138) (by decide +kernel), List.mem_of_getElem? (i := 541) (by decide +kernel), List.mem_of_getElem? (i := 542) (by decide +kernel)⟩
theorem lw_p9 : lw_okq (⟨"SealKeeper$Reader", "readRest", "(III)Z"⟩, 7) := ⟨⟨by decide +kernel, by decide +kernel⟩, List.mem_of_getElem? (i := 138) (by decide +kernel), List.mem_of_getElem? (i := 550) (by decide +kernel), List.mem_of_getElem? (i := 551) (by decide +kernel)⟩
theorem lw_p10 : lw_okq (⟨"SealKeeper$Reader", "allMethodsAreThere", "()Z"⟩, 7) := ⟨⟨by decide +kernel, by decide +kernel⟩, List.mem_of_getElem? (i := 138) (by decide +kernel), List.mem_of_getElem? (i := 556) (by decide +kernel), List.mem_of_getElem? (i := 557) (by decide +kernel)⟩
theorem lw_p11 : lw_okq (⟨"SealKeeper", "hasProgram", "()Z"⟩, 9) := ⟨⟨by decide +kernel, by decide +kernel⟩, List.mem_of_getElem? (i := 20) (by decide +kernel), List.mem_of_getElem? (i := 594) (by decide +kernel), List.mem_of_getElem? (i := 595) (by decide +kernel)⟩
theorem lw_p12 : lw_okq (⟨"SealKeeper$Runner", "begin", "(LSealKeeper$Program;I)V"⟩, 14) := ⟨⟨by decide +kernel, by decide +kernel⟩, List.mem_of_getElem? (i := 184) (by decide +kernel), List.mem_of_getElem? (i := 614) (by decide +kernel), List.mem_of_getElem? (i := 615) (by decide +kernel)⟩
theorem lw_p13 : lw_okq (⟨"SealKeeper$Runner", "putOff", "(II)V"⟩, 14) := ⟨⟨by decide +kernel, by decide +kernel⟩, List.mem_of_getElem? (i := 184) (by decide +kernel), List.mem_of_getElem? (i := 628) (by decide +kernel), List.mem_of_getElem? (i := 629) (by decide +kernel)⟩
theorem lw_p14 : lw_okq (⟨"SealKeeper$Runner", "beginJob", "()V"⟩, 14) := ⟨⟨by decide +kernel, by decide +kernel⟩, List.mem_of_getElem? (i := 184) (by decide +kernel), List.mem_of_getElem? (i := 638) (by decide +kernel), List.mem_of_getElem? (i := 639) (by decide +kernel)⟩
theorem lw_p15 : lw_okq (⟨"SealKeeper$Runner", "openMethod", "(II)V"⟩, 14) := ⟨⟨by decide +kernel, by decide +kernel⟩, List.mem_of_getElem? (i := 184) (by decide +kernel), List.mem_of_getElem? (i := 642) (by decide +kernel), List.mem_of_getElem? (i := 643) (by decide +kernel)⟩
def lw_privs_1 : List (MethodName × Nat) := [(⟨"SealKeeper", "addBytes", "(I)V"⟩, 9), (⟨"SealKeeper$Tokens", "add", "(II)V"⟩, 3), (⟨"SealKeeper$Reader", "readMethod", "()Z"⟩, 7), (⟨"SealKeeper$Reader", "take", "(I)Z"⟩, 7), (⟨"SealKeeper$Reader", "broken", "(II)I"⟩, 7), (⟨"SealKeeper$Reader", "readNumber", "(I)I"⟩, 7), (⟨"SealKeeper$Reader", "readBlock", "(I)I"⟩, 7), (⟨"SealKeeper$Reader", "readStep", "(I)I"⟩, 7), (⟨"SealKeeper$Reader", "readNumbers", "(II)Z"⟩, 7), (⟨"SealKeeper$Reader", "readRest", "(III)Z"⟩, 7), (⟨"SealKeeper$Reader", "allMethodsAreThere", "()Z"⟩, 7), (⟨"SealKeeper", "hasProgram", "()Z"⟩, 9), (⟨"SealKeeper$Runner", "begin", "(LSealKeeper$Program;I)V"⟩, 14), (⟨"SealKeeper$Runner", "putOff", "(II)V"⟩, 14), (⟨"SealKeeper$Runner", "beginJob", "()V"⟩, 14), (⟨"SealKeeper$Runner", "openMethod", "(II)V"⟩, 14)]
theorem lw_r1 : ∀ q ∈ lw_privs_1, lw_okq q := List.forall_mem_cons.mpr ⟨lw_p0, List.forall_mem_cons.mpr ⟨lw_p1, List.forall_mem_cons.mpr ⟨lw_p2, List.forall_mem_cons.mpr ⟨lw_p3, List.forall_mem_cons.mpr ⟨lw_p4, List.forall_mem_cons.mpr ⟨lw_p5, List.forall_mem_cons.mpr ⟨lw_p6, List.forall_mem_cons.mpr ⟨lw_p7, List.forall_mem_cons.mpr ⟨lw_p8, List.forall_mem_cons.mpr ⟨lw_p9, List.forall_mem_cons.mpr ⟨lw_p10, List.forall_mem_cons.mpr ⟨lw_p11, List.forall_mem_cons.mpr ⟨lw_p12, List.forall_mem_cons.mpr ⟨lw_p13, List.forall_mem_cons.mpr ⟨lw_p14, List.forall_mem_cons.mpr ⟨lw_p15, fun _ h => absurd h List.not_mem_nil⟩⟩⟩⟩⟩⟩⟩⟩⟩⟩⟩⟩⟩⟩⟩⟩
theorem lw_p16 : lw_okq (⟨"SealKeeper$Stacks", "add", "(II)I"⟩, 5) := ⟨⟨by decide +kernel, by decide +kernel⟩, List.mem_of_getElem? (i := 215) (by decide +kernel), List.mem_of_getElem? (i := 655) (by decide +kernel), List.mem_of_getElem? (i := 656) (by decide +kernel)⟩
theorem lw_p17 : lw_okq (⟨"SealKeeper$Runner", "beginTurn", "(I)V"⟩, 14) := ⟨⟨by decide +kernel, by decide +kernel⟩, List.mem_of_getElem? (i := 184) (by decide +kernel), List.mem_of_getElem? (i := 669) (by decide +kernel), List.mem_of_getElem? (i := 670) (by decide +kernel)⟩
theorem lw_p18 : lw_okq (⟨"SealKeeper$Runner", "doStep", "(III)V"⟩, 14) := ⟨⟨by decide +kernel, by decide +kernel⟩, List.mem_of_getElem? (i := 184) (by decide +kernel), List.mem_of_getElem? (i := 681) (by decide +kernel), List.mem_of_getElem? (i := 682) (by decide +kernel)⟩
theorem lw_p19 : lw_okq (⟨"SealKeeper$Runner", "judge", "(II)I"⟩, 14) := ⟨⟨by decide +kernel, by decide +kernel⟩, List.mem_of_getElem? (i := 184) (by decide +kernel), List.mem_of_getElem? (i := 685) (by decide +kernel), List.mem_of_getElem? (i := 686) (by decide +kernel)⟩
theorem lw_p20 : lw_okq (⟨"SealKeeper$Runner", "failIfRefused", "(II)V"⟩, 14) := ⟨⟨by decide +kernel, by decide +kernel⟩, List.mem_of_getElem? (i := 184) (by decide +kernel), List.mem_of_getElem? (i := 699) (by decide +kernel), List.mem_of_getElem? (i := 700) (by decide +kernel)⟩
theorem lw_p21 : lw_okq (⟨"SealKeeper$Runner", "fail", "(II)V"⟩, 14) := ⟨⟨by decide +kernel, by decide +kernel⟩, List.mem_of_getElem? (i := 184) (by decide +kernel), List.mem_of_getElem? (i := 703) (by decide +kernel), List.mem_of_getElem? (i := 704) (by decide +kernel)⟩
theorem lw_p22 : lw_okq (⟨"SealKeeper$Runner", "closeBlock", "()V"⟩, 14) := ⟨⟨by decide +kernel, by decide +kernel⟩, List.mem_of_getElem? (i := 184) (by decide +kernel), List.mem_of_getElem? (i := 716) (by decide +kernel), List.mem_of_getElem? (i := 717) (by decide +kernel)⟩
theorem lw_p23 : lw_okq (⟨"SealKeeper$Runner", "open", "(III)V"⟩, 14) := ⟨⟨by decide +kernel, by decide +kernel⟩, List.mem_of_getElem? (i := 184) (by decide +kernel), List.mem_of_getElem? (i := 724) (by decide +kernel), List.mem_of_getElem? (i := 725) (by decide +kernel)⟩
theorem lw_p24 : lw_okq (⟨"SealKeeper$Runner", "keep", "(II)V"⟩, 14) := ⟨⟨by decide +kernel, by decide +kernel⟩, List.mem_of_getElem? (i := 184) (by decide +kernel), List.mem_of_getElem? (i := 732) (by decide +kernel), List.mem_of_getElem? (i := 733) (by decide +kernel)⟩
theorem lw_p25 : lw_okq (⟨"SealKeeper$Runner", "under", "(II)V"⟩, 14) := ⟨⟨by decide +kernel, by decide +kernel⟩, List.mem_of_getElem? (i := 184) (by decide +kernel), List.mem_of_getElem? (i := 736) (by decide +kernel), List.mem_of_getElem? (i := 737) (by decide +kernel)⟩
theorem lw_p26 : lw_okq (⟨"SealKeeper$Runner", "repeat", "(III)V"⟩, 14) := ⟨⟨by decide +kernel, by decide +kernel⟩, List.mem_of_getElem? (i := 184) (by decide +kernel), List.mem_of_getElem? (i := 740) (by decide +kernel), List.mem_of_getElem? (i := 741) (by decide +kernel)⟩
theorem lw_p27 : lw_okq (⟨"SealKeeper$Runner", "takeBit", "()I"⟩, 14) := ⟨⟨by decide +kernel, by decide +kernel⟩, List.mem_of_getElem? (i := 184) (by decide +kernel), List.mem_of_getElem? (i := 748) (by decide +kernel), List.mem_of_getElem? (i := 749) (by decide +kernel)⟩
theorem lw_p28 : lw_okq (⟨"SealKeeper$Runner", "goBack", "()V"⟩, 14) := ⟨⟨by decide +kernel, by decide +kernel⟩, List.mem_of_getElem? (i := 184) (by decide +kernel), List.mem_of_getElem? (i := 753) (by decide +kernel), List.mem_of_getElem? (i := 754) (by decide +kernel)⟩
theorem lw_p29 : lw_okq (⟨"SealKeeper$Runner", "endBlock", "()V"⟩, 14) := ⟨⟨by decide +kernel, by decide +kernel⟩, List.mem_of_getElem? (i := 184) (by decide +kernel), List.mem_of_getElem? (i := 757) (by decide +kernel), List.mem_of_getElem? (i := 758) (by decide +kernel)⟩
theorem lw_p30 : lw_okq (⟨"SealKeeper$Foresight", "come", "(II)I"⟩, 16) := ⟨⟨by decide +kernel, by decide +kernel⟩, List.mem_of_getElem? (i := 282) (by decide +kernel), List.mem_of_getElem? (i := 791) (by decide +kernel), List.mem_of_getElem? (i := 792) (by decide +kernel)⟩
theorem lw_p31 : lw_okq (⟨"SealKeeper$Foresight", "copyDown", "(I)V"⟩, 16) := ⟨⟨by decide +kernel, by decide +kernel⟩, List.mem_of_getElem? (i := 282) (by decide +kernel), List.mem_of_getElem? (i := 795) (by decide +kernel), List.mem_of_getElem? (i := 796) (by decide +kernel)⟩
def lw_privs_2 : List (MethodName × Nat) := [(⟨"SealKeeper$Stacks", "add", "(II)I"⟩, 5), (⟨"SealKeeper$Runner", "beginTurn", "(I)V"⟩, 14), (⟨"SealKeeper$Runner", "doStep", "(III)V"⟩, 14), (⟨"SealKeeper$Runner", "judge", "(II)I"⟩, 14), (⟨"SealKeeper$Runner", "failIfRefused", "(II)V"⟩, 14), (⟨"SealKeeper$Runner", "fail", "(II)V"⟩, 14), (⟨"SealKeeper$Runner", "closeBlock", "()V"⟩, 14), (⟨"SealKeeper$Runner", "open", "(III)V"⟩, 14), (⟨"SealKeeper$Runner", "keep", "(II)V"⟩, 14), (⟨"SealKeeper$Runner", "under", "(II)V"⟩, 14), (⟨"SealKeeper$Runner", "repeat", "(III)V"⟩, 14), (⟨"SealKeeper$Runner", "takeBit", "()I"⟩, 14), (⟨"SealKeeper$Runner", "goBack", "()V"⟩, 14), (⟨"SealKeeper$Runner", "endBlock", "()V"⟩, 14), (⟨"SealKeeper$Foresight", "come", "(II)I"⟩, 16), (⟨"SealKeeper$Foresight", "copyDown", "(I)V"⟩, 16)]
theorem lw_r2 : ∀ q ∈ lw_privs_2, lw_okq q := List.forall_mem_cons.mpr ⟨lw_p16, List.forall_mem_cons.mpr ⟨lw_p17, List.forall_mem_cons.mpr ⟨lw_p18, List.forall_mem_cons.mpr ⟨lw_p19, List.forall_mem_cons.mpr ⟨lw_p20, List.forall_mem_cons.mpr ⟨lw_p21, List.forall_mem_cons.mpr ⟨lw_p22, List.forall_mem_cons.mpr ⟨lw_p23, List.forall_mem_cons.mpr ⟨lw_p24, List.forall_mem_cons.mpr ⟨lw_p25, List.forall_mem_cons.mpr ⟨lw_p26, List.forall_mem_cons.mpr ⟨lw_p27, List.forall_mem_cons.mpr ⟨lw_p28, List.forall_mem_cons.mpr ⟨lw_p29, List.forall_mem_cons.mpr ⟨lw_p30, List.forall_mem_cons.mpr ⟨lw_p31, fun _ h => absurd h List.not_mem_nil⟩⟩⟩⟩⟩⟩⟩⟩⟩⟩⟩⟩⟩⟩⟩⟩
theorem lw_p32 : lw_okq (⟨"SealKeeper$Foresight", "change", "(IIJI)V"⟩, 16) := ⟨⟨by decide +kernel, by decide +kernel⟩, List.mem_of_getElem? (i := 282) (by decide +kernel), List.mem_of_getElem? (i := 807) (by decide +kernel), List.mem_of_getElem? (i := 808) (by decide +kernel)⟩
theorem lw_p33 : lw_okq (⟨"SealKeeper$Foresight", "placeInOrder", "(II)I"⟩, 16) := ⟨⟨by decide +kernel, by decide +kernel⟩, List.mem_of_getElem? (i := 282) (by decide +kernel), List.mem_of_getElem? (i := 814) (by decide +kernel), List.mem_of_getElem? (i := 815) (by decide +kernel)⟩
theorem lw_p34 : lw_okq (⟨"SealKeeper$Foresight", "compare", "(III)I"⟩, 16) := ⟨⟨by decide +kernel, by decide +kernel⟩, List.mem_of_getElem? (i := 282) (by decide +kernel), List.mem_of_getElem? (i := 818) (by decide +kernel), List.mem_of_getElem? (i := 819) (by decide +kernel)⟩
theorem lw_p35 : lw_okq (⟨"SealKeeper$Foresight", "insert", "(III)I"⟩, 16) := ⟨⟨by decide +kernel, by decide +kernel⟩, List.mem_of_getElem? (i := 282) (by decide +kernel), List.mem_of_getElem? (i := 822) (by decide +kernel), List.mem_of_getElem? (i := 823) (by decide +kernel)⟩
theorem lw_p36 : lw_okq (⟨"SealKeeper$Foresight", "sweep", "()Z"⟩, 16) := ⟨⟨by decide +kernel, by decide +kernel⟩, List.mem_of_getElem? (i := 282) (by decide +kernel), List.mem_of_getElem? (i := 833) (by decide +kernel), List.mem_of_getElem? (i := 834) (by decide +kernel)⟩
theorem lw_p37 : lw_okq (⟨"SealKeeper$Foresight", "walkBlock", "(II)I"⟩, 16) := ⟨⟨by decide +kernel, by decide +kernel⟩, List.mem_of_getElem? (i := 282) (by decide +kernel), List.mem_of_getElem? (i := 838) (by decide +kernel), List.mem_of_getElem? (i := 839) (by decide +kernel)⟩
theorem lw_p38 : lw_okq (⟨"SealKeeper$Foresight", "walkStep", "(II)I"⟩, 16) := ⟨⟨by decide +kernel, by decide +kernel⟩, List.mem_of_getElem? (i := 282) (by decide +kernel), List.mem_of_getElem? (i := 843) (by decide +kernel), List.mem_of_getElem? (i := 844) (by decide +kernel)⟩
theorem lw_p39 : lw_okq (⟨"SealKeeper$Foresight", "walkAsk", "(II)I"⟩, 16) := ⟨⟨by decide +kernel, by decide +kernel⟩, List.mem_of_getElem? (i := 282) (by decide +kernel), List.mem_of_getElem? (i := 847) (by decide +kernel), List.mem_of_getElem? (i := 848) (by decide +kernel)⟩
theorem lw_p40 : lw_okq (⟨"SealKeeper$Foresight", "refuserOf", "(II)I"⟩, 16) := ⟨⟨by decide +kernel, by decide +kernel⟩, List.mem_of_getElem? (i := 282) (by decide +kernel), List.mem_of_getElem? (i := 851) (by decide +kernel), List.mem_of_getElem? (i := 852) (by decide +kernel)⟩
theorem lw_p41 : lw_okq (⟨"SealKeeper$Foresight", "walkCall", "(I)I"⟩, 16) := ⟨⟨by decide +kernel, by decide +kernel⟩, List.mem_of_getElem? (i := 282) (by decide +kernel), List.mem_of_getElem? (i := 859) (by decide +kernel), List.mem_of_getElem? (i := 860) (by decide +kernel)⟩
theorem lw_p42 : lw_okq (⟨"SealKeeper$Foresight", "enterBlock", "(II)V"⟩, 16) := ⟨⟨by decide +kernel, by decide +kernel⟩, List.mem_of_getElem? (i := 282) (by decide +kernel), List.mem_of_getElem? (i := 863) (by decide +kernel), List.mem_of_getElem? (i := 864) (by decide +kernel)⟩
theorem lw_p43 : lw_okq (⟨"SealKeeper$Foresight", "walkTry", "(II)I"⟩, 16) := ⟨⟨by decide +kernel, by decide +kernel⟩, List.mem_of_getElem? (i := 282) (by decide +kernel), List.mem_of_getElem? (i := 868) (by decide +kernel), List.mem_of_getElem? (i := 869) (by decide +kernel)⟩
theorem lw_p44 : lw_okq (⟨"SealKeeper$Foresight", "walkInner", "(II)I"⟩, 16) := ⟨⟨by decide +kernel, by decide +kernel⟩, List.mem_of_getElem? (i := 282) (by decide +kernel), List.mem_of_getElem? (i := 872) (by decide +kernel), List.mem_of_getElem? (i := 873) (by decide +kernel)⟩
theorem lw_p45 : lw_okq (⟨"SealKeeper$Foresight", "makeCallersStale", "(I)V"⟩, 16) := ⟨⟨by decide +kernel, by decide +kernel⟩, List.mem_of_getElem? (i := 282) (by decide +kernel), List.mem_of_getElem? (i := 876) (by decide +kernel), List.mem_of_getElem? (i := 877) (by decide +kernel)⟩
theorem lw_p46 : lw_okq (⟨"SealKeeperModel", "four", "(I)V"⟩, 72) := ⟨⟨by decide +kernel, by decide +kernel⟩, List.mem_of_getElem? (i := 915) (by decide +kernel), List.mem_of_getElem? (i := 1160) (by decide +kernel), List.mem_of_getElem? (i := 1161) (by decide +kernel)⟩
theorem lw_p47 : lw_okq (⟨"SealKeeperModel", "next", "()V"⟩, 72) := ⟨⟨by decide +kernel, by decide +kernel⟩, List.mem_of_getElem? (i := 915) (by decide +kernel), List.mem_of_getElem? (i := 1187) (by decide +kernel), List.mem_of_getElem? (i := 1188) (by decide +kernel)⟩
def lw_privs_3 : List (MethodName × Nat) := [(⟨"SealKeeper$Foresight", "change", "(IIJI)V"⟩, 16), (⟨"SealKeeper$Foresight", "placeInOrder", "(II)I"⟩, 16), (⟨"SealKeeper$Foresight", "compare", "(III)I"⟩, 16), (⟨"SealKeeper$Foresight", "insert", "(III)I"⟩, 16), (⟨"SealKeeper$Foresight", "sweep", "()Z"⟩, 16), (⟨"SealKeeper$Foresight", "walkBlock", "(II)I"⟩, 16), (⟨"SealKeeper$Foresight", "walkStep", "(II)I"⟩, 16), (⟨"SealKeeper$Foresight", "walkAsk", "(II)I"⟩, 16), (⟨"SealKeeper$Foresight", "refuserOf", "(II)I"⟩, 16), (⟨"SealKeeper$Foresight", "walkCall", "(I)I"⟩, 16), (⟨"SealKeeper$Foresight", "enterBlock", "(II)V"⟩, 16), (⟨"SealKeeper$Foresight", "walkTry", "(II)I"⟩, 16), (⟨"SealKeeper$Foresight", "walkInner", "(II)I"⟩, 16), (⟨"SealKeeper$Foresight", "makeCallersStale", "(I)V"⟩, 16), (⟨"SealKeeperModel", "four", "(I)V"⟩, 72), (⟨"SealKeeperModel", "next", "()V"⟩, 72)]
theorem lw_r3 : ∀ q ∈ lw_privs_3, lw_okq q := List.forall_mem_cons.mpr ⟨lw_p32, List.forall_mem_cons.mpr ⟨lw_p33, List.forall_mem_cons.mpr ⟨lw_p34, List.forall_mem_cons.mpr ⟨lw_p35, List.forall_mem_cons.mpr ⟨lw_p36, List.forall_mem_cons.mpr ⟨lw_p37, List.forall_mem_cons.mpr ⟨lw_p38, List.forall_mem_cons.mpr ⟨lw_p39, List.forall_mem_cons.mpr ⟨lw_p40, List.forall_mem_cons.mpr ⟨lw_p41, List.forall_mem_cons.mpr ⟨lw_p42, List.forall_mem_cons.mpr ⟨lw_p43, List.forall_mem_cons.mpr ⟨lw_p44, List.forall_mem_cons.mpr ⟨lw_p45, List.forall_mem_cons.mpr ⟨lw_p46, List.forall_mem_cons.mpr ⟨lw_p47, fun _ h => absurd h List.not_mem_nil⟩⟩⟩⟩⟩⟩⟩⟩⟩⟩⟩⟩⟩⟩⟩⟩
theorem lw_p48 : lw_okq (⟨"SealKeeperModel", "wordOf", "()I"⟩, 72) := ⟨⟨by decide +kernel, by decide +kernel⟩, List.mem_of_getElem? (i := 915) (by decide +kernel), List.mem_of_getElem? (i := 1194) (by decide +kernel), List.mem_of_getElem? (i := 1195) (by decide +kernel)⟩
theorem lw_p49 : lw_okq (⟨"SealKeeperModel", "wrong", "(I)V"⟩, 72) := ⟨⟨by decide +kernel, by decide +kernel⟩, List.mem_of_getElem? (i := 915) (by decide +kernel), List.mem_of_getElem? (i := 1203) (by decide +kernel), List.mem_of_getElem? (i := 1204) (by decide +kernel)⟩
theorem lw_p50 : lw_okq (⟨"SealKeeperModel", "must", "(I)V"⟩, 72) := ⟨⟨by decide +kernel, by decide +kernel⟩, List.mem_of_getElem? (i := 915) (by decide +kernel), List.mem_of_getElem? (i := 1207) (by decide +kernel), List.mem_of_getElem? (i := 1208) (by decide +kernel)⟩
theorem lw_p51 : lw_okq (⟨"SealKeeperModel", "numberTo", "(I)I"⟩, 72) := ⟨⟨by decide +kernel, by decide +kernel⟩, List.mem_of_getElem? (i := 915) (by decide +kernel), List.mem_of_getElem? (i := 1211) (by decide +kernel), List.mem_of_getElem? (i := 1212) (by decide +kernel)⟩
theorem lw_p52 : lw_okq (⟨"SealKeeperModel", "block", "(I)I"⟩, 72) := ⟨⟨by decide +kernel, by decide +kernel⟩, List.mem_of_getElem? (i := 915) (by decide +kernel), List.mem_of_getElem? (i := 1215) (by decide +kernel), List.mem_of_getElem? (i := 1216) (by decide +kernel)⟩
theorem lw_p53 : lw_okq (⟨"SealKeeperModel", "step", "(I)I"⟩, 72) := ⟨⟨by decide +kernel, by decide +kernel⟩, List.mem_of_getElem? (i := 915) (by decide +kernel), List.mem_of_getElem? (i := 1219) (by decide +kernel), List.mem_of_getElem? (i := 1220) (by decide +kernel)⟩
theorem lw_p54 : lw_okq (⟨"SealKeeperModel", "doJob", "(III)V"⟩, 72) := ⟨⟨by decide +kernel, by decide +kernel⟩, List.mem_of_getElem? (i := 915) (by decide +kernel), List.mem_of_getElem? (i := 1239) (by decide +kernel), List.mem_of_getElem? (i := 1240) (by decide +kernel)⟩
theorem lw_p55 : lw_okq (⟨"SealKeeperModel", "openMethod", "(II)V"⟩, 72) := ⟨⟨by decide +kernel, by decide +kernel⟩, List.mem_of_getElem? (i := 915) (by decide +kernel), List.mem_of_getElem? (i := 1243) (by decide +kernel), List.mem_of_getElem? (i := 1244) (by decide +kernel)⟩
theorem lw_p56 : lw_okq (⟨"SealKeeperModel", "open", "(IIII)V"⟩, 72) := ⟨⟨by decide +kernel, by decide +kernel⟩, List.mem_of_getElem? (i := 915) (by decide +kernel), List.mem_of_getElem? (i := 1247) (by decide +kernel), List.mem_of_getElem? (i := 1248) (by decide +kernel)⟩
theorem lw_p57 : lw_okq (⟨"SealKeeperModel", "enter", "(IIII)V"⟩, 72) := ⟨⟨by decide +kernel, by decide +kernel⟩, List.mem_of_getElem? (i := 915) (by decide +kernel), List.mem_of_getElem? (i := 1251) (by decide +kernel), List.mem_of_getElem? (i := 1252) (by decide +kernel)⟩
theorem lw_p58 : lw_okq (⟨"SealKeeperModel", "finish", "()V"⟩, 72) := ⟨⟨by decide +kernel, by decide +kernel⟩, List.mem_of_getElem? (i := 915) (by decide +kernel), List.mem_of_getElem? (i := 1255) (by decide +kernel), List.mem_of_getElem? (i := 1256) (by decide +kernel)⟩
theorem lw_p59 : lw_okq (⟨"SealKeeperModel", "close", "()V"⟩, 72) := ⟨⟨by decide +kernel, by decide +kernel⟩, List.mem_of_getElem? (i := 915) (by decide +kernel), List.mem_of_getElem? (i := 1259) (by decide +kernel), List.mem_of_getElem? (i := 1260) (by decide +kernel)⟩
theorem lw_p60 : lw_okq (⟨"SealKeeperModel", "perform", "(I)V"⟩, 72) := ⟨⟨by decide +kernel, by decide +kernel⟩, List.mem_of_getElem? (i := 915) (by decide +kernel), List.mem_of_getElem? (i := 1263) (by decide +kernel), List.mem_of_getElem? (i := 1264) (by decide +kernel)⟩
theorem lw_p61 : lw_okq (⟨"SealKeeperModel", "judge", "(III)I"⟩, 72) := ⟨⟨by decide +kernel, by decide +kernel⟩, List.mem_of_getElem? (i := 915) (by decide +kernel), List.mem_of_getElem? (i := 1267) (by decide +kernel), List.mem_of_getElem? (i := 1268) (by decide +kernel)⟩
theorem lw_p62 : lw_okq (⟨"SealKeeperModel", "hasRight", "(III)Z"⟩, 72) := ⟨⟨by decide +kernel, by decide +kernel⟩, List.mem_of_getElem? (i := 915) (by decide +kernel), List.mem_of_getElem? (i := 1271) (by decide +kernel), List.mem_of_getElem? (i := 1272) (by decide +kernel)⟩
theorem lw_p63 : lw_okq (⟨"SealKeeperModel", "fail", "(II)V"⟩, 72) := ⟨⟨by decide +kernel, by decide +kernel⟩, List.mem_of_getElem? (i := 915) (by decide +kernel), List.mem_of_getElem? (i := 1275) (by decide +kernel), List.mem_of_getElem? (i := 1276) (by decide +kernel)⟩
def lw_privs_4 : List (MethodName × Nat) := [(⟨"SealKeeperModel", "wordOf", "()I"⟩, 72), (⟨"SealKeeperModel", "wrong", "(I)V"⟩, 72), (⟨"SealKeeperModel", "must", "(I)V"⟩, 72), (⟨"SealKeeperModel", "numberTo", "(I)I"⟩, 72), (⟨"SealKeeperModel", "block", "(I)I"⟩, 72), (⟨"SealKeeperModel", "step", "(I)I"⟩, 72), (⟨"SealKeeperModel", "doJob", "(III)V"⟩, 72), (⟨"SealKeeperModel", "openMethod", "(II)V"⟩, 72), (⟨"SealKeeperModel", "open", "(IIII)V"⟩, 72), (⟨"SealKeeperModel", "enter", "(IIII)V"⟩, 72), (⟨"SealKeeperModel", "finish", "()V"⟩, 72), (⟨"SealKeeperModel", "close", "()V"⟩, 72), (⟨"SealKeeperModel", "perform", "(I)V"⟩, 72), (⟨"SealKeeperModel", "judge", "(III)I"⟩, 72), (⟨"SealKeeperModel", "hasRight", "(III)Z"⟩, 72), (⟨"SealKeeperModel", "fail", "(II)V"⟩, 72)]
theorem lw_r4 : ∀ q ∈ lw_privs_4, lw_okq q := List.forall_mem_cons.mpr ⟨lw_p48, List.forall_mem_cons.mpr ⟨lw_p49, List.forall_mem_cons.mpr ⟨lw_p50, List.forall_mem_cons.mpr ⟨lw_p51, List.forall_mem_cons.mpr ⟨lw_p52, List.forall_mem_cons.mpr ⟨lw_p53, List.forall_mem_cons.mpr ⟨lw_p54, List.forall_mem_cons.mpr ⟨lw_p55, List.forall_mem_cons.mpr ⟨lw_p56, List.forall_mem_cons.mpr ⟨lw_p57, List.forall_mem_cons.mpr ⟨lw_p58, List.forall_mem_cons.mpr ⟨lw_p59, List.forall_mem_cons.mpr ⟨lw_p60, List.forall_mem_cons.mpr ⟨lw_p61, List.forall_mem_cons.mpr ⟨lw_p62, List.forall_mem_cons.mpr ⟨lw_p63, fun _ h => absurd h List.not_mem_nil⟩⟩⟩⟩⟩⟩⟩⟩⟩⟩⟩⟩⟩⟩⟩⟩
theorem lw_p64 : lw_okq (⟨"SealKeeperModel", "say", "(I)V"⟩, 72) := ⟨⟨by decide +kernel, by decide +kernel⟩, List.mem_of_getElem? (i := 915) (by decide +kernel), List.mem_of_getElem? (i := 1279) (by decide +kernel), List.mem_of_getElem? (i := 1280) (by decide +kernel)⟩
theorem lw_p65 : lw_okq (⟨"SealKeeperModel", "takeBit", "()I"⟩, 72) := ⟨⟨by decide +kernel, by decide +kernel⟩, List.mem_of_getElem? (i := 915) (by decide +kernel), List.mem_of_getElem? (i := 1283) (by decide +kernel), List.mem_of_getElem? (i := 1284) (by decide +kernel)⟩
theorem lw_p66 : lw_okq (⟨"SealKeeperModel", "isPlain", "()Z"⟩, 72) := ⟨⟨by decide +kernel, by decide +kernel⟩, List.mem_of_getElem? (i := 915) (by decide +kernel), List.mem_of_getElem? (i := 1299) (by decide +kernel), List.mem_of_getElem? (i := 1300) (by decide +kernel)⟩
theorem lw_p67 : lw_okq (⟨"SealKeeperModel", "pairOf", "(I)I"⟩, 72) := ⟨⟨by decide +kernel, by decide +kernel⟩, List.mem_of_getElem? (i := 915) (by decide +kernel), List.mem_of_getElem? (i := 1303) (by decide +kernel), List.mem_of_getElem? (i := 1304) (by decide +kernel)⟩
theorem lw_p68 : lw_okq (⟨"SealKeeperModel", "walk", "(II)I"⟩, 72) := ⟨⟨by decide +kernel, by decide +kernel⟩, List.mem_of_getElem? (i := 915) (by decide +kernel), List.mem_of_getElem? (i := 1307) (by decide +kernel), List.mem_of_getElem? (i := 1308) (by decide +kernel)⟩
theorem lw_p69 : lw_okq (⟨"SealKeeperModel", "walkStep", "(II)I"⟩, 72) := ⟨⟨by decide +kernel, by decide +kernel⟩, List.mem_of_getElem? (i := 915) (by decide +kernel), List.mem_of_getElem? (i := 1311) (by decide +kernel), List.mem_of_getElem? (i := 1312) (by decide +kernel)⟩
theorem lw_p70 : lw_okq (⟨"SealKeeperModel", "cover", "(II)V"⟩, 72) := ⟨⟨by decide +kernel, by decide +kernel⟩, List.mem_of_getElem? (i := 915) (by decide +kernel), List.mem_of_getElem? (i := 1315) (by decide +kernel), List.mem_of_getElem? (i := 1316) (by decide +kernel)⟩
theorem lw_p71 : lw_okq (⟨"SealKeeperModel", "same", "(I)V"⟩, 72) := ⟨⟨by decide +kernel, by decide +kernel⟩, List.mem_of_getElem? (i := 915) (by decide +kernel), List.mem_of_getElem? (i := 1319) (by decide +kernel), List.mem_of_getElem? (i := 1320) (by decide +kernel)⟩
theorem lw_p72 : lw_okq (⟨"SealKeeperModel", "isAhead", "(II)Z"⟩, 72) := ⟨⟨by decide +kernel, by decide +kernel⟩, List.mem_of_getElem? (i := 915) (by decide +kernel), List.mem_of_getElem? (i := 1335) (by decide +kernel), List.mem_of_getElem? (i := 1336) (by decide +kernel)⟩
def lw_privs_5 : List (MethodName × Nat) := [(⟨"SealKeeperModel", "say", "(I)V"⟩, 72), (⟨"SealKeeperModel", "takeBit", "()I"⟩, 72), (⟨"SealKeeperModel", "isPlain", "()Z"⟩, 72), (⟨"SealKeeperModel", "pairOf", "(I)I"⟩, 72), (⟨"SealKeeperModel", "walk", "(II)I"⟩, 72), (⟨"SealKeeperModel", "walkStep", "(II)I"⟩, 72), (⟨"SealKeeperModel", "cover", "(II)V"⟩, 72), (⟨"SealKeeperModel", "same", "(I)V"⟩, 72), (⟨"SealKeeperModel", "isAhead", "(II)Z"⟩, 72)]
theorem lw_r5 : ∀ q ∈ lw_privs_5, lw_okq q := List.forall_mem_cons.mpr ⟨lw_p64, List.forall_mem_cons.mpr ⟨lw_p65, List.forall_mem_cons.mpr ⟨lw_p66, List.forall_mem_cons.mpr ⟨lw_p67, List.forall_mem_cons.mpr ⟨lw_p68, List.forall_mem_cons.mpr ⟨lw_p69, List.forall_mem_cons.mpr ⟨lw_p70, List.forall_mem_cons.mpr ⟨lw_p71, List.forall_mem_cons.mpr ⟨lw_p72, fun _ h => absurd h List.not_mem_nil⟩⟩⟩⟩⟩⟩⟩⟩⟩
def lw_privs : List (MethodName × Nat) := lw_privs_1 ++ (lw_privs_2 ++ (lw_privs_3 ++ (lw_privs_4 ++ (lw_privs_5))))
def lw_tbl : List Cond := k2_sels lw_privs ++ tables_1
theorem lw_privs_ok : ∀ q ∈ lw_privs, lw_okq q := by
  show ∀ q ∈ lw_privs_1 ++ (lw_privs_2 ++ (lw_privs_3 ++ (lw_privs_4 ++ (lw_privs_5)))), lw_okq q
  exact List.forall_mem_append.mpr ⟨lw_r1, List.forall_mem_append.mpr ⟨lw_r2, List.forall_mem_append.mpr ⟨lw_r3, List.forall_mem_append.mpr ⟨lw_r4, lw_r5⟩⟩⟩⟩
def RX0 : String := "SealKeeper$Foresight"
def TX0 : u_T := fun k => match k with
  | 0 => ("SealKeeper$Foresight", "rules", "LSealKeeper$Rules;", true)
  | 1 => ("SealKeeper$Foresight", "program", "LSealKeeper$Program;", false)
  | 2 => ("SealKeeper$Foresight", "method", "[I", true)
  | 3 => ("SealKeeper$Foresight", "rights", "[J", true)
  | 4 => ("SealKeeper$Foresight", "can", "[I", true)
  | 5 => ("SealKeeper$Foresight", "stale", "[Z", true)
  | 6 => ("SealKeeper$Foresight", "callers", "[J", true)
  | 7 => ("SealKeeper$Foresight", "order", "[I", true)
  | 8 => ("SealKeeper$Foresight", "pairsOf", "[I", true)
  | 9 => ("SealKeeper$Foresight", "work", "[J", true)
  | 10 => ("SealKeeper$Foresight", "passed", "[I", true)
  | 11 => ("SealKeeper$Foresight", "open", "[I", true)
  | 12 => ("SealKeeper$Foresight", "size", "I", false)
  | 13 => ("SealKeeper$Foresight", "walking", "I", false)
  | 14 => ("SealKeeper$Foresight", "tooMany", "Z", false)
  | _ => ("SealKeeper$Foresight", "kept", "Z", false)
def tyX0 : Nat → FieldType := fun k => match k with
  | 0 => .object "SealKeeper$Rules"
  | 1 => .object "SealKeeper$Program"
  | 2 => .array .int
  | 3 => .array .long
  | 4 => .array .int
  | 5 => .array .boolean
  | 6 => .array .long
  | 7 => .array .int
  | 8 => .array .int
  | 9 => .array .long
  | 10 => .array .int
  | 11 => .array .int
  | 12 => .int
  | 13 => .int
  | 14 => .boolean
  | _ => .boolean
abbrev wsX00 : List Cond := u_ws RX0 TX0 16
theorem nmX0 : ∀ a, a < 16 → ∀ b, b < 16 → a ≠ b → (TX0 a).2.1 ≠ (TX0 b).2.1 := by decide +kernel
theorem tyX0_ok : ∀ k, k < 16 → parseFieldDescriptor (TX0 k).2.2.1 = some (tyX0 k) := by decide +kernel
abbrev cX0_init : ByteArray := prog_2_method_1_code
def yX0_init : MethodName := ⟨RX0, "<init>", "(LSealKeeper$Program;LSealKeeper$Rules;)V"⟩
abbrev cX0_foretell : ByteArray := prog_2_method_2_code
def yX0_foretell : MethodName := ⟨RX0, "foretell", "(LSealKeeper$Program;I)I"⟩
abbrev cX0_sweep : ByteArray := prog_2_method_3_code
def yX0_sweep : MethodName := ⟨RX0, "sweep", "()Z"⟩
abbrev cX0_makeCallersStale : ByteArray := prog_2_method_4_code
def yX0_makeCallersStale : MethodName := ⟨RX0, "makeCallersStale", "(I)V"⟩
abbrev cX0_walkBlock : ByteArray := prog_2_method_5_code
def yX0_walkBlock : MethodName := ⟨RX0, "walkBlock", "(II)I"⟩
abbrev cX0_walkStep : ByteArray := prog_2_method_6_code
def yX0_walkStep : MethodName := ⟨RX0, "walkStep", "(II)I"⟩
abbrev cX0_walkAsk : ByteArray := prog_2_method_7_code
def yX0_walkAsk : MethodName := ⟨RX0, "walkAsk", "(II)I"⟩
abbrev cX0_walkTry : ByteArray := prog_2_method_8_code
def yX0_walkTry : MethodName := ⟨RX0, "walkTry", "(II)I"⟩
abbrev cX0_walkInner : ByteArray := prog_2_method_9_code
def yX0_walkInner : MethodName := ⟨RX0, "walkInner", "(II)I"⟩
abbrev cX0_walkCall : ByteArray := prog_2_method_10_code
def yX0_walkCall : MethodName := ⟨RX0, "walkCall", "(I)I"⟩
abbrev cX0_refuserOf : ByteArray := prog_2_method_11_code
def yX0_refuserOf : MethodName := ⟨RX0, "refuserOf", "(II)I"⟩
abbrev cX0_refuserAt : ByteArray := prog_2_method_12_code
def yX0_refuserAt : MethodName := ⟨RX0, "refuserAt", "(JI)I"⟩
abbrev cX0_levelsAbove : ByteArray := prog_2_method_13_code
def yX0_levelsAbove : MethodName := ⟨RX0, "levelsAbove", "(I)J"⟩
abbrev cX0_copyDown : ByteArray := prog_2_method_14_code
def yX0_copyDown : MethodName := ⟨RX0, "copyDown", "(I)V"⟩
abbrev cX0_enterBlock : ByteArray := prog_2_method_15_code
def yX0_enterBlock : MethodName := ⟨RX0, "enterBlock", "(II)V"⟩
abbrev cX0_change : ByteArray := prog_2_method_16_code
def yX0_change : MethodName := ⟨RX0, "change", "(IIJI)V"⟩
abbrev cX0_come : ByteArray := prog_2_method_17_code
def yX0_come : MethodName := ⟨RX0, "come", "(II)I"⟩
abbrev cX0_placeInOrder : ByteArray := prog_2_method_18_code
def yX0_placeInOrder : MethodName := ⟨RX0, "placeInOrder", "(II)I"⟩
abbrev cX0_compare : ByteArray := prog_2_method_19_code
def yX0_compare : MethodName := ⟨RX0, "compare", "(III)I"⟩
abbrev cX0_insert : ByteArray := prog_2_method_20_code
def yX0_insert : MethodName := ⟨RX0, "insert", "(III)I"⟩
abbrev cX0_rootCan : ByteArray := prog_2_method_21_code
def yX0_rootCan : MethodName := ⟨RX0, "rootCan", "(I)I"⟩
abbrev cX0_methodsThatCame : ByteArray := prog_2_method_22_code
def yX0_methodsThatCame : MethodName := ⟨RX0, "methodsThatCame", "()I"⟩
abbrev cX0_refuser : ByteArray := prog_2_method_23_code
def yX0_refuser : MethodName := ⟨RX0, "refuser", "(IIII)I"⟩
def RX1 : String := "SealKeeper$Frames"
def TX1 : u_T := fun k => match k with
  | 0 => ("SealKeeper$Frames", "role", "[I", true)
  | 1 => ("SealKeeper$Frames", "opener", "[I", true)
  | 2 => ("SealKeeper$Frames", "next", "[I", true)
  | 3 => ("SealKeeper$Frames", "stack", "[I", true)
  | 4 => ("SealKeeper$Frames", "timesLeft", "[I", true)
  | _ => ("SealKeeper$Frames", "depth", "I", false)
def tyX1 : Nat → FieldType := fun k => match k with
  | 0 => .array .int
  | 1 => .array .int
  | 2 => .array .int
  | 3 => .array .int
  | 4 => .array .int
  | _ => .int
abbrev wsX10 : List Cond := u_ws RX1 TX1 6
theorem nmX1 : ∀ a, a < 6 → ∀ b, b < 6 → a ≠ b → (TX1 a).2.1 ≠ (TX1 b).2.1 := by decide +kernel
theorem tyX1_ok : ∀ k, k < 6 → parseFieldDescriptor (TX1 k).2.2.1 = some (tyX1 k) := by decide +kernel
abbrev cX1_init : ByteArray := prog_3_method_1_code
def yX1_init : MethodName := ⟨RX1, "<init>", "()V"⟩
abbrev cX1_clear : ByteArray := prog_3_method_2_code
def yX1_clear : MethodName := ⟨RX1, "clear", "()V"⟩
abbrev cX1_isEmpty : ByteArray := prog_3_method_3_code
def yX1_isEmpty : MethodName := ⟨RX1, "isEmpty", "()Z"⟩
abbrev cX1_push : ByteArray := prog_3_method_4_code
def yX1_push : MethodName := ⟨RX1, "push", "(IIII)V"⟩
abbrev cX1_pop : ByteArray := prog_3_method_5_code
def yX1_pop : MethodName := ⟨RX1, "pop", "()V"⟩
abbrev cX1_topRole : ByteArray := prog_3_method_6_code
def yX1_topRole : MethodName := ⟨RX1, "topRole", "()I"⟩
abbrev cX1_topOpener : ByteArray := prog_3_method_7_code
def yX1_topOpener : MethodName := ⟨RX1, "topOpener", "()I"⟩
abbrev cX1_topNext : ByteArray := prog_3_method_8_code
def yX1_topNext : MethodName := ⟨RX1, "topNext", "()I"⟩
abbrev cX1_topStack : ByteArray := prog_3_method_9_code
def yX1_topStack : MethodName := ⟨RX1, "topStack", "()I"⟩
abbrev cX1_topTimesLeft : ByteArray := prog_3_method_10_code
def yX1_topTimesLeft : MethodName := ⟨RX1, "topTimesLeft", "()I"⟩
abbrev cX1_goTo : ByteArray := prog_3_method_11_code
def yX1_goTo : MethodName := ⟨RX1, "goTo", "(I)V"⟩
abbrev cX1_setTimesLeft : ByteArray := prog_3_method_12_code
def yX1_setTimesLeft : MethodName := ⟨RX1, "setTimesLeft", "(I)V"⟩
def RX2 : String := "SealKeeper$Program"
def TX2 : u_T := fun k => match k with
  | 0 => ("SealKeeper$Program", "owner", "[I", true)
  | 1 => ("SealKeeper$Program", "start", "[I", true)
  | 2 => ("SealKeeper$Program", "word", "[I", true)
  | 3 => ("SealKeeper$Program", "method", "[I", true)
  | 4 => ("SealKeeper$Program", "first", "[I", true)
  | 5 => ("SealKeeper$Program", "second", "[I", true)
  | 6 => ("SealKeeper$Program", "next", "[I", true)
  | 7 => ("SealKeeper$Program", "inner", "[I", true)
  | 8 => ("SealKeeper$Program", "other", "[I", true)
  | 9 => ("SealKeeper$Program", "methods", "I", false)
  | 10 => ("SealKeeper$Program", "steps", "I", false)
  | _ => ("SealKeeper$Program", "deepest", "I", false)
def tyX2 : Nat → FieldType := fun k => match k with
  | 0 => .array .int
  | 1 => .array .int
  | 2 => .array .int
  | 3 => .array .int
  | 4 => .array .int
  | 5 => .array .int
  | 6 => .array .int
  | 7 => .array .int
  | 8 => .array .int
  | 9 => .int
  | 10 => .int
  | _ => .int
abbrev wsX20 : List Cond := u_ws RX2 TX2 12
theorem nmX2 : ∀ a, a < 12 → ∀ b, b < 12 → a ≠ b → (TX2 a).2.1 ≠ (TX2 b).2.1 := by decide +kernel
theorem tyX2_ok : ∀ k, k < 12 → parseFieldDescriptor (TX2 k).2.2.1 = some (tyX2 k) := by decide +kernel
abbrev cX2_init : ByteArray := prog_4_method_1_code
def yX2_init : MethodName := ⟨RX2, "<init>", "()V"⟩
abbrev cX2_clear : ByteArray := prog_4_method_2_code
def yX2_clear : MethodName := ⟨RX2, "clear", "()V"⟩
abbrev cX2_addMethod : ByteArray := prog_4_method_3_code
def yX2_addMethod : MethodName := ⟨RX2, "addMethod", "(I)I"⟩
abbrev cX2_addStep : ByteArray := prog_4_method_4_code
def yX2_addStep : MethodName := ⟨RX2, "addStep", "(I)I"⟩
abbrev cX2_ownerOf : ByteArray := prog_4_method_5_code
def yX2_ownerOf : MethodName := ⟨RX2, "ownerOf", "(I)I"⟩
abbrev cX2_startOf : ByteArray := prog_4_method_6_code
def yX2_startOf : MethodName := ⟨RX2, "startOf", "(I)I"⟩
abbrev cX2_hasStep : ByteArray := prog_4_method_7_code
def yX2_hasStep : MethodName := ⟨RX2, "hasStep", "(I)Z"⟩
abbrev cX2_countOf : ByteArray := prog_4_method_8_code
def yX2_countOf : MethodName := ⟨RX2, "countOf", "(I)I"⟩
abbrev cX2_canBeForetold : ByteArray := prog_4_method_9_code
def yX2_canBeForetold : MethodName := ⟨RX2, "canBeForetold", "()Z"⟩
def RX3 : String := "SealKeeper$Reader"
def TX3 : u_T := fun k => match k with
  | 0 => ("SealKeeper$Reader", "tokens", "LSealKeeper$Tokens;", true)
  | 1 => ("SealKeeper$Reader", "firstToken", "[I", true)
  | 2 => ("SealKeeper$Reader", "into", "LSealKeeper$Program;", false)
  | 3 => ("SealKeeper$Reader", "now", "I", false)
  | 4 => ("SealKeeper$Reader", "faultToken", "I", false)
  | 5 => ("SealKeeper$Reader", "faultFound", "I", false)
  | _ => ("SealKeeper$Reader", "faultAt", "I", false)
def tyX3 : Nat → FieldType := fun k => match k with
  | 0 => .object "SealKeeper$Tokens"
  | 1 => .array .int
  | 2 => .object "SealKeeper$Program"
  | 3 => .int
  | 4 => .int
  | 5 => .int
  | _ => .int
abbrev wsX30 : List Cond := u_ws RX3 TX3 7
theorem nmX3 : ∀ a, a < 7 → ∀ b, b < 7 → a ≠ b → (TX3 a).2.1 ≠ (TX3 b).2.1 := by decide +kernel
theorem tyX3_ok : ∀ k, k < 7 → parseFieldDescriptor (TX3 k).2.2.1 = some (tyX3 k) := by decide +kernel
abbrev cX3_init : ByteArray := prog_5_method_1_code
def yX3_init : MethodName := ⟨RX3, "<init>", "(LSealKeeper$Program;)V"⟩
abbrev cX3_readInto : ByteArray := prog_5_method_2_code
def yX3_readInto : MethodName := ⟨RX3, "readInto", "(LSealKeeper$Program;LSealKeeper$Row;)Z"⟩
abbrev cX3_broken : ByteArray := prog_5_method_3_code
def yX3_broken : MethodName := ⟨RX3, "broken", "(II)I"⟩
abbrev cX3_readMethod : ByteArray := prog_5_method_4_code
def yX3_readMethod : MethodName := ⟨RX3, "readMethod", "()Z"⟩
abbrev cX3_take : ByteArray := prog_5_method_5_code
def yX3_take : MethodName := ⟨RX3, "take", "(I)Z"⟩
abbrev cX3_readNumber : ByteArray := prog_5_method_6_code
def yX3_readNumber : MethodName := ⟨RX3, "readNumber", "(I)I"⟩
abbrev cX3_readBlock : ByteArray := prog_5_method_7_code
def yX3_readBlock : MethodName := ⟨RX3, "readBlock", "(I)I"⟩
abbrev cX3_readStep : ByteArray := prog_5_method_8_code
def yX3_readStep : MethodName := ⟨RX3, "readStep", "(I)I"⟩
abbrev cX3_readNumbers : ByteArray := prog_5_method_9_code
def yX3_readNumbers : MethodName := ⟨RX3, "readNumbers", "(II)Z"⟩
abbrev cX3_readRest : ByteArray := prog_5_method_10_code
def yX3_readRest : MethodName := ⟨RX3, "readRest", "(III)Z"⟩
abbrev cX3_allMethodsAreThere : ByteArray := prog_5_method_11_code
def yX3_allMethodsAreThere : MethodName := ⟨RX3, "allMethodsAreThere", "()Z"⟩
def RX4 : String := "SealKeeper$Row"
def TX4 : u_T := fun k => match k with
  | 0 => ("SealKeeper$Row", "cells", "[I", true)
  | _ => ("SealKeeper$Row", "size", "I", false)
def tyX4 : Nat → FieldType := fun k => match k with
  | 0 => .array .int
  | _ => .int
abbrev wsX40 : List Cond := u_ws RX4 TX4 2
theorem nmX4 : ∀ a, a < 2 → ∀ b, b < 2 → a ≠ b → (TX4 a).2.1 ≠ (TX4 b).2.1 := by decide +kernel
theorem tyX4_ok : ∀ k, k < 2 → parseFieldDescriptor (TX4 k).2.2.1 = some (tyX4 k) := by decide +kernel
abbrev cX4_init : ByteArray := prog_6_method_1_code
def yX4_init : MethodName := ⟨RX4, "<init>", "(I)V"⟩
abbrev cX4_hasRoomFor : ByteArray := prog_6_method_2_code
def yX4_hasRoomFor : MethodName := ⟨RX4, "hasRoomFor", "(I)Z"⟩
abbrev cX4_add : ByteArray := prog_6_method_3_code
def yX4_add : MethodName := ⟨RX4, "add", "(I)V"⟩
abbrev cX4_at : ByteArray := prog_6_method_4_code
def yX4_at : MethodName := ⟨RX4, "at", "(I)I"⟩
abbrev cX4_cutTo : ByteArray := prog_6_method_5_code
def yX4_cutTo : MethodName := ⟨RX4, "cutTo", "(I)V"⟩
def RX5 : String := "SealKeeper$Rules"
def TX5 : u_T := fun k => match k with
  | _ => ("SealKeeper$Rules", "levels", "[I", true)
def tyX5 : Nat → FieldType := fun k => match k with
  | _ => .array .int
abbrev wsX50 : List Cond := u_ws RX5 TX5 1
theorem nmX5 : ∀ a, a < 1 → ∀ b, b < 1 → a ≠ b → (TX5 a).2.1 ≠ (TX5 b).2.1 := by decide +kernel
theorem tyX5_ok : ∀ k, k < 1 → parseFieldDescriptor (TX5 k).2.2.1 = some (tyX5 k) := by decide +kernel
abbrev cX5_init : ByteArray := prog_7_method_1_code
def yX5_init : MethodName := ⟨RX5, "<init>", "()V"⟩
abbrev cX5_of : ByteArray := prog_7_method_2_code
def yX5_of : MethodName := ⟨RX5, "of", "(II)I"⟩
abbrev cX5_replace : ByteArray := prog_7_method_3_code
def yX5_replace : MethodName := ⟨RX5, "replace", "(III)I"⟩
abbrev cX5_given : ByteArray := prog_7_method_4_code
def yX5_given : MethodName := ⟨RX5, "given", "()I"⟩
def RX6 : String := "SealKeeper$Runner"
def TX6 : u_T := fun k => match k with
  | 0 => ("SealKeeper$Runner", "input", "LSealKeeper$Row;", true)
  | 1 => ("SealKeeper$Runner", "notes", "LSealKeeper$Row;", true)
  | 2 => ("SealKeeper$Runner", "stacks", "LSealKeeper$Stacks;", true)
  | 3 => ("SealKeeper$Runner", "frames", "LSealKeeper$Frames;", true)
  | 4 => ("SealKeeper$Runner", "slots", "[I", true)
  | 5 => ("SealKeeper$Runner", "jobMethod", "[I", true)
  | 6 => ("SealKeeper$Runner", "jobBase", "[I", true)
  | 7 => ("SealKeeper$Runner", "tally", "[I", true)
  | 8 => ("SealKeeper$Runner", "hasRun", "Z", false)
  | 9 => ("SealKeeper$Runner", "program", "LSealKeeper$Program;", false)
  | 10 => ("SealKeeper$Runner", "jobs", "I", false)
  | 11 => ("SealKeeper$Runner", "turnsTold", "I", false)
  | 12 => ("SealKeeper$Runner", "methodsOpen", "I", false)
  | _ => ("SealKeeper$Runner", "end", "I", false)
def tyX6 : Nat → FieldType := fun k => match k with
  | 0 => .object "SealKeeper$Row"
  | 1 => .object "SealKeeper$Row"
  | 2 => .object "SealKeeper$Stacks"
  | 3 => .object "SealKeeper$Frames"
  | 4 => .array .int
  | 5 => .array .int
  | 6 => .array .int
  | 7 => .array .int
  | 8 => .boolean
  | 9 => .object "SealKeeper$Program"
  | 10 => .int
  | 11 => .int
  | 12 => .int
  | _ => .int
abbrev wsX60 : List Cond := u_ws RX6 TX6 14
theorem nmX6 : ∀ a, a < 14 → ∀ b, b < 14 → a ≠ b → (TX6 a).2.1 ≠ (TX6 b).2.1 := by decide +kernel
theorem tyX6_ok : ∀ k, k < 14 → parseFieldDescriptor (TX6 k).2.2.1 = some (tyX6 k) := by decide +kernel
abbrev cX6_init : ByteArray := prog_8_method_1_code
def yX6_init : MethodName := ⟨RX6, "<init>", "(LSealKeeper$Program;LSealKeeper$Rules;LSealKeeper$Row;LSealKeeper$Row;)V"⟩
abbrev cX6_execute : ByteArray := prog_8_method_2_code
def yX6_execute : MethodName := ⟨RX6, "execute", "(LSealKeeper$Program;II)I"⟩
abbrev cX6_begin : ByteArray := prog_8_method_3_code
def yX6_begin : MethodName := ⟨RX6, "begin", "(LSealKeeper$Program;I)V"⟩
abbrev cX6_beginJob : ByteArray := prog_8_method_4_code
def yX6_beginJob : MethodName := ⟨RX6, "beginJob", "()V"⟩
abbrev cX6_putOff : ByteArray := prog_8_method_5_code
def yX6_putOff : MethodName := ⟨RX6, "putOff", "(II)V"⟩
abbrev cX6_openMethod : ByteArray := prog_8_method_6_code
def yX6_openMethod : MethodName := ⟨RX6, "openMethod", "(II)V"⟩
abbrev cX6_endBlock : ByteArray := prog_8_method_7_code
def yX6_endBlock : MethodName := ⟨RX6, "endBlock", "()V"⟩
abbrev cX6_closeBlock : ByteArray := prog_8_method_8_code
def yX6_closeBlock : MethodName := ⟨RX6, "closeBlock", "()V"⟩
abbrev cX6_beginTurn : ByteArray := prog_8_method_9_code
def yX6_beginTurn : MethodName := ⟨RX6, "beginTurn", "(I)V"⟩
abbrev cX6_doStep : ByteArray := prog_8_method_10_code
def yX6_doStep : MethodName := ⟨RX6, "doStep", "(III)V"⟩
abbrev cX6_open : ByteArray := prog_8_method_11_code
def yX6_open : MethodName := ⟨RX6, "open", "(III)V"⟩
abbrev cX6_judge : ByteArray := prog_8_method_12_code
def yX6_judge : MethodName := ⟨RX6, "judge", "(II)I"⟩
abbrev cX6_failIfRefused : ByteArray := prog_8_method_13_code
def yX6_failIfRefused : MethodName := ⟨RX6, "failIfRefused", "(II)V"⟩
abbrev cX6_keep : ByteArray := prog_8_method_14_code
def yX6_keep : MethodName := ⟨RX6, "keep", "(II)V"⟩
abbrev cX6_under : ByteArray := prog_8_method_15_code
def yX6_under : MethodName := ⟨RX6, "under", "(II)V"⟩
abbrev cX6_repeat : ByteArray := prog_8_method_16_code
def yX6_repeat : MethodName := ⟨RX6, "repeat", "(III)V"⟩
abbrev cX6_takeBit : ByteArray := prog_8_method_17_code
def yX6_takeBit : MethodName := ⟨RX6, "takeBit", "()I"⟩
abbrev cX6_goBack : ByteArray := prog_8_method_18_code
def yX6_goBack : MethodName := ⟨RX6, "goBack", "()V"⟩
abbrev cX6_fail : ByteArray := prog_8_method_19_code
def yX6_fail : MethodName := ⟨RX6, "fail", "(II)V"⟩
def RX7 : String := "SealKeeper$Stacks"
def TX7 : u_T := fun k => match k with
  | 0 => ("SealKeeper$Stacks", "rules", "LSealKeeper$Rules;", true)
  | 1 => ("SealKeeper$Stacks", "program", "LSealKeeper$Program;", false)
  | 2 => ("SealKeeper$Stacks", "entry", "[I", true)
  | 3 => ("SealKeeper$Stacks", "below", "[I", true)
  | _ => ("SealKeeper$Stacks", "size", "I", false)
def tyX7 : Nat → FieldType := fun k => match k with
  | 0 => .object "SealKeeper$Rules"
  | 1 => .object "SealKeeper$Program"
  | 2 => .array .int
  | 3 => .array .int
  | _ => .int
abbrev wsX70 : List Cond := u_ws RX7 TX7 5
theorem nmX7 : ∀ a, a < 5 → ∀ b, b < 5 → a ≠ b → (TX7 a).2.1 ≠ (TX7 b).2.1 := by decide +kernel
theorem tyX7_ok : ∀ k, k < 5 → parseFieldDescriptor (TX7 k).2.2.1 = some (tyX7 k) := by decide +kernel
abbrev cX7_init : ByteArray := prog_9_method_1_code
def yX7_init : MethodName := ⟨RX7, "<init>", "(LSealKeeper$Program;LSealKeeper$Rules;)V"⟩
abbrev cX7_clear : ByteArray := prog_9_method_2_code
def yX7_clear : MethodName := ⟨RX7, "clear", "(LSealKeeper$Program;)V"⟩
abbrev cX7_withMethod : ByteArray := prog_9_method_3_code
def yX7_withMethod : MethodName := ⟨RX7, "withMethod", "(II)I"⟩
abbrev cX7_withBlock : ByteArray := prog_9_method_4_code
def yX7_withBlock : MethodName := ⟨RX7, "withBlock", "(II)I"⟩
abbrev cX7_add : ByteArray := prog_9_method_5_code
def yX7_add : MethodName := ⟨RX7, "add", "(II)I"⟩
abbrev cX7_refuser : ByteArray := prog_9_method_6_code
def yX7_refuser : MethodName := ⟨RX7, "refuser", "(III)I"⟩
def RX8 : String := "SealKeeper$Tokens"
def TX8 : u_T := fun k => match k with
  | 0 => ("SealKeeper$Tokens", "token", "[I", true)
  | 1 => ("SealKeeper$Tokens", "at", "[I", true)
  | _ => ("SealKeeper$Tokens", "size", "I", false)
def tyX8 : Nat → FieldType := fun k => match k with
  | 0 => .array .int
  | 1 => .array .int
  | _ => .int
abbrev wsX80 : List Cond := u_ws RX8 TX8 3
theorem nmX8 : ∀ a, a < 3 → ∀ b, b < 3 → a ≠ b → (TX8 a).2.1 ≠ (TX8 b).2.1 := by decide +kernel
theorem tyX8_ok : ∀ k, k < 3 → parseFieldDescriptor (TX8 k).2.2.1 = some (tyX8 k) := by decide +kernel
abbrev cX8_init : ByteArray := prog_10_method_1_code
def yX8_init : MethodName := ⟨RX8, "<init>", "()V"⟩
abbrev cX8_cut : ByteArray := prog_10_method_2_code
def yX8_cut : MethodName := ⟨RX8, "cut", "(LSealKeeper$Row;)V"⟩
abbrev cX8_tokenAt : ByteArray := prog_10_method_3_code
def yX8_tokenAt : MethodName := ⟨RX8, "tokenAt", "(I)I"⟩
abbrev cX8_placeOf : ByteArray := prog_10_method_4_code
def yX8_placeOf : MethodName := ⟨RX8, "placeOf", "(I)I"⟩
abbrev cX8_add : ByteArray := prog_10_method_5_code
def yX8_add : MethodName := ⟨RX8, "add", "(II)V"⟩
abbrev cX8_isLetter : ByteArray := prog_10_method_6_code
def yX8_isLetter : MethodName := ⟨RX8, "isLetter", "(I)Z"⟩
abbrev cX8_isDigit : ByteArray := prog_10_method_7_code
def yX8_isDigit : MethodName := ⟨RX8, "isDigit", "(I)Z"⟩
abbrev cX8_endOfWord : ByteArray := prog_10_method_8_code
def yX8_endOfWord : MethodName := ⟨RX8, "endOfWord", "(LSealKeeper$Row;I)I"⟩
abbrev cX8_endOfNumber : ByteArray := prog_10_method_9_code
def yX8_endOfNumber : MethodName := ⟨RX8, "endOfNumber", "(LSealKeeper$Row;I)I"⟩
abbrev cX8_wordOf : ByteArray := prog_10_method_10_code
def yX8_wordOf : MethodName := ⟨RX8, "wordOf", "(LSealKeeper$Row;II)I"⟩
abbrev cX8_isWord : ByteArray := prog_10_method_11_code
def yX8_isWord : MethodName := ⟨RX8, "isWord", "(ILSealKeeper$Row;II)Z"⟩
abbrev cX8_numberOf : ByteArray := prog_10_method_12_code
def yX8_numberOf : MethodName := ⟨RX8, "numberOf", "(LSealKeeper$Row;II)I"⟩
abbrev cX8_signOf : ByteArray := prog_10_method_13_code
def yX8_signOf : MethodName := ⟨RX8, "signOf", "(I)I"⟩
def RX9 : String := "SealKeeper"
def TX9 : u_T := fun k => match k with
  | 0 => ("SealKeeper", "tape", "LSealKeeper$Row;", true)
  | 1 => ("SealKeeper", "input", "LSealKeeper$Row;", true)
  | 2 => ("SealKeeper", "notes", "LSealKeeper$Row;", true)
  | 3 => ("SealKeeper", "rules", "LSealKeeper$Rules;", true)
  | 4 => ("SealKeeper", "current", "LSealKeeper$Program;", false)
  | 5 => ("SealKeeper", "spare", "LSealKeeper$Program;", false)
  | 6 => ("SealKeeper", "reader", "LSealKeeper$Reader;", true)
  | 7 => ("SealKeeper", "runner", "LSealKeeper$Runner;", true)
  | _ => ("SealKeeper", "foresight", "LSealKeeper$Foresight;", true)
def tyX9 : Nat → FieldType := fun k => match k with
  | 0 => .object "SealKeeper$Row"
  | 1 => .object "SealKeeper$Row"
  | 2 => .object "SealKeeper$Row"
  | 3 => .object "SealKeeper$Rules"
  | 4 => .object "SealKeeper$Program"
  | 5 => .object "SealKeeper$Program"
  | 6 => .object "SealKeeper$Reader"
  | 7 => .object "SealKeeper$Runner"
  | _ => .object "SealKeeper$Foresight"
abbrev wsX90 : List Cond := u_ws RX9 TX9 9
theorem nmX9 : ∀ a, a < 9 → ∀ b, b < 9 → a ≠ b → (TX9 a).2.1 ≠ (TX9 b).2.1 := by decide +kernel
theorem tyX9_ok : ∀ k, k < 9 → parseFieldDescriptor (TX9 k).2.2.1 = some (tyX9 k) := by decide +kernel
abbrev cX9_init : ByteArray := prog_1_method_1_code
def yX9_init : MethodName := ⟨RX9, "<init>", "()V"⟩
abbrev cX9_feed : ByteArray := prog_1_method_2_code
def yX9_feed : MethodName := ⟨RX9, "feed", "(IIIII)I"⟩
abbrev cX9_addBytes : ByteArray := prog_1_method_3_code
def yX9_addBytes : MethodName := ⟨RX9, "addBytes", "(I)V"⟩
abbrev cX9_trim : ByteArray := prog_1_method_4_code
def yX9_trim : MethodName := ⟨RX9, "trim", "(I)I"⟩
abbrev cX9_program : ByteArray := prog_1_method_5_code
def yX9_program : MethodName := ⟨RX9, "program", "()I"⟩
abbrev cX9_fault : ByteArray := prog_1_method_6_code
def yX9_fault : MethodName := ⟨RX9, "fault", "()I"⟩
abbrev cX9_rule : ByteArray := prog_1_method_7_code
def yX9_rule : MethodName := ⟨RX9, "rule", "(III)I"⟩
abbrev cX9_bits : ByteArray := prog_1_method_8_code
def yX9_bits : MethodName := ⟨RX9, "bits", "(II)I"⟩
abbrev cX9_forget : ByteArray := prog_1_method_9_code
def yX9_forget : MethodName := ⟨RX9, "forget", "()I"⟩
abbrev cX9_about : ByteArray := prog_1_method_10_code
def yX9_about : MethodName := ⟨RX9, "about", "(I)I"⟩
abbrev cX9_step : ByteArray := prog_1_method_11_code
def yX9_step : MethodName := ⟨RX9, "step", "(II)I"⟩
abbrev cX9_run : ByteArray := prog_1_method_12_code
def yX9_run : MethodName := ⟨RX9, "run", "(II)I"⟩
abbrev cX9_ran : ByteArray := prog_1_method_13_code
def yX9_ran : MethodName := ⟨RX9, "ran", "(I)I"⟩
abbrev cX9_note : ByteArray := prog_1_method_14_code
def yX9_note : MethodName := ⟨RX9, "note", "(I)I"⟩
abbrev cX9_ahead : ByteArray := prog_1_method_15_code
def yX9_ahead : MethodName := ⟨RX9, "ahead", "(I)I"⟩
abbrev cX9_walked : ByteArray := prog_1_method_16_code
def yX9_walked : MethodName := ⟨RX9, "walked", "(II)I"⟩
abbrev cX9_told : ByteArray := prog_1_method_17_code
def yX9_told : MethodName := ⟨RX9, "told", "(I)I"⟩
abbrev cX9_pair : ByteArray := prog_1_method_18_code
def yX9_pair : MethodName := ⟨RX9, "pair", "(IIII)I"⟩
abbrev cX9_count : ByteArray := prog_1_method_19_code
def yX9_count : MethodName := ⟨RX9, "count", "(I)I"⟩
abbrev cX9_hasProgram : ByteArray := prog_1_method_20_code
def yX9_hasProgram : MethodName := ⟨RX9, "hasProgram", "()Z"⟩
abbrev cX9_within : ByteArray := prog_1_method_21_code
def yX9_within : MethodName := ⟨RX9, "within", "(II)Z"⟩
abbrev cX9_sum : ByteArray := prog_1_method_22_code
def yX9_sum : MethodName := ⟨RX9, "sum", "([I)I"⟩
def RX10 : String := "SealKeeperModel"
def TX10 : u_T := fun k => match k with
  | 0 => ("SealKeeperModel", "thrown", "I", false)
  | 1 => ("SealKeeperModel", "tape", "[I", true)
  | 2 => ("SealKeeperModel", "taped", "I", false)
  | 3 => ("SealKeeperModel", "rules", "[I", true)
  | 4 => ("SealKeeperModel", "bits", "[I", true)
  | 5 => ("SealKeeperModel", "bitMany", "I", false)
  | 6 => ("SealKeeperModel", "fault", "I", false)
  | 7 => ("SealKeeperModel", "has", "Z", false)
  | 8 => ("SealKeeperModel", "methods", "[I", true)
  | 9 => ("SealKeeperModel", "owners", "[I", true)
  | 10 => ("SealKeeperModel", "firsts", "[I", true)
  | 11 => ("SealKeeperModel", "steps", "[I", true)
  | 12 => ("SealKeeperModel", "word", "[I", true)
  | 13 => ("SealKeeperModel", "methodOf", "[I", true)
  | 14 => ("SealKeeperModel", "one", "[I", true)
  | 15 => ("SealKeeperModel", "two", "[I", true)
  | 16 => ("SealKeeperModel", "nextOf", "[I", true)
  | 17 => ("SealKeeperModel", "blockOne", "[I", true)
  | 18 => ("SealKeeperModel", "blockTwo", "[I", true)
  | 19 => ("SealKeeperModel", "deepest", "[I", true)
  | 20 => ("SealKeeperModel", "words", "[Ljava/lang/String;", true)
  | 21 => ("SealKeeperModel", "textEnd", "I", false)
  | 22 => ("SealKeeperModel", "from", "I", false)
  | 23 => ("SealKeeperModel", "to", "I", false)
  | 24 => ("SealKeeperModel", "token", "I", false)
  | 25 => ("SealKeeperModel", "number", "I", false)
  | 26 => ("SealKeeperModel", "wrong", "I", false)
  | 27 => ("SealKeeperModel", "wrongAt", "I", false)
  | 28 => ("SealKeeperModel", "calledAt", "[I", true)
  | 29 => ("SealKeeperModel", "entries", "I", false)
  | 30 => ("SealKeeperModel", "entryKind", "[I", true)
  | 31 => ("SealKeeperModel", "entryOwner", "[I", true)
  | 32 => ("SealKeeperModel", "entryOne", "[I", true)
  | 33 => ("SealKeeperModel", "entryTwo", "[I", true)
  | 34 => ("SealKeeperModel", "entryBelow", "[I", true)
  | 35 => ("SealKeeperModel", "top", "I", false)
  | 36 => ("SealKeeperModel", "slots", "[I", true)
  | 37 => ("SealKeeperModel", "opened", "I", false)
  | 38 => ("SealKeeperModel", "openKind", "[I", true)
  | 39 => ("SealKeeperModel", "openStep", "[I", true)
  | 40 => ("SealKeeperModel", "openTop", "[I", true)
  | 41 => ("SealKeeperModel", "openNext", "[I", true)
  | 42 => ("SealKeeperModel", "openTimes", "[I", true)
  | 43 => ("SealKeeperModel", "at", "I", false)
  | 44 => ("SealKeeperModel", "openMethods", "I", false)
  | 45 => ("SealKeeperModel", "jobMethod", "[I", true)
  | 46 => ("SealKeeperModel", "jobBase", "[I", true)
  | 47 => ("SealKeeperModel", "jobs", "I", false)
  | 48 => ("SealKeeperModel", "jobsBegun", "I", false)
  | 49 => ("SealKeeperModel", "ended", "I", false)
  | 50 => ("SealKeeperModel", "hasRun", "Z", false)
  | 51 => ("SealKeeperModel", "turns", "I", false)
  | 52 => ("SealKeeperModel", "failures", "I", false)
  | 53 => ("SealKeeperModel", "lastFailures", "I", false)
  | 54 => ("SealKeeperModel", "mostMethods", "I", false)
  | 55 => ("SealKeeperModel", "bitsTaken", "I", false)
  | 56 => ("SealKeeperModel", "judged", "I", false)
  | 57 => ("SealKeeperModel", "notes", "[I", true)
  | 58 => ("SealKeeperModel", "noteMany", "I", false)
  | 59 => ("SealKeeperModel", "isKept", "Z", false)
  | 60 => ("SealKeeperModel", "pairs", "I", false)
  | 61 => ("SealKeeperModel", "pairMethod", "[I", true)
  | 62 => ("SealKeeperModel", "pairTable", "[I", true)
  | 63 => ("SealKeeperModel", "pairEnds", "[Z", true)
  | 64 => ("SealKeeperModel", "pairBacks", "[Z", true)
  | 65 => ("SealKeeperModel", "pairFails", "[Z", true)
  | 66 => ("SealKeeperModel", "tables", "[I", true)
  | 67 => ("SealKeeperModel", "called", "[I", true)
  | 68 => ("SealKeeperModel", "isWalked", "[Z", true)
  | 69 => ("SealKeeperModel", "isOpen", "[Z", true)
  | 70 => ("SealKeeperModel", "tooMany", "Z", false)
  | _ => ("SealKeeperModel", "news", "Z", false)
def tyX10 : Nat → FieldType := fun k => match k with
  | 0 => .int
  | 1 => .array .int
  | 2 => .int
  | 3 => .array .int
  | 4 => .array .int
  | 5 => .int
  | 6 => .int
  | 7 => .boolean
  | 8 => .array .int
  | 9 => .array .int
  | 10 => .array .int
  | 11 => .array .int
  | 12 => .array .int
  | 13 => .array .int
  | 14 => .array .int
  | 15 => .array .int
  | 16 => .array .int
  | 17 => .array .int
  | 18 => .array .int
  | 19 => .array .int
  | 20 => .array (.object "java/lang/String")
  | 21 => .int
  | 22 => .int
  | 23 => .int
  | 24 => .int
  | 25 => .int
  | 26 => .int
  | 27 => .int
  | 28 => .array .int
  | 29 => .int
  | 30 => .array .int
  | 31 => .array .int
  | 32 => .array .int
  | 33 => .array .int
  | 34 => .array .int
  | 35 => .int
  | 36 => .array .int
  | 37 => .int
  | 38 => .array .int
  | 39 => .array .int
  | 40 => .array .int
  | 41 => .array .int
  | 42 => .array .int
  | 43 => .int
  | 44 => .int
  | 45 => .array .int
  | 46 => .array .int
  | 47 => .int
  | 48 => .int
  | 49 => .int
  | 50 => .boolean
  | 51 => .int
  | 52 => .int
  | 53 => .int
  | 54 => .int
  | 55 => .int
  | 56 => .int
  | 57 => .array .int
  | 58 => .int
  | 59 => .boolean
  | 60 => .int
  | 61 => .array .int
  | 62 => .array .int
  | 63 => .array .boolean
  | 64 => .array .boolean
  | 65 => .array .boolean
  | 66 => .array .int
  | 67 => .array .int
  | 68 => .array .boolean
  | 69 => .array .boolean
  | 70 => .boolean
  | _ => .boolean
abbrev wsX100 : List Cond := u_ws RX10 TX10 72
theorem nmX10 : ∀ a, a < 72 → ∀ b, b < 72 → a ≠ b → (TX10 a).2.1 ≠ (TX10 b).2.1 := by decide +kernel
theorem tyX10_ok : ∀ k, k < 72 → parseFieldDescriptor (TX10 k).2.2.1 = some (tyX10 k) := by decide +kernel
abbrev cX10_init : ByteArray := prog_12_method_1_code
def yX10_init : MethodName := ⟨RX10, "<init>", "()V"⟩
abbrev cX10_in : ByteArray := prog_12_method_3_code
def yX10_in : MethodName := ⟨RX10, "in", "(III)Z"⟩
abbrev cX10_feed : ByteArray := prog_12_method_4_code
def yX10_feed : MethodName := ⟨RX10, "feed", "(IIIII)I"⟩
abbrev cX10_four : ByteArray := prog_12_method_5_code
def yX10_four : MethodName := ⟨RX10, "four", "(I)V"⟩
abbrev cX10_trim : ByteArray := prog_12_method_6_code
def yX10_trim : MethodName := ⟨RX10, "trim", "(I)I"⟩
abbrev cX10_rule : ByteArray := prog_12_method_7_code
def yX10_rule : MethodName := ⟨RX10, "rule", "(III)I"⟩
abbrev cX10_hasRight : ByteArray := prog_12_method_8_code
def yX10_hasRight : MethodName := ⟨RX10, "hasRight", "(III)Z"⟩
abbrev cX10_bits : ByteArray := prog_12_method_9_code
def yX10_bits : MethodName := ⟨RX10, "bits", "(II)I"⟩
abbrev cX10_forget : ByteArray := prog_12_method_10_code
def yX10_forget : MethodName := ⟨RX10, "forget", "()I"⟩
abbrev cX10_isSmall : ByteArray := prog_12_method_11_code
def yX10_isSmall : MethodName := ⟨RX10, "isSmall", "(I)Z"⟩
abbrev cX10_isDigit : ByteArray := prog_12_method_12_code
def yX10_isDigit : MethodName := ⟨RX10, "isDigit", "(I)Z"⟩
abbrev cX10_wordOf : ByteArray := prog_12_method_13_code
def yX10_wordOf : MethodName := ⟨RX10, "wordOf", "()I"⟩
abbrev cX10_next : ByteArray := prog_12_method_14_code
def yX10_next : MethodName := ⟨RX10, "next", "()V"⟩
abbrev cX10_wrong : ByteArray := prog_12_method_15_code
def yX10_wrong : MethodName := ⟨RX10, "wrong", "(I)V"⟩
abbrev cX10_must : ByteArray := prog_12_method_16_code
def yX10_must : MethodName := ⟨RX10, "must", "(I)V"⟩
abbrev cX10_numberTo : ByteArray := prog_12_method_17_code
def yX10_numberTo : MethodName := ⟨RX10, "numberTo", "(I)I"⟩
abbrev cX10_block : ByteArray := prog_12_method_18_code
def yX10_block : MethodName := ⟨RX10, "block", "(I)I"⟩
abbrev cX10_step : ByteArray := prog_12_method_19_code
def yX10_step : MethodName := ⟨RX10, "step", "(I)I"⟩
abbrev cX10_program : ByteArray := prog_12_method_20_code
def yX10_program : MethodName := ⟨RX10, "program", "()I"⟩
abbrev cX10_fault : ByteArray := prog_12_method_21_code
def yX10_fault : MethodName := ⟨RX10, "fault", "()I"⟩
abbrev cX10_about : ByteArray := prog_12_method_22_code
def yX10_about : MethodName := ⟨RX10, "about", "(I)I"⟩
abbrev cX10_step_ : ByteArray := prog_12_method_23_code
def yX10_step_ : MethodName := ⟨RX10, "step", "(II)I"⟩
abbrev cX10_enter : ByteArray := prog_12_method_24_code
def yX10_enter : MethodName := ⟨RX10, "enter", "(IIII)V"⟩
abbrev cX10_judge : ByteArray := prog_12_method_25_code
def yX10_judge : MethodName := ⟨RX10, "judge", "(III)I"⟩
abbrev cX10_open : ByteArray := prog_12_method_26_code
def yX10_open : MethodName := ⟨RX10, "open", "(IIII)V"⟩
abbrev cX10_openMethod : ByteArray := prog_12_method_27_code
def yX10_openMethod : MethodName := ⟨RX10, "openMethod", "(II)V"⟩
abbrev cX10_close : ByteArray := prog_12_method_28_code
def yX10_close : MethodName := ⟨RX10, "close", "()V"⟩
abbrev cX10_say : ByteArray := prog_12_method_29_code
def yX10_say : MethodName := ⟨RX10, "say", "(I)V"⟩
abbrev cX10_fail : ByteArray := prog_12_method_30_code
def yX10_fail : MethodName := ⟨RX10, "fail", "(II)V"⟩
abbrev cX10_takeBit : ByteArray := prog_12_method_31_code
def yX10_takeBit : MethodName := ⟨RX10, "takeBit", "()I"⟩
abbrev cX10_perform : ByteArray := prog_12_method_32_code
def yX10_perform : MethodName := ⟨RX10, "perform", "(I)V"⟩
abbrev cX10_finish : ByteArray := prog_12_method_33_code
def yX10_finish : MethodName := ⟨RX10, "finish", "()V"⟩
abbrev cX10_doJob : ByteArray := prog_12_method_34_code
def yX10_doJob : MethodName := ⟨RX10, "doJob", "(III)V"⟩
abbrev cX10_run : ByteArray := prog_12_method_35_code
def yX10_run : MethodName := ⟨RX10, "run", "(II)I"⟩
abbrev cX10_ran : ByteArray := prog_12_method_36_code
def yX10_ran : MethodName := ⟨RX10, "ran", "(I)I"⟩
abbrev cX10_note : ByteArray := prog_12_method_37_code
def yX10_note : MethodName := ⟨RX10, "note", "(I)I"⟩
abbrev cX10_pairOf : ByteArray := prog_12_method_38_code
def yX10_pairOf : MethodName := ⟨RX10, "pairOf", "(I)I"⟩
abbrev cX10_walk : ByteArray := prog_12_method_39_code
def yX10_walk : MethodName := ⟨RX10, "walk", "(II)I"⟩
abbrev cX10_cover : ByteArray := prog_12_method_40_code
def yX10_cover : MethodName := ⟨RX10, "cover", "(II)V"⟩
abbrev cX10_same : ByteArray := prog_12_method_41_code
def yX10_same : MethodName := ⟨RX10, "same", "(I)V"⟩
abbrev cX10_walkStep : ByteArray := prog_12_method_42_code
def yX10_walkStep : MethodName := ⟨RX10, "walkStep", "(II)I"⟩
abbrev cX10_isPlain : ByteArray := prog_12_method_43_code
def yX10_isPlain : MethodName := ⟨RX10, "isPlain", "()Z"⟩
abbrev cX10_ahead : ByteArray := prog_12_method_44_code
def yX10_ahead : MethodName := ⟨RX10, "ahead", "(I)I"⟩
abbrev cX10_walked : ByteArray := prog_12_method_45_code
def yX10_walked : MethodName := ⟨RX10, "walked", "(II)I"⟩
abbrev cX10_told : ByteArray := prog_12_method_46_code
def yX10_told : MethodName := ⟨RX10, "told", "(I)I"⟩
abbrev cX10_isAhead : ByteArray := prog_12_method_47_code
def yX10_isAhead : MethodName := ⟨RX10, "isAhead", "(II)Z"⟩
abbrev cX10_pair : ByteArray := prog_12_method_48_code
def yX10_pair : MethodName := ⟨RX10, "pair", "(IIII)I"⟩
abbrev cX10_count : ByteArray := prog_12_method_49_code
def yX10_count : MethodName := ⟨RX10, "count", "(I)I"⟩
def RJ9 : String := "java/lang/Math"
def TJ9 : u_T := fun k => match k with
  | _ => ("", "", "", false)
def tyJ9 : Nat → FieldType := fun k => match k with
  | _ => .int
abbrev wsJ90 : List Cond := u_ws RJ9 TJ9 0
theorem nmJ9 : ∀ a, a < 0 → ∀ b, b < 0 → a ≠ b → (TJ9 a).2.1 ≠ (TJ9 b).2.1 := by decide +kernel
theorem tyJ9_ok : ∀ k, k < 0 → parseFieldDescriptor (TJ9 k).2.2.1 = some (tyJ9 k) := by decide +kernel
abbrev cJ9_max_7cf53 : ByteArray := prog_13_method_65_code
def yJ9_max_7cf53 : MethodName := ⟨RJ9, "max", "(II)I"⟩
abbrev cJ9_min_7cf53 : ByteArray := prog_13_method_69_code
def yJ9_min_7cf53 : MethodName := ⟨RJ9, "min", "(II)I"⟩
def RJ0 : String := "java/lang/String"
def TJ0 : u_T := fun k => match k with
  | _ => ("", "", "", false)
def tyJ0 : Nat → FieldType := fun k => match k with
  | _ => .int
abbrev wsJ00 : List Cond := u_ws RJ0 TJ0 0
theorem nmJ0 : ∀ a, a < 0 → ∀ b, b < 0 → a ≠ b → (TJ0 a).2.1 ≠ (TJ0 b).2.1 := by decide +kernel
theorem tyJ0_ok : ∀ k, k < 0 → parseFieldDescriptor (TJ0 k).2.2.1 = some (tyJ0 k) := by decide +kernel
abbrev cJ0_length_8abf5 : ByteArray := prog_14_method_54_code
def yJ0_length_8abf5 : MethodName := ⟨RJ0, "length", "()I"⟩
abbrev cJ0_charAt_5068e : ByteArray := prog_14_method_56_code
def yJ0_charAt_5068e : MethodName := ⟨RJ0, "charAt", "(I)C"⟩
abbrev cJ0_coder_7d493 : ByteArray := prog_14_method_152_code
def yJ0_coder_7d493 : MethodName := ⟨RJ0, "coder", "()B"⟩
abbrev cJ0_isLatin1_aae02 : ByteArray := prog_14_method_154_code
def yJ0_isLatin1_aae02 : MethodName := ⟨RJ0, "isLatin1", "()Z"⟩
abbrev cJ0_checkIndex_df160 : ByteArray := prog_14_method_155_code
def yJ0_checkIndex_df160 : MethodName := ⟨RJ0, "checkIndex", "(II)V"⟩
def RJ1 : String := "java/lang/StringLatin1"
def TJ1 : u_T := fun k => match k with
  | _ => ("", "", "", false)
def tyJ1 : Nat → FieldType := fun k => match k with
  | _ => .int
abbrev wsJ10 : List Cond := u_ws RJ1 TJ1 0
theorem nmJ1 : ∀ a, a < 0 → ∀ b, b < 0 → a ≠ b → (TJ1 a).2.1 ≠ (TJ1 b).2.1 := by decide +kernel
theorem tyJ1_ok : ∀ k, k < 0 → parseFieldDescriptor (TJ1 k).2.2.1 = some (tyJ1 k) := by decide +kernel
abbrev cJ1_charAt_3b067 : ByteArray := prog_15_method_2_code
def yJ1_charAt_3b067 : MethodName := ⟨RJ1, "charAt", "([BI)C"⟩
def RJ2 : String := "java/lang/StringUTF16"
def TJ2 : u_T := fun k => match k with
  | _ => ("", "", "", false)
def tyJ2 : Nat → FieldType := fun k => match k with
  | _ => .int
abbrev wsJ20 : List Cond := u_ws RJ2 TJ2 0
theorem nmJ2 : ∀ a, a < 0 → ∀ b, b < 0 → a ≠ b → (TJ2 a).2.1 ≠ (TJ2 b).2.1 := by decide +kernel
theorem tyJ2_ok : ∀ k, k < 0 → parseFieldDescriptor (TJ2 k).2.2.1 = some (tyJ2 k) := by decide +kernel
abbrev cJ2_getChar_3b067 : ByteArray := prog_16_method_5_code
def yJ2_getChar_3b067 : MethodName := ⟨RJ2, "getChar", "([BI)C"⟩
abbrev cJ2_length_9d52b : ByteArray := prog_16_method_6_code
def yJ2_length_9d52b : MethodName := ⟨RJ2, "length", "([B)I"⟩
abbrev cJ2_charAt_3b067 : ByteArray := prog_16_method_83_code
def yJ2_charAt_3b067 : MethodName := ⟨RJ2, "charAt", "([BI)C"⟩
abbrev cJ2_checkIndex_2214a : ByteArray := prog_16_method_91_code
def yJ2_checkIndex_2214a : MethodName := ⟨RJ2, "checkIndex", "(I[B)V"⟩
def RJ10 : String := "java/lang/System"
def TJ10 : u_T := fun k => match k with
  | _ => ("", "", "", false)
def tyJ10 : Nat → FieldType := fun k => match k with
  | _ => .int
abbrev wsJ100 : List Cond := u_ws RJ10 TJ10 0
theorem nmJ10 : ∀ a, a < 0 → ∀ b, b < 0 → a ≠ b → (TJ10 a).2.1 ≠ (TJ10 b).2.1 := by decide +kernel
theorem tyJ10_ok : ∀ k, k < 0 → parseFieldDescriptor (TJ10 k).2.2.1 = some (tyJ10 k) := by decide +kernel
def RJ7 : String := "java/util/Arrays"
def TJ7 : u_T := fun k => match k with
  | _ => ("", "", "", false)
def tyJ7 : Nat → FieldType := fun k => match k with
  | _ => .int
abbrev wsJ70 : List Cond := u_ws RJ7 TJ7 0
theorem nmJ7 : ∀ a, a < 0 → ∀ b, b < 0 → a ≠ b → (TJ7 a).2.1 ≠ (TJ7 b).2.1 := by decide +kernel
theorem tyJ7_ok : ∀ k, k < 0 → parseFieldDescriptor (TJ7 k).2.2.1 = some (tyJ7 k) := by decide +kernel
abbrev cJ7_rangeCheck_23922 : ByteArray := prog_18_method_30_code
def yJ7_rangeCheck_23922 : MethodName := ⟨RJ7, "rangeCheck", "(III)V"⟩
abbrev cJ7_fill_d0a16 : ByteArray := prog_18_method_101_code
def yJ7_fill_d0a16 : MethodName := ⟨RJ7, "fill", "([JJ)V"⟩
abbrev cJ7_fill_bad5a : ByteArray := prog_18_method_102_code
def yJ7_fill_bad5a : MethodName := ⟨RJ7, "fill", "([JIIJ)V"⟩
abbrev cJ7_fill_53178 : ByteArray := prog_18_method_103_code
def yJ7_fill_53178 : MethodName := ⟨RJ7, "fill", "([II)V"⟩
def RJ3 : String := "jdk/internal/util/Preconditions"
def TJ3 : u_T := fun k => match k with
  | _ => ("", "", "", false)
def tyJ3 : Nat → FieldType := fun k => match k with
  | _ => .int
abbrev wsJ30 : List Cond := u_ws RJ3 TJ3 0
theorem nmJ3 : ∀ a, a < 0 → ∀ b, b < 0 → a ≠ b → (TJ3 a).2.1 ≠ (TJ3 b).2.1 := by decide +kernel
theorem tyJ3_ok : ∀ k, k < 0 → parseFieldDescriptor (TJ3 k).2.2.1 = some (tyJ3 k) := by decide +kernel
abbrev cJ3_checkIndex_8e157 : ByteArray := prog_19_method_11_code
def yJ3_checkIndex_8e157 : MethodName := ⟨RJ3, "checkIndex", "(IILjava/util/function/BiFunction;)I"⟩
def RL : String := "SealKeeperLaw"
abbrev cL_law : ByteArray := code
def yL_law : MethodName := ⟨RL, "law", "([I)Z"⟩
abbrev vwCl : List vw_C := [(RX0, TX0, 16), (RX1, TX1, 6), (RX2, TX2, 12), (RX3, TX3, 7), (RX4, TX4, 2), (RX5, TX5, 1), (RX6, TX6, 14), (RX7, TX7, 5), (RX8, TX8, 3), (RX9, TX9, 9), (RX10, TX10, 72)]
/-! ===== the String constants: class, pool entry, text ===== -/
def sk_str : List (String × Nat × String) := [("SealKeeper$Tokens", 64, "ask   call  lend  cut   keep  under later try   loop  say   if    eitherback  else  or    on    "), ("SealKeeperModel", 57, "ask"), ("SealKeeperModel", 59, "call"), ("SealKeeperModel", 61, "lend"), ("SealKeeperModel", 63, "cut"), ("SealKeeperModel", 65, "keep"), ("SealKeeperModel", 67, "under"), ("SealKeeperModel", 69, "later"), ("SealKeeperModel", 71, "try"), ("SealKeeperModel", 73, "loop"), ("SealKeeperModel", 75, "say"), ("SealKeeperModel", 77, "if"), ("SealKeeperModel", 79, "either"), ("SealKeeperModel", 81, "back"), ("SealKeeperModel", 83, "on"), ("SealKeeperModel", 85, "else"), ("SealKeeperModel", 87, "or")]
def sk_byt : List (List Int32) := [[97, 115, 107, 32, 32, 32, 99, 97, 108, 108, 32, 32, 108, 101, 110, 100, 32, 32, 99, 117, 116, 32, 32, 32, 107, 101, 101, 112, 32, 32, 117, 110, 100, 101, 114, 32, 108, 97, 116, 101, 114, 32, 116, 114, 121, 32, 32, 32, 108, 111, 111, 112, 32, 32, 115, 97, 121, 32, 32, 32, 105, 102, 32, 32, 32, 32, 101, 105, 116, 104, 101, 114, 98, 97, 99, 107, 32, 32, 101, 108, 115, 101, 32, 32, 111, 114, 32, 32, 32, 32, 111, 110, 32, 32, 32, 32], [97, 115, 107], [99, 97, 108, 108], [108, 101, 110, 100], [99, 117, 116], [107, 101, 101, 112], [117, 110, 100, 101, 114], [108, 97, 116, 101, 114], [116, 114, 121], [108, 111, 111, 112], [115, 97, 121], [105, 102], [101, 105, 116, 104, 101, 114], [98, 97, 99, 107], [111, 110], [101, 108, 115, 101], [111, 114]]
def sk_len : List Nat := [96, 3, 4, 4, 3, 4, 5, 5, 3, 4, 3, 2, 6, 4, 2, 4, 2]
def sk_nw : List Cond := [.methodLinkNest "SealKeeper" 33 yX2_init "SealKeeper", .methodLinkNest "SealKeeper$Reader" 11 yX8_init "SealKeeper", .methodLinkNest "SealKeeper$Runner" 11 yX1_init "SealKeeper", .methodLinkNest "SealKeeper$Row" 25 yX9_within "SealKeeper", .methodLinkNest "SealKeeper$Tokens" 56 yX9_within "SealKeeper", .methodLinkNest "SealKeeper$Program" 49 yX9_within "SealKeeper", .methodLinkNest "SealKeeper$Reader" 82 yX9_within "SealKeeper", .methodLinkNest "SealKeeper$Rules" 21 yX9_within "SealKeeper", .methodLinkNest "SealKeeper$Runner" 118 yX9_within "SealKeeper", .methodLinkNest "SealKeeper$Stacks" 34 yX9_within "SealKeeper", .methodLinkNest "SealKeeper$Foresight" 103 yX9_within "SealKeeper"]
def sk_tab : List (String × List Int) := [("MOST_FIRST", [7, 99, 7, 7, 3, 3, 99, -1, 99, 999, 7, -1, -1]), ("MOST_SECOND", [9, -1, 9, -1, -1, -1, -1, -1, -1, -1, 9, -1, -1]), ("BLOCKS", [0, 0, 1, 1, 0, 1, 0, 2, 1, 0, 2, 2, 0])]
end
section
/-! ===== the abstract machine: ints are Int, cells are numbers, the heap is three functions ===== -/
/-- a value: an int, a long, a reference (the number of its cell) -/
abbrev sk_V : Type := Int ⊕ (Int64 ⊕ Option Nat)
/-- a cell's shape: an object of a class, or an array (0 int, 1 boolean, 2 long, 3 String) of a length -/
abbrev sk_Sh : Type := Nat ⊕ (Nat × Nat)
abbrev sk_SI : Type := Nat → Int → Int
abbrev sk_SL : Type := Nat → Int → Int64
abbrev sk_SR : Type := Nat → Int → Option Nat
abbrev sk_St : Type := sk_SI × sk_SL × sk_SR
/-- an instruction: its place, itself, its length, the next place, what else is known of it -/
abbrev sk_I : Type := Nat × Instr × Nat × Nat × List Nat
/-- a method: its name, bytes, locals, answer's type, instructions in groups under their last place -/
abbrev sk_M : Type := MethodName × ByteArray × Nat × Option FieldType × List (Nat × List sk_I)
/-- where the abstract cells lie: the first cell's address, the tables' numbers, the array types' numbers, what lies outside (addresses), the Strings' byte arrays, the script -/
abbrev sk_En : Type := Nat × va_G × (Nat → ClassId) × (Nat → Nat) × (Nat → Nat) × Nat × (Nat → Int32)
abbrev vi (a : Int) : sk_V := .inl a
abbrev vl (a : Int64) : sk_V := .inr (.inl a)
abbrev vr (k : Nat) : sk_V := .inr (.inr (some k))
def sk_look (pc : Nat) : List sk_I → Option sk_I
  | [] => none
  | e :: r => bif Nat.beq pc e.1 then some e else sk_look pc r
def sk_find (pc : Nat) : List (Nat × List sk_I) → Option sk_I
  | [] => none
  | c :: r => bif Nat.ble pc c.1 then sk_look pc c.2 else sk_find pc r
def sk_ad (E : sk_En) (k : Nat) : Nat := if k < 1000 then E.1 + k else E.2.2.2.1 (k - 1000)
def sk_rv (E : sk_En) (r : Option Nat) : Value := va_rf (r.map (sk_ad E))
def sk_v (E : sk_En) : sk_V → Value
  | .inl i => .int (Int32.ofInt i)
  | .inr (.inl x) => .long x
  | .inr (.inr r) => sk_rv E r
def sk_isR : FieldType → Bool
  | .object _ => true
  | .array _ => true
  | _ => false
def sk_fv (E : sk_En) (σ : sk_St) (k : Nat) (j : Nat) (ty : FieldType) : Value := if sk_isR ty then sk_rv E (σ.2.2 k j) else .int (Int32.ofInt (σ.1 k j))
def sk_tyL : List (Nat → FieldType) := [tyX0, tyX1, tyX2, tyX3, tyX4, tyX5, tyX6, tyX7, tyX8, tyX9, tyX10]
def sk_ty (ci : Nat) : Nat → FieldType := sk_tyL.getD ci tyX0
def sk_C (ci : Nat) : vw_C := vwCl.getD ci ("", TX0, 0)
def sk_pay (E : sk_En) (σ : sk_St) (k tc : Nat) : (Nat → Int32) ⊕ (Nat → Int64) ⊕ (Nat → UInt32) ⊕ (Nat → UInt64) ⊕ (Nat → Option Nat) :=
  if tc = 2 then .inr (.inl (fun j => σ.2.1 k j)) else if tc = 3 then .inr (.inr (.inr (.inr (fun j => (σ.2.2 k j).map (sk_ad E))))) else .inl (fun j => Int32.ofInt (σ.1 k j))
def sk_cell (E : sk_En) (σ : sk_St) (k : Nat) : sk_Sh → va_E
  | .inl ci => .inr (ci, (List.range (sk_C ci).2.2).map (fun j => sk_fv E σ k j (sk_ty ci j)))
  | .inr x => .inl (E.2.2.1 x.1, x.2, sk_pay E σ k x.1)
/-- the world that the abstract heap stands for -/
def sk_w (E : sk_En) (G : List sk_Sh) (σ : sk_St) : va_W := G.mapIdx fun k sh => (E.1 + k, sk_cell E σ k sh)
def sk_A (E : sk_En) : Nat → Prop := fun q => E.1 ≤ q
def sk_tys (E : sk_En) : List (ClassId × FieldType) := [(E.2.2.1 0, .int), (E.2.2.1 1, .boolean), (E.2.2.1 2, .long), (E.2.2.1 3, .object "java/lang/String")]
/-- the good words of the tables -/
def sk_gw : List Cond := lw_tbl.filter goodWord
def sk_sx (E : sk_En) (s : State) : Prop :=
  vk_S 17 sk_len sk_byt E.2.2.2.1 E.2.2.2.2.1 (sk_A E) s s.heap ∧ (∀ (i : Nat) (q : String × Nat × String), sk_str[i]? = some q → vk_R q.1 q.2.1 q.2.2 (E.2.2.2.1 i) s) ∧ va_Z "java/lang/String" "COMPACT_STRINGS" "Z" (.int 1) (sk_A E) s s.heap ∧ (va_Z "jdk/internal/util/Preconditions" "SIOOBE_FORMATTER" "Ljava/util/function/BiFunction;" .null (sk_A E) s s.heap ∨ va_Z "jdk/internal/util/Preconditions" "SIOOBE_FORMATTER" "Ljava/util/function/BiFunction;" (.ref (E.2.2.2.1 40)) (sk_A E) s s.heap) ∧ ∀ i : Nat, E.2.2.2.2.1 i = E.2.2.2.1 (100 + i)
def sk_tx (E : sk_En) (s : State) : Prop :=
  ∀ (i : Nat) (q : String × List Int), sk_tab[i]? = some q → va_Z "SealKeeper$Reader" q.1 "[I" (.ref (E.2.2.2.1 (20 + i))) (sk_A E) s s.heap ∧ va_T .int (E.2.2.2.1 (20 + i)) 13 (fun j => .int (Int32.ofInt (q.2.getD j 0))) (sk_A E) s s.heap
def sk_xx (E : sk_En) (s : State) : Prop := va_X (E.2.2.2.1 30) E.2.2.2.2.2.1 E.2.2.2.2.2.2 s s.heap ∧ E.2.2.2.1 30 < s.heap.size ∧ E.2.2.2.1 30 < E.1
/-- what a method may take as known of its start -/
def sk_cx (E : sk_En) (s : State) : Prop :=
  va_K E.2.1 vwCl (sk_tys E) s ∧ (∀ w ∈ sk_nw, va_Nw w s) ∧ va_AO "java/lang/String" s ∧ sk_sx E s ∧ sk_tx E s ∧ sk_xx E s ∧ E.1 ≤ s.heap.size
/-- the heap holds the abstract heap -/
def sk_R (E : sk_En) (G : List sk_Sh) (σ : sk_St) (s : State) (H : Heap) (locs : List Loc) : Prop :=
  va_P E.2.1 vwCl (sk_w E G σ) H ∧ G.length ≤ 1000 ∧ va_S (sk_A E) s.heap H locs
def sk_lv (E : sk_En) : Nat → List (Option sk_V) → List (Nat × Value)
  | _, [] => []
  | i, none :: r => sk_lv E (i + 1) r
  | i, some v :: r => (i, sk_v E v) :: sk_lv E (i + 1) r
/-- the method, its frame's fixed parts, its room for d calls one within the other -/
def sk_F (E : sk_En) (d : Nat) (M : sk_M) (p : Program) (R : Room) (s : State) (m : MethodId) (args : Array Value) (meth : Method) (c : Code) : Prop :=
  p.tables.exec = Jvm.exec ∧ c.code = M.2.1 ∧ meth.sig.returnType = M.2.2.2.1 ∧ c.maxLocals = M.2.2.1 ∧ s.vm.findClass M.1.cls = some m.cls ∧ meth.locks = false ∧ meth.name = M.1.name ∧ (∀ w ∈ sk_gw, w.before args s = true) ∧ sk_cx E s ∧ d ≤ R.frames ∧ 41 * d ≤ R.locals
def sk_fok (own : String) (idx : Nat) (ci j q tc : Nat) : Bool :=
  Nat.blt ci 11 && Nat.blt j (sk_C ci).2.2 && decide (lw_tbl[q]? = some (.fieldLink own idx ((sk_C ci).2.1 j).1 ((sk_C ci).2.1 j).2.1 ((sk_C ci).2.1 j).2.2.1)) && decide (sk_ty ci j = .int ∧ tc = 0 ∨ sk_ty ci j = .boolean ∧ tc = 1 ∨ sk_isR (sk_ty ci j) = true ∧ tc = 3)
def sk_okA (y : MethodName) (pc : Nat) (aux : List Nat) : Instr → Bool
  | .goto off => match aux with | [t] => decide ((pc : Int) + off = (t : Int)) | _ => false
  | .ifCond _ off => match aux with | [t] => decide ((pc : Int) + off = (t : Int)) | _ => false
  | .if_icmp _ off => match aux with | [t] => decide ((pc : Int) + off = (t : Int)) | _ => false
  | .tableswitch d lo hi offs => match aux with | t :: ts => decide ((pc : Int) + d = (t : Int)) && decide (offs.toList.map (fun o => (pc : Int) + o) = ts.map (fun (t : Nat) => (t : Int))) && decide (hi - lo + 1 = (ts.length : Int)) | _ => false
  | .lookupswitch d ps => match aux with | t :: ts => decide ((pc : Int) + d = (t : Int)) && decide (ps.toList.map (fun o => (pc : Int) + o.2) = ts.map (fun (t : Nat) => (t : Int))) | _ => false
  | .bipush n => decide ((Int8.ofInt n).toInt32 = Int32.ofInt n)
  | .sipush n => decide ((Int16.ofInt n).toInt32 = Int32.ofInt n)
  | .getfield idx => match aux with | [ci, j, q, tc] => sk_fok y.cls idx ci j q tc | _ => false
  | .putfield idx => match aux with | [ci, j, q, tc] => sk_fok y.cls idx ci j q tc && (!((sk_C ci).2.1 j).2.2.2 || (decide (y.name = "<init>") && decide (((sk_C ci).2.1 j).1 = y.cls))) | _ => false
  | .getstatic idx => match aux with | [x, q] => decide (lw_tbl[q]? = some (.fieldLink y.cls idx "SealKeeper$Reader" (sk_tab.getD x ("", [])).1 "[I")) && Nat.blt x 3 | _ => false
  | .new idx => match aux with | [ci, q1, q2, q3] => Nat.blt ci 11 && decide (lw_tbl[q1]? = some (.classLink y.cls idx (sk_C ci).1)) && decide (lw_tbl[q2]? = some (.instantiable (sk_C ci).1 (sk_C ci).2.2)) && decide (lw_tbl[q3]? = some (.initialized (sk_C ci).1)) | _ => false
  | .ldc idx => match aux with | [x, q] => decide (sk_str[x]?.map (fun t => (t.1, t.2.1)) = some (y.cls, idx)) || (Nat.beq x 99 && decide (lw_tbl[q]? = some (.constant y.cls idx 1000000))) | _ => false
  | _ => true
/-- the instructions' lengths -/
def sk_il : Instr → Nat
  | .bipush _ => 2
  | .sipush _ => 3
  | .iload _ => 2
  | .lload _ => 2
  | .aload _ => 2
  | .istore _ => 2
  | .lstore _ => 2
  | .astore _ => 2
  | .iinc _ _ => 3
  | .goto _ => 3
  | .ifCond _ _ => 3
  | .if_icmp _ _ => 3
  | .getfield _ => 3
  | .putfield _ => 3
  | .getstatic _ => 3
  | .invokevirtual _ => 3
  | .invokespecial _ => 3
  | .invokestatic _ => 3
  | .new _ => 3
  | .anewarray _ => 3
  | .newarray _ => 2
  | .ldc _ => 2
  | .ldc2_w _ => 3
  | .tableswitch _ _ _ _ => 0
  | .lookupswitch _ _ => 0
  | _ => 1
def sk_okI (M : sk_M) (e : sk_I) : Bool := (Nat.beq (sk_il e.2.1) 0 || Nat.beq (sk_il e.2.1) e.2.2.1) && ( decide (decode M.2.1 e.1 = .ok (e.2.1, e.2.2.1)) && Nat.beq e.2.2.2.1 (e.1 + e.2.2.1) && sk_okA M.1 e.1 e.2.2.2.2 e.2.1)
def sk_ok (M : sk_M) : Prop := ∀ c ∈ M.2.2.2.2, ∀ e ∈ c.2, sk_okI M e = true
/-- the answer v at a return of the method -/
def sk_ret (M : sk_M) (pc : Nat) : Option sk_V → Prop
  | none => decode M.2.1 pc = .ok (.return_, 1) ∧ M.2.2.2.1 = none
  | some (.inl i) => decode M.2.1 pc = .ok (.ireturn, 1) ∧ ∃ ty, M.2.2.2.1 = some ty ∧ narrow ty (.int (Int32.ofInt i)) = .int (Int32.ofInt i)
  | some (.inr (.inl _)) => decode M.2.1 pc = .ok (.lreturn, 1) ∧ M.2.2.2.1 = some .long
  | _ => False
/-- THE JUDGEMENT: from here the method comes to a return at which Q holds of the answer and the abstract heap; d calls one within the other; just mc cells are still made, of at most ms slots -/
def AW (l : Launch) (E : sk_En) (d mc ms : Nat) (M : sk_M) (pc : Nat) (ls : List (Option sk_V)) (st : List sk_V) (G : List sk_Sh) (σ : sk_St) (Q : Option sk_V → List sk_Sh → sk_St → Prop) : Prop :=
  sk_ok M → ∀ (p : Program) (e : Env) (R : Room) (s : State) (m : MethodId) (args : Array Value) (below : List Frame) (meth : Method) (c : Code) (H : Heap) (locs : List Loc) (cells slots : Nat) (Qf : State → Prop) (ar : Array Slot),
    sk_F E d M p R s m args meth c → sk_R E G σ s H locs → lv_has ar M.2.2.1 (sk_lv E 0 ls) → (cells + mc ≤ R.cells ∧ s.heap.size + cells ≤ E.1 + G.length) → slots + ms ≤ R.slots →
    (∀ (v : Option sk_V) (G' : List sk_Sh) (σ' : sk_St) (pc' : Nat) (ar' : Array Slot) (H' : Heap) (locs' : List Loc) (slots' : Nat), Q v G' σ' → sk_R E G' σ' s H' locs' → sk_ret M pc' v → s.heap.size + (cells + mc) ≤ E.1 + G'.length → slots' ≤ R.slots →
      W p l e R s m args below meth c H' locs' (cells + mc) slots' Qf (F0 m pc' ar' ((v.map (sk_v E)).toList))) →
    W p l e R s m args below meth c H locs cells slots Qf (F0 m pc ar (st.map (sk_v E)))
/-! ===== first lemmas ===== -/
theorem sk_look_mem {pc : Nat} {x : sk_I} : ∀ {l : List sk_I}, sk_look pc l = some x → x ∈ l ∧ x.1 = pc
  | [], h => by cases h
  | e :: r, h => by
    unfold sk_look at h
    cases hb : Nat.beq pc e.1 with
    | true =>
      rw [hb] at h
      cases h
      exact ⟨List.mem_cons_self, (Nat.eq_of_beq_eq_true hb).symm⟩
    | false =>
      rw [hb] at h
      have := sk_look_mem h
      exact ⟨List.mem_cons_of_mem _ this.1, this.2⟩
theorem sk_find_mem {pc : Nat} {x : sk_I} : ∀ {l : List (Nat × List sk_I)}, sk_find pc l = some x → (∃ c ∈ l, x ∈ c.2) ∧ x.1 = pc
  | [], h => by cases h
  | c :: r, h => by
    unfold sk_find at h
    cases hb : Nat.ble pc c.1 with
    | true =>
      rw [hb] at h
      have := sk_look_mem h
      exact ⟨⟨c, List.mem_cons_self, this.1⟩, this.2⟩
    | false =>
      rw [hb] at h
      obtain ⟨⟨c', h1, h2⟩, h3⟩ := sk_find_mem h
      exact ⟨⟨c', List.mem_cons_of_mem _ h1, h2⟩, h3⟩
theorem sk_dec {M : sk_M} (hM : sk_ok M) {pc len nxt : Nat} {pc0 : Nat} {ins : Instr} {aux : List Nat} (h : sk_find pc M.2.2.2.2 = some (pc0, ins, len, nxt, aux)) : decode M.2.1 pc = .ok (ins, len) ∧ nxt = pc + len ∧ sk_okA M.1 pc aux ins = true ∧ (sk_il ins = 0 ∨ sk_il ins = len) := by
  obtain ⟨⟨c, h1, h2⟩, h3⟩ := sk_find_mem h
  have := hM c h1 _ h2
  dsimp only at h3
  subst h3
  simp only [sk_okI, Bool.and_eq_true, Bool.or_eq_true, decide_eq_true_eq] at this
  exact ⟨this.2.1.1, Nat.eq_of_beq_eq_true this.2.1.2, this.2.2, this.1.imp Nat.eq_of_beq_eq_true Nat.eq_of_beq_eq_true⟩
theorem sk_w_get (E : sk_En) (G : List sk_Sh) (σ : sk_St) (k : Nat) : (sk_w E G σ)[k]? = (G[k]?).map (fun sh => (E.1 + k, sk_cell E σ k sh)) := by
  simp [sk_w, List.getElem?_mapIdx]
theorem sk_w_at {E : sk_En} {G : List sk_Sh} {σ : sk_St} {k : Nat} {sh : sk_Sh} (h : G[k]? = some sh) : (sk_w E G σ)[k]? = some (E.1 + k, sk_cell E σ k sh) := by
  rw [sk_w_get, h]; rfl
theorem sk_w_D (E : sk_En) (G : List sk_Sh) (σ : sk_St) : va_D (sk_A E) (sk_w E G σ) := by
  refine ⟨fun i j p q hi hj hpq => ?_, fun k q hk => ?_⟩
  · rw [sk_w_get, Option.map_eq_some_iff] at hi hj
    obtain ⟨a, -, rfl⟩ := hi
    obtain ⟨b, -, rfl⟩ := hj
    dsimp only at hpq
    omega
  · rw [sk_w_get, Option.map_eq_some_iff] at hk
    obtain ⟨a, -, rfl⟩ := hk
    exact Nat.le_add_right _ _
theorem sk_w_set {E : sk_En} {G : List sk_Sh} {σ σ' : sk_St} {k : Nat} {sh : sk_Sh} {x : va_E} (h : G[k]? = some sh) (hx : sk_cell E σ' k sh = x) (ho : ∀ (k' : Nat) (sh' : sk_Sh), k' ≠ k → sk_cell E σ' k' sh' = sk_cell E σ k' sh') : (sk_w E G σ).set k (E.1 + k, x) = sk_w E G σ' := by
  apply List.ext_getElem?
  intro i
  rw [List.getElem?_set, sk_w_get, sk_w_get]
  have hl : k < G.length := (List.getElem?_eq_some_iff.mp h).1
  by_cases hik : k = i
  · subst hik
    rw [if_pos rfl, h]
    simp [sk_w, hl, hx]
  · rw [if_neg hik]
    cases hg : G[i]? with
    | none => rfl
    | some sh' => simp [ho i sh' (fun e => hik e.symm)]
theorem sk_at_mem (E : sk_En) : ∀ (ls : List (Option sk_V)) (i k : Nat) (v : sk_V), ls[k]? = some (some v) → (i + k, sk_v E v) ∈ sk_lv E i ls
  | [], i, k, v, h => by simp at h
  | none :: r, i, 0, v, h => by simp at h
  | some w :: r, i, 0, v, h => by
    simp at h
    subst h
    exact List.mem_cons_self
  | none :: r, i, k + 1, v, h => by
    have := sk_at_mem E r (i + 1) k v (by simpa using h)
    rw [show i + (k + 1) = i + 1 + k by omega]
    exact this
  | some w :: r, i, k + 1, v, h => by
    have := sk_at_mem E r (i + 1) k v (by simpa using h)
    rw [show i + (k + 1) = i + 1 + k by omega]
    exact List.mem_cons_of_mem _ this
theorem sk_mem_at (E : sk_En) : ∀ (ls : List (Option sk_V)) (i : Nat) (q : Nat × Value), q ∈ sk_lv E i ls → ∃ (k : Nat) (v : sk_V), q = (i + k, sk_v E v) ∧ ls[k]? = some (some v)
  | [], i, q, h => by cases h
  | none :: r, i, q, h => by
    obtain ⟨k, v, h1, h2⟩ := sk_mem_at E r (i + 1) q h
    exact ⟨k + 1, v, by rw [h1, show i + 1 + k = i + (k + 1) by omega], by simpa using h2⟩
  | some w :: r, i, q, h => by
    rcases List.mem_cons.mp h with h | h
    · exact ⟨0, w, h, by simp⟩
    · obtain ⟨k, v, h1, h2⟩ := sk_mem_at E r (i + 1) q h
      exact ⟨k + 1, v, by rw [h1, show i + 1 + k = i + (k + 1) by omega], by simpa using h2⟩
theorem sk_lget {E : sk_En} {ar : Array Slot} {n : Nat} {ls : List (Option sk_V)} {k : Nat} {v : sk_V} (h : lv_has ar n (sk_lv E 0 ls)) (hk : ls[k]? = some (some v)) : ar[k]? = some (.val (sk_v E v)) := by
  have := h.2.2 _ (sk_at_mem E ls 0 k v hk)
  simpa using this
end
section
/-! ===== what moves from a method's start to a callee's ===== -/
theorem sk_cx_move {E : sk_En} {s U : State} {locs : List Loc} (h : sk_cx E s) (hW : s.WarmedH U.vm) (hS : va_S (sk_A E) s.heap U.heap locs) : sk_cx E U := by
  obtain ⟨hK, hN, hO, ⟨h1, h2, h3, h4, h5⟩, hT, ⟨hX, hX1, hX2⟩, hb⟩ := h
  have hk : ∀ a : Nat, a < s.heap.size → ¬ sk_A E a → U.heap[a]? = s.heap[a]? := hS.2.1
  refine ⟨hK.moved hW.alike, fun w hw => ?_, va_AO.moved hW.alike hO, ⟨(h1.moved hW.alike).kept hk, fun i q hq => (h2 i q hq).warm hW, (h3.moved hW.alike).kept hk, h4.imp (fun q => (q.moved hW.alike).kept hk) (fun q => (q.moved hW.alike).kept hk), h5⟩, fun i q hq => ⟨((hT i q hq).1.moved hW.alike).kept hk, ((hT i q hq).2.moved hW.alike).kept hk⟩, ⟨(hX.moved hW.alike).kept (hk _ hX1 (Nat.not_le.mpr hX2)), Nat.lt_of_lt_of_le hX1 hS.1, hX2⟩, Nat.le_trans hb hS.1⟩
  have := hN w hw
  simp only [sk_nw, List.mem_cons, List.not_mem_nil, or_false] at hw
  rcases hw with rfl | rfl | rfl | rfl | rfl | rfl | rfl | rfl | rfl | rfl | rfl <;> exact va_Nw.warmM hW this
theorem sk_cx_call {E : sk_En} {U : State} (g : JFrame) (mk : MethodId) (a : Array Value) (h : sk_cx E U) : sk_cx E (U.calling g mk a) := sk_cx_move (U := U.calling g mk a) h (State.WarmedH.refl U) (locs := []) va_S.rf
/-! ===== updates ===== -/
def sk_up (f : Int → Int) (j v : Int) : Int → Int := fun i => if i = j then v else f i
def sk_uI (I : sk_SI) (k : Nat) (j v : Int) : sk_SI := fun k' => if k' = k then sk_up (I k) j v else I k'
def sk_upL (f : Int → Int64) (j : Int) (v : Int64) : Int → Int64 := fun i => if i = j then v else f i
def sk_uL (I : sk_SL) (k : Nat) (j : Int) (v : Int64) : sk_SL := fun k' => if k' = k then sk_upL (I k) j v else I k'
def sk_upR (f : Int → Option Nat) (j : Int) (v : Option Nat) : Int → Option Nat := fun i => if i = j then v else f i
def sk_uR (I : sk_SR) (k : Nat) (j : Int) (v : Option Nat) : sk_SR := fun k' => if k' = k then sk_upR (I k) j v else I k'
theorem sk_cell_o {E : sk_En} {I I' : sk_SI} {L L' : sk_SL} {R R' : sk_SR} {k : Nat} (sh : sk_Sh) (h1 : I' k = I k) (h2 : L' k = L k) (h3 : R' k = R k) : sk_cell E (I', L', R') k sh = sk_cell E (I, L, R) k sh := by
  cases sh with
  | inl ci => simp [sk_cell, sk_fv, h1, h3]
  | inr x => simp [sk_cell, sk_pay, h1, h2, h3]
theorem sk_uI_o {I : sk_SI} {k k' : Nat} {j v : Int} (h : k' ≠ k) : sk_uI I k j v k' = I k' := by simp [sk_uI, h]
theorem sk_uI_s {I : sk_SI} {k : Nat} {j v : Int} : sk_uI I k j v k = sk_up (I k) j v := by simp [sk_uI]
theorem sk_uL_o {I : sk_SL} {k k' : Nat} {j : Int} {v : Int64} (h : k' ≠ k) : sk_uL I k j v k' = I k' := by simp [sk_uL, h]
theorem sk_uL_s {I : sk_SL} {k : Nat} {j : Int} {v : Int64} : sk_uL I k j v k = sk_upL (I k) j v := by simp [sk_uL]
theorem sk_uR_o {I : sk_SR} {k k' : Nat} {j : Int} {v : Option Nat} (h : k' ≠ k) : sk_uR I k j v k' = I k' := by simp [sk_uR, h]
theorem sk_uR_s {I : sk_SR} {k : Nat} {j : Int} {v : Option Nat} : sk_uR I k j v k = sk_upR (I k) j v := by simp [sk_uR]
/-! ===== Int32 and Int ===== -/
theorem sk_io_add (a b : Int) : Int32.ofInt a + Int32.ofInt b = Int32.ofInt (a + b) := (Int32.ofInt_add a b).symm
theorem sk_io_sub (a b : Int) : Int32.ofInt a - Int32.ofInt b = Int32.ofInt (a - b) := (Int32.ofInt_sub a b).symm
theorem sk_io_mul (a b : Int) : Int32.ofInt a * Int32.ofInt b = Int32.ofInt (a * b) := (Int32.ofInt_mul a b).symm
/-- in the range of an int -/
def sk_in (a : Int) : Prop := -2147483648 ≤ a ∧ a ≤ 2147483647
theorem sk_toInt {a : Int} (h : sk_in a) : (Int32.ofInt a).toInt = a := by
  obtain ⟨h1, h2⟩ := h
  exact Int32.toInt_ofInt_of_le (by simpa using h1) (by omega)
theorem sk_lt_iff {a b : Int} (ha : sk_in a) (hb : sk_in b) : Int32.ofInt a < Int32.ofInt b ↔ a < b := by
  rw [Int32.lt_iff_toInt_lt, sk_toInt ha, sk_toInt hb]
theorem sk_le_iff {a b : Int} (ha : sk_in a) (hb : sk_in b) : Int32.ofInt a ≤ Int32.ofInt b ↔ a ≤ b := by
  rw [Int32.le_iff_toInt_le, sk_toInt ha, sk_toInt hb]
theorem sk_eq_iff {a b : Int} (ha : sk_in a) (hb : sk_in b) : Int32.ofInt a = Int32.ofInt b ↔ a = b := by
  rw [← Int32.toInt_inj, sk_toInt ha, sk_toInt hb]
theorem sk_nat {a : Int} (h0 : 0 ≤ a) (h1 : a ≤ 2147483647) : ((Int32.ofInt a).toNatClampNeg : Int) = a := by
  have h : (Int32.ofInt a).toInt = a := sk_toInt ⟨by omega, h1⟩
  rw [Int32.toNatClampNeg, h]
  omega
theorem sk_vin {a : Int} {n : Nat} (h0 : 0 ≤ a) (h1 : a < n) (hn : n < 2147483648) : vp_in (Int32.ofInt a) n := by
  rw [vp_in_iff, sk_toInt ⟨by omega, by omega⟩]
  exact ⟨h0, h1⟩
/-! ===== words and classes ===== -/
theorem sk_wd {q : Nat} {w : Cond} (h : lw_tbl[q]? = some w) (hg : goodWord w = true) : w ∈ sk_gw := List.mem_filter.mpr ⟨List.mem_of_getElem? h, hg⟩
theorem sk_mem_r {ws : List Cond} (ps : List Nat) (hp : ws = ps.filterMap (fun i => lw_tbl[i]?)) (h : ws.all goodWord = true) : ∀ w ∈ ws, w ∈ sk_gw := by
  intro w hw
  have h1 := List.all_eq_true.mp h w hw
  rw [hp] at hw
  obtain ⟨i, -, hi⟩ := List.mem_filterMap.mp hw
  exact sk_wd hi h1
theorem sk_lay0 : ∀ w ∈ u_ws RX0 TX0 16, w ∈ sk_gw := sk_mem_r [379, 381, 383, 385, 387, 389, 391, 393, 395, 397, 399, 401, 403, 405, 407, 409] (by decide +kernel) (by decide +kernel)
theorem sk_lay1 : ∀ w ∈ u_ws RX1 TX1 6, w ∈ sk_gw := sk_mem_r [274, 276, 278, 280, 282, 284] (by decide +kernel) (by decide +kernel)
theorem sk_lay2 : ∀ w ∈ u_ws RX2 TX2 12, w ∈ sk_gw := sk_mem_r [185, 187, 189, 191, 193, 195, 197, 199, 201, 203, 205, 207] (by decide +kernel) (by decide +kernel)
theorem sk_lay3 : ∀ w ∈ u_ws RX3 TX3 7, w ∈ sk_gw := sk_mem_r [241, 243, 245, 247, 249, 251, 253] (by decide +kernel) (by decide +kernel)
theorem sk_lay4 : ∀ w ∈ u_ws RX4 TX4 2, w ∈ sk_gw := sk_mem_r [114, 116] (by decide +kernel) (by decide +kernel)
theorem sk_lay5 : ∀ w ∈ u_ws RX5 TX5 1, w ∈ sk_gw := sk_mem_r [130] (by decide +kernel) (by decide +kernel)
theorem sk_lay6 : ∀ w ∈ u_ws RX6 TX6 14, w ∈ sk_gw := sk_mem_r [325, 327, 329, 331, 333, 335, 337, 339, 341, 343, 345, 347, 349, 351] (by decide +kernel) (by decide +kernel)
theorem sk_lay7 : ∀ w ∈ u_ws RX7 TX7 5, w ∈ sk_gw := sk_mem_r [298, 300, 302, 304, 306] (by decide +kernel) (by decide +kernel)
theorem sk_lay8 : ∀ w ∈ u_ws RX8 TX8 3, w ∈ sk_gw := sk_mem_r [225, 227, 229] (by decide +kernel) (by decide +kernel)
theorem sk_lay9 : ∀ w ∈ u_ws RX9 TX9 9, w ∈ sk_gw := sk_mem_r [423, 425, 427, 429, 431, 433, 435, 437, 439] (by decide +kernel) (by decide +kernel)
theorem sk_lay10 : ∀ w ∈ u_ws RX10 TX10 72, w ∈ sk_gw := sk_mem_r [1083, 1085, 1087, 1089, 1091, 1093, 1095, 1097, 1099, 1101, 1103, 1105, 1107, 1109, 1111, 1113, 1115, 1117, 1119, 1121, 1123, 1125, 1127, 1129, 1131, 1133, 1135, 1137, 1139, 1141, 1143, 1145, 1147, 1149, 1151, 1153, 1155, 1157, 1159, 1161, 1163, 1165, 1167, 1169, 1171, 1173, 1175, 1177, 1179, 1181, 1183, 1185, 1187, 1189, 1191, 1193, 1195, 1197, 1199, 1201, 1203, 1205, 1207, 1209, 1211, 1213, 1215, 1217, 1219, 1221, 1223, 1225] (by decide +kernel) (by decide +kernel)
theorem sk_lays {ci : Nat} (h : ci < 11) : ∀ w ∈ u_ws (sk_C ci).1 (sk_C ci).2.1 (sk_C ci).2.2, w ∈ sk_gw := by
  rcases (show ci = 0 ∨ ci = 1 ∨ ci = 2 ∨ ci = 3 ∨ ci = 4 ∨ ci = 5 ∨ ci = 6 ∨ ci = 7 ∨ ci = 8 ∨ ci = 9 ∨ ci = 10 by omega) with rfl | rfl | rfl | rfl | rfl | rfl | rfl | rfl | rfl | rfl | rfl
  · exact sk_lay0
  · exact sk_lay1
  · exact sk_lay2
  · exact sk_lay3
  · exact sk_lay4
  · exact sk_lay5
  · exact sk_lay6
  · exact sk_lay7
  · exact sk_lay8
  · exact sk_lay9
  · exact sk_lay10
theorem sk_cl {ci : Nat} (h : ci < 11) : vwCl[ci]? = some ((sk_C ci).1, (sk_C ci).2.1, (sk_C ci).2.2) := by
  rcases (show ci = 0 ∨ ci = 1 ∨ ci = 2 ∨ ci = 3 ∨ ci = 4 ∨ ci = 5 ∨ ci = 6 ∨ ci = 7 ∨ ci = 8 ∨ ci = 9 ∨ ci = 10 by omega) with rfl | rfl | rfl | rfl | rfl | rfl | rfl | rfl | rfl | rfl | rfl <;> rfl
theorem sk_tyok {ci : Nat} (h : ci < 11) : ∀ k, k < (sk_C ci).2.2 → parseFieldDescriptor ((sk_C ci).2.1 k).2.2.1 = some (sk_ty ci k) := by
  rcases (show ci = 0 ∨ ci = 1 ∨ ci = 2 ∨ ci = 3 ∨ ci = 4 ∨ ci = 5 ∨ ci = 6 ∨ ci = 7 ∨ ci = 8 ∨ ci = 9 ∨ ci = 10 by omega) with rfl | rfl | rfl | rfl | rfl | rfl | rfl | rfl | rfl | rfl | rfl
  · exact tyX0_ok
  · exact tyX1_ok
  · exact tyX2_ok
  · exact tyX3_ok
  · exact tyX4_ok
  · exact tyX5_ok
  · exact tyX6_ok
  · exact tyX7_ok
  · exact tyX8_ok
  · exact tyX9_ok
  · exact tyX10_ok
theorem sk_nmok {ci : Nat} (h : ci < 11) : ∀ a, a < (sk_C ci).2.2 → ∀ b, b < (sk_C ci).2.2 → a ≠ b → ((sk_C ci).2.1 a).2.1 ≠ ((sk_C ci).2.1 b).2.1 := by
  rcases (show ci = 0 ∨ ci = 1 ∨ ci = 2 ∨ ci = 3 ∨ ci = 4 ∨ ci = 5 ∨ ci = 6 ∨ ci = 7 ∨ ci = 8 ∨ ci = 9 ∨ ci = 10 by omega) with rfl | rfl | rfl | rfl | rfl | rfl | rfl | rfl | rfl | rfl | rfl
  · exact nmX0
  · exact nmX1
  · exact nmX2
  · exact nmX3
  · exact nmX4
  · exact nmX5
  · exact nmX6
  · exact nmX7
  · exact nmX8
  · exact nmX9
  · exact nmX10
theorem sk_fokE {own : String} {idx ci j q tc : Nat} (h : sk_fok own idx ci j q tc = true) : ci < 11 ∧ j < (sk_C ci).2.2 ∧ Cond.fieldLink own idx ((sk_C ci).2.1 j).1 ((sk_C ci).2.1 j).2.1 ((sk_C ci).2.1 j).2.2.1 ∈ sk_gw ∧ (sk_ty ci j = .int ∧ tc = 0 ∨ sk_ty ci j = .boolean ∧ tc = 1 ∨ sk_isR (sk_ty ci j) = true ∧ tc = 3) := by
  simp only [sk_fok, Bool.and_eq_true, decide_eq_true_eq, Nat.blt_eq] at h
  exact ⟨h.1.1.1, h.1.1.2, sk_wd h.1.2 rfl, h.2⟩
theorem sk_vr {E : sk_En} {G : List sk_Sh} {k : Nat} {sh : sk_Sh} (h : G[k]? = some sh) (hG : G.length ≤ 1000) : sk_v E (vr k) = .ref (E.1 + k) := by
  have hk := (List.getElem?_eq_some_iff.mp h).1
  show Value.ref (sk_ad E k) = _
  unfold sk_ad
  rw [if_pos (by omega)]
theorem sk_fs_get {E : sk_En} {σ : sk_St} {k ci j : Nat} (h : j < (sk_C ci).2.2) : ((List.range (sk_C ci).2.2).map (fun j => sk_fv E σ k j (sk_ty ci j)))[j]? = some (sk_fv E σ k j (sk_ty ci j)) := by
  simp [h]
theorem sk_fs_set {E : sk_En} {σ σ' : sk_St} {k ci j : Nat} {v : Value} (hv : sk_fv E σ' k j (sk_ty ci j) = v) (ho : ∀ i : Nat, i ≠ j → sk_fv E σ' k i (sk_ty ci i) = sk_fv E σ k i (sk_ty ci i)) :
    (List.range (sk_C ci).2.2).map (fun j => sk_fv E σ' k j (sk_ty ci j)) = ((List.range (sk_C ci).2.2).map (fun j => sk_fv E σ k j (sk_ty ci j))).set j v := by
  apply List.ext_getElem?
  intro i
  by_cases hi : j = i
  · subst hi
    by_cases hl : j < (sk_C ci).2.2
    · simp [hl, hv]
    · simp [hl]
  · rw [List.getElem?_set_ne hi]
    by_cases hl : i < (sk_C ci).2.2
    · simp [hl, ho i (fun e => hi e.symm)]
    · simp [hl]
end
section
/-! ===== a rule an instruction ===== -/
def sk_and (a b : Int) : Int := (Int32.ofInt a &&& Int32.ofInt b).toInt
def sk_or (a b : Int) : Int := (Int32.ofInt a ||| Int32.ofInt b).toInt
def sk_shr (a b : Int) : Int := (Int32.ofInt a >>> (Int32.ofInt b &&& 31)).toInt
def sk_ushr (a b : Int) : Int := ((Int32.ofInt a).toUInt32 >>> ((Int32.ofInt b).toUInt32 &&& Int32.toUInt32 31)).toInt32.toInt
def sk_lshl (a : Int64) (b : Int) : Int64 := a <<< ((Int32.ofInt b).toInt64 &&& 63)
def sk_lushr (a : Int64) (b : Int) : Int64 := (a.toUInt64 >>> ((Int32.ofInt b).toInt64.toUInt64 &&& Int64.toUInt64 63)).toInt64
def sk_i2l (a : Int) : Int64 := (Int32.ofInt a).toInt64
theorem sk_oi (x : Int32) : Int32.ofInt x.toInt = x := Int32.ofInt_toInt x
theorem sk_and_of (a b : Int) : Int32.ofInt (sk_and a b) = Int32.ofInt a &&& Int32.ofInt b := sk_oi _
theorem sk_or_of (a b : Int) : Int32.ofInt (sk_or a b) = Int32.ofInt a ||| Int32.ofInt b := sk_oi _
theorem sk_shr_of (a b : Int) : Int32.ofInt (sk_shr a b) = Int32.ofInt a >>> (Int32.ofInt b &&& 31) := sk_oi _
theorem sk_ushr_of (a b : Int) : Int32.ofInt (sk_ushr a b) = ((Int32.ofInt a).toUInt32 >>> ((Int32.ofInt b).toUInt32 &&& Int32.toUInt32 31)).toInt32 := sk_oi _
theorem sk_in0 : sk_in 0 := by unfold sk_in; omega
def sk_is1 : sk_V → Bool
  | .inr (.inl _) => false
  | _ => true
theorem sk_cat1 (E : sk_En) (v : sk_V) (h : sk_is1 v = true) : (sk_v E v).category = 1 := by
  match v with
  | .inl i => rfl
  | .inr (.inl x) => cases h
  | .inr (.inr none) => rfl
  | .inr (.inr (some k)) => rfl
section SKR
variable {l : Launch} {E : sk_En} {d mc ms : Nat} {M : sk_M} {pc pc0 len nxt : Nat} {aux : List Nat} {ls : List (Option sk_V)} {st : List sk_V} {G : List sk_Sh} {σ : sk_St} {Q : Option sk_V → List sk_Sh → sk_St → Prop}
theorem AW_iconst {n : Int} (h : sk_find pc M.2.2.2.2 = some (pc0, (.iconst n), len, nxt, aux)) (k : AW l E d mc ms M nxt ls (vi n :: st) G σ Q) : AW l E d mc ms M pc ls (st) G σ Q := by
  intro hM p e R s m args below meth c H locs cells slots Qf ar hF hR hl hc hs hfin
  obtain ⟨hd, rfl, hA, hlen⟩ := sk_dec hM h
  obtain rfl : 1 = len := hlen.resolve_left (by simp [sk_il])
  have k1 := k hM p e R s m args below meth c H locs cells slots Qf ar hF hR hl hc hs hfin
  exact lv_iconst hF.1 hF.2.1 hd rfl k1
theorem AW_bipush {n : Int} (h : sk_find pc M.2.2.2.2 = some (pc0, (.bipush n), len, nxt, aux)) (k : AW l E d mc ms M nxt ls (vi n :: st) G σ Q) : AW l E d mc ms M pc ls (st) G σ Q := by
  intro hM p e R s m args below meth c H locs cells slots Qf ar hF hR hl hc hs hfin
  obtain ⟨hd, rfl, hA, hlen⟩ := sk_dec hM h
  obtain rfl : 2 = len := hlen.resolve_left (by simp [sk_il])
  have k1 := k hM p e R s m args below meth c H locs cells slots Qf ar hF hR hl hc hs hfin
  exact lv_bipush hF.1 hF.2.1 hd (of_decide_eq_true hA) k1
theorem AW_sipush {n : Int} (h : sk_find pc M.2.2.2.2 = some (pc0, (.sipush n), len, nxt, aux)) (k : AW l E d mc ms M nxt ls (vi n :: st) G σ Q) : AW l E d mc ms M pc ls (st) G σ Q := by
  intro hM p e R s m args below meth c H locs cells slots Qf ar hF hR hl hc hs hfin
  obtain ⟨hd, rfl, hA, hlen⟩ := sk_dec hM h
  obtain rfl : 3 = len := hlen.resolve_left (by simp [sk_il])
  have k1 := k hM p e R s m args below meth c H locs cells slots Qf ar hF hR hl hc hs hfin
  exact lv_sipush hF.1 hF.2.1 hd (of_decide_eq_true hA) k1
theorem AW_lconst {n : Fin 2} (h : sk_find pc M.2.2.2.2 = some (pc0, (.lconst n), len, nxt, aux)) (k : AW l E d mc ms M nxt ls (vl (Int64.ofNat (n : Nat)) :: st) G σ Q) : AW l E d mc ms M pc ls (st) G σ Q := by
  intro hM p e R s m args below meth c H locs cells slots Qf ar hF hR hl hc hs hfin
  obtain ⟨hd, rfl, hA, hlen⟩ := sk_dec hM h
  obtain rfl : 1 = len := hlen.resolve_left (by simp [sk_il])
  have k1 := k hM p e R s m args below meth c H locs cells slots Qf ar hF hR hl hc hs hfin
  exact lv_lconst hF.1 hF.2.1 hd rfl k1
theorem AW_iload_n {n : Fin 4} {a : Int} (h : sk_find pc M.2.2.2.2 = some (pc0, (.iload_n n), len, nxt, aux)) (hk : ls[(n : Nat)]? = some (some (vi a))) (k : AW l E d mc ms M nxt ls (vi a :: st) G σ Q) : AW l E d mc ms M pc ls (st) G σ Q := by
  intro hM p e R s m args below meth c H locs cells slots Qf ar hF hR hl hc hs hfin
  obtain ⟨hd, rfl, hA, hlen⟩ := sk_dec hM h
  obtain rfl : 1 = len := hlen.resolve_left (by simp [sk_il])
  have k1 := k hM p e R s m args below meth c H locs cells slots Qf ar hF hR hl hc hs hfin
  exact lv_iload_n hF.1 hF.2.1 hd rfl (sk_lget hl hk) k1
theorem AW_iload {n : Nat} {a : Int} (h : sk_find pc M.2.2.2.2 = some (pc0, (.iload n), len, nxt, aux)) (hk : ls[n]? = some (some (vi a))) (k : AW l E d mc ms M nxt ls (vi a :: st) G σ Q) : AW l E d mc ms M pc ls (st) G σ Q := by
  intro hM p e R s m args below meth c H locs cells slots Qf ar hF hR hl hc hs hfin
  obtain ⟨hd, rfl, hA, hlen⟩ := sk_dec hM h
  obtain rfl : 2 = len := hlen.resolve_left (by simp [sk_il])
  have k1 := k hM p e R s m args below meth c H locs cells slots Qf ar hF hR hl hc hs hfin
  exact lv_iload hF.1 hF.2.1 hd (sk_lget hl hk) k1
theorem AW_lload_n {n : Fin 4} {a : Int64} (h : sk_find pc M.2.2.2.2 = some (pc0, (.lload_n n), len, nxt, aux)) (hk : ls[(n : Nat)]? = some (some (vl a))) (k : AW l E d mc ms M nxt ls (vl a :: st) G σ Q) : AW l E d mc ms M pc ls (st) G σ Q := by
  intro hM p e R s m args below meth c H locs cells slots Qf ar hF hR hl hc hs hfin
  obtain ⟨hd, rfl, hA, hlen⟩ := sk_dec hM h
  obtain rfl : 1 = len := hlen.resolve_left (by simp [sk_il])
  have k1 := k hM p e R s m args below meth c H locs cells slots Qf ar hF hR hl hc hs hfin
  exact lv_lload_n hF.1 hF.2.1 hd rfl (sk_lget hl hk) k1
theorem AW_lload {n : Nat} {a : Int64} (h : sk_find pc M.2.2.2.2 = some (pc0, (.lload n), len, nxt, aux)) (hk : ls[n]? = some (some (vl a))) (k : AW l E d mc ms M nxt ls (vl a :: st) G σ Q) : AW l E d mc ms M pc ls (st) G σ Q := by
  intro hM p e R s m args below meth c H locs cells slots Qf ar hF hR hl hc hs hfin
  obtain ⟨hd, rfl, hA, hlen⟩ := sk_dec hM h
  obtain rfl : 2 = len := hlen.resolve_left (by simp [sk_il])
  have k1 := k hM p e R s m args below meth c H locs cells slots Qf ar hF hR hl hc hs hfin
  exact lv_lload hF.1 hF.2.1 hd (sk_lget hl hk) k1
theorem AW_aload_n {n : Fin 4} {a : Nat} (h : sk_find pc M.2.2.2.2 = some (pc0, (.aload_n n), len, nxt, aux)) (hk : ls[(n : Nat)]? = some (some (vr a))) (k : AW l E d mc ms M nxt ls (vr a :: st) G σ Q) : AW l E d mc ms M pc ls (st) G σ Q := by
  intro hM p e R s m args below meth c H locs cells slots Qf ar hF hR hl hc hs hfin
  obtain ⟨hd, rfl, hA, hlen⟩ := sk_dec hM h
  obtain rfl : 1 = len := hlen.resolve_left (by simp [sk_il])
  have k1 := k hM p e R s m args below meth c H locs cells slots Qf ar hF hR hl hc hs hfin
  exact lv_aload_n hF.1 hF.2.1 hd rfl (sk_lget hl hk) k1
theorem AW_aload {n : Nat} {a : Nat} (h : sk_find pc M.2.2.2.2 = some (pc0, (.aload n), len, nxt, aux)) (hk : ls[n]? = some (some (vr a))) (k : AW l E d mc ms M nxt ls (vr a :: st) G σ Q) : AW l E d mc ms M pc ls (st) G σ Q := by
  intro hM p e R s m args below meth c H locs cells slots Qf ar hF hR hl hc hs hfin
  obtain ⟨hd, rfl, hA, hlen⟩ := sk_dec hM h
  obtain rfl : 2 = len := hlen.resolve_left (by simp [sk_il])
  have k1 := k hM p e R s m args below meth c H locs cells slots Qf ar hF hR hl hc hs hfin
  exact lv_aload hF.1 hF.2.1 hd (sk_lget hl hk) k1
theorem AW_iadd {a b : Int} (h : sk_find pc M.2.2.2.2 = some (pc0, .iadd, len, nxt, aux)) (k : AW l E d mc ms M nxt ls (vi (a + b) :: st) G σ Q) : AW l E d mc ms M pc ls (vi b :: vi a :: st) G σ Q := by
  intro hM p e R s m args below meth c H locs cells slots Qf ar hF hR hl hc hs hfin
  obtain ⟨hd, rfl, hA, hlen⟩ := sk_dec hM h
  obtain rfl : 1 = len := hlen.resolve_left (by simp [sk_il])
  have k1 := k hM p e R s m args below meth c H locs cells slots Qf ar hF hR hl hc hs hfin
  exact lv_iadd hF.1 hF.2.1 hd (by rw [sk_io_add]; exact k1)
theorem AW_isub {a b : Int} (h : sk_find pc M.2.2.2.2 = some (pc0, .isub, len, nxt, aux)) (k : AW l E d mc ms M nxt ls (vi (a - b) :: st) G σ Q) : AW l E d mc ms M pc ls (vi b :: vi a :: st) G σ Q := by
  intro hM p e R s m args below meth c H locs cells slots Qf ar hF hR hl hc hs hfin
  obtain ⟨hd, rfl, hA, hlen⟩ := sk_dec hM h
  obtain rfl : 1 = len := hlen.resolve_left (by simp [sk_il])
  have k1 := k hM p e R s m args below meth c H locs cells slots Qf ar hF hR hl hc hs hfin
  exact lv_isub hF.1 hF.2.1 hd (by rw [sk_io_sub]; exact k1)
theorem AW_imul {a b : Int} (h : sk_find pc M.2.2.2.2 = some (pc0, .imul, len, nxt, aux)) (k : AW l E d mc ms M nxt ls (vi (a * b) :: st) G σ Q) : AW l E d mc ms M pc ls (vi b :: vi a :: st) G σ Q := by
  intro hM p e R s m args below meth c H locs cells slots Qf ar hF hR hl hc hs hfin
  obtain ⟨hd, rfl, hA, hlen⟩ := sk_dec hM h
  obtain rfl : 1 = len := hlen.resolve_left (by simp [sk_il])
  have k1 := k hM p e R s m args below meth c H locs cells slots Qf ar hF hR hl hc hs hfin
  exact lv_imul hF.1 hF.2.1 hd (by rw [sk_io_mul]; exact k1)
theorem AW_iand {a b : Int} (h : sk_find pc M.2.2.2.2 = some (pc0, .iand, len, nxt, aux)) (k : AW l E d mc ms M nxt ls (vi (sk_and a b) :: st) G σ Q) : AW l E d mc ms M pc ls (vi b :: vi a :: st) G σ Q := by
  intro hM p e R s m args below meth c H locs cells slots Qf ar hF hR hl hc hs hfin
  obtain ⟨hd, rfl, hA, hlen⟩ := sk_dec hM h
  obtain rfl : 1 = len := hlen.resolve_left (by simp [sk_il])
  have k1 := k hM p e R s m args below meth c H locs cells slots Qf ar hF hR hl hc hs hfin
  exact lv_iand hF.1 hF.2.1 hd (by rw [← sk_and_of]; exact k1)
theorem AW_ior {a b : Int} (h : sk_find pc M.2.2.2.2 = some (pc0, .ior, len, nxt, aux)) (k : AW l E d mc ms M nxt ls (vi (sk_or a b) :: st) G σ Q) : AW l E d mc ms M pc ls (vi b :: vi a :: st) G σ Q := by
  intro hM p e R s m args below meth c H locs cells slots Qf ar hF hR hl hc hs hfin
  obtain ⟨hd, rfl, hA, hlen⟩ := sk_dec hM h
  obtain rfl : 1 = len := hlen.resolve_left (by simp [sk_il])
  have k1 := k hM p e R s m args below meth c H locs cells slots Qf ar hF hR hl hc hs hfin
  exact lv_ior hF.1 hF.2.1 hd (by rw [← sk_or_of]; exact k1)
theorem AW_ishr {a b : Int} (h : sk_find pc M.2.2.2.2 = some (pc0, .ishr, len, nxt, aux)) (k : AW l E d mc ms M nxt ls (vi (sk_shr a b) :: st) G σ Q) : AW l E d mc ms M pc ls (vi b :: vi a :: st) G σ Q := by
  intro hM p e R s m args below meth c H locs cells slots Qf ar hF hR hl hc hs hfin
  obtain ⟨hd, rfl, hA, hlen⟩ := sk_dec hM h
  obtain rfl : 1 = len := hlen.resolve_left (by simp [sk_il])
  have k1 := k hM p e R s m args below meth c H locs cells slots Qf ar hF hR hl hc hs hfin
  exact lv_ishr hF.1 hF.2.1 hd (by rw [← sk_shr_of]; exact k1)
theorem AW_iushr {a b : Int} (h : sk_find pc M.2.2.2.2 = some (pc0, .iushr, len, nxt, aux)) (k : AW l E d mc ms M nxt ls (vi (sk_ushr a b) :: st) G σ Q) : AW l E d mc ms M pc ls (vi b :: vi a :: st) G σ Q := by
  intro hM p e R s m args below meth c H locs cells slots Qf ar hF hR hl hc hs hfin
  obtain ⟨hd, rfl, hA, hlen⟩ := sk_dec hM h
  obtain rfl : 1 = len := hlen.resolve_left (by simp [sk_il])
  have k1 := k hM p e R s m args below meth c H locs cells slots Qf ar hF hR hl hc hs hfin
  exact lv_iushr hF.1 hF.2.1 hd (sk_ushr_of a b).symm k1
theorem AW_lsub {a b : Int64} (h : sk_find pc M.2.2.2.2 = some (pc0, .lsub, len, nxt, aux)) (k : AW l E d mc ms M nxt ls (vl (a - b) :: st) G σ Q) : AW l E d mc ms M pc ls (vl b :: vl a :: st) G σ Q := by
  intro hM p e R s m args below meth c H locs cells slots Qf ar hF hR hl hc hs hfin
  obtain ⟨hd, rfl, hA, hlen⟩ := sk_dec hM h
  obtain rfl : 1 = len := hlen.resolve_left (by simp [sk_il])
  have k1 := k hM p e R s m args below meth c H locs cells slots Qf ar hF hR hl hc hs hfin
  exact lv_lsub hF.1 hF.2.1 hd k1
theorem AW_lmul {a b : Int64} (h : sk_find pc M.2.2.2.2 = some (pc0, .lmul, len, nxt, aux)) (k : AW l E d mc ms M nxt ls (vl (a * b) :: st) G σ Q) : AW l E d mc ms M pc ls (vl b :: vl a :: st) G σ Q := by
  intro hM p e R s m args below meth c H locs cells slots Qf ar hF hR hl hc hs hfin
  obtain ⟨hd, rfl, hA, hlen⟩ := sk_dec hM h
  obtain rfl : 1 = len := hlen.resolve_left (by simp [sk_il])
  have k1 := k hM p e R s m args below meth c H locs cells slots Qf ar hF hR hl hc hs hfin
  exact lv_lmul hF.1 hF.2.1 hd k1
theorem AW_land {a b : Int64} (h : sk_find pc M.2.2.2.2 = some (pc0, .land, len, nxt, aux)) (k : AW l E d mc ms M nxt ls (vl (a &&& b) :: st) G σ Q) : AW l E d mc ms M pc ls (vl b :: vl a :: st) G σ Q := by
  intro hM p e R s m args below meth c H locs cells slots Qf ar hF hR hl hc hs hfin
  obtain ⟨hd, rfl, hA, hlen⟩ := sk_dec hM h
  obtain rfl : 1 = len := hlen.resolve_left (by simp [sk_il])
  have k1 := k hM p e R s m args below meth c H locs cells slots Qf ar hF hR hl hc hs hfin
  exact lv_land hF.1 hF.2.1 hd k1
theorem AW_lor {a b : Int64} (h : sk_find pc M.2.2.2.2 = some (pc0, .lor, len, nxt, aux)) (k : AW l E d mc ms M nxt ls (vl (a ||| b) :: st) G σ Q) : AW l E d mc ms M pc ls (vl b :: vl a :: st) G σ Q := by
  intro hM p e R s m args below meth c H locs cells slots Qf ar hF hR hl hc hs hfin
  obtain ⟨hd, rfl, hA, hlen⟩ := sk_dec hM h
  obtain rfl : 1 = len := hlen.resolve_left (by simp [sk_il])
  have k1 := k hM p e R s m args below meth c H locs cells slots Qf ar hF hR hl hc hs hfin
  exact lv_lor hF.1 hF.2.1 hd k1
theorem AW_lxor {a b : Int64} (h : sk_find pc M.2.2.2.2 = some (pc0, .lxor, len, nxt, aux)) (k : AW l E d mc ms M nxt ls (vl (a ^^^ b) :: st) G σ Q) : AW l E d mc ms M pc ls (vl b :: vl a :: st) G σ Q := by
  intro hM p e R s m args below meth c H locs cells slots Qf ar hF hR hl hc hs hfin
  obtain ⟨hd, rfl, hA, hlen⟩ := sk_dec hM h
  obtain rfl : 1 = len := hlen.resolve_left (by simp [sk_il])
  have k1 := k hM p e R s m args below meth c H locs cells slots Qf ar hF hR hl hc hs hfin
  exact lv_lxor hF.1 hF.2.1 hd k1
theorem AW_lshl {a : Int64} {b : Int} (h : sk_find pc M.2.2.2.2 = some (pc0, .lshl, len, nxt, aux)) (k : AW l E d mc ms M nxt ls (vl (sk_lshl a b) :: st) G σ Q) : AW l E d mc ms M pc ls (vi b :: vl a :: st) G σ Q := by
  intro hM p e R s m args below meth c H locs cells slots Qf ar hF hR hl hc hs hfin
  obtain ⟨hd, rfl, hA, hlen⟩ := sk_dec hM h
  obtain rfl : 1 = len := hlen.resolve_left (by simp [sk_il])
  have k1 := k hM p e R s m args below meth c H locs cells slots Qf ar hF hR hl hc hs hfin
  exact lv_lshl hF.1 hF.2.1 hd rfl k1
theorem AW_lushr {a : Int64} {b : Int} (h : sk_find pc M.2.2.2.2 = some (pc0, .lushr, len, nxt, aux)) (k : AW l E d mc ms M nxt ls (vl (sk_lushr a b) :: st) G σ Q) : AW l E d mc ms M pc ls (vi b :: vl a :: st) G σ Q := by
  intro hM p e R s m args below meth c H locs cells slots Qf ar hF hR hl hc hs hfin
  obtain ⟨hd, rfl, hA, hlen⟩ := sk_dec hM h
  obtain rfl : 1 = len := hlen.resolve_left (by simp [sk_il])
  have k1 := k hM p e R s m args below meth c H locs cells slots Qf ar hF hR hl hc hs hfin
  exact lv_lushr hF.1 hF.2.1 hd rfl k1
theorem AW_i2l {a : Int} (h : sk_find pc M.2.2.2.2 = some (pc0, .i2l, len, nxt, aux)) (k : AW l E d mc ms M nxt ls (vl (sk_i2l a) :: st) G σ Q) : AW l E d mc ms M pc ls (vi a :: st) G σ Q := by
  intro hM p e R s m args below meth c H locs cells slots Qf ar hF hR hl hc hs hfin
  obtain ⟨hd, rfl, hA, hlen⟩ := sk_dec hM h
  obtain rfl : 1 = len := hlen.resolve_left (by simp [sk_il])
  have k1 := k hM p e R s m args below meth c H locs cells slots Qf ar hF hR hl hc hs hfin
  exact lv_i2l hF.1 hF.2.1 hd rfl k1
theorem AW_l2i {a : Int64} (h : sk_find pc M.2.2.2.2 = some (pc0, .l2i, len, nxt, aux)) (k : AW l E d mc ms M nxt ls (vi a.toInt32.toInt :: st) G σ Q) : AW l E d mc ms M pc ls (vl a :: st) G σ Q := by
  intro hM p e R s m args below meth c H locs cells slots Qf ar hF hR hl hc hs hfin
  obtain ⟨hd, rfl, hA, hlen⟩ := sk_dec hM h
  obtain rfl : 1 = len := hlen.resolve_left (by simp [sk_il])
  have k1 := k hM p e R s m args below meth c H locs cells slots Qf ar hF hR hl hc hs hfin
  exact lv_l2i hF.1 hF.2.1 hd (sk_oi _).symm k1
theorem AW_lcmp {a b : Int64} (h : sk_find pc M.2.2.2.2 = some (pc0, .lcmp, len, nxt, aux)) (k : AW l E d mc ms M nxt ls (vi (lg_cmp a b).toInt :: st) G σ Q) : AW l E d mc ms M pc ls (vl b :: vl a :: st) G σ Q := by
  intro hM p e R s m args below meth c H locs cells slots Qf ar hF hR hl hc hs hfin
  obtain ⟨hd, rfl, hA, hlen⟩ := sk_dec hM h
  obtain rfl : 1 = len := hlen.resolve_left (by simp [sk_il])
  have k1 := k hM p e R s m args below meth c H locs cells slots Qf ar hF hR hl hc hs hfin
  exact W.lcmp hF.1 hF.2.1 hd (by rw [← sk_oi (lg_cmp a b)]; exact k1)
theorem AW_dup {v : sk_V} (h : sk_find pc M.2.2.2.2 = some (pc0, .dup, len, nxt, aux)) (hv : sk_is1 v = true) (k : AW l E d mc ms M nxt ls (v :: v :: st) G σ Q) : AW l E d mc ms M pc ls (v :: st) G σ Q := by
  intro hM p e R s m args below meth c H locs cells slots Qf ar hF hR hl hc hs hfin
  obtain ⟨hd, rfl, hA, hlen⟩ := sk_dec hM h
  obtain rfl : 1 = len := hlen.resolve_left (by simp [sk_il])
  have k1 := k hM p e R s m args below meth c H locs cells slots Qf ar hF hR hl hc hs hfin
  exact lv_dup hF.1 hF.2.1 hd (sk_cat1 E v hv) k1
theorem AW_dup2 {v w : sk_V} (h : sk_find pc M.2.2.2.2 = some (pc0, .dup2, len, nxt, aux)) (hv : sk_is1 v = true) (hw : sk_is1 w = true) (k : AW l E d mc ms M nxt ls (v :: w :: v :: w :: st) G σ Q) : AW l E d mc ms M pc ls (v :: w :: st) G σ Q := by
  intro hM p e R s m args below meth c H locs cells slots Qf ar hF hR hl hc hs hfin
  obtain ⟨hd, rfl, hA, hlen⟩ := sk_dec hM h
  obtain rfl : 1 = len := hlen.resolve_left (by simp [sk_il])
  have k1 := k hM p e R s m args below meth c H locs cells slots Qf ar hF hR hl hc hs hfin
  exact lv_dup2_11 hF.1 hF.2.1 hd (sk_cat1 E v hv) (sk_cat1 E w hw) k1
theorem AW_dup2l {a : Int64} (h : sk_find pc M.2.2.2.2 = some (pc0, .dup2, len, nxt, aux)) (k : AW l E d mc ms M nxt ls (vl a :: vl a :: st) G σ Q) : AW l E d mc ms M pc ls (vl a :: st) G σ Q := by
  intro hM p e R s m args below meth c H locs cells slots Qf ar hF hR hl hc hs hfin
  obtain ⟨hd, rfl, hA, hlen⟩ := sk_dec hM h
  obtain rfl : 1 = len := hlen.resolve_left (by simp [sk_il])
  have k1 := k hM p e R s m args below meth c H locs cells slots Qf ar hF hR hl hc hs hfin
  exact lv_dup2_2 hF.1 hF.2.1 hd rfl k1
theorem AW_pop {v : sk_V} (h : sk_find pc M.2.2.2.2 = some (pc0, .pop, len, nxt, aux)) (hv : sk_is1 v = true) (k : AW l E d mc ms M nxt ls (st) G σ Q) : AW l E d mc ms M pc ls (v :: st) G σ Q := by
  intro hM p e R s m args below meth c H locs cells slots Qf ar hF hR hl hc hs hfin
  obtain ⟨hd, rfl, hA, hlen⟩ := sk_dec hM h
  obtain rfl : 1 = len := hlen.resolve_left (by simp [sk_il])
  have k1 := k hM p e R s m args below meth c H locs cells slots Qf ar hF hR hl hc hs hfin
  exact lv_pop hF.1 hF.2.1 hd (sk_cat1 E v hv) k1
theorem AW_goto {off : Int} {t : Nat} (h : sk_find pc M.2.2.2.2 = some (pc0, (.goto off), len, nxt, [t])) (k : AW l E d mc ms M t ls st G σ Q) : AW l E d mc ms M pc ls st G σ Q := by
  intro hM p e R s m args below meth c H locs cells slots Qf ar hF hR hl hc hs hfin
  obtain ⟨hd, rfl, hA, hlen⟩ := sk_dec hM h
  obtain rfl : 3 = len := hlen.resolve_left (by simp [sk_il])
  exact lv_goto hF.1 hF.2.1 hd (of_decide_eq_true hA) (k hM p e R s m args below meth c H locs cells slots Qf ar hF hR hl hc hs hfin)
theorem AW_ifeq {a : Int} {off : Int} {t : Nat} (h : sk_find pc M.2.2.2.2 = some (pc0, (.ifCond .eq off), len, nxt, [t])) (kt : a = 0 → AW l E d mc ms M t ls st G σ Q) (kf : ¬ (a = 0) → AW l E d mc ms M nxt ls st G σ Q) (ha : sk_in a := by (first | assumption | (unfold sk_in; omega))) : AW l E d mc ms M pc ls (vi a :: st) G σ Q := by
  intro hM p e R s m args below meth c H locs cells slots Qf ar hF hR hl hc hs hfin
  obtain ⟨hd, rfl, hA, hlen⟩ := sk_dec hM h
  obtain rfl : 3 = len := hlen.resolve_left (by simp [sk_il])
  exact lv_if_eq hF.1 hF.2.1 hd (of_decide_eq_true hA) (fun z => kt ((sk_eq_iff ha sk_in0).mp z) hM p e R s m args below meth c H locs cells slots Qf ar hF hR hl hc hs hfin) (fun z => kf (fun y => z ((sk_eq_iff ha sk_in0).mpr y)) hM p e R s m args below meth c H locs cells slots Qf ar hF hR hl hc hs hfin)
theorem AW_ifne {a : Int} {off : Int} {t : Nat} (h : sk_find pc M.2.2.2.2 = some (pc0, (.ifCond .ne off), len, nxt, [t])) (kt : a ≠ 0 → AW l E d mc ms M t ls st G σ Q) (kf : a = 0 → AW l E d mc ms M nxt ls st G σ Q) (ha : sk_in a := by (first | assumption | (unfold sk_in; omega))) : AW l E d mc ms M pc ls (vi a :: st) G σ Q := by
  intro hM p e R s m args below meth c H locs cells slots Qf ar hF hR hl hc hs hfin
  obtain ⟨hd, rfl, hA, hlen⟩ := sk_dec hM h
  obtain rfl : 3 = len := hlen.resolve_left (by simp [sk_il])
  exact lv_if_ne hF.1 hF.2.1 hd (of_decide_eq_true hA) (fun z => kt ((not_congr (sk_eq_iff ha sk_in0)).mp z) hM p e R s m args below meth c H locs cells slots Qf ar hF hR hl hc hs hfin) (fun z => kf (((sk_eq_iff ha sk_in0)).mp z) hM p e R s m args below meth c H locs cells slots Qf ar hF hR hl hc hs hfin)
theorem AW_iflt {a : Int} {off : Int} {t : Nat} (h : sk_find pc M.2.2.2.2 = some (pc0, (.ifCond .lt off), len, nxt, [t])) (kt : a < 0 → AW l E d mc ms M t ls st G σ Q) (kf : ¬ (a < 0) → AW l E d mc ms M nxt ls st G σ Q) (ha : sk_in a := by (first | assumption | (unfold sk_in; omega))) : AW l E d mc ms M pc ls (vi a :: st) G σ Q := by
  intro hM p e R s m args below meth c H locs cells slots Qf ar hF hR hl hc hs hfin
  obtain ⟨hd, rfl, hA, hlen⟩ := sk_dec hM h
  obtain rfl : 3 = len := hlen.resolve_left (by simp [sk_il])
  exact lv_if_lt hF.1 hF.2.1 hd (of_decide_eq_true hA) (fun z => kt ((sk_lt_iff ha sk_in0).mp z) hM p e R s m args below meth c H locs cells slots Qf ar hF hR hl hc hs hfin) (fun z => kf (fun y => z ((sk_lt_iff ha sk_in0).mpr y)) hM p e R s m args below meth c H locs cells slots Qf ar hF hR hl hc hs hfin)
theorem AW_ifge {a : Int} {off : Int} {t : Nat} (h : sk_find pc M.2.2.2.2 = some (pc0, (.ifCond .ge off), len, nxt, [t])) (kt : 0 ≤ a → AW l E d mc ms M t ls st G σ Q) (kf : ¬ (0 ≤ a) → AW l E d mc ms M nxt ls st G σ Q) (ha : sk_in a := by (first | assumption | (unfold sk_in; omega))) : AW l E d mc ms M pc ls (vi a :: st) G σ Q := by
  intro hM p e R s m args below meth c H locs cells slots Qf ar hF hR hl hc hs hfin
  obtain ⟨hd, rfl, hA, hlen⟩ := sk_dec hM h
  obtain rfl : 3 = len := hlen.resolve_left (by simp [sk_il])
  exact lv_if_ge hF.1 hF.2.1 hd (of_decide_eq_true hA) (fun z => kt ((sk_le_iff sk_in0 ha).mp z) hM p e R s m args below meth c H locs cells slots Qf ar hF hR hl hc hs hfin) (fun z => kf (fun y => z ((sk_le_iff sk_in0 ha).mpr y)) hM p e R s m args below meth c H locs cells slots Qf ar hF hR hl hc hs hfin)
theorem AW_ifgt {a : Int} {off : Int} {t : Nat} (h : sk_find pc M.2.2.2.2 = some (pc0, (.ifCond .gt off), len, nxt, [t])) (kt : 0 < a → AW l E d mc ms M t ls st G σ Q) (kf : ¬ (0 < a) → AW l E d mc ms M nxt ls st G σ Q) (ha : sk_in a := by (first | assumption | (unfold sk_in; omega))) : AW l E d mc ms M pc ls (vi a :: st) G σ Q := by
  intro hM p e R s m args below meth c H locs cells slots Qf ar hF hR hl hc hs hfin
  obtain ⟨hd, rfl, hA, hlen⟩ := sk_dec hM h
  obtain rfl : 3 = len := hlen.resolve_left (by simp [sk_il])
  exact lv_if_gt hF.1 hF.2.1 hd (of_decide_eq_true hA) (fun z => kt ((sk_lt_iff sk_in0 ha).mp z) hM p e R s m args below meth c H locs cells slots Qf ar hF hR hl hc hs hfin) (fun z => kf (fun y => z ((sk_lt_iff sk_in0 ha).mpr y)) hM p e R s m args below meth c H locs cells slots Qf ar hF hR hl hc hs hfin)
theorem AW_ifle {a : Int} {off : Int} {t : Nat} (h : sk_find pc M.2.2.2.2 = some (pc0, (.ifCond .le off), len, nxt, [t])) (kt : a ≤ 0 → AW l E d mc ms M t ls st G σ Q) (kf : ¬ (a ≤ 0) → AW l E d mc ms M nxt ls st G σ Q) (ha : sk_in a := by (first | assumption | (unfold sk_in; omega))) : AW l E d mc ms M pc ls (vi a :: st) G σ Q := by
  intro hM p e R s m args below meth c H locs cells slots Qf ar hF hR hl hc hs hfin
  obtain ⟨hd, rfl, hA, hlen⟩ := sk_dec hM h
  obtain rfl : 3 = len := hlen.resolve_left (by simp [sk_il])
  exact lv_if_le hF.1 hF.2.1 hd (of_decide_eq_true hA) (fun z => kt ((sk_le_iff ha sk_in0).mp z) hM p e R s m args below meth c H locs cells slots Qf ar hF hR hl hc hs hfin) (fun z => kf (fun y => z ((sk_le_iff ha sk_in0).mpr y)) hM p e R s m args below meth c H locs cells slots Qf ar hF hR hl hc hs hfin)
theorem AW_iceq {a b : Int} {off : Int} {t : Nat} (h : sk_find pc M.2.2.2.2 = some (pc0, (.if_icmp .eq off), len, nxt, [t])) (kt : a = b → AW l E d mc ms M t ls st G σ Q) (kf : ¬ (a = b) → AW l E d mc ms M nxt ls st G σ Q) (ha : sk_in a := by (first | assumption | (unfold sk_in; omega))) (hb : sk_in b := by (first | assumption | (unfold sk_in; omega))) : AW l E d mc ms M pc ls (vi b :: vi a :: st) G σ Q := by
  intro hM p e R s m args below meth c H locs cells slots Qf ar hF hR hl hc hs hfin
  obtain ⟨hd, rfl, hA, hlen⟩ := sk_dec hM h
  obtain rfl : 3 = len := hlen.resolve_left (by simp [sk_il])
  exact lv_icmp_eq hF.1 hF.2.1 hd (of_decide_eq_true hA) (fun z => kt ((sk_eq_iff ha hb).mp z) hM p e R s m args below meth c H locs cells slots Qf ar hF hR hl hc hs hfin) (fun z => kf (fun y => z ((sk_eq_iff ha hb).mpr y)) hM p e R s m args below meth c H locs cells slots Qf ar hF hR hl hc hs hfin)
theorem AW_icne {a b : Int} {off : Int} {t : Nat} (h : sk_find pc M.2.2.2.2 = some (pc0, (.if_icmp .ne off), len, nxt, [t])) (kt : a ≠ b → AW l E d mc ms M t ls st G σ Q) (kf : a = b → AW l E d mc ms M nxt ls st G σ Q) (ha : sk_in a := by (first | assumption | (unfold sk_in; omega))) (hb : sk_in b := by (first | assumption | (unfold sk_in; omega))) : AW l E d mc ms M pc ls (vi b :: vi a :: st) G σ Q := by
  intro hM p e R s m args below meth c H locs cells slots Qf ar hF hR hl hc hs hfin
  obtain ⟨hd, rfl, hA, hlen⟩ := sk_dec hM h
  obtain rfl : 3 = len := hlen.resolve_left (by simp [sk_il])
  exact lv_icmp_ne hF.1 hF.2.1 hd (of_decide_eq_true hA) (fun z => kt ((not_congr (sk_eq_iff ha hb)).mp z) hM p e R s m args below meth c H locs cells slots Qf ar hF hR hl hc hs hfin) (fun z => kf (((sk_eq_iff ha hb)).mp z) hM p e R s m args below meth c H locs cells slots Qf ar hF hR hl hc hs hfin)
theorem AW_iclt {a b : Int} {off : Int} {t : Nat} (h : sk_find pc M.2.2.2.2 = some (pc0, (.if_icmp .lt off), len, nxt, [t])) (kt : a < b → AW l E d mc ms M t ls st G σ Q) (kf : ¬ (a < b) → AW l E d mc ms M nxt ls st G σ Q) (ha : sk_in a := by (first | assumption | (unfold sk_in; omega))) (hb : sk_in b := by (first | assumption | (unfold sk_in; omega))) : AW l E d mc ms M pc ls (vi b :: vi a :: st) G σ Q := by
  intro hM p e R s m args below meth c H locs cells slots Qf ar hF hR hl hc hs hfin
  obtain ⟨hd, rfl, hA, hlen⟩ := sk_dec hM h
  obtain rfl : 3 = len := hlen.resolve_left (by simp [sk_il])
  exact lv_icmp_lt hF.1 hF.2.1 hd (of_decide_eq_true hA) (fun z => kt ((sk_lt_iff ha hb).mp z) hM p e R s m args below meth c H locs cells slots Qf ar hF hR hl hc hs hfin) (fun z => kf (fun y => z ((sk_lt_iff ha hb).mpr y)) hM p e R s m args below meth c H locs cells slots Qf ar hF hR hl hc hs hfin)
theorem AW_icge {a b : Int} {off : Int} {t : Nat} (h : sk_find pc M.2.2.2.2 = some (pc0, (.if_icmp .ge off), len, nxt, [t])) (kt : b ≤ a → AW l E d mc ms M t ls st G σ Q) (kf : ¬ (b ≤ a) → AW l E d mc ms M nxt ls st G σ Q) (ha : sk_in a := by (first | assumption | (unfold sk_in; omega))) (hb : sk_in b := by (first | assumption | (unfold sk_in; omega))) : AW l E d mc ms M pc ls (vi b :: vi a :: st) G σ Q := by
  intro hM p e R s m args below meth c H locs cells slots Qf ar hF hR hl hc hs hfin
  obtain ⟨hd, rfl, hA, hlen⟩ := sk_dec hM h
  obtain rfl : 3 = len := hlen.resolve_left (by simp [sk_il])
  exact lv_icmp_ge hF.1 hF.2.1 hd (of_decide_eq_true hA) (fun z => kt ((sk_le_iff hb ha).mp z) hM p e R s m args below meth c H locs cells slots Qf ar hF hR hl hc hs hfin) (fun z => kf (fun y => z ((sk_le_iff hb ha).mpr y)) hM p e R s m args below meth c H locs cells slots Qf ar hF hR hl hc hs hfin)
theorem AW_icgt {a b : Int} {off : Int} {t : Nat} (h : sk_find pc M.2.2.2.2 = some (pc0, (.if_icmp .gt off), len, nxt, [t])) (kt : b < a → AW l E d mc ms M t ls st G σ Q) (kf : ¬ (b < a) → AW l E d mc ms M nxt ls st G σ Q) (ha : sk_in a := by (first | assumption | (unfold sk_in; omega))) (hb : sk_in b := by (first | assumption | (unfold sk_in; omega))) : AW l E d mc ms M pc ls (vi b :: vi a :: st) G σ Q := by
  intro hM p e R s m args below meth c H locs cells slots Qf ar hF hR hl hc hs hfin
  obtain ⟨hd, rfl, hA, hlen⟩ := sk_dec hM h
  obtain rfl : 3 = len := hlen.resolve_left (by simp [sk_il])
  exact lv_icmp_gt hF.1 hF.2.1 hd (of_decide_eq_true hA) (fun z => kt ((sk_lt_iff hb ha).mp z) hM p e R s m args below meth c H locs cells slots Qf ar hF hR hl hc hs hfin) (fun z => kf (fun y => z ((sk_lt_iff hb ha).mpr y)) hM p e R s m args below meth c H locs cells slots Qf ar hF hR hl hc hs hfin)
theorem AW_icle {a b : Int} {off : Int} {t : Nat} (h : sk_find pc M.2.2.2.2 = some (pc0, (.if_icmp .le off), len, nxt, [t])) (kt : a ≤ b → AW l E d mc ms M t ls st G σ Q) (kf : ¬ (a ≤ b) → AW l E d mc ms M nxt ls st G σ Q) (ha : sk_in a := by (first | assumption | (unfold sk_in; omega))) (hb : sk_in b := by (first | assumption | (unfold sk_in; omega))) : AW l E d mc ms M pc ls (vi b :: vi a :: st) G σ Q := by
  intro hM p e R s m args below meth c H locs cells slots Qf ar hF hR hl hc hs hfin
  obtain ⟨hd, rfl, hA, hlen⟩ := sk_dec hM h
  obtain rfl : 3 = len := hlen.resolve_left (by simp [sk_il])
  exact lv_icmp_le hF.1 hF.2.1 hd (of_decide_eq_true hA) (fun z => kt ((sk_le_iff ha hb).mp z) hM p e R s m args below meth c H locs cells slots Qf ar hF hR hl hc hs hfin) (fun z => kf (fun y => z ((sk_le_iff ha hb).mpr y)) hM p e R s m args below meth c H locs cells slots Qf ar hF hR hl hc hs hfin)
end SKR
end
section
/-! ===== rules for cells ===== -/
section SKH
variable {l : Launch} {E : sk_En} {d mc ms : Nat} {M : sk_M} {pc pc0 len nxt : Nat} {aux : List Nat} {ls : List (Option sk_V)} {st : List sk_V} {G : List sk_Sh} {I : sk_SI} {L : sk_SL} {J : sk_SR} {Q : Option sk_V → List sk_Sh → sk_St → Prop}
theorem AW_getI {k ci j q tc idx : Nat} (h : sk_find pc M.2.2.2.2 = some (pc0, (.getfield idx), len, nxt, [ci, j, q, tc])) (hG : G[k]? = some (.inl ci)) (htc : Nat.beq tc 3 = false) (kk : AW l E d mc ms M nxt ls (vi (I k j) :: st) G (I, L, J) Q) : AW l E d mc ms M pc ls (vr k :: st) G (I, L, J) Q := by
  intro hM p e R s m args below meth c H locs cells slots Qf ar hF hR hl hc hs hfin
  obtain ⟨hd, rfl, hA, hlen⟩ := sk_dec hM h
  obtain rfl : 3 = len := hlen.resolve_left (by simp [sk_il])
  obtain ⟨f1, f2, f3, f4⟩ := sk_fokE hA
  have hr : sk_isR (sk_ty ci j) = false := by
    rcases f4 with ⟨e1, -⟩ | ⟨e1, -⟩ | ⟨-, e1⟩
    · rw [e1]; rfl
    · rw [e1]; rfl
    · rw [e1] at htc; cases htc
  have k1 := kk hM p e R s m args below meth c H locs cells slots Qf ar hF hR hl hc hs hfin
  show W p l e R s m args below meth c H locs cells slots Qf (F0 m pc ar (sk_v E (vr k) :: st.map (sk_v E)))
  rw [sk_vr hG hR.2.1]
  refine va_get hF.1 hF.2.1 hF.2.2.2.2.2.2.2.1 (sk_lays f1) hF.2.2.2.2.1 hF.2.2.2.2.2.2.2.2.1.1 hR.1 k (sk_w_at hG) (sk_cl f1) j f2 (hF.2.2.2.2.2.2.2.1 _ f3) (fun _ h => h) (v := .int (Int32.ofInt (I k j))) ?_ hd k1
  rw [sk_fs_get f2]
  simp [sk_fv, hr]
theorem AW_getR {k ci j q tc idx : Nat} (h : sk_find pc M.2.2.2.2 = some (pc0, (.getfield idx), len, nxt, [ci, j, q, tc])) (hG : G[k]? = some (.inl ci)) (htc : Nat.beq tc 3 = true) (kk : AW l E d mc ms M nxt ls (.inr (.inr (J k j)) :: st) G (I, L, J) Q) : AW l E d mc ms M pc ls (vr k :: st) G (I, L, J) Q := by
  intro hM p e R s m args below meth c H locs cells slots Qf ar hF hR hl hc hs hfin
  obtain ⟨hd, rfl, hA, hlen⟩ := sk_dec hM h
  obtain rfl : 3 = len := hlen.resolve_left (by simp [sk_il])
  obtain ⟨f1, f2, f3, f4⟩ := sk_fokE hA
  have hr : sk_isR (sk_ty ci j) = true := by
    rcases f4 with ⟨-, e1⟩ | ⟨-, e1⟩ | ⟨e1, -⟩
    · rw [e1] at htc; cases htc
    · rw [e1] at htc; cases htc
    · exact e1
  have k1 := kk hM p e R s m args below meth c H locs cells slots Qf ar hF hR hl hc hs hfin
  show W p l e R s m args below meth c H locs cells slots Qf (F0 m pc ar (sk_v E (vr k) :: st.map (sk_v E)))
  rw [sk_vr hG hR.2.1]
  refine va_get hF.1 hF.2.1 hF.2.2.2.2.2.2.2.1 (sk_lays f1) hF.2.2.2.2.1 hF.2.2.2.2.2.2.2.2.1.1 hR.1 k (sk_w_at hG) (sk_cl f1) j f2 (hF.2.2.2.2.2.2.2.1 _ f3) (fun _ h => h) (v := sk_rv E (J k j)) ?_ hd k1
  rw [sk_fs_get f2]
  simp [sk_fv, hr]
/-- a store into a field, whatever its type -/
theorem sk_putA {σ σ' : sk_St} {v : sk_V} {k ci j q tc idx : Nat} (h : sk_find pc M.2.2.2.2 = some (pc0, (.putfield idx), len, nxt, [ci, j, q, tc])) (hG : G[k]? = some (.inl ci)) (hn : j < (sk_C ci).2.2 → narrow (sk_ty ci j) (sk_v E v) = sk_v E v ∧ fits (sk_ty ci j) (sk_v E v) = true)
    (hv : sk_fok M.1.cls idx ci j q tc = true → sk_fv E σ' k j (sk_ty ci j) = sk_v E v) (ho : ∀ i : Nat, i ≠ j → sk_fv E σ' k i (sk_ty ci i) = sk_fv E σ k i (sk_ty ci i)) (ho2 : ∀ (k' : Nat) (sh' : sk_Sh), k' ≠ k → sk_cell E σ' k' sh' = sk_cell E σ k' sh')
    (kk : AW l E d mc ms M nxt ls st G σ' Q) : AW l E d mc ms M pc ls (v :: vr k :: st) G σ Q := by
  intro hM p e R s m args below meth c H locs cells slots Qf ar hF hR hl hc hs hfin
  obtain ⟨hd, rfl, hA, hlen⟩ := sk_dec hM h
  obtain rfl : 3 = len := hlen.resolve_left (by simp [sk_il])
  have hA : (sk_fok M.1.cls idx ci j q tc && (!((sk_C ci).2.1 j).2.2.2 || (decide (M.1.name = "<init>") && decide (((sk_C ci).2.1 j).1 = M.1.cls)))) = true := hA
  rw [Bool.and_eq_true] at hA
  obtain ⟨f1, f2, f3, f4⟩ := sk_fokE hA.1
  obtain ⟨n1, n2⟩ := hn f2
  have hse : (sk_w E G σ).set k (E.1 + k, .inr (ci, ((List.range (sk_C ci).2.2).map (fun j => sk_fv E σ k j (sk_ty ci j))).set j (sk_v E v))) = sk_w E G σ' := sk_w_set hG (by show Sum.inr _ = _; rw [sk_fs_set (hv hA.1) ho]) ho2
  show W p l e R s m args below meth c H locs cells slots Qf (F0 m pc ar (sk_v E v :: sk_v E (vr k) :: st.map (sk_v E)))
  rw [sk_vr hG hR.2.1]
  have kx : ∀ (H1 : Heap) (locs1 : List Loc), va_P E.2.1 vwCl ((sk_w E G σ).set k (E.1 + k, .inr (ci, ((List.range (sk_C ci).2.2).map (fun j => sk_fv E σ k j (sk_ty ci j))).set j (sk_v E v)))) H1 → va_D (sk_A E) ((sk_w E G σ).set k (E.1 + k, .inr (ci, ((List.range (sk_C ci).2.2).map (fun j => sk_fv E σ k j (sk_ty ci j))).set j (sk_v E v)))) → va_S (sk_A E) s.heap H1 locs1 → W p l e R s m args below meth c H1 locs1 cells slots Qf (F0 m (pc + 3) ar (st.map (sk_v E))) := by
    intro H1 locs1 hP1 _ hS1
    rw [hse] at hP1
    exact kk hM p e R s m args below meth c H1 locs1 cells slots Qf ar hF ⟨hP1, hR.2.1, hS1⟩ hl hc hs hfin
  cases hfi : ((sk_C ci).2.1 j).2.2.2 with
  | false => exact va_put hF.1 hF.2.1 hF.2.2.2.2.2.2.2.1 (sk_lays f1) (sk_ty ci) (sk_tyok f1) (sk_nmok f1) hF.2.2.2.2.1 hF.2.2.2.2.2.2.2.2.1.1 hR.1 (sk_w_D E G σ) hR.2.2 k (sk_w_at hG) (sk_cl f1) j f2 (hF.2.2.2.2.2.2.2.1 _ f3) (fun _ h => h) hfi (sk_tyok f1 j f2) n1 n2 (by simpa using f2) hd kx
  | true =>
    have h2 := hA.2
    rw [hfi] at h2
    simp only [Bool.not_true, Bool.false_or, Bool.and_eq_true, decide_eq_true_eq] at h2
    exact va_putF hF.1 hF.2.1 hF.2.2.2.2.2.2.2.1 (sk_lays f1) (sk_ty ci) (sk_tyok f1) (sk_nmok f1) hF.2.2.2.2.1 hF.2.2.2.2.2.2.2.2.1.1 hR.1 (sk_w_D E G σ) hR.2.2 k (sk_w_at hG) (sk_cl f1) j f2 (hF.2.2.2.2.2.2.2.1 _ f3) (fun _ h => h) hfi (hF.2.2.2.2.2.2.1.trans h2.1) h2.2 (sk_tyok f1 j f2) n1 n2 (by simpa using f2) hd kx
theorem AW_putI {k ci j q idx : Nat} {x : Int} (h : sk_find pc M.2.2.2.2 = some (pc0, (.putfield idx), len, nxt, [ci, j, q, 0])) (hG : G[k]? = some (.inl ci)) (kk : AW l E d mc ms M nxt ls st G (sk_uI I k j x, L, J) Q) : AW l E d mc ms M pc ls (vi x :: vr k :: st) G (I, L, J) Q := by
  intro hM
  have hA := (sk_dec hM h).2.2.1
  have hA : (sk_fok M.1.cls idx ci j q 0 && (!((sk_C ci).2.1 j).2.2.2 || (decide (M.1.name = "<init>") && decide (((sk_C ci).2.1 j).1 = M.1.cls)))) = true := hA
  rw [Bool.and_eq_true] at hA
  obtain ⟨f1, f2, f3, f4⟩ := sk_fokE hA.1
  have ht : sk_ty ci j = .int := by
    rcases f4 with ⟨e1, -⟩ | ⟨-, e1⟩ | ⟨-, e1⟩
    · exact e1
    · cases e1
    · cases e1
  refine sk_putA h hG (fun _ => ?_) (fun _ => ?_) (fun i hi => ?_) (fun k' sh' hk => sk_cell_o sh' (sk_uI_o hk) rfl rfl) kk hM
  · rw [ht]; exact ⟨rfl, rfl⟩
  · rw [ht]; simp [sk_fv, sk_isR, sk_uI, sk_up, sk_v]
  · have : (i : Int) ≠ (j : Int) := fun e => hi (Int.ofNat.inj e)
    simp [sk_fv, sk_uI, sk_up, this]
theorem sk_b01 {x : Int} (h : x = 0 ∨ x = 1) : narrow .boolean (.int (Int32.ofInt x)) = .int (Int32.ofInt x) ∧ fits .boolean (.int (Int32.ofInt x)) = true := by
  rcases h with rfl | rfl <;> exact ⟨rfl, rfl⟩
theorem AW_putZ {k ci j q idx : Nat} {x : Int} (h : sk_find pc M.2.2.2.2 = some (pc0, (.putfield idx), len, nxt, [ci, j, q, 1])) (hG : G[k]? = some (.inl ci)) (hx : x = 0 ∨ x = 1) (kk : AW l E d mc ms M nxt ls st G (sk_uI I k j x, L, J) Q) : AW l E d mc ms M pc ls (vi x :: vr k :: st) G (I, L, J) Q := by
  intro hM
  have hA := (sk_dec hM h).2.2.1
  have hA : (sk_fok M.1.cls idx ci j q 1 && (!((sk_C ci).2.1 j).2.2.2 || (decide (M.1.name = "<init>") && decide (((sk_C ci).2.1 j).1 = M.1.cls)))) = true := hA
  rw [Bool.and_eq_true] at hA
  obtain ⟨f1, f2, f3, f4⟩ := sk_fokE hA.1
  have ht : sk_ty ci j = .boolean := by
    rcases f4 with ⟨-, e1⟩ | ⟨e1, -⟩ | ⟨-, e1⟩
    · cases e1
    · exact e1
    · cases e1
  refine sk_putA h hG (fun _ => ?_) (fun _ => ?_) (fun i hi => ?_) (fun k' sh' hk => sk_cell_o sh' (sk_uI_o hk) rfl rfl) kk hM
  · rw [ht]; exact sk_b01 hx
  · rw [ht]; simp [sk_fv, sk_isR, sk_uI, sk_up, sk_v]
  · have : (i : Int) ≠ (j : Int) := fun e => hi (Int.ofNat.inj e)
    simp [sk_fv, sk_uI, sk_up, this]
theorem AW_putR {k ci j q idx x : Nat} (h : sk_find pc M.2.2.2.2 = some (pc0, (.putfield idx), len, nxt, [ci, j, q, 3])) (hG : G[k]? = some (.inl ci)) (kk : AW l E d mc ms M nxt ls st G (I, L, sk_uR J k j (some x)) Q) : AW l E d mc ms M pc ls (vr x :: vr k :: st) G (I, L, J) Q := by
  intro hM
  have hA := (sk_dec hM h).2.2.1
  have hA : (sk_fok M.1.cls idx ci j q 3 && (!((sk_C ci).2.1 j).2.2.2 || (decide (M.1.name = "<init>") && decide (((sk_C ci).2.1 j).1 = M.1.cls)))) = true := hA
  rw [Bool.and_eq_true] at hA
  obtain ⟨f1, f2, f3, f4⟩ := sk_fokE hA.1
  have ht : sk_isR (sk_ty ci j) = true := by
    rcases f4 with ⟨-, e1⟩ | ⟨-, e1⟩ | ⟨e1, -⟩
    · cases e1
    · cases e1
    · exact e1
  refine sk_putA h hG (fun _ => ?_) (fun _ => ?_) (fun i hi => ?_) (fun k' sh' hk => sk_cell_o sh' rfl rfl (sk_uR_o hk)) kk hM
  · generalize sk_ty ci j = ty at ht
    cases ty <;> first | exact ⟨rfl, rfl⟩ | cases ht
  · simp [sk_fv, ht, sk_uR, sk_upR, sk_v]
  · have : (i : Int) ≠ (j : Int) := fun e => hi (Int.ofNat.inj e)
    simp [sk_fv, sk_uR, sk_upR, this]
/-! arrays -/
theorem sk_cn (a : Int) (h0 : 0 ≤ a) {n : Nat} (h : a < n) (hn : n < 2147483648) : ((Int32.ofInt a).toNatClampNeg : Int) = a := sk_nat h0 (by omega)
theorem AW_iald {k n : Nat} {i : Int} (h : sk_find pc M.2.2.2.2 = some (pc0, .iaload, len, nxt, aux)) (hG : G[k]? = some (.inr (0, n))) (hi : 0 ≤ i ∧ i < n) (hn : n < 2147483648) (kk : AW l E d mc ms M nxt ls (vi (I k i) :: st) G (I, L, J) Q) : AW l E d mc ms M pc ls (vi i :: vr k :: st) G (I, L, J) Q := by
  intro hM p e R s m args below meth c H locs cells slots Qf ar hF hR hl hc hs hfin
  obtain ⟨hd, rfl, hA, hlen⟩ := sk_dec hM h
  obtain rfl : 1 = len := hlen.resolve_left (by simp [sk_il])
  have k1 := kk hM p e R s m args below meth c H locs cells slots Qf ar hF hR hl hc hs hfin
  show W p l e R s m args below meth c H locs cells slots Qf (F0 m pc ar (.int (Int32.ofInt i) :: sk_v E (vr k) :: st.map (sk_v E)))
  rw [sk_vr hG hR.2.1]
  refine va_iald hF.1 hF.2.1 hF.2.2.2.2.2.2.2.2.1.1 hR.1 k 0 (sk_w_at hG) rfl (sk_vin hi.1 hi.2 hn) hd ?_
  dsimp only
  rw [sk_cn i hi.1 hi.2 hn]
  exact k1
theorem AW_zald {k n : Nat} {i : Int} (h : sk_find pc M.2.2.2.2 = some (pc0, .baload, len, nxt, aux)) (hG : G[k]? = some (.inr (1, n))) (hi : 0 ≤ i ∧ i < n) (hn : n < 2147483648) (kk : AW l E d mc ms M nxt ls (vi (I k i) :: st) G (I, L, J) Q) : AW l E d mc ms M pc ls (vi i :: vr k :: st) G (I, L, J) Q := by
  intro hM p e R s m args below meth c H locs cells slots Qf ar hF hR hl hc hs hfin
  obtain ⟨hd, rfl, hA, hlen⟩ := sk_dec hM h
  obtain rfl : 1 = len := hlen.resolve_left (by simp [sk_il])
  have k1 := kk hM p e R s m args below meth c H locs cells slots Qf ar hF hR hl hc hs hfin
  show W p l e R s m args below meth c H locs cells slots Qf (F0 m pc ar (.int (Int32.ofInt i) :: sk_v E (vr k) :: st.map (sk_v E)))
  rw [sk_vr hG hR.2.1]
  refine va_zald hF.1 hF.2.1 hF.2.2.2.2.2.2.2.2.1.1 hR.1 k 1 (sk_w_at hG) rfl (sk_vin hi.1 hi.2 hn) hd ?_
  dsimp only
  rw [sk_cn i hi.1 hi.2 hn]
  exact k1
theorem AW_lald {k n : Nat} {i : Int} (h : sk_find pc M.2.2.2.2 = some (pc0, .laload, len, nxt, aux)) (hG : G[k]? = some (.inr (2, n))) (hi : 0 ≤ i ∧ i < n) (hn : n < 2147483648) (kk : AW l E d mc ms M nxt ls (vl (L k i) :: st) G (I, L, J) Q) : AW l E d mc ms M pc ls (vi i :: vr k :: st) G (I, L, J) Q := by
  intro hM p e R s m args below meth c H locs cells slots Qf ar hF hR hl hc hs hfin
  obtain ⟨hd, rfl, hA, hlen⟩ := sk_dec hM h
  obtain rfl : 1 = len := hlen.resolve_left (by simp [sk_il])
  have k1 := kk hM p e R s m args below meth c H locs cells slots Qf ar hF hR hl hc hs hfin
  show W p l e R s m args below meth c H locs cells slots Qf (F0 m pc ar (.int (Int32.ofInt i) :: sk_v E (vr k) :: st.map (sk_v E)))
  rw [sk_vr hG hR.2.1]
  refine va_lald hF.1 hF.2.1 hF.2.2.2.2.2.2.2.2.1.1 hR.1 k 2 (sk_w_at hG) rfl (sk_vin hi.1 hi.2 hn) hd ?_
  dsimp only
  rw [sk_cn i hi.1 hi.2 hn]
  exact k1
theorem AW_aald {k n : Nat} {i : Int} {r : Nat} (h : sk_find pc M.2.2.2.2 = some (pc0, .aaload, len, nxt, aux)) (hG : G[k]? = some (.inr (3, n))) (hi : 0 ≤ i ∧ i < n) (hn : n < 2147483648) (hr : J k i = some r) (kk : AW l E d mc ms M nxt ls (vr r :: st) G (I, L, J) Q) : AW l E d mc ms M pc ls (vi i :: vr k :: st) G (I, L, J) Q := by
  intro hM p e R s m args below meth c H locs cells slots Qf ar hF hR hl hc hs hfin
  obtain ⟨hd, rfl, hA, hlen⟩ := sk_dec hM h
  obtain rfl : 1 = len := hlen.resolve_left (by simp [sk_il])
  have k1 := kk hM p e R s m args below meth c H locs cells slots Qf ar hF hR hl hc hs hfin
  show W p l e R s m args below meth c H locs cells slots Qf (F0 m pc ar (.int (Int32.ofInt i) :: sk_v E (vr k) :: st.map (sk_v E)))
  rw [sk_vr hG hR.2.1]
  refine va_aldq hF.1 hF.2.1 hF.2.2.2.2.2.2.2.2.1.1 hR.1 k 3 (sk_w_at hG) rfl (sk_vin hi.1 hi.2 hn) hd ?_
  dsimp only
  rw [sk_cn i hi.1 hi.2 hn, hr]
  exact k1
theorem AW_iast {k n : Nat} {i x : Int} (h : sk_find pc M.2.2.2.2 = some (pc0, .iastore, len, nxt, aux)) (hG : G[k]? = some (.inr (0, n))) (hi : 0 ≤ i ∧ i < n) (hn : n < 2147483648) (kk : AW l E d mc ms M nxt ls st G (sk_uI I k i x, L, J) Q) : AW l E d mc ms M pc ls (vi x :: vi i :: vr k :: st) G (I, L, J) Q := by
  intro hM p e R s m args below meth c H locs cells slots Qf ar hF hR hl hc hs hfin
  obtain ⟨hd, rfl, hA, hlen⟩ := sk_dec hM h
  obtain rfl : 1 = len := hlen.resolve_left (by simp [sk_il])
  show W p l e R s m args below meth c H locs cells slots Qf (F0 m pc ar (.int (Int32.ofInt x) :: .int (Int32.ofInt i) :: sk_v E (vr k) :: st.map (sk_v E)))
  rw [sk_vr hG hR.2.1]
  refine va_iast hF.1 hF.2.1 hF.2.2.2.2.2.2.2.2.1.1 hR.1 (sk_w_D E G (I, L, J)) hR.2.2 k 0 (sk_w_at hG) rfl (sk_vin hi.1 hi.2 hn) hd (fun H1 locs1 hP1 _ hS1 => ?_)
  rw [sk_w_set (σ' := (sk_uI I k i x, L, J)) hG ?_ (fun k' sh' hk => sk_cell_o sh' (sk_uI_o hk) rfl rfl)] at hP1
  · exact kk hM p e R s m args below meth c H1 locs1 cells slots Qf ar hF ⟨hP1, hR.2.1, hS1⟩ hl hc hs hfin
  · show Sum.inl _ = _
    congr 3
    show Sum.inl _ = _
    congr 1
    funext j
    have := sk_cn i hi.1 hi.2 hn
    simp only [sk_uI_s, sk_up, upd]
    by_cases hj : (j : Int) = i
    · rw [if_pos hj, if_pos (by omega)]
    · rw [if_neg hj, if_neg (by omega)]
theorem AW_zast {k n : Nat} {i x : Int} (h : sk_find pc M.2.2.2.2 = some (pc0, .bastore, len, nxt, aux)) (hG : G[k]? = some (.inr (1, n))) (hi : 0 ≤ i ∧ i < n) (hn : n < 2147483648) (hx : x = 0 ∨ x = 1) (kk : AW l E d mc ms M nxt ls st G (sk_uI I k i x, L, J) Q) : AW l E d mc ms M pc ls (vi x :: vi i :: vr k :: st) G (I, L, J) Q := by
  intro hM p e R s m args below meth c H locs cells slots Qf ar hF hR hl hc hs hfin
  obtain ⟨hd, rfl, hA, hlen⟩ := sk_dec hM h
  obtain rfl : 1 = len := hlen.resolve_left (by simp [sk_il])
  show W p l e R s m args below meth c H locs cells slots Qf (F0 m pc ar (.int (Int32.ofInt x) :: .int (Int32.ofInt i) :: sk_v E (vr k) :: st.map (sk_v E)))
  rw [sk_vr hG hR.2.1]
  refine va_zast hF.1 hF.2.1 hF.2.2.2.2.2.2.2.2.1.1 hR.1 (sk_w_D E G (I, L, J)) hR.2.2 k 1 (sk_w_at hG) rfl (sk_vin hi.1 hi.2 hn) hd (fun H1 locs1 hP1 _ hS1 => ?_)
  have hxn : vp_nar .boolean (Int32.ofInt x) = Int32.ofInt x := by rcases hx with rfl | rfl <;> rfl
  rw [hxn] at hP1
  rw [sk_w_set (σ' := (sk_uI I k i x, L, J)) hG ?_ (fun k' sh' hk => sk_cell_o sh' (sk_uI_o hk) rfl rfl)] at hP1
  · exact kk hM p e R s m args below meth c H1 locs1 cells slots Qf ar hF ⟨hP1, hR.2.1, hS1⟩ hl hc hs hfin
  · show Sum.inl _ = _
    congr 3
    show Sum.inl _ = _
    congr 1
    funext j
    have := sk_cn i hi.1 hi.2 hn
    simp only [sk_uI_s, sk_up, upd]
    by_cases hj : (j : Int) = i
    · rw [if_pos hj, if_pos (by omega)]
    · rw [if_neg hj, if_neg (by omega)]
theorem AW_last {k n : Nat} {i : Int} {x : Int64} (h : sk_find pc M.2.2.2.2 = some (pc0, .lastore, len, nxt, aux)) (hG : G[k]? = some (.inr (2, n))) (hi : 0 ≤ i ∧ i < n) (hn : n < 2147483648) (kk : AW l E d mc ms M nxt ls st G (I, sk_uL L k i x, J) Q) : AW l E d mc ms M pc ls (vl x :: vi i :: vr k :: st) G (I, L, J) Q := by
  intro hM p e R s m args below meth c H locs cells slots Qf ar hF hR hl hc hs hfin
  obtain ⟨hd, rfl, hA, hlen⟩ := sk_dec hM h
  obtain rfl : 1 = len := hlen.resolve_left (by simp [sk_il])
  show W p l e R s m args below meth c H locs cells slots Qf (F0 m pc ar (.long x :: .int (Int32.ofInt i) :: sk_v E (vr k) :: st.map (sk_v E)))
  rw [sk_vr hG hR.2.1]
  refine va_last hF.1 hF.2.1 hF.2.2.2.2.2.2.2.2.1.1 hR.1 (sk_w_D E G (I, L, J)) hR.2.2 k 2 (sk_w_at hG) rfl (sk_vin hi.1 hi.2 hn) hd (fun H1 locs1 hP1 _ hS1 => ?_)
  rw [sk_w_set (σ' := (I, sk_uL L k i x, J)) hG ?_ (fun k' sh' hk => sk_cell_o sh' rfl (sk_uL_o hk) rfl)] at hP1
  · exact kk hM p e R s m args below meth c H1 locs1 cells slots Qf ar hF ⟨hP1, hR.2.1, hS1⟩ hl hc hs hfin
  · show Sum.inl _ = _
    congr 3
    show Sum.inr (Sum.inl _) = _
    congr 2
    funext j
    have := sk_cn i hi.1 hi.2 hn
    simp only [sk_uL_s, sk_upL, vp_updL]
    by_cases hj : (j : Int) = i
    · rw [if_pos hj, if_pos (by omega)]
    · rw [if_neg hj, if_neg (by omega)]
theorem AW_alen {σ : sk_St} {k tc n : Nat} (h : sk_find pc M.2.2.2.2 = some (pc0, .arraylength, len, nxt, aux)) (hG : G[k]? = some (.inr (tc, n))) (htc : Nat.blt tc 4 = true) (kk : AW l E d mc ms M nxt ls (vi (n : Int) :: st) G σ Q) : AW l E d mc ms M pc ls (vr k :: st) G σ Q := by
  intro hM p e R s m args below meth c H locs cells slots Qf ar hF hR hl hc hs hfin
  obtain ⟨hd, rfl, hA, hlen⟩ := sk_dec hM h
  obtain rfl : 1 = len := hlen.resolve_left (by simp [sk_il])
  have k1 := kk hM p e R s m args below meth c H locs cells slots Qf ar hF hR hl hc hs hfin
  show W p l e R s m args below meth c H locs cells slots Qf (F0 m pc ar (sk_v E (vr k) :: st.map (sk_v E)))
  rw [sk_vr hG hR.2.1]
  have ht : ∃ ty, (sk_tys E)[tc]? = some (E.2.2.1 tc, ty) := by
    rw [Nat.blt_eq] at htc
    rcases (show tc = 0 ∨ tc = 1 ∨ tc = 2 ∨ tc = 3 by omega) with rfl | rfl | rfl | rfl <;> exact ⟨_, rfl⟩
  obtain ⟨ty, ht⟩ := ht
  exact va_alen hF.1 hF.2.1 hF.2.2.2.2.2.2.2.2.1.1 hR.1 k tc (sk_w_at hG) ht (v := Int32.ofInt (n : Int)) (Int32.ofInt_eq_ofNat ▸ rfl) hd k1
end SKH
end
section
/-! ===== stores into locals ===== -/
def sk_k1 : Option sk_V → Option sk_V
  | some (.inr (.inl _)) => none
  | a => a
def sk_ls : List (Option sk_V) → Nat → sk_V → List (Option sk_V)
  | [], _, _ => []
  | _ :: r, 0, v => some v :: r
  | a :: r, 1, v => sk_k1 a :: sk_ls r 0 v
  | a :: r, n + 2, v => a :: sk_ls r (n + 1) v
def sk_lsL : List (Option sk_V) → Nat → sk_V → List (Option sk_V)
  | [], _, _ => []
  | [_], 0, v => [some v]
  | _ :: _ :: r, 0, v => some v :: none :: r
  | a :: r, 1, v => sk_k1 a :: sk_lsL r 0 v
  | a :: r, n + 2, v => a :: sk_lsL r (n + 1) v
theorem sk_k1_e {a : Option sk_V} {w : sk_V} (h : sk_k1 a = some w) : a = some w ∧ sk_is1 w = true := by
  match a with
  | none => cases h
  | some (.inl i) => cases h; exact ⟨rfl, rfl⟩
  | some (.inr (.inl x)) => cases h
  | some (.inr (.inr r)) => cases h; exact ⟨rfl, rfl⟩
theorem sk_ls_get : ∀ (ls : List (Option sk_V)) (i : Nat) (v : sk_V) (k : Nat) (w : sk_V), (sk_ls ls i v)[k]? = some (some w) → (k = i ∧ w = v) ∨ (k ≠ i ∧ ls[k]? = some (some w) ∧ (k + 1 = i → sk_is1 w = true))
  | [], i, v, k, w, h => by simp [sk_ls] at h
  | a :: r, 0, v, 0, w, h => by simp [sk_ls] at h; exact Or.inl ⟨rfl, h.symm⟩
  | a :: r, 0, v, k + 1, w, h => by simp [sk_ls] at h; exact Or.inr ⟨by omega, by simpa using h, fun e => by omega⟩
  | a :: r, 1, v, 0, w, h => by
    simp [sk_ls] at h
    have := sk_k1_e h
    exact Or.inr ⟨by omega, by simp [this.1], fun _ => this.2⟩
  | a :: r, 1, v, k + 1, w, h => by
    simp only [sk_ls, List.getElem?_cons_succ] at h
    rcases sk_ls_get r 0 v k w h with ⟨h1, h2⟩ | ⟨h1, h2, h3⟩
    · exact Or.inl ⟨by omega, h2⟩
    · exact Or.inr ⟨by omega, by simpa using h2, fun e => by omega⟩
  | a :: r, n + 2, v, 0, w, h => by
    simp [sk_ls] at h
    exact Or.inr ⟨by omega, by simp [h], fun e => by omega⟩
  | a :: r, n + 2, v, k + 1, w, h => by
    simp only [sk_ls, List.getElem?_cons_succ] at h
    rcases sk_ls_get r (n + 1) v k w h with ⟨h1, h2⟩ | ⟨h1, h2, h3⟩
    · exact Or.inl ⟨by omega, h2⟩
    · exact Or.inr ⟨by omega, by simpa using h2, fun e => h3 (by omega)⟩
theorem sk_lsL_get : ∀ (ls : List (Option sk_V)) (i : Nat) (v : sk_V) (k : Nat) (w : sk_V), (sk_lsL ls i v)[k]? = some (some w) → (k = i ∧ w = v) ∨ (k ≠ i ∧ k ≠ i + 1 ∧ ls[k]? = some (some w) ∧ (k + 1 = i → sk_is1 w = true))
  | [], i, v, k, w, h => by simp [sk_lsL] at h
  | [a], 0, v, 0, w, h => by simp [sk_lsL] at h; exact Or.inl ⟨rfl, h.symm⟩
  | [a], 0, v, k + 1, w, h => by simp [sk_lsL] at h
  | a :: b :: r, 0, v, 0, w, h => by simp [sk_lsL] at h; exact Or.inl ⟨rfl, h.symm⟩
  | a :: b :: r, 0, v, 1, w, h => by simp [sk_lsL] at h
  | a :: b :: r, 0, v, k + 2, w, h => by simp [sk_lsL] at h; exact Or.inr ⟨by omega, by omega, by simpa using h, fun e => by omega⟩
  | a :: r, 1, v, 0, w, h => by
    simp [sk_lsL] at h
    have := sk_k1_e h
    exact Or.inr ⟨by omega, by omega, by simp [this.1], fun _ => this.2⟩
  | a :: r, 1, v, k + 1, w, h => by
    simp only [sk_lsL, List.getElem?_cons_succ] at h
    rcases sk_lsL_get r 0 v k w h with ⟨h1, h2⟩ | ⟨h1, h0, h2, h3⟩
    · exact Or.inl ⟨by omega, h2⟩
    · exact Or.inr ⟨by omega, by omega, by simpa using h2, fun e => by omega⟩
  | a :: r, n + 2, v, 0, w, h => by
    simp [sk_lsL] at h
    exact Or.inr ⟨by omega, by omega, by simp [h], fun e => by omega⟩
  | a :: r, n + 2, v, k + 1, w, h => by
    simp only [sk_lsL, List.getElem?_cons_succ] at h
    rcases sk_lsL_get r (n + 1) v k w h with ⟨h1, h2⟩ | ⟨h1, h0, h2, h3⟩
    · exact Or.inl ⟨by omega, h2⟩
    · exact Or.inr ⟨by omega, by omega, by simpa using h2, fun e => h3 (by omega)⟩
theorem sk_ls_has {E : sk_En} {ar : Array Slot} {n i : Nat} {ls : List (Option sk_V)} {v : sk_V} (h : lv_has ar n ((i, sk_v E v) :: (sk_lv E 0 ls).filter (fun q => !(q.1 == i) && !(q.1 + 1 == i && q.2.category == 2)))) : lv_has ar n (sk_lv E 0 (sk_ls ls i v)) := by
  refine ⟨h.1, h.2.1, fun q hq => h.2.2 q ?_⟩
  obtain ⟨k, w, rfl, hk⟩ := sk_mem_at E _ 0 q hq
  rcases sk_ls_get ls i v k w hk with ⟨h1, h2⟩ | ⟨h1, h2, h3⟩
  · subst h1; subst h2; simp
  · refine List.mem_cons_of_mem _ (List.mem_filter.mpr ⟨sk_at_mem E ls 0 k w h2, ?_⟩)
    by_cases hi : k + 1 = i
    · simp [h1, sk_cat1 E w (h3 hi)]
    · simp [h1, hi]
theorem sk_lsL_has {E : sk_En} {ar : Array Slot} {n i : Nat} {ls : List (Option sk_V)} {v : sk_V} (h : lv_has ar n ((i, sk_v E v) :: (sk_lv E 0 ls).filter (fun q => !(q.1 == i) && (!(q.1 == i + 1) && !(q.1 + 1 == i && q.2.category == 2))))) : lv_has ar n (sk_lv E 0 (sk_lsL ls i v)) := by
  refine ⟨h.1, h.2.1, fun q hq => h.2.2 q ?_⟩
  obtain ⟨k, w, rfl, hk⟩ := sk_mem_at E _ 0 q hq
  rcases sk_lsL_get ls i v k w hk with ⟨h1, h2⟩ | ⟨h1, h0, h2, h3⟩
  · subst h1; subst h2; simp
  · refine List.mem_cons_of_mem _ (List.mem_filter.mpr ⟨sk_at_mem E ls 0 k w h2, ?_⟩)
    by_cases hi : k + 1 = i
    · simp [h1, h0, sk_cat1 E w (h3 hi)]
    · simp [h1, h0, hi]
section SKL
variable {l : Launch} {E : sk_En} {d mc ms : Nat} {M : sk_M} {pc pc0 len nxt : Nat} {aux : List Nat} {ls : List (Option sk_V)} {st : List sk_V} {G : List sk_Sh} {σ : sk_St} {Q : Option sk_V → List sk_Sh → sk_St → Prop}
theorem AW_istore_n {n : Fin 4} {a : Int} (h : sk_find pc M.2.2.2.2 = some (pc0, (.istore_n n), len, nxt, aux)) (hn : (n : Nat) < M.2.2.1) (k : AW l E d mc ms M nxt (sk_ls ls n (vi a)) st G σ Q) : AW l E d mc ms M pc ls (vi a :: st) G σ Q := by
  intro hM p e R s m args below meth c H locs cells slots Qf ar hF hR hl hc hs hfin
  obtain ⟨hd, rfl, hA, hlen⟩ := sk_dec hM h
  obtain rfl : 1 = len := hlen.resolve_left (by simp [sk_il])
  exact lv_istore_n hF.1 hF.2.1 hd rfl hl hn rfl (fun ar1 hl1 => k hM p e R s m args below meth c H locs cells slots Qf ar1 hF hR (sk_ls_has (v := vi a) hl1) hc hs hfin)
theorem AW_istore {n : Nat} {a : Int} (h : sk_find pc M.2.2.2.2 = some (pc0, (.istore n), len, nxt, aux)) (hn : n < M.2.2.1) (k : AW l E d mc ms M nxt (sk_ls ls n (vi a)) st G σ Q) : AW l E d mc ms M pc ls (vi a :: st) G σ Q := by
  intro hM p e R s m args below meth c H locs cells slots Qf ar hF hR hl hc hs hfin
  obtain ⟨hd, rfl, hA, hlen⟩ := sk_dec hM h
  obtain rfl : 2 = len := hlen.resolve_left (by simp [sk_il])
  exact lv_istore hF.1 hF.2.1 hd hl hn rfl (fun ar1 hl1 => k hM p e R s m args below meth c H locs cells slots Qf ar1 hF hR (sk_ls_has (v := vi a) hl1) hc hs hfin)
theorem AW_astore_n {n : Fin 4} {a : Nat} (h : sk_find pc M.2.2.2.2 = some (pc0, (.astore_n n), len, nxt, aux)) (hn : (n : Nat) < M.2.2.1) (k : AW l E d mc ms M nxt (sk_ls ls n (vr a)) st G σ Q) : AW l E d mc ms M pc ls (vr a :: st) G σ Q := by
  intro hM p e R s m args below meth c H locs cells slots Qf ar hF hR hl hc hs hfin
  obtain ⟨hd, rfl, hA, hlen⟩ := sk_dec hM h
  obtain rfl : 1 = len := hlen.resolve_left (by simp [sk_il])
  exact lv_astore_n hF.1 hF.2.1 hd rfl hl hn rfl (fun ar1 hl1 => k hM p e R s m args below meth c H locs cells slots Qf ar1 hF hR (sk_ls_has (v := vr a) hl1) hc hs hfin)
theorem AW_astore {n : Nat} {a : Nat} (h : sk_find pc M.2.2.2.2 = some (pc0, (.astore n), len, nxt, aux)) (hn : n < M.2.2.1) (k : AW l E d mc ms M nxt (sk_ls ls n (vr a)) st G σ Q) : AW l E d mc ms M pc ls (vr a :: st) G σ Q := by
  intro hM p e R s m args below meth c H locs cells slots Qf ar hF hR hl hc hs hfin
  obtain ⟨hd, rfl, hA, hlen⟩ := sk_dec hM h
  obtain rfl : 2 = len := hlen.resolve_left (by simp [sk_il])
  exact lv_astore hF.1 hF.2.1 hd hl hn rfl (fun ar1 hl1 => k hM p e R s m args below meth c H locs cells slots Qf ar1 hF hR (sk_ls_has (v := vr a) hl1) hc hs hfin)
theorem AW_lstore_n {n : Fin 4} {a : Int64} (h : sk_find pc M.2.2.2.2 = some (pc0, (.lstore_n n), len, nxt, aux)) (hn : (n : Nat) + 1 < M.2.2.1) (k : AW l E d mc ms M nxt (sk_lsL ls n (vl a)) st G σ Q) : AW l E d mc ms M pc ls (vl a :: st) G σ Q := by
  intro hM p e R s m args below meth c H locs cells slots Qf ar hF hR hl hc hs hfin
  obtain ⟨hd, rfl, hA, hlen⟩ := sk_dec hM h
  obtain rfl : 1 = len := hlen.resolve_left (by simp [sk_il])
  exact lv_lstore_n hF.1 hF.2.1 hd rfl hl hn rfl (fun ar1 hl1 => k hM p e R s m args below meth c H locs cells slots Qf ar1 hF hR (sk_lsL_has (v := vl a) hl1) hc hs hfin)
theorem AW_lstore {n : Nat} {a : Int64} (h : sk_find pc M.2.2.2.2 = some (pc0, (.lstore n), len, nxt, aux)) (hn : n + 1 < M.2.2.1) (k : AW l E d mc ms M nxt (sk_lsL ls n (vl a)) st G σ Q) : AW l E d mc ms M pc ls (vl a :: st) G σ Q := by
  intro hM p e R s m args below meth c H locs cells slots Qf ar hF hR hl hc hs hfin
  obtain ⟨hd, rfl, hA, hlen⟩ := sk_dec hM h
  obtain rfl : 2 = len := hlen.resolve_left (by simp [sk_il])
  exact lv_lstore hF.1 hF.2.1 hd hl hn rfl (fun ar1 hl1 => k hM p e R s m args below meth c H locs cells slots Qf ar1 hF hR (sk_lsL_has (v := vl a) hl1) hc hs hfin)
theorem AW_iinc {n : Nat} {a x : Int} (h : sk_find pc M.2.2.2.2 = some (pc0, (.iinc n x), len, nxt, aux)) (hk : ls[n]? = some (some (vi a))) (hn : n < M.2.2.1) (k : AW l E d mc ms M nxt (sk_ls ls n (vi (a + x))) st G σ Q) : AW l E d mc ms M pc ls st G σ Q := by
  intro hM p e R s m args below meth c H locs cells slots Qf ar hF hR hl hc hs hfin
  obtain ⟨hd, rfl, hA, hlen⟩ := sk_dec hM h
  obtain rfl : 3 = len := hlen.resolve_left (by simp [sk_il])
  obtain ⟨i, hi⟩ := List.getElem?_of_mem (sk_at_mem E ls 0 n (vi a) hk)
  rw [Nat.zero_add] at hi
  exact lv_iinc hF.1 hF.2.1 hd hl hi (sk_io_add a x) hn rfl (fun ar1 hl1 => k hM p e R s m args below meth c H locs cells slots Qf ar1 hF hR (sk_ls_has (v := vi (a + x)) hl1) hc hs hfin)
/-- fewer locals known -/
theorem AW_less {ls' : List (Option sk_V)} (hs : ∀ (k : Nat) (v : sk_V), ls'[k]? = some (some v) → ls[k]? = some (some v)) (k : AW l E d mc ms M pc ls' st G σ Q) : AW l E d mc ms M pc ls st G σ Q := by
  intro hM p e R s m args below meth c H locs cells slots Qf ar hF hR hl hc hs1 hfin
  refine k hM p e R s m args below meth c H locs cells slots Qf ar hF hR ⟨hl.1, hl.2.1, fun q hq => ?_⟩ hc hs1 hfin
  obtain ⟨j, v, rfl, hj⟩ := sk_mem_at E _ 0 q hq
  exact hl.2.2 _ (sk_at_mem E ls 0 j v (hs j v hj))
theorem AW_mono {d' : Nat} (hd : d' ≤ d) (k : AW l E d' mc ms M pc ls st G σ Q) : AW l E d mc ms M pc ls st G σ Q := by
  intro hM p e R s m args below meth c H locs cells slots Qf ar hF hR hl hc hs hfin
  obtain ⟨h1, h2, h3, h4, h5, h6, h7, h8, h9, h10, h11⟩ := hF
  exact k hM p e R s m args below meth c H locs cells slots Qf ar ⟨h1, h2, h3, h4, h5, h6, h7, h8, h9, by omega, by omega⟩ hR hl hc hs hfin
theorem AW_post {Q' : Option sk_V → List sk_Sh → sk_St → Prop} (hQ : ∀ v G' σ', Q' v G' σ' → Q v G' σ') (k : AW l E d mc ms M pc ls st G σ Q') : AW l E d mc ms M pc ls st G σ Q := by
  intro hM p e R s m args below meth c H locs cells slots Qf ar hF hR hl hc hs hfin
  exact k hM p e R s m args below meth c H locs cells slots Qf ar hF hR hl hc hs (fun v G' σ' pc' ar' H' locs' slots' q => hfin v G' σ' pc' ar' H' locs' slots' (hQ v G' σ' q))
end SKL
/-! ===== many instructions at once, by computation ===== -/
abbrev sk_X : Type := Nat × List (Option sk_V) × List sk_V × sk_St
def sk_fo {β : Type} : List (Option sk_V) → (List (Option sk_V) → β) → β
  | [], k => k []
  | a :: r, k => match a with
    | none => sk_fo r (fun r' => k (none :: r'))
    | some v => sk_fo r (fun r' => k (some v :: r'))
theorem sk_fo_eq {β : Type} : ∀ (ls : List (Option sk_V)) (k : List (Option sk_V) → β), sk_fo ls k = k ls
  | [], _ => rfl
  | none :: r, _ => sk_fo_eq r _
  | some _ :: r, _ => sk_fo_eq r _
def sk_gt : List (Option sk_V) → Nat → Option sk_V
  | [], _ => none
  | a :: _, 0 => a
  | _ :: r, n + 1 => sk_gt r n
theorem sk_gt_eq : ∀ (ls : List (Option sk_V)) (n : Nat) (v : sk_V), sk_gt ls n = some v → ls[n]? = some (some v)
  | [], _, _, h => by cases h
  | a :: _, 0, v, h => by simp [sk_gt] at h; simp [h]
  | _ :: r, n + 1, v, h => by simpa using sk_gt_eq r n v h
def sk_gs : List sk_Sh → Nat → Option sk_Sh
  | [], _ => none
  | a :: _, 0 => some a
  | _ :: r, n + 1 => sk_gs r n
theorem sk_gs_eq : ∀ (ls : List sk_Sh) (n : Nat) (v : sk_Sh), sk_gs ls n = some v → ls[n]? = some v
  | [], _, _, h => by cases h
  | a :: _, 0, v, h => by simpa [sk_gs] using h
  | _ :: r, n + 1, v, h => by simpa using sk_gs_eq r n v h
def sk_fj {β : Type} (j : Nat) (k : Int → β) : β := match j with
  | 0 => k 0
  | 1 => k 1
  | 2 => k 2
  | 3 => k 3
  | 4 => k 4
  | 5 => k 5
  | 6 => k 6
  | 7 => k 7
  | 8 => k 8
  | 9 => k 9
  | 10 => k 10
  | 11 => k 11
  | 12 => k 12
  | 13 => k 13
  | 14 => k 14
  | 15 => k 15
  | 16 => k 16
  | 17 => k 17
  | 18 => k 18
  | 19 => k 19
  | 20 => k 20
  | 21 => k 21
  | 22 => k 22
  | 23 => k 23
  | 24 => k 24
  | 25 => k 25
  | 26 => k 26
  | 27 => k 27
  | 28 => k 28
  | 29 => k 29
  | 30 => k 30
  | 31 => k 31
  | 32 => k 32
  | 33 => k 33
  | 34 => k 34
  | 35 => k 35
  | 36 => k 36
  | 37 => k 37
  | 38 => k 38
  | 39 => k 39
  | 40 => k 40
  | 41 => k 41
  | 42 => k 42
  | 43 => k 43
  | 44 => k 44
  | 45 => k 45
  | 46 => k 46
  | 47 => k 47
  | 48 => k 48
  | 49 => k 49
  | 50 => k 50
  | 51 => k 51
  | 52 => k 52
  | 53 => k 53
  | 54 => k 54
  | 55 => k 55
  | 56 => k 56
  | 57 => k 57
  | 58 => k 58
  | 59 => k 59
  | 60 => k 60
  | 61 => k 61
  | 62 => k 62
  | 63 => k 63
  | 64 => k 64
  | 65 => k 65
  | 66 => k 66
  | 67 => k 67
  | 68 => k 68
  | 69 => k 69
  | 70 => k 70
  | 71 => k 71
  | n => k n
theorem sk_fj_eq {β : Type} (j : Nat) (k : Int → β) : sk_fj j k = k j := by
  unfold sk_fj
  split <;> rfl
/-- one simple instruction -/
def sk_s1 (G : List sk_Sh) (nL nxt : Nat) (aux : List Nat) (ls : List (Option sk_V)) (st : List sk_V) (σ : sk_St) : Instr → Option sk_X
  | .iconst n => some (nxt, ls, vi n :: st, σ)
  | .bipush n => some (nxt, ls, vi n :: st, σ)
  | .sipush n => some (nxt, ls, vi n :: st, σ)
  | .lconst n => some (nxt, ls, vl (Int64.ofNat (n : Nat)) :: st, σ)
  | .iload_n n => match sk_gt ls n with | some (.inl a) => some (nxt, ls, vi a :: st, σ) | _ => none
  | .iload n => match sk_gt ls n with | some (.inl a) => some (nxt, ls, vi a :: st, σ) | _ => none
  | .lload_n n => match sk_gt ls n with | some (.inr (.inl a)) => some (nxt, ls, vl a :: st, σ) | _ => none
  | .lload n => match sk_gt ls n with | some (.inr (.inl a)) => some (nxt, ls, vl a :: st, σ) | _ => none
  | .aload_n n => match sk_gt ls n with | some (.inr (.inr (some a))) => some (nxt, ls, vr a :: st, σ) | _ => none
  | .aload n => match sk_gt ls n with | some (.inr (.inr (some a))) => some (nxt, ls, vr a :: st, σ) | _ => none
  | .istore_n n => match st with | .inl a :: r => bif Nat.blt n nL then sk_fo (sk_ls ls n (vi a)) fun ls' => some (nxt, ls', r, σ) else none | _ => none
  | .istore n => match st with | .inl a :: r => bif Nat.blt n nL then sk_fo (sk_ls ls n (vi a)) fun ls' => some (nxt, ls', r, σ) else none | _ => none
  | .astore_n n => match st with | .inr (.inr (some a)) :: r => bif Nat.blt n nL then sk_fo (sk_ls ls n (vr a)) fun ls' => some (nxt, ls', r, σ) else none | _ => none
  | .astore n => match st with | .inr (.inr (some a)) :: r => bif Nat.blt n nL then sk_fo (sk_ls ls n (vr a)) fun ls' => some (nxt, ls', r, σ) else none | _ => none
  | .lstore_n n => match st with | .inr (.inl a) :: r => bif Nat.blt (n + 1) nL then sk_fo (sk_lsL ls n (vl a)) fun ls' => some (nxt, ls', r, σ) else none | _ => none
  | .lstore n => match st with | .inr (.inl a) :: r => bif Nat.blt (n + 1) nL then sk_fo (sk_lsL ls n (vl a)) fun ls' => some (nxt, ls', r, σ) else none | _ => none
  | .iinc n x => match sk_gt ls n with | some (.inl a) => bif Nat.blt n nL then sk_fo (sk_ls ls n (vi (a + x))) fun ls' => some (nxt, ls', st, σ) else none | _ => none
  | .iadd => match st with | .inl b :: .inl a :: r => some (nxt, ls, vi (a + b) :: r, σ) | _ => none
  | .isub => match st with | .inl b :: .inl a :: r => some (nxt, ls, vi (a - b) :: r, σ) | _ => none
  | .imul => match st with | .inl b :: .inl a :: r => some (nxt, ls, vi (a * b) :: r, σ) | _ => none
  | .iand => match st with | .inl b :: .inl a :: r => some (nxt, ls, vi (sk_and a b) :: r, σ) | _ => none
  | .ior => match st with | .inl b :: .inl a :: r => some (nxt, ls, vi (sk_or a b) :: r, σ) | _ => none
  | .ishr => match st with | .inl b :: .inl a :: r => some (nxt, ls, vi (sk_shr a b) :: r, σ) | _ => none
  | .iushr => match st with | .inl b :: .inl a :: r => some (nxt, ls, vi (sk_ushr a b) :: r, σ) | _ => none
  | .lsub => match st with | .inr (.inl b) :: .inr (.inl a) :: r => some (nxt, ls, vl (a - b) :: r, σ) | _ => none
  | .lmul => match st with | .inr (.inl b) :: .inr (.inl a) :: r => some (nxt, ls, vl (a * b) :: r, σ) | _ => none
  | .land => match st with | .inr (.inl b) :: .inr (.inl a) :: r => some (nxt, ls, vl (a &&& b) :: r, σ) | _ => none
  | .lor => match st with | .inr (.inl b) :: .inr (.inl a) :: r => some (nxt, ls, vl (a ||| b) :: r, σ) | _ => none
  | .lxor => match st with | .inr (.inl b) :: .inr (.inl a) :: r => some (nxt, ls, vl (a ^^^ b) :: r, σ) | _ => none
  | .lshl => match st with | .inl b :: .inr (.inl a) :: r => some (nxt, ls, vl (sk_lshl a b) :: r, σ) | _ => none
  | .lushr => match st with | .inl b :: .inr (.inl a) :: r => some (nxt, ls, vl (sk_lushr a b) :: r, σ) | _ => none
  | .i2l => match st with | .inl a :: r => some (nxt, ls, vl (sk_i2l a) :: r, σ) | _ => none
  | .l2i => match st with | .inr (.inl a) :: r => some (nxt, ls, vi a.toInt32.toInt :: r, σ) | _ => none
  | .lcmp => match st with | .inr (.inl b) :: .inr (.inl a) :: r => some (nxt, ls, vi (lg_cmp a b).toInt :: r, σ) | _ => none
  | .dup => match st with | .inl a :: r => some (nxt, ls, vi a :: vi a :: r, σ) | .inr (.inr (some a)) :: r => some (nxt, ls, vr a :: vr a :: r, σ) | _ => none
  | .dup2 => match st with | .inl a :: .inr (.inr (some b)) :: r => some (nxt, ls, vi a :: vr b :: vi a :: vr b :: r, σ) | _ => none
  | .pop => match st with | .inl _ :: r => some (nxt, ls, r, σ) | .inr (.inr (some _)) :: r => some (nxt, ls, r, σ) | _ => none
  | .goto _ => match aux with | [t] => some (t, ls, st, σ) | _ => none
  | .getfield _ => match st with
    | .inr (.inr (some k)) :: r => match aux with
      | [ci, j, _, tc] => match sk_gs G k with
        | some (.inl ci') => bif Nat.beq ci' ci then (match σ with | (I, L, J) => bif Nat.beq tc 3 then (match J k j with | some q => some (nxt, ls, vr q :: r, (I, L, J)) | none => none) else sk_fj j fun ji => some (nxt, ls, vi (I k ji) :: r, (I, L, J))) else none
        | _ => none
      | _ => none
    | _ => none
  | .putfield _ => match st with
    | v :: .inr (.inr (some k)) :: r => match aux with
      | [ci, j, _, tc] => match sk_gs G k with
        | some (.inl ci') => bif Nat.beq ci' ci then (match σ with | (I, L, J) => (match v with
          | .inl x => bif Nat.beq tc 0 then sk_fj j fun ji => some (nxt, ls, r, (sk_uI I k ji x, L, J)) else none
          | .inr (.inr (some x)) => bif Nat.beq tc 3 then sk_fj j fun ji => some (nxt, ls, r, (I, L, sk_uR J k ji (some x))) else none
          | _ => none)) else none
        | _ => none
      | _ => none
    | _ => none
  | .arraylength => match st with
    | .inr (.inr (some k)) :: r => match sk_gs G k with
      | some (.inr (tc, n)) => bif Nat.blt tc 4 then some (nxt, ls, vi (n : Int) :: r, σ) else none
      | _ => none
    | _ => none
  | _ => none
def sk_run (G : List sk_Sh) (M : sk_M) : Nat → Nat → List (Option sk_V) → List sk_V → sk_St → Option sk_X
  | 0, pc, ls, st, σ => some (pc, ls, st, σ)
  | n + 1, pc, ls, st, σ => match sk_find pc M.2.2.2.2 with
    | none => some (pc, ls, st, σ)
    | some (_, ins, _, nxt, aux) => match sk_s1 G M.2.2.1 nxt aux ls st σ ins with
      | none => some (pc, ls, st, σ)
      | some (pc', ls', st', σ') => sk_run G M n pc' ls' st' σ'
end
section
/-! ===== the computed steps are steps ===== -/
section SKS
variable {l : Launch} {E : sk_En} {d mc ms : Nat} {M : sk_M} {pc pc0 len nxt pc' : Nat} {aux : List Nat} {ls ls' : List (Option sk_V)} {st st' : List sk_V} {G : List sk_Sh} {σ σ' : sk_St} {Q : Option sk_V → List sk_Sh → sk_St → Prop}
set_option maxHeartbeats 4000000 in
theorem sk_s1_ok {ins : Instr} (h : sk_find pc M.2.2.2.2 = some (pc0, ins, len, nxt, aux)) (hs : sk_s1 G M.2.2.1 nxt aux ls st σ ins = some (pc', ls', st', σ')) (k : AW l E d mc ms M pc' ls' st' G σ' Q) : AW l E d mc ms M pc ls st G σ Q := by
  cases ins
  case iconst n =>
    cases hs
    exact AW_iconst h k
  case bipush n =>
    cases hs
    exact AW_bipush h k
  case sipush n =>
    cases hs
    exact AW_sipush h k
  case lconst n =>
    cases hs
    exact AW_lconst h k
  case iload_n n =>
    simp only [sk_s1] at hs
    split at hs
    · rename_i hg; cases hs; exact AW_iload_n h (sk_gt_eq _ _ _ hg) k
    · cases hs
  case iload n =>
    simp only [sk_s1] at hs
    split at hs
    · rename_i hg; cases hs; exact AW_iload h (sk_gt_eq _ _ _ hg) k
    · cases hs
  case lload_n n =>
    simp only [sk_s1] at hs
    split at hs
    · rename_i hg; cases hs; exact AW_lload_n h (sk_gt_eq _ _ _ hg) k
    · cases hs
  case lload n =>
    simp only [sk_s1] at hs
    split at hs
    · rename_i hg; cases hs; exact AW_lload h (sk_gt_eq _ _ _ hg) k
    · cases hs
  case aload_n n =>
    simp only [sk_s1] at hs
    split at hs
    · rename_i hg; cases hs; exact AW_aload_n h (sk_gt_eq _ _ _ hg) k
    · cases hs
  case aload n =>
    simp only [sk_s1] at hs
    split at hs
    · rename_i hg; cases hs; exact AW_aload h (sk_gt_eq _ _ _ hg) k
    · cases hs
  case istore_n n =>
    simp only [sk_s1] at hs
    split at hs
    · rw [sk_fo_eq] at hs
      cases hb : Nat.blt (n : Nat) M.2.2.1 with
      | true => rw [hb] at hs; cases hs; exact AW_istore_n h (by simpa [Nat.blt_eq] using hb) k
      | false => rw [hb] at hs; cases hs
    · cases hs
  case istore n =>
    simp only [sk_s1] at hs
    split at hs
    · rw [sk_fo_eq] at hs
      cases hb : Nat.blt (n : Nat) M.2.2.1 with
      | true => rw [hb] at hs; cases hs; exact AW_istore h (by simpa [Nat.blt_eq] using hb) k
      | false => rw [hb] at hs; cases hs
    · cases hs
  case astore_n n =>
    simp only [sk_s1] at hs
    split at hs
    · rw [sk_fo_eq] at hs
      cases hb : Nat.blt (n : Nat) M.2.2.1 with
      | true => rw [hb] at hs; cases hs; exact AW_astore_n h (by simpa [Nat.blt_eq] using hb) k
      | false => rw [hb] at hs; cases hs
    · cases hs
  case astore n =>
    simp only [sk_s1] at hs
    split at hs
    · rw [sk_fo_eq] at hs
      cases hb : Nat.blt (n : Nat) M.2.2.1 with
      | true => rw [hb] at hs; cases hs; exact AW_astore h (by simpa [Nat.blt_eq] using hb) k
      | false => rw [hb] at hs; cases hs
    · cases hs
  case lstore_n n =>
    simp only [sk_s1] at hs
    split at hs
    · rw [sk_fo_eq] at hs
      cases hb : Nat.blt (n + 1 : Nat) M.2.2.1 with
      | true => rw [hb] at hs; cases hs; exact AW_lstore_n h (by simpa [Nat.blt_eq] using hb) k
      | false => rw [hb] at hs; cases hs
    · cases hs
  case lstore n =>
    simp only [sk_s1] at hs
    split at hs
    · rw [sk_fo_eq] at hs
      cases hb : Nat.blt (n + 1 : Nat) M.2.2.1 with
      | true => rw [hb] at hs; cases hs; exact AW_lstore h (by simpa [Nat.blt_eq] using hb) k
      | false => rw [hb] at hs; cases hs
    · cases hs
  case iinc n x =>
    simp only [sk_s1] at hs
    split at hs
    · rename_i hg; rw [sk_fo_eq] at hs
      cases hb : Nat.blt n M.2.2.1 with
      | true => rw [hb] at hs; cases hs; exact AW_iinc h (sk_gt_eq _ _ _ hg) (by simpa [Nat.blt_eq] using hb) k
      | false => rw [hb] at hs; cases hs
    · cases hs
  case iadd =>
    simp only [sk_s1] at hs
    split at hs
    · cases hs; exact AW_iadd h k
    · cases hs
  case isub =>
    simp only [sk_s1] at hs
    split at hs
    · cases hs; exact AW_isub h k
    · cases hs
  case imul =>
    simp only [sk_s1] at hs
    split at hs
    · cases hs; exact AW_imul h k
    · cases hs
  case iand =>
    simp only [sk_s1] at hs
    split at hs
    · cases hs; exact AW_iand h k
    · cases hs
  case ior =>
    simp only [sk_s1] at hs
    split at hs
    · cases hs; exact AW_ior h k
    · cases hs
  case ishr =>
    simp only [sk_s1] at hs
    split at hs
    · cases hs; exact AW_ishr h k
    · cases hs
  case iushr =>
    simp only [sk_s1] at hs
    split at hs
    · cases hs; exact AW_iushr h k
    · cases hs
  case lsub =>
    simp only [sk_s1] at hs
    split at hs
    · cases hs; exact AW_lsub h k
    · cases hs
  case lmul =>
    simp only [sk_s1] at hs
    split at hs
    · cases hs; exact AW_lmul h k
    · cases hs
  case land =>
    simp only [sk_s1] at hs
    split at hs
    · cases hs; exact AW_land h k
    · cases hs
  case lor =>
    simp only [sk_s1] at hs
    split at hs
    · cases hs; exact AW_lor h k
    · cases hs
  case lxor =>
    simp only [sk_s1] at hs
    split at hs
    · cases hs; exact AW_lxor h k
    · cases hs
  case lshl =>
    simp only [sk_s1] at hs
    split at hs
    · cases hs; exact AW_lshl h k
    · cases hs
  case lushr =>
    simp only [sk_s1] at hs
    split at hs
    · cases hs; exact AW_lushr h k
    · cases hs
  case i2l =>
    simp only [sk_s1] at hs
    split at hs
    · cases hs; exact AW_i2l h k
    · cases hs
  case l2i =>
    simp only [sk_s1] at hs
    split at hs
    · cases hs; exact AW_l2i h k
    · cases hs
  case lcmp =>
    simp only [sk_s1] at hs
    split at hs
    · cases hs; exact AW_lcmp h k
    · cases hs
  case dup =>
    simp only [sk_s1] at hs
    split at hs
    · cases hs; exact AW_dup h rfl k
    · cases hs; exact AW_dup h rfl k
    · cases hs
  case dup2 =>
    simp only [sk_s1] at hs
    split at hs
    · cases hs; exact AW_dup2 h rfl rfl k
    · cases hs
  case pop =>
    simp only [sk_s1] at hs
    split at hs
    · cases hs; exact AW_pop h rfl k
    · cases hs; exact AW_pop h rfl k
    · cases hs
  case goto off =>
    simp only [sk_s1] at hs
    split at hs
    · cases hs; exact AW_goto h k
    · cases hs
  case getfield idx =>
    simp only [sk_s1] at hs
    split at hs
    · split at hs
      · split at hs
        · rename_i ci j q tc _ ci2 hg
          cases hb : Nat.beq ci2 ci with
          | false => rw [hb] at hs; cases hs
          | true =>
            rw [hb] at hs
            have := Nat.eq_of_beq_eq_true hb
            subst this
            obtain ⟨I, L, J⟩ := σ
            cases ht : Nat.beq tc 3 with
            | false =>
              simp only [ht, cond_true, cond_false, sk_fj_eq] at hs
              cases hs
              exact AW_getI h (sk_gs_eq _ _ _ hg) ht k
            | true =>
              simp only [ht, cond_true] at hs
              split at hs
              · rename_i hj; cases hs; exact AW_getR h (sk_gs_eq _ _ _ hg) ht (by rw [hj]; exact k)
              · cases hs
        · cases hs
      · cases hs
    · cases hs
  case putfield idx =>
    simp only [sk_s1] at hs
    split at hs
    · split at hs
      · split at hs
        · rename_i ci j q tc _ ci2 hg
          cases hb : Nat.beq ci2 ci with
          | false => rw [hb] at hs; cases hs
          | true =>
            rw [hb] at hs
            have := Nat.eq_of_beq_eq_true hb
            subst this
            obtain ⟨I, L, J⟩ := σ
            simp only [cond_true] at hs
            split at hs
            · cases ht : Nat.beq tc 0 with
              | false => rw [ht] at hs; cases hs
              | true =>
                rw [ht, cond_true, sk_fj_eq] at hs; cases hs
                have := Nat.eq_of_beq_eq_true ht
                subst this
                exact AW_putI h (sk_gs_eq _ _ _ hg) k
            · cases ht : Nat.beq tc 3 with
              | false => rw [ht] at hs; cases hs
              | true =>
                rw [ht, cond_true, sk_fj_eq] at hs; cases hs
                have := Nat.eq_of_beq_eq_true ht
                subst this
                exact AW_putR h (sk_gs_eq _ _ _ hg) k
            · cases hs
        · cases hs
      · cases hs
    · cases hs
  case arraylength =>
    simp only [sk_s1] at hs
    split at hs
    · split at hs
      · rename_i tc n hg
        cases hb : Nat.blt tc 4 with
        | false => rw [hb] at hs; cases hs
        | true => rw [hb] at hs; cases hs; exact AW_alen h (sk_gs_eq _ _ _ hg) hb k
      · cases hs
    · cases hs
  all_goals exact absurd hs (by simp [sk_s1])
theorem AW_run (n : Nat) : ∀ {pc : Nat} {ls : List (Option sk_V)} {st : List sk_V} {σ : sk_St}, sk_run G M n pc ls st σ = some (pc', ls', st', σ') → AW l E d mc ms M pc' ls' st' G σ' Q → AW l E d mc ms M pc ls st G σ Q := by
  induction n with
  | zero => intro pc ls st σ h k; cases h; exact k
  | succ n ih =>
    intro pc ls st σ h k
    unfold sk_run at h
    split at h
    · cases h; exact k
    · rename_i hf
      split at h
      · cases h; exact k
      · rename_i hs
        exact sk_s1_ok hf hs (ih h k)
end SKS
end
section
/-! ===== calls ===== -/
def sk_sl : List sk_V → List (Option sk_V)
  | [] => []
  | v :: r => bif sk_is1 v then some v :: sk_sl r else some v :: none :: sk_sl r
def sk_pd : Nat → List (Option sk_V) → List (Option sk_V)
  | 0, _ => []
  | n + 1, [] => none :: sk_pd n []
  | n + 1, a :: r => a :: sk_pd n r
def sk_pop : Nat → List sk_V → List sk_V → Option (List sk_V × List sk_V)
  | 0, st, acc => some (acc, st)
  | _ + 1, [], _ => none
  | n + 1, v :: st, acc => sk_pop n st (v :: acc)
def sk_cs : List sk_V → Nat
  | [] => 0
  | v :: r => bif sk_is1 v then sk_cs r + 1 else sk_cs r + 2
theorem sk_pop_eq : ∀ (n : Nat) (st acc as rest : List sk_V), sk_pop n st acc = some (as, rest) → ∃ tk, as = tk.reverse ++ acc ∧ st = tk ++ rest ∧ tk.length = n
  | 0, st, acc, as, rest, h => by cases h; exact ⟨[], by simp, by simp, rfl⟩
  | n + 1, [], acc, as, rest, h => by cases h
  | n + 1, v :: st, acc, as, rest, h => by
    obtain ⟨tk, h1, h2, h3⟩ := sk_pop_eq n st (v :: acc) as rest h
    exact ⟨v :: tk, by simp [h1], by simp [h2], by simp [h3]⟩
theorem sk_pop_st {n : Nat} {st as rest : List sk_V} (h : sk_pop n st [] = some (as, rest)) : st = as.reverse ++ rest ∧ as.length = n := by
  obtain ⟨tk, h1, h2, h3⟩ := sk_pop_eq n st [] as rest h
  rw [List.append_nil] at h1
  subst h1
  exact ⟨by simpa using h2, by simpa using h3⟩
theorem sk_cat2 (E : sk_En) (v : sk_V) (h : sk_is1 v = false) : (sk_v E v).category = 2 := by
  match v with
  | .inl i => cases h
  | .inr (.inl x) => rfl
  | .inr (.inr none) => cases h
  | .inr (.inr (some k)) => cases h
theorem sk_cs_eq (E : sk_En) : ∀ st : List sk_V, ((st.map (sk_v E)).map fun v => v.category).sum = sk_cs st
  | [] => rfl
  | v :: r => by
    have := sk_cs_eq E r
    cases h : sk_is1 v with
    | true => simp only [List.map_cons, List.sum_cons, sk_cs, h, cond_true, sk_cat1 E v h, this]; omega
    | false => simp only [List.map_cons, List.sum_cons, sk_cs, h, cond_false, sk_cat2 E v h, this]; omega
theorem sk_sl_len (E : sk_En) : ∀ as : List sk_V, (lg_sl (as.map (sk_v E))).length = (sk_sl as).length
  | [] => rfl
  | v :: r => by
    have := sk_sl_len E r
    simp only [lg_sl] at this
    cases h : sk_is1 v with
    | true => simp [lg_sl, sk_sl, h, sk_cat1 E v h, ← this]
    | false => simp [lg_sl, sk_sl, h, sk_cat2 E v h, ← this]
theorem sk_pd_get : ∀ (n : Nat) (l : List (Option sk_V)) (k : Nat) (v : sk_V), (sk_pd n l)[k]? = some (some v) → l[k]? = some (some v)
  | 0, l, k, v, h => by simp [sk_pd] at h
  | n + 1, [], 0, v, h => by simp [sk_pd] at h
  | n + 1, [], k + 1, v, h => by
    simp only [sk_pd, List.getElem?_cons_succ] at h
    have := sk_pd_get n [] k v h
    simp at this
  | n + 1, a :: r, 0, v, h => by simpa [sk_pd] using h
  | n + 1, a :: r, k + 1, v, h => by
    simp only [sk_pd, List.getElem?_cons_succ] at h ⊢
    exact sk_pd_get n r k v h
theorem sk_sl_args (E : sk_En) : ∀ (as : List sk_V) (i k : Nat) (v : sk_V), (sk_sl as)[k]? = some (some v) → (i + k, sk_v E v) ∈ lv_args i (as.map (sk_v E))
  | [], i, k, v, h => by simp [sk_sl] at h
  | w :: r, i, k, v, h => by
    cases hw : sk_is1 w with
    | true =>
      simp only [sk_sl, hw, cond_true] at h
      simp only [List.map_cons, lv_args, sk_cat1 E w hw]
      match k, h with
      | 0, h => simp at h; subst h; exact List.mem_cons_self
      | k + 1, h =>
        have := sk_sl_args E r (i + 1) k v (by simpa using h)
        rw [show i + (k + 1) = i + 1 + k by omega]
        exact List.mem_cons_of_mem _ this
    | false =>
      simp only [sk_sl, hw, cond_false] at h
      simp only [List.map_cons, lv_args, sk_cat2 E w hw, if_true]
      match k, h with
      | 0, h => simp at h; subst h; exact List.mem_cons_self
      | 1, h => simp at h
      | k + 2, h =>
        have := sk_sl_args E r (i + 2) k v (by simpa using h)
        rw [show i + (k + 2) = i + 2 + k by omega]
        exact List.mem_cons_of_mem _ this
abbrev sk_en (n : Nat) (as : List sk_V) : List (Option sk_V) := sk_pd n (sk_sl as)
def sk_rm (d mc ms : Nat) : Room := { frames := d, cells := mc, slots := ms, locals := 41 * d }
def sk_Pc (E : sk_En) (as : List sk_V) (G : List sk_Sh) (σ : sk_St) : Array Value → State → Prop :=
  va_Pc (as.map (sk_v E)) (fun U => sk_cx E U ∧ va_P E.2.1 vwCl (sk_w E G σ) U.heap ∧ U.heap.size ≤ E.1 + G.length ∧ G.length ≤ 1000)
def sk_Qc (E : sk_En) (mc : Nat) (Q : Option sk_V → List sk_Sh → sk_St → Prop) : Array Value → State → Outcome → State → Prop := fun _ st o t =>
  ∃ (v : Option sk_V) (G' : List sk_Sh) (σ' : sk_St), Q v G' σ' ∧ o = .returned (v.map (sk_v E)) ∧ va_P E.2.1 vwCl (sk_w E G' σ') t.heap ∧ G'.length ≤ 1000 ∧ st.heap.size + mc ≤ E.1 + G'.length ∧ va_F (sk_A E) st t
/-- a method that may be called: n arguments -/
def sk_lC (n : Nat) (M : sk_M) : Prop := sk_ok M ∧ Cond.code M.1 M.2.1 M.2.2.1 M.2.2.2.1 ∈ sk_gw ∧ Cond.initialized M.1.cls ∈ sk_gw ∧ plainName M.1.cls = true ∧ M.2.2.1 ≤ 22 ∧ (M.1.cls ≠ "java/lang/invoke/MethodHandle" ∧ M.1.cls ≠ "java/lang/invoke/VarHandle" ∧ (parseMethodDescriptor M.1.desc).map (fun d => d.parameters.length) = some n)
theorem sk_gG {M : sk_M} (h : Cond.code M.1 M.2.1 M.2.2.1 M.2.2.2.1 ∈ sk_gw) : GoodIn sk_gw (Cond.code M.1 M.2.1 M.2.2.1 M.2.2.2.1 :: sk_gw) := by
  intro w hw
  have hw : w ∈ sk_gw := by
    rcases List.mem_cons.mp hw with rfl | hw
    · exact h
    · exact hw
  exact ⟨hw, good_of_word (List.mem_filter.mp hw).2⟩
theorem sk_met {l : Launch} {E : sk_En} {d mc ms n : Nat} {M : sk_M} {as : List sk_V} {G : List sk_Sh} {σ : sk_St} {Q : Option sk_V → List sk_Sh → sk_St → Prop} (hC : sk_lC n M) (hlen : (sk_sl as).length ≤ M.2.2.1) (h : AW l E d mc ms M 0 (sk_en M.2.2.1 as) [] G σ Q) :
    Met l M.1 (Cond.code M.1 M.2.1 M.2.2.1 M.2.2.2.1 :: sk_gw) (sk_rm d mc ms) (sk_Pc E as G σ) (sk_Qc E mc Q) mc ms (sk_A E) := by
  obtain ⟨hM, hcode, -, hpl, -, -⟩ := hC
  refine Met.ofW (cc := M.2.1) (maxL := M.2.2.1) (ret := M.2.2.2.1) hpl rfl ?_
  intro p e s m args below meth c s₁ B hml hv
  obtain ⟨rfl, hcx, hP, hz, hG⟩ := hv
  have hts := atoms_spec (ws := Cond.code M.1 M.2.1 M.2.2.1 M.2.2.2.1 :: sk_gw) B.pre
  have hl := lv_entry (as.map (sk_v E)) (n := M.2.2.1) (by rw [sk_sl_len]; exact hlen)
  rw [lg_entry_eq]
  generalize (lg_sl (as.map (sk_v E)) ++ List.replicate (M.2.2.1 - (lg_sl (as.map (sk_v E))).length) Slot.unset).toArray = ar at hl ⊢
  have hlocks := B.notSynchronized
  refine h hM p e _ s m _ below meth c s.heap [] 0 0 _ ar ⟨B.exec, B.bytes, B.returns, hml, findClass_of_methodNamed B.named, hlocks, (name_of_methodNamed B.named B.method).1, fun w hw => hts w (List.mem_cons_of_mem _ hw), hcx, Nat.le_refl _, Nat.le_refl _⟩ ⟨hP, hG, va_S.rf⟩ ⟨hl.1, hl.2.1, fun q hq => ?_⟩ ⟨by show 0 + mc ≤ mc; omega, by omega⟩ (by show 0 + ms ≤ ms; omega) ?_
  · obtain ⟨k, v, rfl, hk⟩ := sk_mem_at E _ 0 q hq
    exact hl.2.2 _ (sk_sl_args E as 0 k v (sk_pd_get _ _ k v hk))
  · intro v G' σ' pc' ar' H' locs' slots' hQ hR hret hz' hs'
    have hs2 : slots' ≤ ms := hs'
    refine W.widen (k := mc) (n := ms) (by omega) hs2 ?_
    have hq : ∀ t : State, t.heap = H' → s.WarmedH t.vm → sk_Qc E mc Q (as.map (sk_v E)).toArray s (.returned (v.map (sk_v E))) t := fun t ht _ =>
      ⟨v, G', σ', hQ, rfl, by rw [ht]; exact hR.1, hR.2.1, by omega, hR.2.2.F ht⟩
    match v, hret, hq with
    | none, hret, hq => exact W.vret B.exec B.bytes (B.returns.trans hret.2) hq hR.2.2.2.2 hret.1
    | some (.inl i), hret, hq =>
      obtain ⟨h1, ty, h2, h3⟩ := hret
      exact W.zret B.exec B.bytes (B.returns.trans h2) h3 hq hR.2.2.2.2 h1
    | some (.inr (.inl x)), hret, hq => exact W.lret B.exec B.bytes (B.returns.trans hret.2) hq hR.2.2.2.2 hret.1
    | some (.inr (.inr r)), hret, hq => exact False.elim hret
theorem sk_Pc_blind (E : sk_En) (as : List sk_V) (G : List sk_Sh) (σ : sk_St) : FrameBlind (sk_Pc E as G σ) := fun a U g mk q => ⟨q.1, sk_cx_call g mk a q.2.1, q.2.2.1, q.2.2.2.1, q.2.2.2.2⟩
/-- behind a call -/
theorem sk_behind {l : Launch} {E : sk_En} {d mc ms mc' ms' : Nat} {M : sk_M} {pc : Nat} {ls : List (Option sk_V)} {rest : List sk_V} {Q : Option sk_V → List sk_Sh → sk_St → Prop} {p : Program} {e : Env} {R : Room} {s : State} {m : MethodId} {args : Array Value} {below : List Frame} {meth : Method} {c : Code} {H : Heap} {locs : List Loc} {cells slots : Nat} {Qf : State → Prop} {ar : Array Slot} {st0 : List Value} {a : Array Value}
    (hr : va_Run p l e R s m args below meth c H locs cells slots mc' ms' (F0 m pc ar st0) (rest.map (sk_v E)) (sk_Qc E mc' (fun v G' σ' => AW l E d mc ms M (pc + 3) ls (v.toList ++ rest) G' σ' Q) a) (sk_A E))
    (hM : sk_ok M) (hF : sk_F E d M p R s m args meth c) (hS : va_S (sk_A E) s.heap H locs) (hlow : s.heap.size + cells ≤ H.size) (hl : lv_has ar M.2.2.1 (sk_lv E 0 ls)) (hc : cells + (mc' + mc) ≤ R.cells) (hs : slots + (ms' + ms) ≤ R.slots)
    (hfin : ∀ (v : Option sk_V) (G' : List sk_Sh) (σ' : sk_St) (pc' : Nat) (ar' : Array Slot) (H' : Heap) (locs' : List Loc) (slots' : Nat), Q v G' σ' → sk_R E G' σ' s H' locs' → sk_ret M pc' v → s.heap.size + (cells + (mc' + mc)) ≤ E.1 + G'.length → slots' ≤ R.slots →
      W p l e R s m args below meth c H' locs' (cells + (mc' + mc)) slots' Qf (F0 m pc' ar' ((v.map (sk_v E)).toList))) :
    W p l e R s m args below meth c H locs cells slots Qf (F0 m pc ar st0) := by
  intro T hT X
  obtain ⟨v, st₀, t, T', Lc, h0, X', hL, e1, e2, ⟨w, G', σ', hQ, ho, hP, hG, hz2, hFr⟩, hgo⟩ := hr T hT X
  have hv : v = w.map (sk_v E) := by cases ho; rfl
  subst hv
  obtain ⟨f1, f2⟩ := hFr
  rw [h0] at f1 f2 hz2
  have hS1 : va_S (sk_A E) s.heap T'.heap (locs ++ Lc) := by
    refine ⟨Nat.le_trans hS.1 (by rw [e1]; exact f1), fun q h1 h2 => ?_, fun q hq => ?_⟩
    · rw [e1, f2 q (Nat.lt_of_lt_of_le h1 hS.1) h2]
      exact hS.2.1 q h1 h2
    · rcases List.mem_append.mp hq with h | h
      · exact hS.2.2 q h
      · exact hL q h
  have k1 := hQ hM p e R s m args below meth c T'.heap (locs ++ Lc) (cells + mc') (slots + ms') Qf ar hF ⟨by rw [e1]; exact hP, hG, hS1⟩ hl ⟨by omega, by omega⟩ (by omega) (fun v G' σ' pc' ar' H' locs' slots' q1 q2 q3 q4 q5 => by
    have := hfin v G' σ' pc' ar' H' locs' slots' q1 q2 q3 (by omega) q5
    rw [show cells + mc' + mc = cells + (mc' + mc) by omega]
    exact this)
  obtain ⟨t2, a1, b1⟩ := k1 T' rfl X'
  refine ⟨t2, hgo t2 ?_, b1⟩
  have he : (w.toList ++ rest).map (sk_v E) = (w.map (sk_v E)).toList ++ rest.map (sk_v E) := by
    cases w <;> simp
  rw [he] at a1
  exact a1
theorem sk_low {E : sk_En} {G : List sk_Sh} {σ : sk_St} {H : Heap} (hP : va_P E.2.1 vwCl (sk_w E G σ) H) (hE : E.1 ≤ H.size) : E.1 + G.length ≤ H.size := by
  by_cases h : G.length = 0
  · omega
  · have hk : G.length - 1 < G.length := by omega
    have := (hP (G.length - 1) _ (sk_w_at (List.getElem?_eq_getElem hk))).lt
    dsimp only at this
    omega
section SKC
variable {l : Launch} {E : sk_En} {d mc ms mc' ms' mc0 ms0 : Nat} {M M' : sk_M} {pc pc0 len nxt n idx d' : Nat} {aux : List Nat} {ls : List (Option sk_V)} {st as rest : List sk_V} {G : List sk_Sh} {σ : sk_St} {Q : Option sk_V → List sk_Sh → sk_St → Prop}
def sk_lV (own : String) (idx : Nat) (M' : sk_M) : Prop := Cond.methodLink own idx M'.1 ∈ sk_gw ∧ Cond.instanceMethod M'.1 ∈ sk_gw ∧ Cond.selects M'.1.cls M'.1 M'.1 ∈ sk_gw
def sk_lS (own : String) (idx : Nat) (M' : sk_M) : Prop := Cond.methodLink own idx M'.1 ∈ sk_gw ∧ Cond.static M'.1 ∈ sk_gw
def sk_lI (own : String) (idx : Nat) (M' : sk_M) : Prop := Cond.methodLink own idx M'.1 ∈ sk_gw ∧ Cond.instanceMethod M'.1 ∈ sk_gw ∧ M'.1.name = "<init>" ∧ M'.2.2.2.1 = none
def sk_lSN (own : String) (idx : Nat) (M' : sk_M) : Prop := Cond.methodLinkNest own idx M'.1 "SealKeeper" ∈ sk_nw ∧ Cond.static M'.1 ∈ sk_gw
def sk_lIN (own : String) (idx : Nat) (M' : sk_M) : Prop := Cond.methodLinkNest own idx M'.1 "SealKeeper" ∈ sk_nw ∧ Cond.instanceMethod M'.1 ∈ sk_gw ∧ M'.1.name = "<init>" ∧ M'.2.2.2.1 = none
theorem AW_callV {k ci : Nat} (h : sk_find pc M.2.2.2.2 = some (pc0, (.invokevirtual idx), len, nxt, aux)) (hL : sk_lV M.1.cls idx M') (hC : sk_lC n M') (hp : sk_pop (n + 1) st [] = some (vr k :: as, rest)) (hG : G[k]? = some (.inl ci)) (hci : (sk_C ci).1 = M'.1.cls) (hci2 : Nat.blt ci 11 = true) (hW : Nat.ble (sk_cs rest) 8 = true) (hen : Nat.ble (sk_sl (vr k :: as)).length M'.2.2.1 = true) (hd : d' + 1 ≤ d) (hmc : mc0 = mc' + mc) (hms : ms0 = ms' + ms)
    (kk : AW l E d' mc' ms' M' 0 (sk_en M'.2.2.1 (vr k :: as)) [] G σ (fun v G' σ' => AW l E d mc ms M nxt ls (v.toList ++ rest) G' σ' Q)) : AW l E d mc0 ms0 M pc ls st G σ Q := by
  subst hmc; subst hms
  intro hM p e R s m args below meth c H locs cells slots Qf ar hF hR hl hc hs hfin
  obtain ⟨hdc, rfl, hA, hlen⟩ := sk_dec hM h
  obtain rfl : 3 = len := hlen.resolve_left (by simp [sk_il])
  obtain ⟨rfl, has⟩ := sk_pop_st hp
  have has : as.length = n := by simpa using has
  have hmet := sk_met hC (Nat.le_of_ble_eq_true hen) kk
  have hts := hF.2.2.2.2.2.2.2.1
  intro T hT X
  have hsz := X.heapSize
  have hw : vwCl[ci]? = some (sk_C ci) := sk_cl (by simpa [Nat.blt_eq] using hci2)
  obtain ⟨cell, c1, c2, c3⟩ := va_recv hF.2.2.2.2.2.2.2.2.1.1 hR.1 hw (sk_w_at hG)
  refine sk_behind (d := d) (rest := rest) (va_runV (cc := M.2.1) (nL := M.2.2.1) (Ts := sk_gw) (own := M.1.cls) (C := M'.1.cls) (index := idx) (bytes := M'.2.1) (maxL := M'.2.2.1) (ret := M'.2.2.2.1) (n := n) (b := E.1 + k) (As := as.map (sk_v E)) (rest := rest.map (sk_v E)) ⟨hF.1, hF.2.1, hF.2.2.2.1, hF.2.2.2.2.1, hts⟩ hmet ?_ ⟨sk_Pc_blind E _ _ _, ⟨cell, c1, c2, by rw [← hci]; exact c3⟩, fun U hU hWm => ⟨?_, sk_cx_move hF.2.2.2.2.2.2.2.2.1 hWm (by rw [hU]; exact hR.2.2), by rw [hU]; exact hR.1, ?_, hR.2.1⟩⟩ rfl (by simpa using has) hl.1 ?_ ?_ hdc ⟨by omega, by omega⟩) hM hF hR.2.2 ?_ hl hc.1 hs hfin T hT X
  · refine ⟨callB_of n hts (sk_gG hC.2.1) rfl rfl rfl (hts _ hC.2.2.1) (hts _ hL.1) hC.2.2.2.2.2 ⟨?_, ?_⟩, hts _ hL.2.1, hts _ hL.2.2⟩
    · have := hF.2.2.2.2.2.2.2.2.2.1
      show d' + 1 ≤ R.frames
      omega
    · have := hF.2.2.2.2.2.2.2.2.2.2
      have := hC.2.2.2.2.1
      show 8 + (M'.2.2.1 + 11) + 41 * d' ≤ R.locals
      omega
  · rw [List.map_cons, sk_vr hG hR.2.1]
  · rw [hU, ← hT]; omega
  · show ((vr k :: as).reverse ++ rest).map (sk_v E) = _
    simp only [List.reverse_cons, List.map_append, List.map_reverse, List.map_cons, List.map_nil, List.append_assoc, List.singleton_append, List.cons_append, List.nil_append]
    rw [sk_vr hG hR.2.1]
  · show 2 * 0 + ((rest.map (sk_v E)).map fun v => v.category).sum ≤ 8
    rw [sk_cs_eq]
    have := Nat.le_of_ble_eq_true hW
    omega
  · have := sk_low hR.1 (Nat.le_trans hF.2.2.2.2.2.2.2.2.1.2.2.2.2.2.2 hR.2.2.1)
    omega
theorem AW_callS (h : sk_find pc M.2.2.2.2 = some (pc0, (.invokestatic idx), len, nxt, aux)) (hL : sk_lS M.1.cls idx M') (hC : sk_lC n M') (hp : sk_pop n st [] = some (as, rest)) (hW : Nat.ble (sk_cs rest) 8 = true) (hen : Nat.ble (sk_sl as).length M'.2.2.1 = true) (hd : d' + 1 ≤ d) (hmc : mc0 = mc' + mc) (hms : ms0 = ms' + ms)
    (kk : AW l E d' mc' ms' M' 0 (sk_en M'.2.2.1 as) [] G σ (fun v G' σ' => AW l E d mc ms M nxt ls (v.toList ++ rest) G' σ' Q)) : AW l E d mc0 ms0 M pc ls st G σ Q := by
  subst hmc; subst hms
  intro hM p e R s m args below meth c H locs cells slots Qf ar hF hR hl hc hs hfin
  obtain ⟨hdc, rfl, hA, hlen⟩ := sk_dec hM h
  obtain rfl : 3 = len := hlen.resolve_left (by simp [sk_il])
  obtain ⟨rfl, has⟩ := sk_pop_st hp
  have hmet := sk_met hC (Nat.le_of_ble_eq_true hen) kk
  have hts := hF.2.2.2.2.2.2.2.1
  intro T hT X
  have hsz := X.heapSize
  refine sk_behind (d := d) (rest := rest) (va_runS (cc := M.2.1) (nL := M.2.2.1) (Ts := sk_gw) (own := M.1.cls) (index := idx) (bytes := M'.2.1) (maxL := M'.2.2.1) (ret := M'.2.2.2.1) (n := n) (As := as.map (sk_v E)) (rest := rest.map (sk_v E)) ⟨hF.1, hF.2.1, hF.2.2.2.1, hF.2.2.2.2.1, hts⟩ hmet ?_ ⟨sk_Pc_blind E _ _ _, fun U hU hWm => ⟨rfl, sk_cx_move hF.2.2.2.2.2.2.2.2.1 hWm (by rw [hU]; exact hR.2.2), by rw [hU]; exact hR.1, ?_, hR.2.1⟩⟩ rfl (by simpa using has) hl.1 ?_ ?_ hdc ⟨by omega, by omega⟩) hM hF hR.2.2 ?_ hl hc.1 hs hfin T hT X
  · refine ⟨callB_of n hts (sk_gG hC.2.1) rfl rfl rfl (hts _ hC.2.2.1) (hts _ hL.1) hC.2.2.2.2.2 ⟨?_, ?_⟩, hts _ hL.2⟩
    · have := hF.2.2.2.2.2.2.2.2.2.1
      show d' + 1 ≤ R.frames
      omega
    · have := hF.2.2.2.2.2.2.2.2.2.2
      have := hC.2.2.2.2.1
      show 8 + (M'.2.2.1 + 11) + 41 * d' ≤ R.locals
      omega
  · rw [hU, ← hT]; omega
  · show (as.reverse ++ rest).map (sk_v E) = _
    simp only [List.map_append, List.map_reverse]
  · show 2 * 0 + ((rest.map (sk_v E)).map fun v => v.category).sum ≤ 8
    rw [sk_cs_eq]
    have := Nat.le_of_ble_eq_true hW
    omega
  · have := sk_low hR.1 (Nat.le_trans hF.2.2.2.2.2.2.2.2.1.2.2.2.2.2.2 hR.2.2.1)
    omega
theorem AW_callSN (h : sk_find pc M.2.2.2.2 = some (pc0, (.invokestatic idx), len, nxt, aux)) (hL : sk_lSN M.1.cls idx M') (hC : sk_lC n M') (hp : sk_pop n st [] = some (as, rest)) (hW : Nat.ble (sk_cs rest) 8 = true) (hen : Nat.ble (sk_sl as).length M'.2.2.1 = true) (hd : d' + 1 ≤ d) (hmc : mc0 = mc' + mc) (hms : ms0 = ms' + ms)
    (kk : AW l E d' mc' ms' M' 0 (sk_en M'.2.2.1 as) [] G σ (fun v G' σ' => AW l E d mc ms M nxt ls (v.toList ++ rest) G' σ' Q)) : AW l E d mc0 ms0 M pc ls st G σ Q := by
  subst hmc; subst hms
  intro hM p e R s m args below meth c H locs cells slots Qf ar hF hR hl hc hs hfin
  obtain ⟨hdc, rfl, hA, hlen⟩ := sk_dec hM h
  obtain rfl : 3 = len := hlen.resolve_left (by simp [sk_il])
  obtain ⟨rfl, has⟩ := sk_pop_st hp
  have hmet := sk_met hC (Nat.le_of_ble_eq_true hen) kk
  have hts := hF.2.2.2.2.2.2.2.1
  intro T hT X
  have hsz := X.heapSize
  refine sk_behind (d := d) (rest := rest) (va_runSN (cc := M.2.1) (nL := M.2.2.1) (Ts := sk_gw) (own := M.1.cls) (host := "SealKeeper") (index := idx) (bytes := M'.2.1) (maxL := M'.2.2.1) (ret := M'.2.2.2.1) (n := n) (As := as.map (sk_v E)) (rest := rest.map (sk_v E)) ⟨hF.1, hF.2.1, hF.2.2.2.1, hF.2.2.2.2.1, hts⟩ hmet ?_ ⟨sk_Pc_blind E _ _ _, fun U hU hWm => ⟨rfl, sk_cx_move hF.2.2.2.2.2.2.2.2.1 hWm (by rw [hU]; exact hR.2.2), by rw [hU]; exact hR.1, ?_, hR.2.1⟩⟩ rfl (by simpa using has) hl.1 ?_ ?_ hdc ⟨by omega, by omega⟩) hM hF hR.2.2 ?_ hl hc.1 hs hfin T hT X
  · refine ⟨va_cnB n hts (sk_gG hC.2.1) rfl rfl rfl (hF.2.2.2.2.2.2.2.2.1.2.1 _ hL.1) (hts _ hC.2.2.1) hC.2.2.2.2.2 ⟨?_, ?_⟩, hts _ hL.2, trivial⟩
    · have := hF.2.2.2.2.2.2.2.2.2.1
      show d' + 1 ≤ R.frames
      omega
    · have := hF.2.2.2.2.2.2.2.2.2.2
      have := hC.2.2.2.2.1
      show 8 + (M'.2.2.1 + 11) + 41 * d' ≤ R.locals
      omega
  · rw [hU, ← hT]; omega
  · show (as.reverse ++ rest).map (sk_v E) = _
    simp only [List.map_append, List.map_reverse]
  · show 2 * 0 + ((rest.map (sk_v E)).map fun v => v.category).sum ≤ 8
    rw [sk_cs_eq]
    have := Nat.le_of_ble_eq_true hW
    omega
  · have := sk_low hR.1 (Nat.le_trans hF.2.2.2.2.2.2.2.2.1.2.2.2.2.2.2 hR.2.2.1)
    omega
theorem AW_callI {k : Nat} {sh : sk_Sh} (h : sk_find pc M.2.2.2.2 = some (pc0, (.invokespecial idx), len, nxt, aux)) (hL : sk_lI M.1.cls idx M') (hC : sk_lC n M') (hp : sk_pop (n + 1) st [] = some (vr k :: as, rest)) (hG : G[k]? = some sh) (hW : Nat.ble (sk_cs rest) 8 = true) (hen : Nat.ble (sk_sl (vr k :: as)).length M'.2.2.1 = true) (hd : d' + 1 ≤ d) (hmc : mc0 = mc' + mc) (hms : ms0 = ms' + ms)
    (kk : AW l E d' mc' ms' M' 0 (sk_en M'.2.2.1 (vr k :: as)) [] G σ (fun v G' σ' => AW l E d mc ms M nxt ls (v.toList ++ rest) G' σ' Q)) : AW l E d mc0 ms0 M pc ls st G σ Q := by
  subst hmc; subst hms
  intro hM p e R s m args below meth c H locs cells slots Qf ar hF hR hl hc hs hfin
  obtain ⟨hdc, rfl, hA, hlen⟩ := sk_dec hM h
  obtain rfl : 3 = len := hlen.resolve_left (by simp [sk_il])
  obtain ⟨rfl, has⟩ := sk_pop_st hp
  have has : as.length = n := by simpa using has
  have hmet := sk_met hC (Nat.le_of_ble_eq_true hen) kk
  rw [hL.2.2.2] at hmet
  have hts := hF.2.2.2.2.2.2.2.1
  intro T hT X
  have hsz := X.heapSize
  refine sk_behind (d := d) (rest := rest) (va_runI (cc := M.2.1) (nL := M.2.2.1) (Ts := sk_gw) (own := M.1.cls) (index := idx) (bytes := M'.2.1) (maxL := M'.2.2.1) (n := n) (b := E.1 + k) (As := as.map (sk_v E)) (rest := rest.map (sk_v E)) ⟨hF.1, hF.2.1, hF.2.2.2.1, hF.2.2.2.2.1, hts⟩ hmet ?_ ⟨sk_Pc_blind E _ _ _, fun U hU hWm => ⟨?_, sk_cx_move hF.2.2.2.2.2.2.2.2.1 hWm (by rw [hU]; exact hR.2.2), by rw [hU]; exact hR.1, ?_, hR.2.1⟩⟩ rfl (by simpa using has) hl.1 ?_ ?_ hdc ⟨by omega, by omega⟩) hM hF hR.2.2 ?_ hl hc.1 hs hfin T hT X
  · refine ⟨callB_of n hts (hL.2.2.2 ▸ sk_gG hC.2.1) rfl rfl rfl (hts _ hC.2.2.1) (hts _ hL.1) hC.2.2.2.2.2 ⟨?_, ?_⟩, hL.2.2.1, hts _ hL.2.1⟩
    · have := hF.2.2.2.2.2.2.2.2.2.1
      show d' + 1 ≤ R.frames
      omega
    · have := hF.2.2.2.2.2.2.2.2.2.2
      have := hC.2.2.2.2.1
      show 8 + (M'.2.2.1 + 11) + 41 * d' ≤ R.locals
      omega
  · rw [List.map_cons, sk_vr hG hR.2.1]
  · rw [hU, ← hT]; omega
  · show ((vr k :: as).reverse ++ rest).map (sk_v E) = _
    simp only [List.reverse_cons, List.map_append, List.map_reverse, List.map_cons, List.map_nil, List.append_assoc, List.singleton_append, List.cons_append, List.nil_append]
    rw [sk_vr hG hR.2.1]
  · show 2 * 0 + ((rest.map (sk_v E)).map fun v => v.category).sum ≤ 8
    rw [sk_cs_eq]
    have := Nat.le_of_ble_eq_true hW
    omega
  · have := sk_low hR.1 (Nat.le_trans hF.2.2.2.2.2.2.2.2.1.2.2.2.2.2.2 hR.2.2.1)
    omega
theorem AW_callIN {k : Nat} {sh : sk_Sh} (h : sk_find pc M.2.2.2.2 = some (pc0, (.invokespecial idx), len, nxt, aux)) (hL : sk_lIN M.1.cls idx M') (hC : sk_lC n M') (hp : sk_pop (n + 1) st [] = some (vr k :: as, rest)) (hG : G[k]? = some sh) (hW : Nat.ble (sk_cs rest) 8 = true) (hen : Nat.ble (sk_sl (vr k :: as)).length M'.2.2.1 = true) (hd : d' + 1 ≤ d) (hmc : mc0 = mc' + mc) (hms : ms0 = ms' + ms)
    (kk : AW l E d' mc' ms' M' 0 (sk_en M'.2.2.1 (vr k :: as)) [] G σ (fun v G' σ' => AW l E d mc ms M nxt ls (v.toList ++ rest) G' σ' Q)) : AW l E d mc0 ms0 M pc ls st G σ Q := by
  subst hmc; subst hms
  intro hM p e R s m args below meth c H locs cells slots Qf ar hF hR hl hc hs hfin
  obtain ⟨hdc, rfl, hA, hlen⟩ := sk_dec hM h
  obtain rfl : 3 = len := hlen.resolve_left (by simp [sk_il])
  obtain ⟨rfl, has⟩ := sk_pop_st hp
  have has : as.length = n := by simpa using has
  have hmet := sk_met hC (Nat.le_of_ble_eq_true hen) kk
  rw [hL.2.2.2] at hmet
  have hts := hF.2.2.2.2.2.2.2.1
  intro T hT X
  have hsz := X.heapSize
  refine sk_behind (d := d) (rest := rest) (va_runIN (cc := M.2.1) (nL := M.2.2.1) (Ts := sk_gw) (own := M.1.cls) (host := "SealKeeper") (index := idx) (bytes := M'.2.1) (maxL := M'.2.2.1) (n := n) (b := E.1 + k) (As := as.map (sk_v E)) (rest := rest.map (sk_v E)) ⟨hF.1, hF.2.1, hF.2.2.2.1, hF.2.2.2.2.1, hts⟩ hmet ?_ ⟨sk_Pc_blind E _ _ _, fun U hU hWm => ⟨?_, sk_cx_move hF.2.2.2.2.2.2.2.2.1 hWm (by rw [hU]; exact hR.2.2), by rw [hU]; exact hR.1, ?_, hR.2.1⟩⟩ rfl (by simpa using has) hl.1 ?_ ?_ hdc ⟨by omega, by omega⟩) hM hF hR.2.2 ?_ hl hc.1 hs hfin T hT X
  · refine ⟨va_cnB n hts (hL.2.2.2 ▸ sk_gG hC.2.1) rfl rfl rfl (hF.2.2.2.2.2.2.2.2.1.2.1 _ hL.1) (hts _ hC.2.2.1) hC.2.2.2.2.2 ⟨?_, ?_⟩, hL.2.2.1, hts _ hL.2.1⟩
    · have := hF.2.2.2.2.2.2.2.2.2.1
      show d' + 1 ≤ R.frames
      omega
    · have := hF.2.2.2.2.2.2.2.2.2.2
      have := hC.2.2.2.2.1
      show 8 + (M'.2.2.1 + 11) + 41 * d' ≤ R.locals
      omega
  · rw [List.map_cons, sk_vr hG hR.2.1]
  · rw [hU, ← hT]; omega
  · show ((vr k :: as).reverse ++ rest).map (sk_v E) = _
    simp only [List.reverse_cons, List.map_append, List.map_reverse, List.map_cons, List.map_nil, List.append_assoc, List.singleton_append, List.cons_append, List.nil_append]
    rw [sk_vr hG hR.2.1]
  · show 2 * 0 + ((rest.map (sk_v E)).map fun v => v.category).sum ≤ 8
    rw [sk_cs_eq]
    have := Nat.le_of_ble_eq_true hW
    omega
  · have := sk_low hR.1 (Nat.le_trans hF.2.2.2.2.2.2.2.2.1.2.2.2.2.2.2 hR.2.2.1)
    omega
end SKC
end
section
/-! ===== returns, switches, constants, what lies outside, making ===== -/
section SKO
variable {l : Launch} {E : sk_En} {d mc ms : Nat} {M : sk_M} {pc pc0 len nxt : Nat} {aux : List Nat} {ls : List (Option sk_V)} {st : List sk_V} {G : List sk_Sh} {σ : sk_St} {I : sk_SI} {L : sk_SL} {J : sk_SR} {Q : Option sk_V → List sk_Sh → sk_St → Prop}
theorem sk_retA {v : Option sk_V} (hret : sk_ok M → sk_ret M pc v) (hst : st = v.toList) (hq : Q v G σ) : AW l E d 0 ms M pc ls st G σ Q := by
  intro hM p e R s m args below meth c H locs cells slots Qf ar hF hR hl hc hs hfin
  subst hst
  have := hfin v G σ pc ar H locs slots hq hR (hret hM) (by simpa using hc.2) (by omega)
  have he : v.toList.map (sk_v E) = (v.map (sk_v E)).toList := by cases v <;> rfl
  rw [he]
  exact this
theorem AW_iret {x : Int} (h : sk_find pc M.2.2.2.2 = some (pc0, .ireturn, len, nxt, aux)) (hr : M.2.2.2.1 = some .int) (hq : Q (some (vi x)) G σ) : AW l E d 0 ms M pc ls [vi x] G σ Q := by
  refine sk_retA (v := some (vi x)) (fun hM => ?_) rfl hq
  obtain ⟨hd, -, -, hlen⟩ := sk_dec hM h
  obtain rfl : 1 = len := hlen.resolve_left (by simp [sk_il])
  exact ⟨hd, .int, hr, rfl⟩
theorem AW_zret {x : Int} (h : sk_find pc M.2.2.2.2 = some (pc0, .ireturn, len, nxt, aux)) (hr : M.2.2.2.1 = some .boolean) (hx : x = 0 ∨ x = 1) (hq : Q (some (vi x)) G σ) : AW l E d 0 ms M pc ls [vi x] G σ Q := by
  refine sk_retA (v := some (vi x)) (fun hM => ?_) rfl hq
  obtain ⟨hd, -, -, hlen⟩ := sk_dec hM h
  obtain rfl : 1 = len := hlen.resolve_left (by simp [sk_il])
  exact ⟨hd, .boolean, hr, (sk_b01 hx).1⟩
theorem AW_lret {x : Int64} (h : sk_find pc M.2.2.2.2 = some (pc0, .lreturn, len, nxt, aux)) (hr : M.2.2.2.1 = some .long) (hq : Q (some (vl x)) G σ) : AW l E d 0 ms M pc ls [vl x] G σ Q := by
  refine sk_retA (v := some (vl x)) (fun hM => ?_) rfl hq
  obtain ⟨hd, -, -, hlen⟩ := sk_dec hM h
  obtain rfl : 1 = len := hlen.resolve_left (by simp [sk_il])
  exact ⟨hd, hr⟩
theorem AW_vret (h : sk_find pc M.2.2.2.2 = some (pc0, .return_, len, nxt, aux)) (hr : M.2.2.2.1 = none) (hq : Q none G σ) : AW l E d 0 ms M pc ls [] G σ Q := by
  refine sk_retA (v := none) (fun hM => ?_) rfl hq
  obtain ⟨hd, -, -, hlen⟩ := sk_dec hM h
  obtain rfl : 1 = len := hlen.resolve_left (by simp [sk_il])
  exact ⟨hd, hr⟩
/-- the same int in another word -/
theorem AW_top {a b : Int} (h : a = b) (k : AW l E d mc ms M pc ls (vi b :: st) G σ Q) : AW l E d mc ms M pc ls (vi a :: st) G σ Q := h ▸ k
theorem AW_wrap {a b : Int} (h : Int32.ofInt a = Int32.ofInt b) (k : AW l E d mc ms M pc ls (vi b :: st) G σ Q) : AW l E d mc ms M pc ls (vi a :: st) G σ Q := by
  intro hM p e R s m args below meth c H locs cells slots Qf ar hF hR hl hc hs hfin
  have := k hM p e R s m args below meth c H locs cells slots Qf ar hF hR hl hc hs hfin
  simp only [List.map_cons, sk_v] at this ⊢
  rw [h]
  exact this
theorem sk_nI_of {a : Int} (h : 0 ≤ a) : Int32.ofInt a = nI a.toNat := by
  obtain ⟨n, rfl⟩ := Int.eq_ofNat_of_zero_le h
  rw [Int.toNat_natCast]
  exact Int32.ofInt_eq_ofNat
theorem AW_idiv {a b : Int} (h : sk_find pc M.2.2.2.2 = some (pc0, .idiv, len, nxt, aux)) (ha : 0 ≤ a ∧ a ≤ 2147483647) (hb : 0 < b ∧ b ≤ 2147483647) (k : AW l E d mc ms M nxt ls (vi (a / b) :: st) G σ Q) : AW l E d mc ms M pc ls (vi b :: vi a :: st) G σ Q := by
  intro hM p e R s m args below meth c H locs cells slots Qf ar hF hR hl hc hs hfin
  obtain ⟨hd, rfl, hA, hlen⟩ := sk_dec hM h
  obtain rfl : 1 = len := hlen.resolve_left (by simp [sk_il])
  have k1 := k hM p e R s m args below meth c H locs cells slots Qf ar hF hR hl hc hs hfin
  have hdiv : Int32.ofInt a / Int32.ofInt b = Int32.ofInt (a / b) := by
    have h0 : 0 ≤ a / b := Int.ediv_nonneg ha.1 (by omega)
    rw [sk_nI_of ha.1, sk_nI_of (by omega : 0 ≤ b), pk_div (by omega) (by omega) (by omega), sk_nI_of h0]
    congr 1
    obtain ⟨n, rfl⟩ := Int.eq_ofNat_of_zero_le ha.1
    obtain ⟨m, rfl⟩ := Int.eq_ofNat_of_zero_le (show 0 ≤ b by omega)
    simp only [Int.toNat_natCast]
    omega
  refine lv_idiv hF.1 hF.2.1 hd ?_ (by rw [hdiv]; exact k1)
  intro e0
  have := (sk_eq_iff (a := b) (b := 0) ⟨by omega, by omega⟩ sk_in0).mp e0
  omega
theorem AW_irem {a b : Int} (h : sk_find pc M.2.2.2.2 = some (pc0, .irem, len, nxt, aux)) (ha : 0 ≤ a ∧ a ≤ 2147483647) (hb : 0 < b ∧ b ≤ 2147483647) (k : AW l E d mc ms M nxt ls (vi (a % b) :: st) G σ Q) : AW l E d mc ms M pc ls (vi b :: vi a :: st) G σ Q := by
  intro hM p e R s m args below meth c H locs cells slots Qf ar hF hR hl hc hs hfin
  obtain ⟨hd, rfl, hA, hlen⟩ := sk_dec hM h
  obtain rfl : 1 = len := hlen.resolve_left (by simp [sk_il])
  have k1 := k hM p e R s m args below meth c H locs cells slots Qf ar hF hR hl hc hs hfin
  have hdiv : Int32.ofInt a - Int32.ofInt a / Int32.ofInt b * Int32.ofInt b = Int32.ofInt (a % b) := by
    have h0 : 0 ≤ a % b := Int.emod_nonneg a (by omega)
    rw [sk_nI_of ha.1, sk_nI_of (by omega : 0 ≤ b), pk_rem (by omega) (by omega) (by omega), sk_nI_of h0]
    congr 1
    obtain ⟨n, rfl⟩ := Int.eq_ofNat_of_zero_le ha.1
    obtain ⟨m, rfl⟩ := Int.eq_ofNat_of_zero_le (show 0 ≤ b by omega)
    simp only [Int.toNat_natCast]
    omega
  refine lv_irem hF.1 hF.2.1 hd ?_ (by rw [hdiv]; exact k1)
  intro e0
  have := (sk_eq_iff (a := b) (b := 0) ⟨by omega, by omega⟩ sk_in0).mp e0
  omega
theorem AW_tin {x df lo hi : Int} {offs : Array Int} {t0 t : Nat} {ts : List Nat} (i : Nat) (h : sk_find pc M.2.2.2.2 = some (pc0, (.tableswitch df lo hi offs), len, nxt, t0 :: ts)) (hx : x = lo + i) (ht : ts[i]? = some t) (hin : sk_in x) (k : AW l E d mc ms M t ls st G σ Q) : AW l E d mc ms M pc ls (vi x :: st) G σ Q := by
  intro hM p e R s m args below meth c H locs cells slots Qf ar hF hR hl hc hs hfin
  obtain ⟨hd, -, hA, -⟩ := sk_dec hM h
  have hA : (decide ((pc : Int) + df = (t0 : Int)) && decide (offs.toList.map (fun o => (pc : Int) + o) = ts.map (fun (t : Nat) => (t : Int))) && decide (hi - lo + 1 = (ts.length : Int))) = true := hA
  simp only [Bool.and_eq_true, decide_eq_true_eq] at hA
  have hi1 : i < ts.length := (List.getElem?_eq_some_iff.mp ht).1
  have h1 : (offs.toList.map (fun o => (pc : Int) + o))[i]? = some (t : Int) := by rw [hA.1.2, List.getElem?_map, ht]; rfl
  rw [List.getElem?_map, Option.map_eq_some_iff] at h1
  obtain ⟨o, ho, hot⟩ := h1
  refine lv_tableIn hF.1 hF.2.1 hd ?_ ?_ (off := o) ?_ hot (k hM p e R s m args below meth c H locs cells slots Qf ar hF hR hl hc hs hfin)
  · rw [sk_toInt hin]; omega
  · rw [sk_toInt hin]; omega
  · rw [sk_toInt hin, show (x - lo).toNat = i by omega, ← Array.getElem?_toList]; exact ho
theorem AW_tout {x df lo hi : Int} {offs : Array Int} {t0 : Nat} {ts : List Nat} (h : sk_find pc M.2.2.2.2 = some (pc0, (.tableswitch df lo hi offs), len, nxt, t0 :: ts)) (hx : x < lo ∨ hi < x) (hin : sk_in x) (k : AW l E d mc ms M t0 ls st G σ Q) : AW l E d mc ms M pc ls (vi x :: st) G σ Q := by
  intro hM p e R s m args below meth c H locs cells slots Qf ar hF hR hl hc hs hfin
  obtain ⟨hd, -, hA, -⟩ := sk_dec hM h
  have hA : (decide ((pc : Int) + df = (t0 : Int)) && decide (offs.toList.map (fun o => (pc : Int) + o) = ts.map (fun (t : Nat) => (t : Int))) && decide (hi - lo + 1 = (ts.length : Int))) = true := hA
  simp only [Bool.and_eq_true, decide_eq_true_eq] at hA
  exact lv_tableOut hF.1 hF.2.1 hd (by rw [sk_toInt hin]; exact hx) hA.1.1 (k hM p e R s m args below meth c H locs cells slots Qf ar hF hR hl hc hs hfin)
theorem AW_lsw {x df : Int} {ps : Array (Int × Int)} {off : Int} {t : Nat} (h : sk_find pc M.2.2.2.2 = some (pc0, (.lookupswitch df ps), len, nxt, aux)) (hp : (ps.toList.zip (ps.toList.drop 1)).all (fun (a, next) => a.1 < next.1) = true) (ho : Op.lookupswitch.offset ps.toList df x = off) (ht : (pc : Int) + off = (t : Int)) (hin : sk_in x) (k : AW l E d mc ms M t ls st G σ Q) : AW l E d mc ms M pc ls (vi x :: st) G σ Q := by
  intro hM p e R s m args below meth c H locs cells slots Qf ar hF hR hl hc hs hfin
  obtain ⟨hd, -, hA, -⟩ := sk_dec hM h
  exact lv_lookup hF.1 hF.2.1 hd hp (by rw [sk_toInt hin]; exact ho) ht (k hM p e R s m args below meth c H locs cells slots Qf ar hF hR hl hc hs hfin)
theorem AW_ldcM {idx q : Nat} (h : sk_find pc M.2.2.2.2 = some (pc0, (.ldc idx), len, nxt, [99, q])) (k : AW l E d mc ms M nxt ls (vi 1000000 :: st) G σ Q) : AW l E d mc ms M pc ls st G σ Q := by
  intro hM p e R s m args below meth c H locs cells slots Qf ar hF hR hl hc hs hfin
  obtain ⟨hd, rfl, hA, hlen⟩ := sk_dec hM h
  obtain rfl : 2 = len := hlen.resolve_left (by simp [sk_il])
  have hA : (decide (sk_str[99]?.map (fun t => (t.1, t.2.1)) = some (M.1.cls, idx)) || (Nat.beq 99 99 && decide (lw_tbl[q]? = some (.constant M.1.cls idx 1000000)))) = true := hA
  have hA : lw_tbl[q]? = some (.constant M.1.cls idx 1000000) := by
    rw [Bool.or_eq_true, Bool.and_eq_true, decide_eq_true_eq, decide_eq_true_eq] at hA
    rcases hA with hA | hA
    · exact absurd hA (by simp [sk_str])
    · exact hA.2
  exact lv_ldc hF.1 hF.2.1 hF.2.2.2.2.1 (hF.2.2.2.2.2.2.2.1 _ (sk_wd hA rfl)) hd (k hM p e R s m args below meth c H locs cells slots Qf ar hF hR hl hc hs hfin)
theorem AW_ldc2 {idx : Nat} {x : Int64} (h : sk_find pc M.2.2.2.2 = some (pc0, (.ldc2_w idx), len, nxt, aux)) (hw : Cond.constantLong M.1.cls idx x ∈ sk_gw) (k : AW l E d mc ms M nxt ls (vl x :: st) G σ Q) : AW l E d mc ms M pc ls st G σ Q := by
  intro hM p e R s m args below meth c H locs cells slots Qf ar hF hR hl hc hs hfin
  obtain ⟨hd, rfl, hA, hlen⟩ := sk_dec hM h
  obtain rfl : 3 = len := hlen.resolve_left (by simp [sk_il])
  exact lv_ldc2 hF.1 hF.2.1 hF.2.2.2.2.1 (hF.2.2.2.2.2.2.2.1 _ hw) hd (k hM p e R s m args below meth c H locs cells slots Qf ar hF hR hl hc hs hfin)
theorem AW_ldcS {idx x q : Nat} {t : String × Nat × String} (h : sk_find pc M.2.2.2.2 = some (pc0, (.ldc idx), len, nxt, [x, q])) (ht : sk_str[x]? = some t) (ht2 : t.1 = M.1.cls ∧ t.2.1 = idx) (k : AW l E d mc ms M nxt ls (vr (1000 + x) :: st) G σ Q) : AW l E d mc ms M pc ls st G σ Q := by
  intro hM p e R s m args below meth c H locs cells slots Qf ar hF hR hl hc hs hfin
  obtain ⟨hd, rfl, hA, hlen⟩ := sk_dec hM h
  obtain rfl : 2 = len := hlen.resolve_left (by simp [sk_il])
  have k1 := k hM p e R s m args below meth c H locs cells slots Qf ar hF hR hl hc hs hfin
  have hv : sk_v E (vr (1000 + x)) = .ref (E.2.2.2.1 x) := by
    show Value.ref (sk_ad E (1000 + x)) = _
    unfold sk_ad
    rw [if_neg (by omega), Nat.add_sub_cancel_left]
  rw [List.map_cons, hv] at k1
  have hz := hF.2.2.2.2.2.2.2.2.1.2.2.2.1.2.1 x t ht
  rw [ht2.1, ht2.2] at hz
  exact va_ldcS hF.1 hF.2.1 hF.2.2.2.2.1 hz hd k1
theorem sk_xv (x : Nat) : sk_v E (vr (1020 + x)) = .ref (E.2.2.2.1 (20 + x)) := by
  show Value.ref (sk_ad E (1020 + x)) = _
  unfold sk_ad
  rw [if_neg (by omega), show 1020 + x - 1000 = 20 + x by omega]
theorem AW_gets {idx x q : Nat} (h : sk_find pc M.2.2.2.2 = some (pc0, (.getstatic idx), len, nxt, [x, q])) (k : AW l E d mc ms M nxt ls (vr (1020 + x) :: st) G σ Q) : AW l E d mc ms M pc ls st G σ Q := by
  intro hM p e R s m args below meth c H locs cells slots Qf ar hF hR hl hc hs hfin
  obtain ⟨hd, rfl, hA, hlen⟩ := sk_dec hM h
  obtain rfl : 3 = len := hlen.resolve_left (by simp [sk_il])
  have hA : (decide (lw_tbl[q]? = some (.fieldLink M.1.cls idx "SealKeeper$Reader" (sk_tab.getD x ("", [])).1 "[I")) && Nat.blt x 3) = true := hA
  rw [Bool.and_eq_true, decide_eq_true_eq, Nat.blt_eq] at hA
  have k1 := k hM p e R s m args below meth c H locs cells slots Qf ar hF hR hl hc hs hfin
  rw [List.map_cons, sk_xv] at k1
  have ht : sk_tab[x]? = some (sk_tab.getD x ("", [])) := by
    have : x < sk_tab.length := hA.2
    rw [List.getD_eq_getElem?_getD, List.getElem?_eq_getElem this]
    rfl
  exact va_gets hF.1 hF.2.1 (hF.2.2.2.2.2.2.2.2.1.2.2.2.2.1 x _ ht).1 hR.2.2 hF.2.2.2.2.1 (hF.2.2.2.2.2.2.2.1 _ (sk_wd hA.1 rfl)) (fun _ h => h) hd k1
theorem AW_xld {x : Nat} {i : Int} {t : String × List Int} (h : sk_find pc M.2.2.2.2 = some (pc0, .iaload, len, nxt, aux)) (ht : sk_tab[x]? = some t) (hi : 0 ≤ i ∧ i < 13) (k : AW l E d mc ms M nxt ls (vi (t.2.getD i.toNat 0) :: st) G σ Q) : AW l E d mc ms M pc ls (vi i :: vr (1020 + x) :: st) G σ Q := by
  intro hM p e R s m args below meth c H locs cells slots Qf ar hF hR hl hc hs hfin
  obtain ⟨hd, rfl, hA, hlen⟩ := sk_dec hM h
  obtain rfl : 1 = len := hlen.resolve_left (by simp [sk_il])
  have k1 := k hM p e R s m args below meth c H locs cells slots Qf ar hF hR hl hc hs hfin
  show W p l e R s m args below meth c H locs cells slots Qf (F0 m pc ar (.int (Int32.ofInt i) :: sk_v E (vr (1020 + x)) :: st.map (sk_v E)))
  rw [sk_xv]
  refine va_ti hF.1 hF.2.1 (hF.2.2.2.2.2.2.2.2.1.2.2.2.2.1 x _ ht).2 hR.2.2 (sk_vin hi.1 (by omega) (by decide)) (v := .int (Int32.ofInt (t.2.getD i.toNat 0))) ?_ hd k1
  have := sk_nat hi.1 (by omega)
  rw [show (Int32.ofInt i).toNatClampNeg = i.toNat by omega]
theorem AW_xlen {x : Nat} (h : sk_find pc M.2.2.2.2 = some (pc0, .arraylength, len, nxt, aux)) (hx : x < 3) (k : AW l E d mc ms M nxt ls (vi 13 :: st) G σ Q) : AW l E d mc ms M pc ls (vr (1020 + x) :: st) G σ Q := by
  intro hM p e R s m args below meth c H locs cells slots Qf ar hF hR hl hc hs hfin
  obtain ⟨hd, rfl, hA, hlen⟩ := sk_dec hM h
  obtain rfl : 1 = len := hlen.resolve_left (by simp [sk_il])
  have k1 := k hM p e R s m args below meth c H locs cells slots Qf ar hF hR hl hc hs hfin
  show W p l e R s m args below meth c H locs cells slots Qf (F0 m pc ar (sk_v E (vr (1020 + x)) :: st.map (sk_v E)))
  rw [sk_xv]
  have ht : sk_tab[x]? = some (sk_tab.getD x ("", [])) := by
    have : x < sk_tab.length := hx
    rw [List.getD_eq_getElem?_getD, List.getElem?_eq_getElem this]
    rfl
  exact va_tlen hF.1 hF.2.1 (hF.2.2.2.2.2.2.2.2.1.2.2.2.2.1 x _ ht).2 hR.2.2 (v := Int32.ofInt 13) rfl hd k1
theorem sk_xs : sk_v E (vr 1030) = .ref (E.2.2.2.1 30) := by
  show Value.ref (sk_ad E 1030) = _
  unfold sk_ad
  rw [if_neg (by omega)]
theorem AW_sld {i : Int} (h : sk_find pc M.2.2.2.2 = some (pc0, .iaload, len, nxt, aux)) (hi : 0 ≤ i ∧ i < E.2.2.2.2.2.1) (hL : E.2.2.2.2.2.1 < 2147483648) (k : AW l E d mc ms M nxt ls (vi (E.2.2.2.2.2.2 i.toNat).toInt :: st) G σ Q) : AW l E d mc ms M pc ls (vi i :: vr 1030 :: st) G σ Q := by
  intro hM p e R s m args below meth c H locs cells slots Qf ar hF hR hl hc hs hfin
  obtain ⟨hd, rfl, hA, hlen⟩ := sk_dec hM h
  obtain rfl : 1 = len := hlen.resolve_left (by simp [sk_il])
  have k1 := k hM p e R s m args below meth c H locs cells slots Qf ar hF hR hl hc hs hfin
  show W p l e R s m args below meth c H locs cells slots Qf (F0 m pc ar (.int (Int32.ofInt i) :: sk_v E (vr 1030) :: st.map (sk_v E)))
  rw [sk_xs]
  have hx := hF.2.2.2.2.2.2.2.2.1.2.2.2.2.2.1
  refine va_sld hF.1 hF.2.1 hx.1 hx.2.1 (Nat.not_le.mpr hx.2.2) hR.2.2 (sk_vin hi.1 hi.2 hL) hd ?_
  have := sk_nat hi.1 (by omega)
  rw [show (Int32.ofInt i).toNatClampNeg = i.toNat by omega]
  rw [List.map_cons] at k1
  simp only [sk_v, sk_oi] at k1
  exact k1
theorem AW_slen (h : sk_find pc M.2.2.2.2 = some (pc0, .arraylength, len, nxt, aux)) (k : AW l E d mc ms M nxt ls (vi (E.2.2.2.2.2.1 : Int) :: st) G σ Q) : AW l E d mc ms M pc ls (vr 1030 :: st) G σ Q := by
  intro hM p e R s m args below meth c H locs cells slots Qf ar hF hR hl hc hs hfin
  obtain ⟨hd, rfl, hA, hlen⟩ := sk_dec hM h
  obtain rfl : 1 = len := hlen.resolve_left (by simp [sk_il])
  have k1 := k hM p e R s m args below meth c H locs cells slots Qf ar hF hR hl hc hs hfin
  show W p l e R s m args below meth c H locs cells slots Qf (F0 m pc ar (sk_v E (vr 1030) :: st.map (sk_v E)))
  rw [sk_xs]
  have hx := hF.2.2.2.2.2.2.2.2.1.2.2.2.2.2.1
  refine va_slen hF.1 hF.2.1 hx.1 hx.2.1 (Nat.not_le.mpr hx.2.2) hR.2.2 hd ?_
  rw [← Int32.ofInt_eq_ofNat]
  exact k1
/-! making -/
def sk_nI (I : sk_SI) (k : Nat) : sk_SI := fun k' => if k' = k then fun _ => 0 else I k'
def sk_nL (I : sk_SL) (k : Nat) : sk_SL := fun k' => if k' = k then fun _ => 0 else I k'
def sk_nJ (I : sk_SR) (k : Nat) : sk_SR := fun k' => if k' = k then fun _ => none else I k'
theorem sk_w_push {σ σ' : sk_St} {sh : sk_Sh} (ho : ∀ (k' : Nat) (sh' : sk_Sh), k' < G.length → sk_cell E σ' k' sh' = sk_cell E σ k' sh') : sk_w E (G ++ [sh]) σ' = sk_w E G σ ++ [(E.1 + G.length, sk_cell E σ' G.length sh)] := by
  apply List.ext_getElem?
  intro i
  rw [sk_w_get]
  by_cases hi : i < G.length
  · rw [List.getElem?_append_left hi, List.getElem?_append_left (by simpa [sk_w] using hi), sk_w_get, List.getElem?_eq_getElem hi]
    simp [ho i _ hi]
  · rw [List.getElem?_append_right (by omega), List.getElem?_append_right (by simpa [sk_w] using hi)]
    by_cases h0 : i = G.length
    · subst h0; simp [sk_w]
    · rw [List.getElem?_eq_none (by simp; omega), List.getElem?_eq_none (by simp [sk_w]; omega)]; rfl
theorem sk_new_o (k : Nat) (sh : sk_Sh) (h : k < G.length) : sk_cell E (sk_nI I G.length, sk_nL L G.length, sk_nJ J G.length) k sh = sk_cell E (I, L, J) k sh := by
  have h1 : k ≠ G.length := by omega
  exact sk_cell_o sh (by simp [sk_nI, h1]) (by simp [sk_nL, h1]) (by simp [sk_nJ, h1])
/-- a new cell: where it comes to lie -/
theorem sk_top {σ : sk_St} {p : Program} {e : Env} {R : Room} {s : State} {m : MethodId} {args : Array Value} {below : List Frame} {meth : Method} {c : Code} {H : Heap} {locs : List Loc} {cells slots : Nat} {T : State} (X : Stand p l e R s m args below meth c T locs cells slots) (hT : T.heap = H) (hR : sk_R E G σ s H locs) (hb : E.1 ≤ s.heap.size) (hz : s.heap.size + cells ≤ E.1 + G.length) : H.size = E.1 + G.length := by
  have h1 := X.heapSize
  have h2 := sk_low hR.1 (Nat.le_trans hb hR.2.2.1)
  rw [hT] at h1
  omega
end SKO
end
section
/-! ===== making cells ===== -/
section SKN
variable {l : Launch} {E : sk_En} {d mc ms : Nat} {M : sk_M} {pc pc0 len nxt : Nat} {aux : List Nat} {ls : List (Option sk_V)} {st : List sk_V} {G : List sk_Sh} {σ : sk_St} {I : sk_SI} {L : sk_SL} {J : sk_SR} {Q : Option sk_V → List sk_Sh → sk_St → Prop}
theorem sk_q {H1 : Heap} {q : Nat} {x : va_E} (hD : va_D (sk_A E) (sk_w E G σ ++ [(q, x)])) (hP : va_P E.2.1 vwCl (sk_w E G σ ++ [(q, x)]) H1) (hz : H1.size ≤ E.1 + G.length + 1) : q = E.1 + G.length := by
  have hlen : (sk_w E G σ).length = G.length := by simp [sk_w]
  have hlast : (sk_w E G σ ++ [(q, x)])[G.length]? = some (q, x) := by
    rw [List.getElem?_append_right (by omega), hlen, Nat.sub_self]; rfl
  have h1 : q < H1.size := (hP _ _ hlast).lt
  have h2 : E.1 ≤ q := hD.2 _ _ hlast
  by_cases h3 : q < E.1 + G.length
  · have hk : q - E.1 < G.length := by omega
    have h4 : (sk_w E G σ ++ [(q, x)])[q - E.1]? = some (E.1 + (q - E.1), sk_cell E σ (q - E.1) (G[q - E.1]'hk)) := by
      rw [List.getElem?_append_left (by omega)]
      exact sk_w_at (List.getElem?_eq_getElem hk)
    have := hD.1 _ _ _ _ hlast h4 (by dsimp only; omega)
    omega
  · omega
theorem AW_new {ci q1 q2 q3 idx N : Nat} (h : sk_find pc M.2.2.2.2 = some (pc0, (.new idx), len, nxt, [ci, q1, q2, q3])) (hG : G.length < 1000) (hN : (sk_C ci).2.2 = N) (k : AW l E d mc ms M nxt ls (vr G.length :: st) (G ++ [.inl ci]) (sk_nI I G.length, sk_nL L G.length, sk_nJ J G.length) Q) : AW l E d (mc + 1) (ms + N) M pc ls st G (I, L, J) Q := by
  intro hM p e R s m args below meth c H locs cells slots Qf ar hF hR hl hc hs hfin
  obtain ⟨hd, rfl, hA, hlen⟩ := sk_dec hM h
  obtain rfl : 3 = len := hlen.resolve_left (by simp [sk_il])
  have hA : (Nat.blt ci 11 && decide (lw_tbl[q1]? = some (.classLink M.1.cls idx (sk_C ci).1)) && decide (lw_tbl[q2]? = some (.instantiable (sk_C ci).1 (sk_C ci).2.2)) && decide (lw_tbl[q3]? = some (.initialized (sk_C ci).1))) = true := hA
  simp only [Bool.and_eq_true, decide_eq_true_eq, Nat.blt_eq] at hA
  obtain ⟨⟨⟨f1, f2⟩, f3⟩, f4⟩ := hA
  subst hN
  have hts := hF.2.2.2.2.2.2.2.1
  have hcx := hF.2.2.2.2.2.2.2.2.1
  have hfs : ∀ j, j < (sk_C ci).2.2 → defaultValue (sk_ty ci j) = vp_V ((List.range (sk_C ci).2.2).map (fun j => sk_fv E (sk_nI I G.length, sk_nL L G.length, sk_nJ J G.length) G.length j (sk_ty ci j))) j := by
    intro j hj
    have hh : sk_ty ci j = .int ∨ sk_ty ci j = .boolean ∨ sk_isR (sk_ty ci j) = true := by
      revert j
      rcases (show ci = 0 ∨ ci = 1 ∨ ci = 2 ∨ ci = 3 ∨ ci = 4 ∨ ci = 5 ∨ ci = 6 ∨ ci = 7 ∨ ci = 8 ∨ ci = 9 ∨ ci = 10 by omega) with rfl | rfl | rfl | rfl | rfl | rfl | rfl | rfl | rfl | rfl | rfl <;> decide +kernel
    unfold vp_V
    rw [List.getD_eq_getElem?_getD, sk_fs_get hj, Option.getD_some]
    simp only [sk_fv, sk_nI, sk_nJ, if_true]
    rcases hh with hh | hh | hh
    · rw [hh]; rfl
    · rw [hh]; rfl
    · rw [hh]
      generalize sk_ty ci j = ty at hh
      cases ty <;> first | rfl | cases hh
  refine va_new hF.1 hF.2.1 hts (sk_lays f1) (sk_ty ci) (sk_tyok f1) hF.2.2.2.2.1 (hts _ (sk_wd f2 rfl)) (hts _ (sk_wd f3 rfl)) (hts _ (sk_wd f4 rfl)) hcx.1 hR.1 (sk_w_D E G (I, L, J)) hR.2.2 (fun q hq => Nat.le_trans hcx.2.2.2.2.2.2 hq) (sk_cl f1) hfs (by omega) (by omega) hd (fun q H1 hP1 hD1 hS1 => ?_)
  intro T hT X
  have hsz := X.heapSize
  rw [hT] at hsz
  have hq := sk_q hD1 hP1 (by omega)
  subst hq
  have hw := sk_w_push (E := E) (G := G) (σ := (I, L, J)) (σ' := (sk_nI I G.length, sk_nL L G.length, sk_nJ J G.length)) (sh := .inl ci) (fun k' sh' hk => sk_new_o k' sh' hk)
  have hP2 : va_P E.2.1 vwCl (sk_w E (G ++ [.inl ci]) (sk_nI I G.length, sk_nL L G.length, sk_nJ J G.length)) H1 := by rw [hw]; exact hP1
  have hv : sk_v E (vr G.length) = .ref (E.1 + G.length) := sk_vr (G := G ++ [.inl ci]) (sh := .inl ci) (by simp) (by simp; omega)
  have k1 := k hM p e R s m args below meth c H1 locs (cells + 1) (slots + (sk_C ci).2.2) Qf ar hF ⟨hP2, by simp; omega, hS1⟩ hl ⟨by omega, by simp; omega⟩ (by omega) (fun v G' σ' pc' ar' H' locs' slots' r1 r2 r3 r4 r5 => by
    rw [show cells + 1 + mc = cells + (mc + 1) by omega]
    exact hfin v G' σ' pc' ar' H' locs' slots' r1 r2 r3 (by omega) r5)
  rw [List.map_cons, hv] at k1
  exact k1 T hT X
theorem sk_defI {n : Nat} (cA : ClassId) : vp_cell cA (n, .inl (fun _ => 0)) = arrV cA n (fun _ => defaultValue .int) := rfl
/-- a new array of ints, booleans or longs -/
theorem AW_newa {at' : ArrayType} {tc n : Nat} (h : sk_find pc M.2.2.2.2 = some (pc0, (.newarray at'), len, nxt, aux)) (hat : newarray.typeOf at' = .int ∧ tc = 0 ∨ newarray.typeOf at' = .boolean ∧ tc = 1 ∨ newarray.typeOf at' = .long ∧ tc = 2) (hw : Cond.arrayClass (newarray.typeOf at') ∈ sk_gw) (hn : n ≤ 1000000) (hG : G.length < 1000) (k : AW l E d mc ms M nxt ls (vr G.length :: st) (G ++ [.inr (tc, n)]) (sk_nI I G.length, sk_nL L G.length, sk_nJ J G.length) Q) : AW l E d (mc + 1) (ms + n) M pc ls (vi n :: st) G (I, L, J) Q := by
  intro hM p e R s m args below meth c H locs cells slots Qf ar hF hR hl hc hs hfin
  obtain ⟨hd, rfl, hA, hlen⟩ := sk_dec hM h
  obtain rfl : 2 = len := hlen.resolve_left (by simp [sk_il])
  have hts := hF.2.2.2.2.2.2.2.1
  have hcx := hF.2.2.2.2.2.2.2.2.1
  have ht : (sk_tys E)[tc]? = some (E.2.2.1 tc, newarray.typeOf at') := by
    rcases hat with ⟨h1, rfl⟩ | ⟨h1, rfl⟩ | ⟨h1, rfl⟩ <;> rw [h1] <;> rfl
  have ha : ∀ cA : ClassId, vp_cell cA (n, sk_pay E (sk_nI I G.length, sk_nL L G.length, sk_nJ J G.length) G.length tc) = arrV cA n (fun _ => defaultValue (newarray.typeOf at')) := by
    intro cA
    rcases hat with ⟨h1, rfl⟩ | ⟨h1, rfl⟩ | ⟨h1, rfl⟩ <;> rw [h1] <;> simp only [sk_pay, sk_nI, sk_nL, if_true] <;> rfl
  have hb : n * componentBytes (newarray.typeOf at') ≤ 536870912 := by
    rcases hat with ⟨h1, rfl⟩ | ⟨h1, rfl⟩ | ⟨h1, rfl⟩ <;> rw [h1] <;> simp only [componentBytes] <;> omega
  have hnn : Int32.ofInt (n : Int) = nI n := Int32.ofInt_eq_ofNat
  show W p l e R s m args below meth c H locs cells slots Qf (F0 m pc ar (.int (Int32.ofInt (n : Int)) :: st.map (sk_v E)))
  refine va_newa hF.1 hF.2.1 (hts _ hw) rfl hcx.1 hR.1 (sk_w_D E G (I, L, J)) hR.2.2 (fun q hq => Nat.le_trans hcx.2.2.2.2.2.2 hq) ha ?_ ?_ hb (by omega) (by omega) hd (fun q cA H1 hK1 hP1 hD1 hS1 => ?_)
  · rw [hnn]; exact nI_pos (by omega)
  · rw [hnn]; exact nI_clamp (by omega)
  have hcA : cA = E.2.2.1 tc := by
    have r1 := (hK1.2 (sk_tys E).length (cA, newarray.typeOf at') (by simp)).2
    have r2 := (hcx.1.2 tc _ ht).2
    rcases hat with ⟨h1, rfl⟩ | ⟨h1, rfl⟩ | ⟨h1, rfl⟩ <;> rw [h1] at r1 r2 <;> exact Option.some.inj (r1.symm.trans r2)
  subst hcA
  intro T hT X
  have hsz := X.heapSize
  rw [hT] at hsz
  have hq := sk_q hD1 hP1 (by omega)
  subst hq
  have hw2 := sk_w_push (E := E) (G := G) (σ := (I, L, J)) (σ' := (sk_nI I G.length, sk_nL L G.length, sk_nJ J G.length)) (sh := .inr (tc, n)) (fun k' sh' hk => sk_new_o k' sh' hk)
  have hP2 : va_P E.2.1 vwCl (sk_w E (G ++ [.inr (tc, n)]) (sk_nI I G.length, sk_nL L G.length, sk_nJ J G.length)) H1 := by rw [hw2]; exact hP1
  have hv : sk_v E (vr G.length) = .ref (E.1 + G.length) := sk_vr (G := G ++ [.inr (tc, n)]) (sh := .inr (tc, n)) (by simp) (by simp; omega)
  have k1 := k hM p e R s m args below meth c H1 locs (cells + 1) (slots + n) Qf ar hF ⟨hP2, by simp; omega, hS1⟩ hl ⟨by omega, by simp; omega⟩ (by omega) (fun v G' σ' pc' ar' H' locs' slots' r1 r2 r3 r4 r5 => by
    rw [show cells + 1 + mc = cells + (mc + 1) by omega]
    exact hfin v G' σ' pc' ar' H' locs' slots' r1 r2 r3 (by omega) r5)
  rw [List.map_cons, hv] at k1
  exact k1 T hT X
/-- a new array of Strings -/
theorem AW_newq {idx n : Nat} (h : sk_find pc M.2.2.2.2 = some (pc0, (.anewarray idx), len, nxt, aux)) (hw : Cond.classLink M.1.cls idx "java/lang/String" ∈ sk_gw) (hn : n ≤ 1000000) (hG : G.length < 1000) (k : AW l E d mc ms M nxt ls (vr G.length :: st) (G ++ [.inr (3, n)]) (sk_nI I G.length, sk_nL L G.length, sk_nJ J G.length) Q) : AW l E d (mc + 1) (ms + n) M pc ls (vi n :: st) G (I, L, J) Q := by
  intro hM p e R s m args below meth c H locs cells slots Qf ar hF hR hl hc hs hfin
  obtain ⟨hd, rfl, hA, hlen⟩ := sk_dec hM h
  obtain rfl : 3 = len := hlen.resolve_left (by simp [sk_il])
  have hts := hF.2.2.2.2.2.2.2.1
  have hcx := hF.2.2.2.2.2.2.2.2.1
  have ht : (sk_tys E)[3]? = some (E.2.2.1 3, .object "java/lang/String") := rfl
  have hnn : Int32.ofInt (n : Int) = nI n := Int32.ofInt_eq_ofNat
  show W p l e R s m args below meth c H locs cells slots Qf (F0 m pc ar (.int (Int32.ofInt (n : Int)) :: st.map (sk_v E)))
  refine va_newq (N' := n) hF.1 hF.2.1 hF.2.2.2.2.1 (hts _ hw) hcx.2.2.1 hcx.1 hR.1 (sk_w_D E G (I, L, J)) hR.2.2 (fun q hq => Nat.le_trans hcx.2.2.2.2.2.2 hq) ?_ ?_ (by omega) (by omega) (by omega) hd (fun q cA H1 hK1 hP1 hD1 hS1 => ?_)
  · rw [hnn]; exact nI_pos (by omega)
  · rw [hnn]; exact nI_clamp (by omega)
  have hcA : cA = E.2.2.1 3 := by
    obtain ⟨k1, c1, -, -, -, r1⟩ := (hK1.2 (sk_tys E).length (cA, .object "java/lang/String") (by simp)).2
    obtain ⟨k2, c2, -, -, -, r2⟩ := (hcx.1.2 3 _ ht).2
    exact Option.some.inj (r1.symm.trans r2)
  subst hcA
  intro T hT X
  have hsz := X.heapSize
  rw [hT] at hsz
  have hq := sk_q hD1 hP1 (by omega)
  subst hq
  have hw2 := sk_w_push (E := E) (G := G) (σ := (I, L, J)) (σ' := (sk_nI I G.length, sk_nL L G.length, sk_nJ J G.length)) (sh := .inr (3, n)) (fun k' sh' hk => sk_new_o k' sh' hk)
  have hce : sk_cell E (sk_nI I G.length, sk_nL L G.length, sk_nJ J G.length) G.length (.inr (3, n)) = .inl (E.2.2.1 3, n, .inr (.inr (.inr (.inr (fun _ => none))))) := by
    simp [sk_cell, sk_pay, sk_nJ]
  have hP2 : va_P E.2.1 vwCl (sk_w E (G ++ [.inr (3, n)]) (sk_nI I G.length, sk_nL L G.length, sk_nJ J G.length)) H1 := by rw [hw2, hce]; exact hP1
  have hv : sk_v E (vr G.length) = .ref (E.1 + G.length) := sk_vr (G := G ++ [.inr (3, n)]) (sh := .inr (3, n)) (by simp) (by simp; omega)
  have k1 := k hM p e R s m args below meth c H1 locs (cells + 1) (slots + n) Qf ar hF ⟨hP2, by simp; omega, hS1⟩ hl ⟨by omega, by simp; omega⟩ (by omega) (fun v G' σ' pc' ar' H' locs' slots' r1 r2 r3 r4 r5 => by
    rw [show cells + 1 + mc = cells + (mc + 1) by omega]
    exact hfin v G' σ' pc' ar' H' locs' slots' r1 r2 r3 (by omega) r5)
  rw [List.map_cons, hv] at k1
  exact k1 T hT X
/-- a String constant into an array of Strings -/
theorem AW_aast {k n x : Nat} {i : Int} (h : sk_find pc M.2.2.2.2 = some (pc0, .aastore, len, nxt, aux)) (hG : G[k]? = some (.inr (3, n))) (hi : 0 ≤ i ∧ i < n) (hn : n < 2147483648) (hx : x < 17) (kk : AW l E d mc ms M nxt ls st G (I, L, sk_uR J k i (some (1000 + x))) Q) : AW l E d mc ms M pc ls (vr (1000 + x) :: vi i :: vr k :: st) G (I, L, J) Q := by
  intro hM p e R s m args below meth c H locs cells slots Qf ar hF hR hl hc hs hfin
  obtain ⟨hd, rfl, hA, hlen⟩ := sk_dec hM h
  obtain rfl : 1 = len := hlen.resolve_left (by simp [sk_il])
  have hcx := hF.2.2.2.2.2.2.2.2.1
  have had : sk_ad E (1000 + x) = E.2.2.2.1 x := by
    unfold sk_ad
    rw [if_neg (by omega), Nat.add_sub_cancel_left]
  obtain ⟨cell, c1, c2, c3⟩ := vk_recv hcx.2.2.2.1.1 hx hR.2.2
  have hany : va_Any "java/lang/String" s H (E.2.2.2.1 x) := by
    obtain ⟨kC, hkC, -⟩ := Vm.findClass_spec c3
    refine ⟨cell, c1, c2, ⟨kC, hkC⟩, fun comp hcomp => ?_⟩
    cases c3.symm.trans hcomp
    show Vm.assignableAux s.vm (255 + 1) cell.cls cell.cls = true
    unfold Vm.assignableAux
    rw [beq_self_eq_true, Bool.true_or]
  show W p l e R s m args below meth c H locs cells slots Qf (F0 m pc ar (.ref (sk_ad E (1000 + x)) :: .int (Int32.ofInt i) :: sk_v E (vr k) :: st.map (sk_v E)))
  rw [sk_vr hG hR.2.1, had]
  refine va_astqM hF.1 hF.2.1 hcx.1 hR.1 (sk_w_D E G (I, L, J)) hR.2.2 k 3 (sk_w_at hG) rfl hany (sk_vin hi.1 hi.2 hn) hd (fun H1 locs1 hP1 _ hS1 => ?_)
  rw [sk_w_set (σ' := (I, L, sk_uR J k i (some (1000 + x)))) hG ?_ (fun k' sh' hk => sk_cell_o sh' rfl rfl (sk_uR_o hk))] at hP1
  · exact kk hM p e R s m args below meth c H1 locs1 cells slots Qf ar hF ⟨hP1, hR.2.1, hS1⟩ hl hc hs hfin
  · show Sum.inl _ = _
    congr 3
    show Sum.inr (Sum.inr (Sum.inr (Sum.inr _))) = _
    congr 4
    funext j
    have := sk_cn i hi.1 hi.2 hn
    simp only [sk_uR_s, sk_upR, va_up]
    by_cases hj : (j : Int) = i
    · rw [if_pos hj, if_pos (by omega), Option.map_some, had]
    · rw [if_neg hj, if_neg (by omega)]
theorem AW_objI {k idx : Nat} {sh : sk_Sh} (h : sk_find pc M.2.2.2.2 = some (pc0, (.invokespecial idx), len, nxt, aux)) (hw : Cond.methodLink M.1.cls idx objectInit ∈ sk_gw) (hw2 : Cond.instanceMethod objectInit ∈ sk_gw) (hw3 : Cond.code objectInit ⟨#[0xb1]⟩ 1 none ∈ sk_gw) (hG : G[k]? = some sh) (hd1 : 1 ≤ d) (hW : Nat.ble (sk_cs st) 8 = true) (kk : AW l E d mc ms M nxt ls st G σ Q) : AW l E d mc ms M pc ls (vr k :: st) G σ Q := by
  intro hM p e R s m args below meth c H locs cells slots Qf ar hF hR hl hc hs hfin
  obtain ⟨hd, rfl, hA, hlen⟩ := sk_dec hM h
  obtain rfl : 3 = len := hlen.resolve_left (by simp [sk_il])
  have hts := hF.2.2.2.2.2.2.2.1
  show W p l e R s m args below meth c H locs cells slots Qf (F0 m pc ar (sk_v E (vr k) :: st.map (sk_v E)))
  rw [sk_vr hG hR.2.1]
  refine W.objInit hF.1 hF.2.1 hF.2.2.2.2.1 (hts _ hw) (hts _ hw2) (hts _ hw3) rfl (by rw [hF.2.2.2.1]; exact hl.1) rfl hd ?_ ?_ (kk hM p e R s m args below meth c H locs cells slots Qf ar hF hR hl hc hs hfin)
  · have := hF.2.2.2.2.2.2.2.2.2.1
    omega
  · have := hF.2.2.2.2.2.2.2.2.2.2
    have h8 := Nat.le_of_ble_eq_true hW
    show 2 * 0 + ((st.map (sk_v E)).map fun v => v.category).sum + 12 ≤ R.locals
    rw [sk_cs_eq]
    omega
end SKN
end
section
/-! ===== the methods, instruction by instruction ===== -/
def mX0_init : sk_M := (yX0_init, cX0_init, 3, none, [(32, [(0, .aload_n 0, 1, 1, []), (1, .invokespecial 3, 3, 4, []), (4, .aload_n 0, 1, 5, []), (5, .sipush 300, 3, 8, []), (8, .newarray .int, 2, 10, []), (10, .putfield 9, 3, 13, [0, 2, 362, 3]), (13, .aload_n 0, 1, 14, []), (14, .sipush 2400, 3, 17, []), (17, .newarray .long, 2, 19, []), (19, .putfield 15, 3, 22, [0, 3, 363, 3]), (22, .aload_n 0, 1, 23, []), (23, .sipush 300, 3, 26, []), (26, .newarray .int, 2, 28, []), (28, .putfield 19, 3, 31, [0, 4, 364, 3]), (31, .aload_n 0, 1, 32, []), (32, .sipush 300, 3, 35, [])]),
  (67, [(35, .newarray .boolean, 2, 37, []), (37, .putfield 22, 3, 40, [0, 5, 365, 3]), (40, .aload_n 0, 1, 41, []), (41, .sipush 1500, 3, 44, []), (44, .newarray .long, 2, 46, []), (46, .putfield 26, 3, 49, [0, 6, 366, 3]), (49, .aload_n 0, 1, 50, []), (50, .sipush 300, 3, 53, []), (53, .newarray .int, 2, 55, []), (55, .putfield 29, 3, 58, [0, 7, 367, 3]), (58, .aload_n 0, 1, 59, []), (59, .bipush 20, 2, 61, []), (61, .newarray .int, 2, 63, []), (63, .putfield 32, 3, 66, [0, 8, 368, 3]), (66, .aload_n 0, 1, 67, []), (67, .bipush 104, 2, 69, [])]),
  (99, [(69, .newarray .long, 2, 71, []), (71, .putfield 35, 3, 74, [0, 9, 369, 3]), (74, .aload_n 0, 1, 75, []), (75, .sipush 200, 3, 78, []), (78, .newarray .int, 2, 80, []), (80, .putfield 38, 3, 83, [0, 10, 370, 3]), (83, .aload_n 0, 1, 84, []), (84, .sipush 200, 3, 87, []), (87, .newarray .int, 2, 89, []), (89, .putfield 41, 3, 92, [0, 11, 372, 3]), (92, .aload_n 0, 1, 93, []), (93, .aload_n 1, 1, 94, []), (94, .putfield 44, 3, 97, [0, 1, 361, 3]), (97, .aload_n 0, 1, 98, []), (98, .aload_n 2, 1, 99, []), (99, .putfield 48, 3, 102, [0, 0, 360, 3])]),
  (102, [(102, .return_, 1, 103, [])])])
theorem okX0_init : sk_ok mX0_init := show ∀ c ∈ mX0_init.2.2.2.2, ∀ e ∈ c.2, sk_okI mX0_init e = true from by decide +kernel
def mX0_foretell : sk_M := (yX0_foretell, cX0_foretell, 5, (some .int), [(27, [(0, .aload_n 0, 1, 1, []), (1, .aload_n 1, 1, 2, []), (2, .putfield 44, 3, 5, [0, 1, 361, 3]), (5, .aload_n 0, 1, 6, []), (6, .iconst 0, 1, 7, []), (7, .putfield 52, 3, 10, [0, 12, 374, 0]), (10, .aload_n 0, 1, 11, []), (11, .iconst 0, 1, 12, []), (12, .putfield 56, 3, 15, [0, 14, 376, 1]), (15, .aload_n 0, 1, 16, []), (16, .getfield 32, 3, 19, [0, 8, 368, 3]), (19, .iconst 0, 1, 20, []), (20, .invokestatic 60, 3, 23, []), (23, .aload_n 0, 1, 24, []), (24, .getfield 38, 3, 27, [0, 10, 370, 3]), (27, .iconst 0, 1, 28, [])]),
  (55, [(28, .invokestatic 60, 3, 31, []), (31, .aload_n 0, 1, 32, []), (32, .getfield 41, 3, 35, [0, 11, 372, 3]), (35, .iconst 0, 1, 36, []), (36, .invokestatic 60, 3, 39, []), (39, .aload_n 0, 1, 40, []), (40, .getfield 35, 3, 43, [0, 9, 369, 3]), (43, .lconst 0, 1, 44, []), (44, .invokestatic 66, 3, 47, []), (47, .aload_n 0, 1, 48, []), (48, .iload_n 2, 1, 49, []), (49, .iconst 0, 1, 50, []), (50, .invokevirtual 69, 3, 53, []), (53, .pop, 1, 54, []), (54, .iconst 1, 1, 55, []), (55, .istore_n 3, 1, 56, [])]),
  (86, [(56, .iconst 0, 1, 57, []), (57, .istore 4, 2, 59, []), (59, .iload 4, 2, 61, []), (61, .ldc 73, 2, 63, [99, 904]), (63, .if_icmp .ge 18, 3, 66, [81]), (66, .iload_n 3, 1, 67, []), (67, .ifCond .eq 14, 3, 70, [81]), (70, .aload_n 0, 1, 71, []), (71, .invokevirtual 74, 3, 74, []), (74, .istore_n 3, 1, 75, []), (75, .iinc 4 1, 3, 78, []), (78, .goto (-19), 3, 81, [59]), (81, .aload_n 0, 1, 82, []), (82, .aload_n 0, 1, 83, []), (83, .getfield 56, 3, 86, [0, 14, 376, 1]), (86, .ifCond .ne 7, 3, 89, [93])]),
  (113, [(89, .iconst 1, 1, 90, []), (90, .goto 4, 3, 93, [94]), (93, .iconst 0, 1, 94, []), (94, .putfield 78, 3, 97, [0, 15, 377, 1]), (97, .aload_n 0, 1, 98, []), (98, .getfield 78, 3, 101, [0, 15, 377, 1]), (101, .ifCond .eq 10, 3, 104, [111]), (104, .aload_n 0, 1, 105, []), (105, .getfield 52, 3, 108, [0, 12, 374, 0]), (108, .goto 5, 3, 111, [113]), (111, .bipush (-6), 2, 113, []), (113, .ireturn, 1, 114, [])])])
theorem okX0_foretell : sk_ok mX0_foretell := show ∀ c ∈ mX0_foretell.2.2.2.2, ∀ e ∈ c.2, sk_okI mX0_foretell e = true from by decide +kernel
def mX0_sweep : sk_M := (yX0_sweep, cX0_sweep, 4, (some .boolean), [(25, [(0, .iconst 0, 1, 1, []), (1, .istore_n 1, 1, 2, []), (2, .aload_n 0, 1, 3, []), (3, .getfield 52, 3, 6, [0, 12, 374, 0]), (6, .iconst 1, 1, 7, []), (7, .isub, 1, 8, []), (8, .istore_n 2, 1, 9, []), (9, .iload_n 2, 1, 10, []), (10, .ifCond .lt 106, 3, 13, [116]), (13, .aload_n 0, 1, 14, []), (14, .getfield 56, 3, 17, [0, 14, 376, 1]), (17, .ifCond .ne 99, 3, 20, [116]), (20, .aload_n 0, 1, 21, []), (21, .getfield 22, 3, 24, [0, 5, 365, 3]), (24, .iload_n 2, 1, 25, []), (25, .baload, 1, 26, [])]),
  (50, [(26, .ifCond .eq 84, 3, 29, [110]), (29, .iconst 1, 1, 30, []), (30, .istore_n 1, 1, 31, []), (31, .aload_n 0, 1, 32, []), (32, .getfield 22, 3, 35, [0, 5, 365, 3]), (35, .iload_n 2, 1, 36, []), (36, .iconst 0, 1, 37, []), (37, .bastore, 1, 38, []), (38, .aload_n 0, 1, 39, []), (39, .iload_n 2, 1, 40, []), (40, .putfield 81, 3, 43, [0, 13, 375, 0]), (43, .aload_n 0, 1, 44, []), (44, .getfield 15, 3, 47, [0, 3, 363, 3]), (47, .iload_n 2, 1, 48, []), (48, .bipush 8, 2, 50, []), (50, .imul, 1, 51, [])]),
  (75, [(51, .aload_n 0, 1, 52, []), (52, .getfield 35, 3, 55, [0, 9, 369, 3]), (55, .iconst 0, 1, 56, []), (56, .bipush 8, 2, 58, []), (58, .invokestatic 84, 3, 61, []), (61, .aload_n 0, 1, 62, []), (62, .getfield 19, 3, 65, [0, 4, 364, 3]), (65, .iload_n 2, 1, 66, []), (66, .iaload, 1, 67, []), (67, .istore_n 3, 1, 68, []), (68, .aload_n 0, 1, 69, []), (69, .getfield 19, 3, 72, [0, 4, 364, 3]), (72, .iload_n 2, 1, 73, []), (73, .dup2, 1, 74, []), (74, .iaload, 1, 75, []), (75, .aload_n 0, 1, 76, [])]),
  (101, [(76, .aload_n 0, 1, 77, []), (77, .getfield 44, 3, 80, [0, 1, 361, 3]), (80, .aload_n 0, 1, 81, []), (81, .getfield 9, 3, 84, [0, 2, 362, 3]), (84, .iload_n 2, 1, 85, []), (85, .iaload, 1, 86, []), (86, .invokevirtual 90, 3, 89, []), (89, .iconst 0, 1, 90, []), (90, .invokevirtual 96, 3, 93, []), (93, .ior, 1, 94, []), (94, .iastore, 1, 95, []), (95, .aload_n 0, 1, 96, []), (96, .getfield 19, 3, 99, [0, 4, 364, 3]), (99, .iload_n 2, 1, 100, []), (100, .iaload, 1, 101, []), (101, .iload_n 3, 1, 102, [])]),
  (132, [(102, .if_icmp .eq 8, 3, 105, [110]), (105, .aload_n 0, 1, 106, []), (106, .iload_n 2, 1, 107, []), (107, .invokevirtual 99, 3, 110, []), (110, .iinc 2 (-1), 3, 113, []), (113, .goto (-104), 3, 116, [9]), (116, .iload_n 1, 1, 117, []), (117, .ifCond .eq 14, 3, 120, [131]), (120, .aload_n 0, 1, 121, []), (121, .getfield 56, 3, 124, [0, 14, 376, 1]), (124, .ifCond .ne 7, 3, 127, [131]), (127, .iconst 1, 1, 128, []), (128, .goto 4, 3, 131, [132]), (131, .iconst 0, 1, 132, []), (132, .ireturn, 1, 133, [])])])
theorem okX0_sweep : sk_ok mX0_sweep := show ∀ c ∈ mX0_sweep.2.2.2.2, ∀ e ∈ c.2, sk_okI mX0_sweep e = true from by decide +kernel
def mX0_makeCallersStale : sk_M := (yX0_makeCallersStale, cX0_makeCallersStale, 5, none, [(27, [(0, .iload_n 1, 1, 1, []), (1, .sipush 300, 3, 4, []), (4, .invokestatic 103, 3, 7, []), (7, .ifCond .ne 4, 3, 10, [11]), (10, .return_, 1, 11, []), (11, .iconst 0, 1, 12, []), (12, .istore_n 2, 1, 13, []), (13, .iload_n 2, 1, 14, []), (14, .aload_n 0, 1, 15, []), (15, .getfield 52, 3, 18, [0, 12, 374, 0]), (18, .if_icmp .ge 50, 3, 21, [68]), (21, .aload_n 0, 1, 22, []), (22, .getfield 26, 3, 25, [0, 6, 366, 3]), (25, .iload_n 1, 1, 26, []), (26, .iconst 5, 1, 27, []), (27, .imul, 1, 28, [])]),
  (47, [(28, .iload_n 2, 1, 29, []), (29, .bipush 6, 2, 31, []), (31, .ishr, 1, 32, []), (32, .iadd, 1, 33, []), (33, .laload, 1, 34, []), (34, .lstore_n 3, 1, 35, []), (35, .aload_n 0, 1, 36, []), (36, .getfield 22, 3, 39, [0, 5, 365, 3]), (39, .iload_n 2, 1, 40, []), (40, .dup2, 1, 41, []), (41, .baload, 1, 42, []), (42, .lload_n 3, 1, 43, []), (43, .iload_n 2, 1, 44, []), (44, .bipush 63, 2, 46, []), (46, .iand, 1, 47, []), (47, .lushr, 1, 48, [])]),
  (68, [(48, .lconst 1, 1, 49, []), (49, .land, 1, 50, []), (50, .lconst 1, 1, 51, []), (51, .lcmp, 1, 52, []), (52, .ifCond .ne 7, 3, 55, [59]), (55, .iconst 1, 1, 56, []), (56, .goto 4, 3, 59, [60]), (59, .iconst 0, 1, 60, []), (60, .ior, 1, 61, []), (61, .bastore, 1, 62, []), (62, .iinc 2 1, 3, 65, []), (65, .goto (-52), 3, 68, [13]), (68, .return_, 1, 69, [])])])
theorem okX0_makeCallersStale : sk_ok mX0_makeCallersStale := show ∀ c ∈ mX0_makeCallersStale.2.2.2.2, ∀ e ∈ c.2, sk_okI mX0_makeCallersStale e = true from by decide +kernel
def mX0_walkBlock : sk_M := (yX0_walkBlock, cX0_walkBlock, 6, (some .int), [(27, [(0, .iload_n 2, 1, 1, []), (1, .bipush 12, 2, 3, []), (3, .if_icmp .lt 5, 3, 6, [8]), (6, .iconst 0, 1, 7, []), (7, .ireturn, 1, 8, []), (8, .iconst 1, 1, 9, []), (9, .istore_n 3, 1, 10, []), (10, .iload_n 1, 1, 11, []), (11, .istore 4, 2, 13, []), (13, .sipush 200, 3, 16, []), (16, .istore 5, 2, 18, []), (18, .iload 5, 2, 20, []), (20, .ifCond .le 52, 3, 23, [72]), (23, .aload_n 0, 1, 24, []), (24, .getfield 44, 3, 27, [0, 1, 361, 3]), (27, .iload 4, 2, 29, [])]),
  (54, [(29, .invokevirtual 107, 3, 32, []), (32, .ifCond .eq 40, 3, 35, [72]), (35, .iload_n 3, 1, 36, []), (36, .iconst 1, 1, 37, []), (37, .iand, 1, 38, []), (38, .ifCond .eq 34, 3, 41, [72]), (41, .iload_n 3, 1, 42, []), (42, .bipush (-2), 2, 44, []), (44, .iand, 1, 45, []), (45, .aload_n 0, 1, 46, []), (46, .iload 4, 2, 48, []), (48, .iload_n 2, 1, 49, []), (49, .invokevirtual 111, 3, 52, []), (52, .ior, 1, 53, []), (53, .istore_n 3, 1, 54, []), (54, .aload_n 0, 1, 55, [])]),
  (73, [(55, .getfield 44, 3, 58, [0, 1, 361, 3]), (58, .getfield 114, 3, 61, [2, 6, 165, 3]), (61, .iload 4, 2, 63, []), (63, .iaload, 1, 64, []), (64, .istore 4, 2, 66, []), (66, .iinc 5 (-1), 3, 69, []), (69, .goto (-51), 3, 72, [18]), (72, .iload_n 3, 1, 73, []), (73, .ireturn, 1, 74, [])])])
theorem okX0_walkBlock : sk_ok mX0_walkBlock := show ∀ c ∈ mX0_walkBlock.2.2.2.2, ∀ e ∈ c.2, sk_okI mX0_walkBlock e = true from by decide +kernel
def mX0_walkStep : sk_M := (yX0_walkStep, cX0_walkStep, 3, (some .int), [(90, [(0, .aload_n 0, 1, 1, []), (1, .getfield 38, 3, 4, [0, 10, 370, 3]), (4, .iload_n 1, 1, 5, []), (5, .iconst 1, 1, 6, []), (6, .iastore, 1, 7, []), (7, .aload_n 0, 1, 8, []), (8, .getfield 44, 3, 11, [0, 1, 361, 3]), (11, .getfield 117, 3, 14, [2, 2, 143, 3]), (14, .iload_n 1, 1, 15, []), (15, .iaload, 1, 16, []), (16, .tableswitch 231 0 12 #[68, 75, 94, 94, 231, 231, 231, 124, 131, 231, 162, 199, 229], 68, 84, [247, 84, 91, 110, 110, 247, 247, 247, 140, 147, 247, 178, 215, 245]), (84, .aload_n 0, 1, 85, []), (85, .iload_n 1, 1, 86, []), (86, .iload_n 2, 1, 87, []), (87, .invokevirtual 120, 3, 90, []), (90, .ireturn, 1, 91, [])]),
  (116, [(91, .aload_n 0, 1, 92, []), (92, .aload_n 0, 1, 93, []), (93, .aload_n 0, 1, 94, []), (94, .getfield 44, 3, 97, [0, 1, 361, 3]), (97, .getfield 123, 3, 100, [2, 4, 154, 3]), (100, .iload_n 1, 1, 101, []), (101, .iaload, 1, 102, []), (102, .iload_n 2, 1, 103, []), (103, .invokevirtual 69, 3, 106, []), (106, .invokevirtual 126, 3, 109, []), (109, .ireturn, 1, 110, []), (110, .aload_n 0, 1, 111, []), (111, .iload_n 2, 1, 112, []), (112, .invokevirtual 129, 3, 115, []), (115, .aload_n 0, 1, 116, []), (116, .iload_n 1, 1, 117, [])]),
  (140, [(117, .iload_n 2, 1, 118, []), (118, .iconst 1, 1, 119, []), (119, .iadd, 1, 120, []), (120, .invokevirtual 132, 3, 123, []), (123, .aload_n 0, 1, 124, []), (124, .aload_n 0, 1, 125, []), (125, .getfield 44, 3, 128, [0, 1, 361, 3]), (128, .getfield 136, 3, 131, [2, 7, 169, 3]), (131, .iload_n 1, 1, 132, []), (132, .iaload, 1, 133, []), (133, .iload_n 2, 1, 134, []), (134, .iconst 1, 1, 135, []), (135, .iadd, 1, 136, []), (136, .invokevirtual 96, 3, 139, []), (139, .ireturn, 1, 140, []), (140, .aload_n 0, 1, 141, [])]),
  (168, [(141, .iload_n 1, 1, 142, []), (142, .iload_n 2, 1, 143, []), (143, .invokevirtual 139, 3, 146, []), (146, .ireturn, 1, 147, []), (147, .aload_n 0, 1, 148, []), (148, .getfield 44, 3, 151, [0, 1, 361, 3]), (151, .getfield 123, 3, 154, [2, 4, 154, 3]), (154, .iload_n 1, 1, 155, []), (155, .iaload, 1, 156, []), (156, .ifCond .ne 7, 3, 159, [163]), (159, .iconst 1, 1, 160, []), (160, .goto 17, 3, 163, [177]), (163, .aload_n 0, 1, 164, []), (164, .aload_n 0, 1, 165, []), (165, .getfield 44, 3, 168, [0, 1, 361, 3]), (168, .getfield 136, 3, 171, [2, 7, 169, 3])]),
  (196, [(171, .iload_n 1, 1, 172, []), (172, .iaload, 1, 173, []), (173, .iload_n 2, 1, 174, []), (174, .invokevirtual 142, 3, 177, []), (177, .ireturn, 1, 178, []), (178, .aload_n 0, 1, 179, []), (179, .aload_n 0, 1, 180, []), (180, .iload_n 1, 1, 181, []), (181, .iload_n 2, 1, 182, []), (182, .invokevirtual 145, 3, 185, []), (185, .iconst (-1), 1, 186, []), (186, .if_icmp .ne 15, 3, 189, [201]), (189, .aload_n 0, 1, 190, []), (190, .getfield 44, 3, 193, [0, 1, 361, 3]), (193, .getfield 136, 3, 196, [2, 7, 169, 3]), (196, .iload_n 1, 1, 197, [])]),
  (224, [(197, .iaload, 1, 198, []), (198, .goto 12, 3, 201, [210]), (201, .aload_n 0, 1, 202, []), (202, .getfield 44, 3, 205, [0, 1, 361, 3]), (205, .getfield 148, 3, 208, [2, 8, 173, 3]), (208, .iload_n 1, 1, 209, []), (209, .iaload, 1, 210, []), (210, .iload_n 2, 1, 211, []), (211, .invokevirtual 142, 3, 214, []), (214, .ireturn, 1, 215, []), (215, .aload_n 0, 1, 216, []), (216, .aload_n 0, 1, 217, []), (217, .getfield 44, 3, 220, [0, 1, 361, 3]), (220, .getfield 136, 3, 223, [2, 7, 169, 3]), (223, .iload_n 1, 1, 224, []), (224, .iaload, 1, 225, [])]),
  (248, [(225, .iload_n 2, 1, 226, []), (226, .invokevirtual 142, 3, 229, []), (229, .aload_n 0, 1, 230, []), (230, .aload_n 0, 1, 231, []), (231, .getfield 44, 3, 234, [0, 1, 361, 3]), (234, .getfield 148, 3, 237, [2, 8, 173, 3]), (237, .iload_n 1, 1, 238, []), (238, .iaload, 1, 239, []), (239, .iload_n 2, 1, 240, []), (240, .invokevirtual 142, 3, 243, []), (243, .ior, 1, 244, []), (244, .ireturn, 1, 245, []), (245, .iconst 4, 1, 246, []), (246, .ireturn, 1, 247, []), (247, .iconst 1, 1, 248, []), (248, .ireturn, 1, 249, [])])])
theorem okX0_walkStep : sk_ok mX0_walkStep := show ∀ c ∈ mX0_walkStep.2.2.2.2, ∀ e ∈ c.2, sk_okI mX0_walkStep e = true from by decide +kernel
def mX0_walkAsk : sk_M := (yX0_walkAsk, cX0_walkAsk, 3, (some .int), [(20, [(0, .aload_n 0, 1, 1, []), (1, .iload_n 1, 1, 2, []), (2, .iload_n 2, 1, 3, []), (3, .invokevirtual 145, 3, 6, []), (6, .iconst (-1), 1, 7, []), (7, .if_icmp .ne 5, 3, 10, [12]), (10, .iconst 1, 1, 11, []), (11, .ireturn, 1, 12, []), (12, .aload_n 0, 1, 13, []), (13, .getfield 41, 3, 16, [0, 11, 372, 3]), (16, .iload_n 1, 1, 17, []), (17, .iconst 1, 1, 18, []), (18, .iastore, 1, 19, []), (19, .iconst 2, 1, 20, []), (20, .ireturn, 1, 21, [])])])
theorem okX0_walkAsk : sk_ok mX0_walkAsk := show ∀ c ∈ mX0_walkAsk.2.2.2.2, ∀ e ∈ c.2, sk_okI mX0_walkAsk e = true from by decide +kernel
def mX0_walkTry : sk_M := (yX0_walkTry, cX0_walkTry, 4, (some .int), [(25, [(0, .aload_n 0, 1, 1, []), (1, .aload_n 0, 1, 2, []), (2, .getfield 44, 3, 5, [0, 1, 361, 3]), (5, .getfield 136, 3, 8, [2, 7, 169, 3]), (8, .iload_n 1, 1, 9, []), (9, .iaload, 1, 10, []), (10, .iload_n 2, 1, 11, []), (11, .invokevirtual 142, 3, 14, []), (14, .istore_n 3, 1, 15, []), (15, .iload_n 3, 1, 16, []), (16, .iconst 2, 1, 17, []), (17, .iand, 1, 18, []), (18, .ifCond .ne 7, 3, 21, [25]), (21, .iload_n 3, 1, 22, []), (22, .goto 22, 3, 25, [44]), (25, .iload_n 3, 1, 26, [])]),
  (44, [(26, .bipush (-3), 2, 28, []), (28, .iand, 1, 29, []), (29, .aload_n 0, 1, 30, []), (30, .aload_n 0, 1, 31, []), (31, .getfield 44, 3, 34, [0, 1, 361, 3]), (34, .getfield 148, 3, 37, [2, 8, 173, 3]), (37, .iload_n 1, 1, 38, []), (38, .iaload, 1, 39, []), (39, .iload_n 2, 1, 40, []), (40, .invokevirtual 142, 3, 43, []), (43, .ior, 1, 44, []), (44, .ireturn, 1, 45, [])])])
theorem okX0_walkTry : sk_ok mX0_walkTry := show ∀ c ∈ mX0_walkTry.2.2.2.2, ∀ e ∈ c.2, sk_okI mX0_walkTry e = true from by decide +kernel
def mX0_walkInner : sk_M := (yX0_walkInner, cX0_walkInner, 3, (some .int), [(13, [(0, .aload_n 0, 1, 1, []), (1, .iload_n 2, 1, 2, []), (2, .invokevirtual 129, 3, 5, []), (5, .aload_n 0, 1, 6, []), (6, .iload_n 1, 1, 7, []), (7, .iload_n 2, 1, 8, []), (8, .iconst 1, 1, 9, []), (9, .iadd, 1, 10, []), (10, .invokevirtual 96, 3, 13, []), (13, .ireturn, 1, 14, [])])])
theorem okX0_walkInner : sk_ok mX0_walkInner := show ∀ c ∈ mX0_walkInner.2.2.2.2, ∀ e ∈ c.2, sk_okI mX0_walkInner e = true from by decide +kernel
def mX0_walkCall : sk_M := (yX0_walkCall, cX0_walkCall, 2, (some .int), [(31, [(0, .iload_n 1, 1, 1, []), (1, .sipush 300, 3, 4, []), (4, .invokestatic 103, 3, 7, []), (7, .ifCond .eq 16, 3, 10, [23]), (10, .aload_n 0, 1, 11, []), (11, .getfield 81, 3, 14, [0, 13, 375, 0]), (14, .sipush 300, 3, 17, []), (17, .invokestatic 103, 3, 20, []), (20, .ifCond .ne 5, 3, 23, [25]), (23, .iconst 0, 1, 24, []), (24, .ireturn, 1, 25, []), (25, .aload_n 0, 1, 26, []), (26, .getfield 26, 3, 29, [0, 6, 366, 3]), (29, .iload_n 1, 1, 30, []), (30, .iconst 5, 1, 31, []), (31, .imul, 1, 32, [])]),
  (53, [(32, .aload_n 0, 1, 33, []), (33, .getfield 81, 3, 36, [0, 13, 375, 0]), (36, .bipush 6, 2, 38, []), (38, .ishr, 1, 39, []), (39, .iadd, 1, 40, []), (40, .dup2, 1, 41, []), (41, .laload, 1, 42, []), (42, .lconst 1, 1, 43, []), (43, .aload_n 0, 1, 44, []), (44, .getfield 81, 3, 47, [0, 13, 375, 0]), (47, .bipush 63, 2, 49, []), (49, .iand, 1, 50, []), (50, .lshl, 1, 51, []), (51, .lor, 1, 52, []), (52, .lastore, 1, 53, []), (53, .aload_n 0, 1, 54, [])]),
  (77, [(54, .getfield 19, 3, 57, [0, 4, 364, 3]), (57, .iload_n 1, 1, 58, []), (58, .iaload, 1, 59, []), (59, .iconst 2, 1, 60, []), (60, .iand, 1, 61, []), (61, .aload_n 0, 1, 62, []), (62, .getfield 19, 3, 65, [0, 4, 364, 3]), (65, .iload_n 1, 1, 66, []), (66, .iaload, 1, 67, []), (67, .iconst 5, 1, 68, []), (68, .iand, 1, 69, []), (69, .ifCond .ne 7, 3, 72, [76]), (72, .iconst 0, 1, 73, []), (73, .goto 4, 3, 76, [77]), (76, .iconst 1, 1, 77, []), (77, .ior, 1, 78, [])]),
  (78, [(78, .ireturn, 1, 79, [])])])
theorem okX0_walkCall : sk_ok mX0_walkCall := show ∀ c ∈ mX0_walkCall.2.2.2.2, ∀ e ∈ c.2, sk_okI mX0_walkCall e = true from by decide +kernel
def mX0_refuserOf : sk_M := (yX0_refuserOf, cX0_refuserOf, 4, (some .int), [(24, [(0, .iload_n 2, 1, 1, []), (1, .bipush 8, 2, 3, []), (3, .imul, 1, 4, []), (4, .aload_n 0, 1, 5, []), (5, .getfield 44, 3, 8, [0, 1, 361, 3]), (8, .getfield 123, 3, 11, [2, 4, 154, 3]), (11, .iload_n 1, 1, 12, []), (12, .iaload, 1, 13, []), (13, .iadd, 1, 14, []), (14, .istore_n 3, 1, 15, []), (15, .iload_n 3, 1, 16, []), (16, .aload_n 0, 1, 17, []), (17, .getfield 35, 3, 20, [0, 9, 369, 3]), (20, .arraylength, 1, 21, []), (21, .invokestatic 103, 3, 24, []), (24, .ifCond .eq 24, 3, 27, [48])]),
  (49, [(27, .aload_n 0, 1, 28, []), (28, .getfield 35, 3, 31, [0, 9, 369, 3]), (31, .iload_n 3, 1, 32, []), (32, .laload, 1, 33, []), (33, .aload_n 0, 1, 34, []), (34, .getfield 44, 3, 37, [0, 1, 361, 3]), (37, .getfield 151, 3, 40, [2, 5, 161, 3]), (40, .iload_n 1, 1, 41, []), (41, .iaload, 1, 42, []), (42, .invokestatic 154, 3, 45, []), (45, .goto 4, 3, 48, [49]), (48, .iconst (-1), 1, 49, []), (49, .ireturn, 1, 50, [])])])
theorem okX0_refuserOf : sk_ok mX0_refuserOf := show ∀ c ∈ mX0_refuserOf.2.2.2.2, ∀ e ∈ c.2, sk_okI mX0_refuserOf e = true from by decide +kernel
def mX0_refuserAt : sk_M := (yX0_refuserAt, cX0_refuserAt, 3, (some .int), [(15, [(0, .lload_n 0, 1, 1, []), (1, .iconst 4, 1, 2, []), (2, .bipush 9, 2, 4, []), (4, .iload_n 2, 1, 5, []), (5, .isub, 1, 6, []), (6, .imul, 1, 7, []), (7, .lushr, 1, 8, []), (8, .ldc2_w 158, 3, 11, []), (11, .land, 1, 12, []), (12, .l2i, 1, 13, []), (13, .iconst 1, 1, 14, []), (14, .isub, 1, 15, []), (15, .ireturn, 1, 16, [])])])
theorem okX0_refuserAt : sk_ok mX0_refuserAt := show ∀ c ∈ mX0_refuserAt.2.2.2.2, ∀ e ∈ c.2, sk_okI mX0_refuserAt e = true from by decide +kernel
def mX0_levelsAbove : sk_M := (yX0_levelsAbove, cX0_levelsAbove, 1, (some .long), [(10, [(0, .lconst 1, 1, 1, []), (1, .iconst 4, 1, 2, []), (2, .bipush 9, 2, 4, []), (4, .iload_n 0, 1, 5, []), (5, .isub, 1, 6, []), (6, .imul, 1, 7, []), (7, .lshl, 1, 8, []), (8, .lconst 1, 1, 9, []), (9, .lsub, 1, 10, []), (10, .lreturn, 1, 11, [])])])
theorem okX0_levelsAbove : sk_ok mX0_levelsAbove := show ∀ c ∈ mX0_levelsAbove.2.2.2.2, ∀ e ∈ c.2, sk_okI mX0_levelsAbove e = true from by decide +kernel
def mX0_copyDown : sk_M := (yX0_copyDown, cX0_copyDown, 3, none, [(25, [(0, .iload_n 1, 1, 1, []), (1, .bipush 8, 2, 3, []), (3, .imul, 1, 4, []), (4, .istore_n 2, 1, 5, []), (5, .iload_n 2, 1, 6, []), (6, .ifCond .lt 33, 3, 9, [39]), (9, .iload_n 2, 1, 10, []), (10, .bipush 16, 2, 12, []), (12, .iadd, 1, 13, []), (13, .aload_n 0, 1, 14, []), (14, .getfield 35, 3, 17, [0, 9, 369, 3]), (17, .arraylength, 1, 18, []), (18, .if_icmp .gt 21, 3, 21, [39]), (21, .aload_n 0, 1, 22, []), (22, .getfield 35, 3, 25, [0, 9, 369, 3]), (25, .iload_n 2, 1, 26, [])]),
  (39, [(26, .aload_n 0, 1, 27, []), (27, .getfield 35, 3, 30, [0, 9, 369, 3]), (30, .iload_n 2, 1, 31, []), (31, .bipush 8, 2, 33, []), (33, .iadd, 1, 34, []), (34, .bipush 8, 2, 36, []), (36, .invokestatic 84, 3, 39, []), (39, .return_, 1, 40, [])])])
theorem okX0_copyDown : sk_ok mX0_copyDown := show ∀ c ∈ mX0_copyDown.2.2.2.2, ∀ e ∈ c.2, sk_okI mX0_copyDown e = true from by decide +kernel
def mX0_enterBlock : sk_M := (yX0_enterBlock, cX0_enterBlock, 7, none, [(28, [(0, .aload_n 0, 1, 1, []), (1, .getfield 44, 3, 4, [0, 1, 361, 3]), (4, .aload_n 0, 1, 5, []), (5, .getfield 44, 3, 8, [0, 1, 361, 3]), (8, .getfield 160, 3, 11, [2, 3, 151, 3]), (11, .iload_n 1, 1, 12, []), (12, .iaload, 1, 13, []), (13, .invokevirtual 161, 3, 16, []), (16, .istore_n 3, 1, 17, []), (17, .aload_n 0, 1, 18, []), (18, .getfield 44, 3, 21, [0, 1, 361, 3]), (21, .getfield 123, 3, 24, [2, 4, 154, 3]), (24, .iload_n 1, 1, 25, []), (25, .iaload, 1, 26, []), (26, .istore 4, 2, 28, []), (28, .aload_n 0, 1, 29, [])]),
  (59, [(29, .getfield 44, 3, 32, [0, 1, 361, 3]), (32, .getfield 117, 3, 35, [2, 2, 143, 3]), (35, .iload_n 1, 1, 36, []), (36, .iaload, 1, 37, []), (37, .iconst 3, 1, 38, []), (38, .if_icmp .ne 17, 3, 41, [55]), (41, .aload_n 0, 1, 42, []), (42, .iload_n 2, 1, 43, []), (43, .iload 4, 2, 45, []), (45, .ldc2_w 164, 3, 48, []), (48, .iload_n 3, 1, 49, []), (49, .invokevirtual 166, 3, 52, []), (52, .goto 59, 3, 55, [111]), (55, .ldc2_w 164, 3, 58, []), (58, .aload_n 0, 1, 59, []), (59, .getfield 44, 3, 62, [0, 1, 361, 3])]),
  (88, [(62, .getfield 151, 3, 65, [2, 5, 161, 3]), (65, .iload_n 1, 1, 66, []), (66, .iaload, 1, 67, []), (67, .invokestatic 170, 3, 70, []), (70, .ldc2_w 174, 3, 73, []), (73, .lxor, 1, 74, []), (74, .land, 1, 75, []), (75, .lstore 5, 2, 77, []), (77, .aload_n 0, 1, 78, []), (78, .iload_n 2, 1, 79, []), (79, .iload 4, 2, 81, []), (81, .lload 5, 2, 83, []), (83, .iconst (-1), 1, 84, []), (84, .invokevirtual 166, 3, 87, []), (87, .aload_n 0, 1, 88, []), (88, .iload_n 2, 1, 89, [])]),
  (111, [(89, .iload 4, 2, 91, []), (91, .lload 5, 2, 93, []), (93, .aload_n 0, 1, 94, []), (94, .getfield 48, 3, 97, [0, 0, 360, 3]), (97, .iload_n 3, 1, 98, []), (98, .iload 4, 2, 100, []), (100, .invokevirtual 176, 3, 103, []), (103, .invokestatic 170, 3, 106, []), (106, .land, 1, 107, []), (107, .iload_n 3, 1, 108, []), (108, .invokevirtual 166, 3, 111, []), (111, .return_, 1, 112, [])])])
theorem okX0_enterBlock : sk_ok mX0_enterBlock := show ∀ c ∈ mX0_enterBlock.2.2.2.2, ∀ e ∈ c.2, sk_okI mX0_enterBlock e = true from by decide +kernel
def mX0_change : sk_M := (yX0_change, cX0_change, 7, none, [(27, [(0, .iload_n 1, 1, 1, []), (1, .bipush 8, 2, 3, []), (3, .imul, 1, 4, []), (4, .iload_n 2, 1, 5, []), (5, .iadd, 1, 6, []), (6, .istore 6, 2, 8, []), (8, .iload 6, 2, 10, []), (10, .aload_n 0, 1, 11, []), (11, .getfield 35, 3, 14, [0, 9, 369, 3]), (14, .arraylength, 1, 15, []), (15, .invokestatic 103, 3, 18, []), (18, .ifCond .eq 35, 3, 21, [53]), (21, .aload_n 0, 1, 22, []), (22, .getfield 35, 3, 25, [0, 9, 369, 3]), (25, .iload 6, 2, 27, []), (27, .aload_n 0, 1, 28, [])]),
  (51, [(28, .getfield 35, 3, 31, [0, 9, 369, 3]), (31, .iload 6, 2, 33, []), (33, .laload, 1, 34, []), (34, .lload_n 3, 1, 35, []), (35, .ldc2_w 174, 3, 38, []), (38, .lxor, 1, 39, []), (39, .land, 1, 40, []), (40, .iload 5, 2, 42, []), (42, .iconst 1, 1, 43, []), (43, .iadd, 1, 44, []), (44, .i2l, 1, 45, []), (45, .ldc2_w 181, 3, 48, []), (48, .lmul, 1, 49, []), (49, .lload_n 3, 1, 50, []), (50, .land, 1, 51, []), (51, .lor, 1, 52, [])]),
  (53, [(52, .lastore, 1, 53, []), (53, .return_, 1, 54, [])])])
theorem okX0_change : sk_ok mX0_change := show ∀ c ∈ mX0_change.2.2.2.2, ∀ e ∈ c.2, sk_okI mX0_change e = true from by decide +kernel
def mX0_come : sk_M := (yX0_come, cX0_come, 5, (some .int), [(26, [(0, .aload_n 0, 1, 1, []), (1, .iload_n 2, 1, 2, []), (2, .invokevirtual 129, 3, 5, []), (5, .aload_n 0, 1, 6, []), (6, .getfield 44, 3, 9, [0, 1, 361, 3]), (9, .iload_n 1, 1, 10, []), (10, .invokevirtual 161, 3, 13, []), (13, .istore_n 3, 1, 14, []), (14, .iconst 0, 1, 15, []), (15, .istore 4, 2, 17, []), (17, .iload 4, 2, 19, []), (19, .bipush 8, 2, 21, []), (21, .if_icmp .ge 32, 3, 24, [53]), (24, .aload_n 0, 1, 25, []), (25, .iload_n 2, 1, 26, []), (26, .iconst 1, 1, 27, [])]),
  (56, [(27, .iadd, 1, 28, []), (28, .iload 4, 2, 30, []), (30, .aload_n 0, 1, 31, []), (31, .getfield 48, 3, 34, [0, 0, 360, 3]), (34, .iload_n 3, 1, 35, []), (35, .iload 4, 2, 37, []), (37, .invokevirtual 176, 3, 40, []), (40, .invokestatic 170, 3, 43, []), (43, .iload_n 3, 1, 44, []), (44, .invokevirtual 166, 3, 47, []), (47, .iinc 4 1, 3, 50, []), (50, .goto (-33), 3, 53, [17]), (53, .aload_n 0, 1, 54, []), (54, .iload_n 1, 1, 55, []), (55, .iload_n 2, 1, 56, []), (56, .iconst 1, 1, 57, [])]),
  (85, [(57, .iadd, 1, 58, []), (58, .invokevirtual 183, 3, 61, []), (61, .istore 4, 2, 63, []), (63, .iload 4, 2, 65, []), (65, .aload_n 0, 1, 66, []), (66, .getfield 52, 3, 69, [0, 12, 374, 0]), (69, .invokestatic 103, 3, 72, []), (72, .ifCond .eq 29, 3, 75, [101]), (75, .aload_n 0, 1, 76, []), (76, .aload_n 0, 1, 77, []), (77, .getfield 29, 3, 80, [0, 7, 367, 3]), (80, .iload 4, 2, 82, []), (82, .iaload, 1, 83, []), (83, .iload_n 1, 1, 84, []), (84, .iload_n 2, 1, 85, []), (85, .iconst 1, 1, 86, [])]),
  (116, [(86, .iadd, 1, 87, []), (87, .invokevirtual 186, 3, 90, []), (90, .ifCond .ne 11, 3, 93, [101]), (93, .aload_n 0, 1, 94, []), (94, .getfield 29, 3, 97, [0, 7, 367, 3]), (97, .iload 4, 2, 99, []), (99, .iaload, 1, 100, []), (100, .ireturn, 1, 101, []), (101, .aload_n 0, 1, 102, []), (102, .getfield 52, 3, 105, [0, 12, 374, 0]), (105, .sipush 300, 3, 108, []), (108, .if_icmp .lt 10, 3, 111, [118]), (111, .aload_n 0, 1, 112, []), (112, .iconst 1, 1, 113, []), (113, .putfield 56, 3, 116, [0, 14, 376, 1]), (116, .iconst (-1), 1, 117, [])]),
  (128, [(117, .ireturn, 1, 118, []), (118, .aload_n 0, 1, 119, []), (119, .iload_n 1, 1, 120, []), (120, .iload_n 2, 1, 121, []), (121, .iconst 1, 1, 122, []), (122, .iadd, 1, 123, []), (123, .iload 4, 2, 125, []), (125, .invokevirtual 190, 3, 128, []), (128, .ireturn, 1, 129, [])])])
theorem okX0_come : sk_ok mX0_come := show ∀ c ∈ mX0_come.2.2.2.2, ∀ e ∈ c.2, sk_okI mX0_come e = true from by decide +kernel
def mX0_placeInOrder : sk_M := (yX0_placeInOrder, cX0_placeInOrder, 7, (some .int), [(28, [(0, .iconst 0, 1, 1, []), (1, .istore_n 3, 1, 2, []), (2, .aload_n 0, 1, 3, []), (3, .getfield 52, 3, 6, [0, 12, 374, 0]), (6, .istore 4, 2, 8, []), (8, .iconst 0, 1, 9, []), (9, .istore 5, 2, 11, []), (11, .iload 5, 2, 13, []), (13, .sipush 300, 3, 16, []), (16, .if_icmp .ge 51, 3, 19, [67]), (19, .iload_n 3, 1, 20, []), (20, .iload 4, 2, 22, []), (22, .if_icmp .ge 45, 3, 25, [67]), (25, .iload_n 3, 1, 26, []), (26, .iload 4, 2, 28, []), (28, .iadd, 1, 29, [])]),
  (53, [(29, .iconst 1, 1, 30, []), (30, .iushr, 1, 31, []), (31, .istore 6, 2, 33, []), (33, .aload_n 0, 1, 34, []), (34, .aload_n 0, 1, 35, []), (35, .getfield 29, 3, 38, [0, 7, 367, 3]), (38, .iload 6, 2, 40, []), (40, .iaload, 1, 41, []), (41, .iload_n 1, 1, 42, []), (42, .iload_n 2, 1, 43, []), (43, .invokevirtual 186, 3, 46, []), (46, .ifCond .ge 11, 3, 49, [57]), (49, .iload 6, 2, 51, []), (51, .iconst 1, 1, 52, []), (52, .iadd, 1, 53, []), (53, .istore_n 3, 1, 54, [])]),
  (68, [(54, .goto 7, 3, 57, [61]), (57, .iload 6, 2, 59, []), (59, .istore 4, 2, 61, []), (61, .iinc 5 1, 3, 64, []), (64, .goto (-53), 3, 67, [11]), (67, .iload_n 3, 1, 68, []), (68, .ireturn, 1, 69, [])])])
theorem okX0_placeInOrder : sk_ok mX0_placeInOrder := show ∀ c ∈ mX0_placeInOrder.2.2.2.2, ∀ e ∈ c.2, sk_okI mX0_placeInOrder e = true from by decide +kernel
def mX0_compare : sk_M := (yX0_compare, cX0_compare, 9, (some .int), [(28, [(0, .iload_n 1, 1, 1, []), (1, .ifCond .lt 20, 3, 4, [21]), (4, .iload_n 1, 1, 5, []), (5, .sipush 300, 3, 8, []), (8, .if_icmp .ge 13, 3, 11, [21]), (11, .iload_n 3, 1, 12, []), (12, .ifCond .lt 9, 3, 15, [21]), (15, .iload_n 3, 1, 16, []), (16, .bipush 12, 2, 18, []), (18, .if_icmp .le 5, 3, 21, [23]), (21, .iconst 0, 1, 22, []), (22, .ireturn, 1, 23, []), (23, .aload_n 0, 1, 24, []), (24, .getfield 9, 3, 27, [0, 2, 362, 3]), (27, .iload_n 1, 1, 28, []), (28, .iaload, 1, 29, [])]),
  (53, [(29, .iload_n 2, 1, 30, []), (30, .if_icmp .eq 12, 3, 33, [42]), (33, .aload_n 0, 1, 34, []), (34, .getfield 9, 3, 37, [0, 2, 362, 3]), (37, .iload_n 1, 1, 38, []), (38, .iaload, 1, 39, []), (39, .iload_n 2, 1, 40, []), (40, .isub, 1, 41, []), (41, .ireturn, 1, 42, []), (42, .iconst 0, 1, 43, []), (43, .istore 4, 2, 45, []), (45, .iload 4, 2, 47, []), (47, .bipush 8, 2, 49, []), (49, .if_icmp .ge 59, 3, 52, [108]), (52, .aload_n 0, 1, 53, []), (53, .getfield 15, 3, 56, [0, 3, 363, 3])]),
  (78, [(56, .iload_n 1, 1, 57, []), (57, .bipush 8, 2, 59, []), (59, .imul, 1, 60, []), (60, .iload 4, 2, 62, []), (62, .iadd, 1, 63, []), (63, .laload, 1, 64, []), (64, .lstore 5, 2, 66, []), (66, .aload_n 0, 1, 67, []), (67, .getfield 35, 3, 70, [0, 9, 369, 3]), (70, .iload_n 3, 1, 71, []), (71, .bipush 8, 2, 73, []), (73, .imul, 1, 74, []), (74, .iload 4, 2, 76, []), (76, .iadd, 1, 77, []), (77, .laload, 1, 78, []), (78, .lstore 7, 2, 80, [])]),
  (109, [(80, .lload 5, 2, 82, []), (82, .lload 7, 2, 84, []), (84, .lcmp, 1, 85, []), (85, .ifCond .eq 17, 3, 88, [102]), (88, .lload 5, 2, 90, []), (90, .lload 7, 2, 92, []), (92, .lcmp, 1, 93, []), (93, .ifCond .ge 7, 3, 96, [100]), (96, .iconst (-1), 1, 97, []), (97, .goto 4, 3, 100, [101]), (100, .iconst 1, 1, 101, []), (101, .ireturn, 1, 102, []), (102, .iinc 4 1, 3, 105, []), (105, .goto (-60), 3, 108, [45]), (108, .iconst 0, 1, 109, []), (109, .ireturn, 1, 110, [])])])
theorem okX0_compare : sk_ok mX0_compare := show ∀ c ∈ mX0_compare.2.2.2.2, ∀ e ∈ c.2, sk_okI mX0_compare e = true from by decide +kernel
def mX0_insert : sk_M := (yX0_insert, cX0_insert, 5, (some .int), [(31, [(0, .aload_n 0, 1, 1, []), (1, .getfield 52, 3, 4, [0, 12, 374, 0]), (4, .istore 4, 2, 6, []), (6, .iload 4, 2, 8, []), (8, .sipush 300, 3, 11, []), (11, .invokestatic 103, 3, 14, []), (14, .ifCond .eq 34, 3, 17, [48]), (17, .iload_n 3, 1, 18, []), (18, .aload_n 0, 1, 19, []), (19, .getfield 52, 3, 22, [0, 12, 374, 0]), (22, .iconst 1, 1, 23, []), (23, .iadd, 1, 24, []), (24, .invokestatic 103, 3, 27, []), (27, .ifCond .eq 21, 3, 30, [48]), (30, .iload_n 2, 1, 31, []), (31, .bipush 13, 2, 33, [])]),
  (61, [(33, .invokestatic 103, 3, 36, []), (36, .ifCond .eq 12, 3, 39, [48]), (39, .iload_n 1, 1, 40, []), (40, .bipush 20, 2, 42, []), (42, .invokestatic 103, 3, 45, []), (45, .ifCond .ne 5, 3, 48, [50]), (48, .iconst (-1), 1, 49, []), (49, .ireturn, 1, 50, []), (50, .aload_n 0, 1, 51, []), (51, .getfield 29, 3, 54, [0, 7, 367, 3]), (54, .iload_n 3, 1, 55, []), (55, .aload_n 0, 1, 56, []), (56, .getfield 29, 3, 59, [0, 7, 367, 3]), (59, .iload_n 3, 1, 60, []), (60, .iconst 1, 1, 61, []), (61, .iadd, 1, 62, [])]),
  (87, [(62, .aload_n 0, 1, 63, []), (63, .getfield 52, 3, 66, [0, 12, 374, 0]), (66, .iload_n 3, 1, 67, []), (67, .isub, 1, 68, []), (68, .invokestatic 84, 3, 71, []), (71, .aload_n 0, 1, 72, []), (72, .getfield 29, 3, 75, [0, 7, 367, 3]), (75, .iload_n 3, 1, 76, []), (76, .iload 4, 2, 78, []), (78, .iastore, 1, 79, []), (79, .aload_n 0, 1, 80, []), (80, .getfield 35, 3, 83, [0, 9, 369, 3]), (83, .iload_n 2, 1, 84, []), (84, .bipush 8, 2, 86, []), (86, .imul, 1, 87, []), (87, .aload_n 0, 1, 88, [])]),
  (116, [(88, .getfield 15, 3, 91, [0, 3, 363, 3]), (91, .iload 4, 2, 93, []), (93, .bipush 8, 2, 95, []), (95, .imul, 1, 96, []), (96, .bipush 8, 2, 98, []), (98, .invokestatic 84, 3, 101, []), (101, .aload_n 0, 1, 102, []), (102, .getfield 9, 3, 105, [0, 2, 362, 3]), (105, .iload 4, 2, 107, []), (107, .iload_n 1, 1, 108, []), (108, .iastore, 1, 109, []), (109, .aload_n 0, 1, 110, []), (110, .getfield 19, 3, 113, [0, 4, 364, 3]), (113, .iload 4, 2, 115, []), (115, .iconst 0, 1, 116, []), (116, .iastore, 1, 117, [])]),
  (139, [(117, .aload_n 0, 1, 118, []), (118, .getfield 22, 3, 121, [0, 5, 365, 3]), (121, .iload 4, 2, 123, []), (123, .iconst 1, 1, 124, []), (124, .bastore, 1, 125, []), (125, .aload_n 0, 1, 126, []), (126, .getfield 26, 3, 129, [0, 6, 366, 3]), (129, .iload 4, 2, 131, []), (131, .iconst 5, 1, 132, []), (132, .imul, 1, 133, []), (133, .iload 4, 2, 135, []), (135, .iconst 1, 1, 136, []), (136, .iadd, 1, 137, []), (137, .iconst 5, 1, 138, []), (138, .imul, 1, 139, []), (139, .lconst 0, 1, 140, [])]),
  (163, [(140, .invokestatic 193, 3, 143, []), (143, .aload_n 0, 1, 144, []), (144, .getfield 32, 3, 147, [0, 8, 368, 3]), (147, .iload_n 1, 1, 148, []), (148, .dup2, 1, 149, []), (149, .iaload, 1, 150, []), (150, .iconst 1, 1, 151, []), (151, .iadd, 1, 152, []), (152, .iastore, 1, 153, []), (153, .aload_n 0, 1, 154, []), (154, .dup, 1, 155, []), (155, .getfield 52, 3, 158, [0, 12, 374, 0]), (158, .iconst 1, 1, 159, []), (159, .iadd, 1, 160, []), (160, .putfield 52, 3, 163, [0, 12, 374, 0]), (163, .iload 4, 2, 165, [])]),
  (165, [(165, .ireturn, 1, 166, [])])])
theorem okX0_insert : sk_ok mX0_insert := show ∀ c ∈ mX0_insert.2.2.2.2, ∀ e ∈ c.2, sk_okI mX0_insert e = true from by decide +kernel
def mX0_rootCan : sk_M := (yX0_rootCan, cX0_rootCan, 2, (some .int), [(16, [(0, .aload_n 0, 1, 1, []), (1, .getfield 19, 3, 4, [0, 4, 364, 3]), (4, .iconst 0, 1, 5, []), (5, .iaload, 1, 6, []), (6, .iload_n 1, 1, 7, []), (7, .iand, 1, 8, []), (8, .ifCond .ne 7, 3, 11, [15]), (11, .iconst 0, 1, 12, []), (12, .goto 4, 3, 15, [16]), (15, .iconst 1, 1, 16, []), (16, .ireturn, 1, 17, [])])])
theorem okX0_rootCan : sk_ok mX0_rootCan := show ∀ c ∈ mX0_rootCan.2.2.2.2, ∀ e ∈ c.2, sk_okI mX0_rootCan e = true from by decide +kernel
def mX0_methodsThatCame : sk_M := (yX0_methodsThatCame, cX0_methodsThatCame, 6, (some .int), [(22, [(0, .iconst 0, 1, 1, []), (1, .istore_n 1, 1, 2, []), (2, .aload_n 0, 1, 3, []), (3, .getfield 32, 3, 6, [0, 8, 368, 3]), (6, .astore_n 2, 1, 7, []), (7, .aload_n 2, 1, 8, []), (8, .arraylength, 1, 9, []), (9, .istore_n 3, 1, 10, []), (10, .iconst 0, 1, 11, []), (11, .istore 4, 2, 13, []), (13, .iload 4, 2, 15, []), (15, .iload_n 3, 1, 16, []), (16, .if_icmp .ge 28, 3, 19, [44]), (19, .aload_n 2, 1, 20, []), (20, .iload 4, 2, 22, []), (22, .iaload, 1, 23, [])]),
  (45, [(23, .istore 5, 2, 25, []), (25, .iload_n 1, 1, 26, []), (26, .iload 5, 2, 28, []), (28, .ifCond .ne 7, 3, 31, [35]), (31, .iconst 0, 1, 32, []), (32, .goto 4, 3, 35, [36]), (35, .iconst 1, 1, 36, []), (36, .iadd, 1, 37, []), (37, .istore_n 1, 1, 38, []), (38, .iinc 4 1, 3, 41, []), (41, .goto (-28), 3, 44, [13]), (44, .iload_n 1, 1, 45, []), (45, .ireturn, 1, 46, [])])])
theorem okX0_methodsThatCame : sk_ok mX0_methodsThatCame := show ∀ c ∈ mX0_methodsThatCame.2.2.2.2, ∀ e ∈ c.2, sk_okI mX0_methodsThatCame e = true from by decide +kernel
def mX0_refuser : sk_M := (yX0_refuser, cX0_refuser, 7, (some .int), [(27, [(0, .iload_n 1, 1, 1, []), (1, .bipush 20, 2, 3, []), (3, .invokestatic 103, 3, 6, []), (6, .ifCond .eq 16, 3, 9, [22]), (9, .iload_n 2, 1, 10, []), (10, .aload_n 0, 1, 11, []), (11, .getfield 32, 3, 14, [0, 8, 368, 3]), (14, .iload_n 1, 1, 15, []), (15, .iaload, 1, 16, []), (16, .invokestatic 103, 3, 19, []), (19, .ifCond .ne 5, 3, 22, [24]), (22, .iconst (-1), 1, 23, []), (23, .ireturn, 1, 24, []), (24, .iload_n 2, 1, 25, []), (25, .istore 5, 2, 27, []), (27, .iconst 0, 1, 28, [])]),
  (59, [(28, .istore 6, 2, 30, []), (30, .iload 6, 2, 32, []), (32, .iload_n 1, 1, 33, []), (33, .if_icmp .ge 21, 3, 36, [54]), (36, .iload 5, 2, 38, []), (38, .aload_n 0, 1, 39, []), (39, .getfield 32, 3, 42, [0, 8, 368, 3]), (42, .iload 6, 2, 44, []), (44, .iaload, 1, 45, []), (45, .iadd, 1, 46, []), (46, .istore 5, 2, 48, []), (48, .iinc 6 1, 3, 51, []), (51, .goto (-21), 3, 54, [30]), (54, .iload 5, 2, 56, []), (56, .sipush 300, 3, 59, []), (59, .invokestatic 103, 3, 62, [])]),
  (89, [(62, .ifCond .eq 18, 3, 65, [80]), (65, .aload_n 0, 1, 66, []), (66, .getfield 29, 3, 69, [0, 7, 367, 3]), (69, .iload 5, 2, 71, []), (71, .iaload, 1, 72, []), (72, .bipush 8, 2, 74, []), (74, .imul, 1, 75, []), (75, .iload_n 3, 1, 76, []), (76, .iadd, 1, 77, []), (77, .goto 4, 3, 80, [81]), (80, .iconst (-1), 1, 81, []), (81, .istore 6, 2, 83, []), (83, .iload 6, 2, 85, []), (85, .aload_n 0, 1, 86, []), (86, .getfield 15, 3, 89, [0, 3, 363, 3]), (89, .arraylength, 1, 90, [])]),
  (112, [(90, .invokestatic 103, 3, 93, []), (93, .ifCond .eq 18, 3, 96, [111]), (96, .aload_n 0, 1, 97, []), (97, .getfield 15, 3, 100, [0, 3, 363, 3]), (100, .iload 6, 2, 102, []), (102, .laload, 1, 103, []), (103, .iload 4, 2, 105, []), (105, .invokestatic 154, 3, 108, []), (108, .goto 4, 3, 111, [112]), (111, .iconst (-1), 1, 112, []), (112, .ireturn, 1, 113, [])])])
theorem okX0_refuser : sk_ok mX0_refuser := show ∀ c ∈ mX0_refuser.2.2.2.2, ∀ e ∈ c.2, sk_okI mX0_refuser e = true from by decide +kernel
def mX1_init : sk_M := (yX1_init, cX1_init, 1, none, [(32, [(0, .aload_n 0, 1, 1, []), (1, .invokespecial 3, 3, 4, []), (4, .aload_n 0, 1, 5, []), (5, .sipush 480, 3, 8, []), (8, .newarray .int, 2, 10, []), (10, .putfield 11, 3, 13, [1, 0, 268, 3]), (13, .aload_n 0, 1, 14, []), (14, .sipush 480, 3, 17, []), (17, .newarray .int, 2, 19, []), (19, .putfield 15, 3, 22, [1, 1, 269, 3]), (22, .aload_n 0, 1, 23, []), (23, .sipush 480, 3, 26, []), (26, .newarray .int, 2, 28, []), (28, .putfield 18, 3, 31, [1, 2, 270, 3]), (31, .aload_n 0, 1, 32, []), (32, .sipush 480, 3, 35, [])]),
  (49, [(35, .newarray .int, 2, 37, []), (37, .putfield 21, 3, 40, [1, 3, 271, 3]), (40, .aload_n 0, 1, 41, []), (41, .sipush 480, 3, 44, []), (44, .newarray .int, 2, 46, []), (46, .putfield 24, 3, 49, [1, 4, 272, 3]), (49, .return_, 1, 50, [])])])
theorem okX1_init : sk_ok mX1_init := show ∀ c ∈ mX1_init.2.2.2.2, ∀ e ∈ c.2, sk_okI mX1_init e = true from by decide +kernel
def mX1_clear : sk_M := (yX1_clear, cX1_clear, 1, none, [(5, [(0, .aload_n 0, 1, 1, []), (1, .iconst 0, 1, 2, []), (2, .putfield 27, 3, 5, [1, 5, 273, 0]), (5, .return_, 1, 6, [])])])
theorem okX1_clear : sk_ok mX1_clear := show ∀ c ∈ mX1_clear.2.2.2.2, ∀ e ∈ c.2, sk_okI mX1_clear e = true from by decide +kernel
def mX1_isEmpty : sk_M := (yX1_isEmpty, cX1_isEmpty, 1, (some .boolean), [(12, [(0, .aload_n 0, 1, 1, []), (1, .getfield 27, 3, 4, [1, 5, 273, 0]), (4, .ifCond .gt 7, 3, 7, [11]), (7, .iconst 1, 1, 8, []), (8, .goto 4, 3, 11, [12]), (11, .iconst 0, 1, 12, []), (12, .ireturn, 1, 13, [])])])
theorem okX1_isEmpty : sk_ok mX1_isEmpty := show ∀ c ∈ mX1_isEmpty.2.2.2.2, ∀ e ∈ c.2, sk_okI mX1_isEmpty e = true from by decide +kernel
def mX1_push : sk_M := (yX1_push, cX1_push, 5, none, [(31, [(0, .aload_n 0, 1, 1, []), (1, .getfield 27, 3, 4, [1, 5, 273, 0]), (4, .ifCond .lt 74, 3, 7, [78]), (7, .aload_n 0, 1, 8, []), (8, .getfield 27, 3, 11, [1, 5, 273, 0]), (11, .sipush 480, 3, 14, []), (14, .if_icmp .ge 64, 3, 17, [78]), (17, .aload_n 0, 1, 18, []), (18, .getfield 11, 3, 21, [1, 0, 268, 3]), (21, .aload_n 0, 1, 22, []), (22, .getfield 27, 3, 25, [1, 5, 273, 0]), (25, .iload_n 1, 1, 26, []), (26, .iastore, 1, 27, []), (27, .aload_n 0, 1, 28, []), (28, .getfield 15, 3, 31, [1, 1, 269, 3]), (31, .aload_n 0, 1, 32, [])]),
  (58, [(32, .getfield 27, 3, 35, [1, 5, 273, 0]), (35, .iload_n 2, 1, 36, []), (36, .iastore, 1, 37, []), (37, .aload_n 0, 1, 38, []), (38, .getfield 18, 3, 41, [1, 2, 270, 3]), (41, .aload_n 0, 1, 42, []), (42, .getfield 27, 3, 45, [1, 5, 273, 0]), (45, .iload_n 3, 1, 46, []), (46, .iastore, 1, 47, []), (47, .aload_n 0, 1, 48, []), (48, .getfield 21, 3, 51, [1, 3, 271, 3]), (51, .aload_n 0, 1, 52, []), (52, .getfield 27, 3, 55, [1, 5, 273, 0]), (55, .iload 4, 2, 57, []), (57, .iastore, 1, 58, []), (58, .aload_n 0, 1, 59, [])]),
  (78, [(59, .getfield 24, 3, 62, [1, 4, 272, 3]), (62, .aload_n 0, 1, 63, []), (63, .getfield 27, 3, 66, [1, 5, 273, 0]), (66, .iconst 0, 1, 67, []), (67, .iastore, 1, 68, []), (68, .aload_n 0, 1, 69, []), (69, .dup, 1, 70, []), (70, .getfield 27, 3, 73, [1, 5, 273, 0]), (73, .iconst 1, 1, 74, []), (74, .iadd, 1, 75, []), (75, .putfield 27, 3, 78, [1, 5, 273, 0]), (78, .return_, 1, 79, [])])])
theorem okX1_push : sk_ok mX1_push := show ∀ c ∈ mX1_push.2.2.2.2, ∀ e ∈ c.2, sk_okI mX1_push e = true from by decide +kernel
def mX1_pop : sk_M := (yX1_pop, cX1_pop, 1, none, [(17, [(0, .aload_n 0, 1, 1, []), (1, .getfield 27, 3, 4, [1, 5, 273, 0]), (4, .ifCond .le 13, 3, 7, [17]), (7, .aload_n 0, 1, 8, []), (8, .dup, 1, 9, []), (9, .getfield 27, 3, 12, [1, 5, 273, 0]), (12, .iconst 1, 1, 13, []), (13, .isub, 1, 14, []), (14, .putfield 27, 3, 17, [1, 5, 273, 0]), (17, .return_, 1, 18, [])])])
theorem okX1_pop : sk_ok mX1_pop := show ∀ c ∈ mX1_pop.2.2.2.2, ∀ e ∈ c.2, sk_okI mX1_pop e = true from by decide +kernel
def mX1_topRole : sk_M := (yX1_topRole, cX1_topRole, 1, (some .int), [(22, [(0, .aload_n 0, 1, 1, []), (1, .getfield 27, 3, 4, [1, 5, 273, 0]), (4, .ifCond .le 17, 3, 7, [21]), (7, .aload_n 0, 1, 8, []), (8, .getfield 11, 3, 11, [1, 0, 268, 3]), (11, .aload_n 0, 1, 12, []), (12, .getfield 27, 3, 15, [1, 5, 273, 0]), (15, .iconst 1, 1, 16, []), (16, .isub, 1, 17, []), (17, .iaload, 1, 18, []), (18, .goto 4, 3, 21, [22]), (21, .iconst (-1), 1, 22, []), (22, .ireturn, 1, 23, [])])])
theorem okX1_topRole : sk_ok mX1_topRole := show ∀ c ∈ mX1_topRole.2.2.2.2, ∀ e ∈ c.2, sk_okI mX1_topRole e = true from by decide +kernel
def mX1_topOpener : sk_M := (yX1_topOpener, cX1_topOpener, 1, (some .int), [(22, [(0, .aload_n 0, 1, 1, []), (1, .getfield 27, 3, 4, [1, 5, 273, 0]), (4, .ifCond .le 17, 3, 7, [21]), (7, .aload_n 0, 1, 8, []), (8, .getfield 15, 3, 11, [1, 1, 269, 3]), (11, .aload_n 0, 1, 12, []), (12, .getfield 27, 3, 15, [1, 5, 273, 0]), (15, .iconst 1, 1, 16, []), (16, .isub, 1, 17, []), (17, .iaload, 1, 18, []), (18, .goto 4, 3, 21, [22]), (21, .iconst (-1), 1, 22, []), (22, .ireturn, 1, 23, [])])])
theorem okX1_topOpener : sk_ok mX1_topOpener := show ∀ c ∈ mX1_topOpener.2.2.2.2, ∀ e ∈ c.2, sk_okI mX1_topOpener e = true from by decide +kernel
def mX1_topNext : sk_M := (yX1_topNext, cX1_topNext, 1, (some .int), [(22, [(0, .aload_n 0, 1, 1, []), (1, .getfield 27, 3, 4, [1, 5, 273, 0]), (4, .ifCond .le 17, 3, 7, [21]), (7, .aload_n 0, 1, 8, []), (8, .getfield 18, 3, 11, [1, 2, 270, 3]), (11, .aload_n 0, 1, 12, []), (12, .getfield 27, 3, 15, [1, 5, 273, 0]), (15, .iconst 1, 1, 16, []), (16, .isub, 1, 17, []), (17, .iaload, 1, 18, []), (18, .goto 4, 3, 21, [22]), (21, .iconst (-1), 1, 22, []), (22, .ireturn, 1, 23, [])])])
theorem okX1_topNext : sk_ok mX1_topNext := show ∀ c ∈ mX1_topNext.2.2.2.2, ∀ e ∈ c.2, sk_okI mX1_topNext e = true from by decide +kernel
def mX1_topStack : sk_M := (yX1_topStack, cX1_topStack, 1, (some .int), [(22, [(0, .aload_n 0, 1, 1, []), (1, .getfield 27, 3, 4, [1, 5, 273, 0]), (4, .ifCond .le 17, 3, 7, [21]), (7, .aload_n 0, 1, 8, []), (8, .getfield 21, 3, 11, [1, 3, 271, 3]), (11, .aload_n 0, 1, 12, []), (12, .getfield 27, 3, 15, [1, 5, 273, 0]), (15, .iconst 1, 1, 16, []), (16, .isub, 1, 17, []), (17, .iaload, 1, 18, []), (18, .goto 4, 3, 21, [22]), (21, .iconst (-1), 1, 22, []), (22, .ireturn, 1, 23, [])])])
theorem okX1_topStack : sk_ok mX1_topStack := show ∀ c ∈ mX1_topStack.2.2.2.2, ∀ e ∈ c.2, sk_okI mX1_topStack e = true from by decide +kernel
def mX1_topTimesLeft : sk_M := (yX1_topTimesLeft, cX1_topTimesLeft, 1, (some .int), [(22, [(0, .aload_n 0, 1, 1, []), (1, .getfield 27, 3, 4, [1, 5, 273, 0]), (4, .ifCond .le 17, 3, 7, [21]), (7, .aload_n 0, 1, 8, []), (8, .getfield 24, 3, 11, [1, 4, 272, 3]), (11, .aload_n 0, 1, 12, []), (12, .getfield 27, 3, 15, [1, 5, 273, 0]), (15, .iconst 1, 1, 16, []), (16, .isub, 1, 17, []), (17, .iaload, 1, 18, []), (18, .goto 4, 3, 21, [22]), (21, .iconst (-1), 1, 22, []), (22, .ireturn, 1, 23, [])])])
theorem okX1_topTimesLeft : sk_ok mX1_topTimesLeft := show ∀ c ∈ mX1_topTimesLeft.2.2.2.2, ∀ e ∈ c.2, sk_okI mX1_topTimesLeft e = true from by decide +kernel
def mX1_goTo : sk_M := (yX1_goTo, cX1_goTo, 2, none, [(19, [(0, .aload_n 0, 1, 1, []), (1, .getfield 27, 3, 4, [1, 5, 273, 0]), (4, .ifCond .le 15, 3, 7, [19]), (7, .aload_n 0, 1, 8, []), (8, .getfield 18, 3, 11, [1, 2, 270, 3]), (11, .aload_n 0, 1, 12, []), (12, .getfield 27, 3, 15, [1, 5, 273, 0]), (15, .iconst 1, 1, 16, []), (16, .isub, 1, 17, []), (17, .iload_n 1, 1, 18, []), (18, .iastore, 1, 19, []), (19, .return_, 1, 20, [])])])
theorem okX1_goTo : sk_ok mX1_goTo := show ∀ c ∈ mX1_goTo.2.2.2.2, ∀ e ∈ c.2, sk_okI mX1_goTo e = true from by decide +kernel
def mX1_setTimesLeft : sk_M := (yX1_setTimesLeft, cX1_setTimesLeft, 2, none, [(19, [(0, .aload_n 0, 1, 1, []), (1, .getfield 27, 3, 4, [1, 5, 273, 0]), (4, .ifCond .le 15, 3, 7, [19]), (7, .aload_n 0, 1, 8, []), (8, .getfield 24, 3, 11, [1, 4, 272, 3]), (11, .aload_n 0, 1, 12, []), (12, .getfield 27, 3, 15, [1, 5, 273, 0]), (15, .iconst 1, 1, 16, []), (16, .isub, 1, 17, []), (17, .iload_n 1, 1, 18, []), (18, .iastore, 1, 19, []), (19, .return_, 1, 20, [])])])
theorem okX1_setTimesLeft : sk_ok mX1_setTimesLeft := show ∀ c ∈ mX1_setTimesLeft.2.2.2.2, ∀ e ∈ c.2, sk_okI mX1_setTimesLeft e = true from by decide +kernel
def mX2_init : sk_M := (yX2_init, cX2_init, 1, none, [(30, [(0, .aload_n 0, 1, 1, []), (1, .invokespecial 3, 3, 4, []), (4, .aload_n 0, 1, 5, []), (5, .bipush 20, 2, 7, []), (7, .newarray .int, 2, 9, []), (9, .putfield 9, 3, 12, [2, 0, 139, 3]), (12, .aload_n 0, 1, 13, []), (13, .bipush 20, 2, 15, []), (15, .newarray .int, 2, 17, []), (17, .putfield 15, 3, 20, [2, 1, 140, 3]), (20, .aload_n 0, 1, 21, []), (21, .sipush 200, 3, 24, []), (24, .newarray .int, 2, 26, []), (26, .putfield 18, 3, 29, [2, 2, 142, 3]), (29, .aload_n 0, 1, 30, []), (30, .sipush 200, 3, 33, [])]),
  (66, [(33, .newarray .int, 2, 35, []), (35, .putfield 21, 3, 38, [2, 3, 148, 3]), (38, .aload_n 0, 1, 39, []), (39, .sipush 200, 3, 42, []), (42, .newarray .int, 2, 44, []), (44, .putfield 24, 3, 47, [2, 4, 152, 3]), (47, .aload_n 0, 1, 48, []), (48, .sipush 200, 3, 51, []), (51, .newarray .int, 2, 53, []), (53, .putfield 27, 3, 56, [2, 5, 158, 3]), (56, .aload_n 0, 1, 57, []), (57, .sipush 200, 3, 60, []), (60, .newarray .int, 2, 62, []), (62, .putfield 30, 3, 65, [2, 6, 164, 3]), (65, .aload_n 0, 1, 66, []), (66, .sipush 200, 3, 69, [])]),
  (83, [(69, .newarray .int, 2, 71, []), (71, .putfield 33, 3, 74, [2, 7, 168, 3]), (74, .aload_n 0, 1, 75, []), (75, .sipush 200, 3, 78, []), (78, .newarray .int, 2, 80, []), (80, .putfield 36, 3, 83, [2, 8, 172, 3]), (83, .return_, 1, 84, [])])])
theorem okX2_init : sk_ok mX2_init := show ∀ c ∈ mX2_init.2.2.2.2, ∀ e ∈ c.2, sk_okI mX2_init e = true from by decide +kernel
def mX2_clear : sk_M := (yX2_clear, cX2_clear, 1, none, [(15, [(0, .aload_n 0, 1, 1, []), (1, .iconst 0, 1, 2, []), (2, .putfield 39, 3, 5, [2, 9, 176, 0]), (5, .aload_n 0, 1, 6, []), (6, .iconst 0, 1, 7, []), (7, .putfield 43, 3, 10, [2, 10, 179, 0]), (10, .aload_n 0, 1, 11, []), (11, .iconst 0, 1, 12, []), (12, .putfield 46, 3, 15, [2, 11, 182, 0]), (15, .return_, 1, 16, [])])])
theorem okX2_clear : sk_ok mX2_clear := show ∀ c ∈ mX2_clear.2.2.2.2, ∀ e ∈ c.2, sk_okI mX2_clear e = true from by decide +kernel
def mX2_addMethod : sk_M := (yX2_addMethod, cX2_addMethod, 3, (some .int), [(24, [(0, .aload_n 0, 1, 1, []), (1, .getfield 39, 3, 4, [2, 9, 176, 0]), (4, .istore_n 2, 1, 5, []), (5, .iload_n 2, 1, 6, []), (6, .bipush 20, 2, 8, []), (8, .invokestatic 49, 3, 11, []), (11, .ifCond .ne 5, 3, 14, [16]), (14, .iconst (-1), 1, 15, []), (15, .ireturn, 1, 16, []), (16, .aload_n 0, 1, 17, []), (17, .getfield 9, 3, 20, [2, 0, 139, 3]), (20, .iload_n 2, 1, 21, []), (21, .iload_n 1, 1, 22, []), (22, .iastore, 1, 23, []), (23, .aload_n 0, 1, 24, []), (24, .getfield 15, 3, 27, [2, 1, 140, 3])]),
  (41, [(27, .iload_n 2, 1, 28, []), (28, .iconst (-1), 1, 29, []), (29, .iastore, 1, 30, []), (30, .aload_n 0, 1, 31, []), (31, .dup, 1, 32, []), (32, .getfield 39, 3, 35, [2, 9, 176, 0]), (35, .iconst 1, 1, 36, []), (36, .iadd, 1, 37, []), (37, .putfield 39, 3, 40, [2, 9, 176, 0]), (40, .iload_n 2, 1, 41, []), (41, .ireturn, 1, 42, [])])])
theorem okX2_addMethod : sk_ok mX2_addMethod := show ∀ c ∈ mX2_addMethod.2.2.2.2, ∀ e ∈ c.2, sk_okI mX2_addMethod e = true from by decide +kernel
def mX2_addStep : sk_M := (yX2_addStep, cX2_addStep, 3, (some .int), [(25, [(0, .aload_n 0, 1, 1, []), (1, .getfield 43, 3, 4, [2, 10, 179, 0]), (4, .istore_n 2, 1, 5, []), (5, .iload_n 2, 1, 6, []), (6, .sipush 200, 3, 9, []), (9, .invokestatic 49, 3, 12, []), (12, .ifCond .ne 5, 3, 15, [17]), (15, .iconst (-1), 1, 16, []), (16, .ireturn, 1, 17, []), (17, .aload_n 0, 1, 18, []), (18, .getfield 18, 3, 21, [2, 2, 142, 3]), (21, .iload_n 2, 1, 22, []), (22, .iload_n 1, 1, 23, []), (23, .iastore, 1, 24, []), (24, .aload_n 0, 1, 25, []), (25, .getfield 21, 3, 28, [2, 3, 148, 3])]),
  (49, [(28, .iload_n 2, 1, 29, []), (29, .aload_n 0, 1, 30, []), (30, .getfield 39, 3, 33, [2, 9, 176, 0]), (33, .iconst 1, 1, 34, []), (34, .isub, 1, 35, []), (35, .iastore, 1, 36, []), (36, .aload_n 0, 1, 37, []), (37, .getfield 24, 3, 40, [2, 4, 152, 3]), (40, .iload_n 2, 1, 41, []), (41, .iconst (-1), 1, 42, []), (42, .iastore, 1, 43, []), (43, .aload_n 0, 1, 44, []), (44, .getfield 27, 3, 47, [2, 5, 158, 3]), (47, .iload_n 2, 1, 48, []), (48, .iconst (-1), 1, 49, []), (49, .iastore, 1, 50, [])]),
  (71, [(50, .aload_n 0, 1, 51, []), (51, .getfield 30, 3, 54, [2, 6, 164, 3]), (54, .iload_n 2, 1, 55, []), (55, .iconst (-1), 1, 56, []), (56, .iastore, 1, 57, []), (57, .aload_n 0, 1, 58, []), (58, .getfield 33, 3, 61, [2, 7, 168, 3]), (61, .iload_n 2, 1, 62, []), (62, .iconst (-1), 1, 63, []), (63, .iastore, 1, 64, []), (64, .aload_n 0, 1, 65, []), (65, .getfield 36, 3, 68, [2, 8, 172, 3]), (68, .iload_n 2, 1, 69, []), (69, .iconst (-1), 1, 70, []), (70, .iastore, 1, 71, []), (71, .aload_n 0, 1, 72, [])]),
  (82, [(72, .dup, 1, 73, []), (73, .getfield 43, 3, 76, [2, 10, 179, 0]), (76, .iconst 1, 1, 77, []), (77, .iadd, 1, 78, []), (78, .putfield 43, 3, 81, [2, 10, 179, 0]), (81, .iload_n 2, 1, 82, []), (82, .ireturn, 1, 83, [])])])
theorem okX2_addStep : sk_ok mX2_addStep := show ∀ c ∈ mX2_addStep.2.2.2.2, ∀ e ∈ c.2, sk_okI mX2_addStep e = true from by decide +kernel
def mX2_ownerOf : sk_M := (yX2_ownerOf, cX2_ownerOf, 2, (some .int), [(21, [(0, .iload_n 1, 1, 1, []), (1, .aload_n 0, 1, 2, []), (2, .getfield 39, 3, 5, [2, 9, 176, 0]), (5, .invokestatic 49, 3, 8, []), (8, .ifCond .eq 12, 3, 11, [20]), (11, .aload_n 0, 1, 12, []), (12, .getfield 9, 3, 15, [2, 0, 139, 3]), (15, .iload_n 1, 1, 16, []), (16, .iaload, 1, 17, []), (17, .goto 4, 3, 20, [21]), (20, .iconst (-1), 1, 21, []), (21, .ireturn, 1, 22, [])])])
theorem okX2_ownerOf : sk_ok mX2_ownerOf := show ∀ c ∈ mX2_ownerOf.2.2.2.2, ∀ e ∈ c.2, sk_okI mX2_ownerOf e = true from by decide +kernel
def mX2_startOf : sk_M := (yX2_startOf, cX2_startOf, 2, (some .int), [(21, [(0, .iload_n 1, 1, 1, []), (1, .aload_n 0, 1, 2, []), (2, .getfield 39, 3, 5, [2, 9, 176, 0]), (5, .invokestatic 49, 3, 8, []), (8, .ifCond .eq 12, 3, 11, [20]), (11, .aload_n 0, 1, 12, []), (12, .getfield 15, 3, 15, [2, 1, 140, 3]), (15, .iload_n 1, 1, 16, []), (16, .iaload, 1, 17, []), (17, .goto 4, 3, 20, [21]), (20, .iconst (-1), 1, 21, []), (21, .ireturn, 1, 22, [])])])
theorem okX2_startOf : sk_ok mX2_startOf := show ∀ c ∈ mX2_startOf.2.2.2.2, ∀ e ∈ c.2, sk_okI mX2_startOf e = true from by decide +kernel
def mX2_hasStep : sk_M := (yX2_hasStep, cX2_hasStep, 2, (some .boolean), [(8, [(0, .iload_n 1, 1, 1, []), (1, .aload_n 0, 1, 2, []), (2, .getfield 43, 3, 5, [2, 10, 179, 0]), (5, .invokestatic 49, 3, 8, []), (8, .ireturn, 1, 9, [])])])
theorem okX2_hasStep : sk_ok mX2_hasStep := show ∀ c ∈ mX2_hasStep.2.2.2.2, ∀ e ∈ c.2, sk_okI mX2_hasStep e = true from by decide +kernel
def mX2_countOf : sk_M := (yX2_countOf, cX2_countOf, 4, (some .int), [(23, [(0, .iconst 0, 1, 1, []), (1, .istore_n 2, 1, 2, []), (2, .iconst 0, 1, 3, []), (3, .istore_n 3, 1, 4, []), (4, .iload_n 3, 1, 5, []), (5, .aload_n 0, 1, 6, []), (6, .getfield 43, 3, 9, [2, 10, 179, 0]), (9, .if_icmp .ge 27, 3, 12, [36]), (12, .iload_n 2, 1, 13, []), (13, .aload_n 0, 1, 14, []), (14, .getfield 18, 3, 17, [2, 2, 142, 3]), (17, .iload_n 3, 1, 18, []), (18, .iaload, 1, 19, []), (19, .iload_n 1, 1, 20, []), (20, .if_icmp .ne 7, 3, 23, [27]), (23, .iconst 1, 1, 24, [])]),
  (37, [(24, .goto 4, 3, 27, [28]), (27, .iconst 0, 1, 28, []), (28, .iadd, 1, 29, []), (29, .istore_n 2, 1, 30, []), (30, .iinc 3 1, 3, 33, []), (33, .goto (-29), 3, 36, [4]), (36, .iload_n 2, 1, 37, []), (37, .ireturn, 1, 38, [])])])
theorem okX2_countOf : sk_ok mX2_countOf := show ∀ c ∈ mX2_countOf.2.2.2.2, ∀ e ∈ c.2, sk_okI mX2_countOf e = true from by decide +kernel
def mX2_canBeForetold : sk_M := (yX2_canBeForetold, cX2_canBeForetold, 1, (some .boolean), [(26, [(0, .aload_n 0, 1, 1, []), (1, .iconst 4, 1, 2, []), (2, .invokevirtual 53, 3, 5, []), (5, .aload_n 0, 1, 6, []), (6, .iconst 5, 1, 7, []), (7, .invokevirtual 53, 3, 10, []), (10, .iadd, 1, 11, []), (11, .aload_n 0, 1, 12, []), (12, .bipush 6, 2, 14, []), (14, .invokevirtual 53, 3, 17, []), (17, .iadd, 1, 18, []), (18, .ifCond .ne 7, 3, 21, [25]), (21, .iconst 1, 1, 22, []), (22, .goto 4, 3, 25, [26]), (25, .iconst 0, 1, 26, []), (26, .ireturn, 1, 27, [])])])
theorem okX2_canBeForetold : sk_ok mX2_canBeForetold := show ∀ c ∈ mX2_canBeForetold.2.2.2.2, ∀ e ∈ c.2, sk_okI mX2_canBeForetold e = true from by decide +kernel
def mX3_init : sk_M := (yX3_init, cX3_init, 2, none, [(29, [(0, .aload_n 0, 1, 1, []), (1, .invokespecial 3, 3, 4, []), (4, .aload_n 0, 1, 5, []), (5, .new 9, 3, 8, [8, 216, 217, 81]), (8, .dup, 1, 9, []), (9, .invokespecial 11, 3, 12, []), (12, .putfield 12, 3, 15, [3, 0, 232, 3]), (15, .aload_n 0, 1, 16, []), (16, .sipush 200, 3, 19, []), (19, .newarray .int, 2, 21, []), (21, .putfield 18, 3, 24, [3, 1, 233, 3]), (24, .aload_n 0, 1, 25, []), (25, .aload_n 1, 1, 26, []), (26, .putfield 22, 3, 29, [3, 2, 234, 3]), (29, .return_, 1, 30, [])])])
theorem okX3_init : sk_ok mX3_init := show ∀ c ∈ mX3_init.2.2.2.2, ∀ e ∈ c.2, sk_okI mX3_init e = true from by decide +kernel
def mX3_readInto : sk_M := (yX3_readInto, cX3_readInto, 5, (some .boolean), [(27, [(0, .aload_n 0, 1, 1, []), (1, .aload_n 1, 1, 2, []), (2, .putfield 22, 3, 5, [3, 2, 234, 3]), (5, .aload_n 0, 1, 6, []), (6, .getfield 22, 3, 9, [3, 2, 234, 3]), (9, .invokevirtual 26, 3, 12, []), (12, .aload_n 0, 1, 13, []), (13, .getfield 12, 3, 16, [3, 0, 232, 3]), (16, .aload_n 2, 1, 17, []), (17, .invokevirtual 31, 3, 20, []), (20, .aload_n 0, 1, 21, []), (21, .iconst 0, 1, 22, []), (22, .putfield 35, 3, 25, [3, 3, 235, 0]), (25, .aload_n 0, 1, 26, []), (26, .iconst 0, 1, 27, []), (27, .putfield 39, 3, 30, [3, 5, 237, 0])]),
  (60, [(30, .aload_n 0, 1, 31, []), (31, .invokevirtual 42, 3, 34, []), (34, .istore_n 3, 1, 35, []), (35, .iconst 1, 1, 36, []), (36, .istore 4, 2, 38, []), (38, .iload 4, 2, 40, []), (40, .bipush 20, 2, 42, []), (42, .if_icmp .gt 34, 3, 45, [76]), (45, .iload_n 3, 1, 46, []), (46, .ifCond .eq 30, 3, 49, [76]), (49, .aload_n 0, 1, 50, []), (50, .getfield 12, 3, 53, [3, 0, 232, 3]), (53, .aload_n 0, 1, 54, []), (54, .getfield 35, 3, 57, [3, 3, 235, 0]), (57, .invokevirtual 46, 3, 60, []), (60, .bipush 20, 2, 62, [])]),
  (93, [(62, .if_icmp .eq 14, 3, 65, [76]), (65, .aload_n 0, 1, 66, []), (66, .invokevirtual 42, 3, 69, []), (69, .istore_n 3, 1, 70, []), (70, .iinc 4 1, 3, 73, []), (73, .goto (-35), 3, 76, [38]), (76, .iload_n 3, 1, 77, []), (77, .ifCond .eq 14, 3, 80, [91]), (80, .aload_n 0, 1, 81, []), (81, .invokevirtual 50, 3, 84, []), (84, .ifCond .eq 7, 3, 87, [91]), (87, .iconst 1, 1, 88, []), (88, .goto 4, 3, 91, [92]), (91, .iconst 0, 1, 92, []), (92, .istore_n 3, 1, 93, []), (93, .aload_n 0, 1, 94, [])]),
  (117, [(94, .iload_n 3, 1, 95, []), (95, .ifCond .eq 7, 3, 98, [102]), (98, .iconst 0, 1, 99, []), (99, .goto 14, 3, 102, [113]), (102, .aload_n 0, 1, 103, []), (103, .getfield 12, 3, 106, [3, 0, 232, 3]), (106, .aload_n 0, 1, 107, []), (107, .getfield 53, 3, 110, [3, 4, 236, 0]), (110, .invokevirtual 56, 3, 113, []), (113, .putfield 59, 3, 116, [3, 6, 239, 0]), (116, .iload_n 3, 1, 117, []), (117, .ireturn, 1, 118, [])])])
theorem okX3_readInto : sk_ok mX3_readInto := show ∀ c ∈ mX3_readInto.2.2.2.2, ∀ e ∈ c.2, sk_okI mX3_readInto e = true from by decide +kernel
def mX3_broken : sk_M := (yX3_broken, cX3_broken, 3, (some .int), [(12, [(0, .aload_n 0, 1, 1, []), (1, .iload_n 1, 1, 2, []), (2, .putfield 39, 3, 5, [3, 5, 237, 0]), (5, .aload_n 0, 1, 6, []), (6, .iload_n 2, 1, 7, []), (7, .putfield 53, 3, 10, [3, 4, 236, 0]), (10, .bipush (-2), 2, 12, []), (12, .ireturn, 1, 13, [])])])
theorem okX3_broken : sk_ok mX3_broken := show ∀ c ∈ mX3_broken.2.2.2.2, ∀ e ∈ c.2, sk_okI mX3_broken e = true from by decide +kernel
def mX3_readMethod : sk_M := (yX3_readMethod, cX3_readMethod, 4, (some .boolean), [(29, [(0, .aload_n 0, 1, 1, []), (1, .bipush 15, 2, 3, []), (3, .invokevirtual 62, 3, 6, []), (6, .ifCond .ne 5, 3, 9, [11]), (9, .iconst 0, 1, 10, []), (10, .ireturn, 1, 11, []), (11, .aload_n 0, 1, 12, []), (12, .getfield 22, 3, 15, [3, 2, 234, 3]), (15, .getfield 66, 3, 18, [2, 9, 177, 0]), (18, .bipush 20, 2, 20, []), (20, .if_icmp .lt 17, 3, 23, [37]), (23, .aload_n 0, 1, 24, []), (24, .iconst 4, 1, 25, []), (25, .aload_n 0, 1, 26, []), (26, .getfield 35, 3, 29, [3, 3, 235, 0]), (29, .iconst 1, 1, 30, [])]),
  (53, [(30, .isub, 1, 31, []), (31, .invokevirtual 69, 3, 34, []), (34, .pop, 1, 35, []), (35, .iconst 0, 1, 36, []), (36, .ireturn, 1, 37, []), (37, .aload_n 0, 1, 38, []), (38, .bipush 7, 2, 40, []), (40, .invokevirtual 73, 3, 43, []), (43, .istore_n 1, 1, 44, []), (44, .iload_n 1, 1, 45, []), (45, .bipush (-2), 2, 47, []), (47, .if_icmp .ne 5, 3, 50, [52]), (50, .iconst 0, 1, 51, []), (51, .ireturn, 1, 52, []), (52, .aload_n 0, 1, 53, []), (53, .getfield 22, 3, 56, [3, 2, 234, 3])]),
  (83, [(56, .iload_n 1, 1, 57, []), (57, .invokevirtual 76, 3, 60, []), (60, .istore_n 2, 1, 61, []), (61, .aload_n 0, 1, 62, []), (62, .iconst 1, 1, 63, []), (63, .invokevirtual 79, 3, 66, []), (66, .istore_n 3, 1, 67, []), (67, .iload_n 3, 1, 68, []), (68, .bipush (-2), 2, 70, []), (70, .if_icmp .eq 12, 3, 73, [82]), (73, .iload_n 2, 1, 74, []), (74, .bipush 20, 2, 76, []), (76, .invokestatic 82, 3, 79, []), (79, .ifCond .ne 5, 3, 82, [84]), (82, .iconst 0, 1, 83, []), (83, .ireturn, 1, 84, [])]),
  (95, [(84, .aload_n 0, 1, 85, []), (85, .getfield 22, 3, 88, [3, 2, 234, 3]), (88, .getfield 86, 3, 91, [2, 1, 141, 3]), (91, .iload_n 2, 1, 92, []), (92, .iload_n 3, 1, 93, []), (93, .iastore, 1, 94, []), (94, .iconst 1, 1, 95, []), (95, .ireturn, 1, 96, [])])])
theorem okX3_readMethod : sk_ok mX3_readMethod := show ∀ c ∈ mX3_readMethod.2.2.2.2, ∀ e ∈ c.2, sk_okI mX3_readMethod e = true from by decide +kernel
def mX3_take : sk_M := (yX3_take, cX3_take, 2, (some .boolean), [(27, [(0, .aload_n 0, 1, 1, []), (1, .getfield 12, 3, 4, [3, 0, 232, 3]), (4, .aload_n 0, 1, 5, []), (5, .getfield 35, 3, 8, [3, 3, 235, 0]), (8, .invokevirtual 46, 3, 11, []), (11, .iload_n 1, 1, 12, []), (12, .if_icmp .eq 15, 3, 15, [27]), (15, .aload_n 0, 1, 16, []), (16, .iconst 1, 1, 17, []), (17, .aload_n 0, 1, 18, []), (18, .getfield 35, 3, 21, [3, 3, 235, 0]), (21, .invokevirtual 69, 3, 24, []), (24, .pop, 1, 25, []), (25, .iconst 0, 1, 26, []), (26, .ireturn, 1, 27, []), (27, .aload_n 0, 1, 28, [])]),
  (38, [(28, .dup, 1, 29, []), (29, .getfield 35, 3, 32, [3, 3, 235, 0]), (32, .iconst 1, 1, 33, []), (33, .iadd, 1, 34, []), (34, .putfield 35, 3, 37, [3, 3, 235, 0]), (37, .iconst 1, 1, 38, []), (38, .ireturn, 1, 39, [])])])
theorem okX3_take : sk_ok mX3_take := show ∀ c ∈ mX3_take.2.2.2.2, ∀ e ∈ c.2, sk_okI mX3_take e = true from by decide +kernel
def mX3_readNumber : sk_M := (yX3_readNumber, cX3_readNumber, 3, (some .int), [(28, [(0, .aload_n 0, 1, 1, []), (1, .getfield 12, 3, 4, [3, 0, 232, 3]), (4, .aload_n 0, 1, 5, []), (5, .getfield 35, 3, 8, [3, 3, 235, 0]), (8, .invokevirtual 46, 3, 11, []), (11, .bipush 100, 2, 13, []), (13, .isub, 1, 14, []), (14, .istore_n 2, 1, 15, []), (15, .iload_n 2, 1, 16, []), (16, .ifCond .ge 13, 3, 19, [29]), (19, .aload_n 0, 1, 20, []), (20, .iconst 1, 1, 21, []), (21, .aload_n 0, 1, 22, []), (22, .getfield 35, 3, 25, [3, 3, 235, 0]), (25, .invokevirtual 69, 3, 28, []), (28, .ireturn, 1, 29, [])]),
  (54, [(29, .iload_n 2, 1, 30, []), (30, .iload_n 1, 1, 31, []), (31, .if_icmp .le 13, 3, 34, [44]), (34, .aload_n 0, 1, 35, []), (35, .iconst 2, 1, 36, []), (36, .aload_n 0, 1, 37, []), (37, .getfield 35, 3, 40, [3, 3, 235, 0]), (40, .invokevirtual 69, 3, 43, []), (43, .ireturn, 1, 44, []), (44, .aload_n 0, 1, 45, []), (45, .dup, 1, 46, []), (46, .getfield 35, 3, 49, [3, 3, 235, 0]), (49, .iconst 1, 1, 50, []), (50, .iadd, 1, 51, []), (51, .putfield 35, 3, 54, [3, 3, 235, 0]), (54, .iload_n 2, 1, 55, [])]),
  (55, [(55, .ireturn, 1, 56, [])])])
theorem okX3_readNumber : sk_ok mX3_readNumber := show ∀ c ∈ mX3_readNumber.2.2.2.2, ∀ e ∈ c.2, sk_okI mX3_readNumber e = true from by decide +kernel
def mX3_readBlock : sk_M := (yX3_readBlock, cX3_readBlock, 6, (some .int), [(26, [(0, .aload_n 0, 1, 1, []), (1, .bipush 16, 2, 3, []), (3, .invokevirtual 62, 3, 6, []), (6, .ifCond .ne 6, 3, 9, [12]), (9, .bipush (-2), 2, 11, []), (11, .ireturn, 1, 12, []), (12, .iload_n 1, 1, 13, []), (13, .bipush 12, 2, 15, []), (15, .if_icmp .le 15, 3, 18, [30]), (18, .aload_n 0, 1, 19, []), (19, .iconst 3, 1, 20, []), (20, .aload_n 0, 1, 21, []), (21, .getfield 35, 3, 24, [3, 3, 235, 0]), (24, .iconst 1, 1, 25, []), (25, .isub, 1, 26, []), (26, .invokevirtual 69, 3, 29, [])]),
  (55, [(29, .ireturn, 1, 30, []), (30, .aload_n 0, 1, 31, []), (31, .getfield 22, 3, 34, [3, 2, 234, 3]), (34, .aload_n 0, 1, 35, []), (35, .getfield 22, 3, 38, [3, 2, 234, 3]), (38, .getfield 89, 3, 41, [2, 11, 183, 0]), (41, .iload_n 1, 1, 42, []), (42, .invokestatic 92, 3, 45, []), (45, .putfield 89, 3, 48, [2, 11, 183, 0]), (48, .iconst (-1), 1, 49, []), (49, .istore_n 2, 1, 50, []), (50, .iconst (-1), 1, 51, []), (51, .istore_n 3, 1, 52, []), (52, .iconst 0, 1, 53, []), (53, .istore 4, 2, 55, []), (55, .iload 4, 2, 57, [])]),
  (90, [(57, .sipush 200, 3, 60, []), (60, .if_icmp .gt 78, 3, 63, [138]), (63, .aload_n 0, 1, 64, []), (64, .getfield 12, 3, 67, [3, 0, 232, 3]), (67, .aload_n 0, 1, 68, []), (68, .getfield 35, 3, 71, [3, 3, 235, 0]), (71, .invokevirtual 46, 3, 74, []), (74, .bipush 17, 2, 76, []), (76, .if_icmp .eq 62, 3, 79, [138]), (79, .aload_n 0, 1, 80, []), (80, .iload_n 1, 1, 81, []), (81, .invokevirtual 97, 3, 84, []), (84, .istore 5, 2, 86, []), (86, .aload_n 0, 1, 87, []), (87, .getfield 22, 3, 90, [3, 2, 234, 3]), (90, .iload 5, 2, 92, [])]),
  (123, [(92, .invokevirtual 100, 3, 95, []), (95, .ifCond .ne 6, 3, 98, [101]), (98, .bipush (-2), 2, 100, []), (100, .ireturn, 1, 101, []), (101, .aload_n 0, 1, 102, []), (102, .getfield 22, 3, 105, [3, 2, 234, 3]), (105, .iload_n 3, 1, 106, []), (106, .invokevirtual 100, 3, 109, []), (109, .ifCond .eq 17, 3, 112, [126]), (112, .aload_n 0, 1, 113, []), (113, .getfield 22, 3, 116, [3, 2, 234, 3]), (116, .getfield 103, 3, 119, [2, 6, 166, 3]), (119, .iload_n 3, 1, 120, []), (120, .iload 5, 2, 122, []), (122, .iastore, 1, 123, []), (123, .goto 6, 3, 126, [129])]),
  (153, [(126, .iload 5, 2, 128, []), (128, .istore_n 2, 1, 129, []), (129, .iload 5, 2, 131, []), (131, .istore_n 3, 1, 132, []), (132, .iinc 4 1, 3, 135, []), (135, .goto (-80), 3, 138, [55]), (138, .aload_n 0, 1, 139, []), (139, .bipush 17, 2, 141, []), (141, .invokevirtual 62, 3, 144, []), (144, .ifCond .eq 7, 3, 147, [151]), (147, .iload_n 2, 1, 148, []), (148, .goto 5, 3, 151, [153]), (151, .bipush (-2), 2, 153, []), (153, .ireturn, 1, 154, [])])])
theorem okX3_readBlock : sk_ok mX3_readBlock := show ∀ c ∈ mX3_readBlock.2.2.2.2, ∀ e ∈ c.2, sk_okI mX3_readBlock e = true from by decide +kernel
def mX3_readStep : sk_M := (yX3_readStep, cX3_readStep, 4, (some .int), [(28, [(0, .aload_n 0, 1, 1, []), (1, .getfield 12, 3, 4, [3, 0, 232, 3]), (4, .aload_n 0, 1, 5, []), (5, .getfield 35, 3, 8, [3, 3, 235, 0]), (8, .invokevirtual 46, 3, 11, []), (11, .istore_n 2, 1, 12, []), (12, .iload_n 2, 1, 13, []), (13, .ifCond .lt 9, 3, 16, [22]), (16, .iload_n 2, 1, 17, []), (17, .bipush 12, 2, 19, []), (19, .if_icmp .le 13, 3, 22, [32]), (22, .aload_n 0, 1, 23, []), (23, .iconst 1, 1, 24, []), (24, .aload_n 0, 1, 25, []), (25, .getfield 35, 3, 28, [3, 3, 235, 0]), (28, .invokevirtual 69, 3, 31, [])]),
  (60, [(31, .ireturn, 1, 32, []), (32, .aload_n 0, 1, 33, []), (33, .getfield 22, 3, 36, [3, 2, 234, 3]), (36, .getfield 106, 3, 39, [2, 10, 180, 0]), (39, .sipush 200, 3, 42, []), (42, .if_icmp .lt 13, 3, 45, [55]), (45, .aload_n 0, 1, 46, []), (46, .iconst 4, 1, 47, []), (47, .aload_n 0, 1, 48, []), (48, .getfield 35, 3, 51, [3, 3, 235, 0]), (51, .invokevirtual 69, 3, 54, []), (54, .ireturn, 1, 55, []), (55, .aload_n 0, 1, 56, []), (56, .getfield 22, 3, 59, [3, 2, 234, 3]), (59, .iload_n 2, 1, 60, []), (60, .invokevirtual 109, 3, 63, [])]),
  (88, [(63, .istore_n 3, 1, 64, []), (64, .aload_n 0, 1, 65, []), (65, .dup, 1, 66, []), (66, .getfield 35, 3, 69, [3, 3, 235, 0]), (69, .iconst 1, 1, 70, []), (70, .iadd, 1, 71, []), (71, .putfield 35, 3, 74, [3, 3, 235, 0]), (74, .aload_n 0, 1, 75, []), (75, .getfield 22, 3, 78, [3, 2, 234, 3]), (78, .iload_n 3, 1, 79, []), (79, .invokevirtual 100, 3, 82, []), (82, .ifCond .eq 26, 3, 85, [108]), (85, .aload_n 0, 1, 86, []), (86, .iload_n 3, 1, 87, []), (87, .iload_n 2, 1, 88, []), (88, .invokevirtual 112, 3, 91, [])]),
  (110, [(91, .ifCond .eq 17, 3, 94, [108]), (94, .aload_n 0, 1, 95, []), (95, .iload_n 3, 1, 96, []), (96, .iload_n 2, 1, 97, []), (97, .iload_n 1, 1, 98, []), (98, .invokevirtual 115, 3, 101, []), (101, .ifCond .eq 7, 3, 104, [108]), (104, .iload_n 3, 1, 105, []), (105, .goto 5, 3, 108, [110]), (108, .bipush (-2), 2, 110, []), (110, .ireturn, 1, 111, [])])])
theorem okX3_readStep : sk_ok mX3_readStep := show ∀ c ∈ mX3_readStep.2.2.2.2, ∀ e ∈ c.2, sk_okI mX3_readStep e = true from by decide +kernel
def mX3_readNumbers : sk_M := (yX3_readNumbers, cX3_readNumbers, 3, (some .boolean), [(31, [(0, .iload_n 2, 1, 1, []), (1, .getstatic 119, 3, 4, [0, 617]), (4, .arraylength, 1, 5, []), (5, .invokestatic 82, 3, 8, []), (8, .ifCond .eq 26, 3, 11, [34]), (11, .iload_n 2, 1, 12, []), (12, .getstatic 122, 3, 15, [1, 620]), (15, .arraylength, 1, 16, []), (16, .invokestatic 82, 3, 19, []), (19, .ifCond .eq 15, 3, 22, [34]), (22, .iload_n 1, 1, 23, []), (23, .aload_n 0, 1, 24, []), (24, .getfield 18, 3, 27, [3, 1, 233, 3]), (27, .arraylength, 1, 28, []), (28, .invokestatic 82, 3, 31, []), (31, .ifCond .ne 5, 3, 34, [36])]),
  (59, [(34, .iconst 0, 1, 35, []), (35, .ireturn, 1, 36, []), (36, .aload_n 0, 1, 37, []), (37, .getfield 18, 3, 40, [3, 1, 233, 3]), (40, .iload_n 1, 1, 41, []), (41, .aload_n 0, 1, 42, []), (42, .getfield 35, 3, 45, [3, 3, 235, 0]), (45, .iastore, 1, 46, []), (46, .getstatic 119, 3, 49, [0, 617]), (49, .iload_n 2, 1, 50, []), (50, .iaload, 1, 51, []), (51, .iconst (-1), 1, 52, []), (52, .if_icmp .eq 21, 3, 55, [73]), (55, .aload_n 0, 1, 56, []), (56, .getfield 22, 3, 59, [3, 2, 234, 3]), (59, .getfield 125, 3, 62, [2, 4, 156, 3])]),
  (90, [(62, .iload_n 1, 1, 63, []), (63, .aload_n 0, 1, 64, []), (64, .getstatic 119, 3, 67, [0, 617]), (67, .iload_n 2, 1, 68, []), (68, .iaload, 1, 69, []), (69, .invokevirtual 73, 3, 72, []), (72, .iastore, 1, 73, []), (73, .aload_n 0, 1, 74, []), (74, .getfield 22, 3, 77, [3, 2, 234, 3]), (77, .getfield 125, 3, 80, [2, 4, 156, 3]), (80, .iload_n 1, 1, 81, []), (81, .iaload, 1, 82, []), (82, .bipush (-2), 2, 84, []), (84, .if_icmp .eq 30, 3, 87, [114]), (87, .getstatic 122, 3, 90, [1, 620]), (90, .iload_n 2, 1, 91, [])]),
  (118, [(91, .iaload, 1, 92, []), (92, .iconst (-1), 1, 93, []), (93, .if_icmp .eq 21, 3, 96, [114]), (96, .aload_n 0, 1, 97, []), (97, .getfield 22, 3, 100, [3, 2, 234, 3]), (100, .getfield 128, 3, 103, [2, 5, 160, 3]), (103, .iload_n 1, 1, 104, []), (104, .aload_n 0, 1, 105, []), (105, .getstatic 122, 3, 108, [1, 620]), (108, .iload_n 2, 1, 109, []), (109, .iaload, 1, 110, []), (110, .invokevirtual 73, 3, 113, []), (113, .iastore, 1, 114, []), (114, .aload_n 0, 1, 115, []), (115, .getfield 22, 3, 118, [3, 2, 234, 3]), (118, .getfield 125, 3, 121, [2, 4, 156, 3])]),
  (147, [(121, .iload_n 1, 1, 122, []), (122, .iaload, 1, 123, []), (123, .bipush (-2), 2, 125, []), (125, .if_icmp .eq 21, 3, 128, [146]), (128, .aload_n 0, 1, 129, []), (129, .getfield 22, 3, 132, [3, 2, 234, 3]), (132, .getfield 128, 3, 135, [2, 5, 160, 3]), (135, .iload_n 1, 1, 136, []), (136, .iaload, 1, 137, []), (137, .bipush (-2), 2, 139, []), (139, .if_icmp .eq 7, 3, 142, [146]), (142, .iconst 1, 1, 143, []), (143, .goto 4, 3, 146, [147]), (146, .iconst 0, 1, 147, []), (147, .ireturn, 1, 148, [])])])
theorem okX3_readNumbers : sk_ok mX3_readNumbers := show ∀ c ∈ mX3_readNumbers.2.2.2.2, ∀ e ∈ c.2, sk_okI mX3_readNumbers e = true from by decide +kernel
def mX3_readRest : sk_M := (yX3_readRest, cX3_readRest, 5, (some .boolean), [(30, [(0, .iload_n 2, 1, 1, []), (1, .getstatic 131, 3, 4, [2, 626]), (4, .arraylength, 1, 5, []), (5, .invokestatic 82, 3, 8, []), (8, .ifCond .eq 11, 3, 11, [19]), (11, .getstatic 131, 3, 14, [2, 626]), (14, .iload_n 2, 1, 15, []), (15, .iaload, 1, 16, []), (16, .goto 4, 3, 19, [20]), (19, .iconst 0, 1, 20, []), (20, .istore 4, 2, 22, []), (22, .iload 4, 2, 24, []), (24, .ifCond .ne 10, 3, 27, [34]), (27, .aload_n 0, 1, 28, []), (28, .bipush 18, 2, 30, []), (30, .invokevirtual 62, 3, 33, [])]),
  (57, [(33, .ireturn, 1, 34, []), (34, .aload_n 0, 1, 35, []), (35, .getfield 22, 3, 38, [3, 2, 234, 3]), (38, .getfield 134, 3, 41, [2, 7, 171, 3]), (41, .iload_n 1, 1, 42, []), (42, .aload_n 0, 1, 43, []), (43, .iload_n 3, 1, 44, []), (44, .iconst 1, 1, 45, []), (45, .iadd, 1, 46, []), (46, .invokevirtual 79, 3, 49, []), (49, .iastore, 1, 50, []), (50, .iload 4, 2, 52, []), (52, .iconst 1, 1, 53, []), (53, .if_icmp .eq 17, 3, 56, [70]), (56, .aload_n 0, 1, 57, []), (57, .getfield 22, 3, 60, [3, 2, 234, 3])]),
  (89, [(60, .getfield 134, 3, 63, [2, 7, 171, 3]), (63, .iload_n 1, 1, 64, []), (64, .iaload, 1, 65, []), (65, .bipush (-2), 2, 67, []), (67, .if_icmp .ne 23, 3, 70, [90]), (70, .aload_n 0, 1, 71, []), (71, .getfield 22, 3, 74, [3, 2, 234, 3]), (74, .getfield 134, 3, 77, [2, 7, 171, 3]), (77, .iload_n 1, 1, 78, []), (78, .iaload, 1, 79, []), (79, .bipush (-2), 2, 81, []), (81, .if_icmp .eq 7, 3, 84, [88]), (84, .iconst 1, 1, 85, []), (85, .goto 4, 3, 88, [89]), (88, .iconst 0, 1, 89, []), (89, .ireturn, 1, 90, [])]),
  (120, [(90, .aload_n 0, 1, 91, []), (91, .iload_n 2, 1, 92, []), (92, .bipush 11, 2, 94, []), (94, .if_icmp .ne 8, 3, 97, [102]), (97, .bipush 14, 2, 99, []), (99, .goto 5, 3, 102, [104]), (102, .bipush 13, 2, 104, []), (104, .invokevirtual 62, 3, 107, []), (107, .ifCond .ne 5, 3, 110, [112]), (110, .iconst 0, 1, 111, []), (111, .ireturn, 1, 112, []), (112, .aload_n 0, 1, 113, []), (113, .getfield 22, 3, 116, [3, 2, 234, 3]), (116, .getfield 137, 3, 119, [2, 8, 174, 3]), (119, .iload_n 1, 1, 120, []), (120, .aload_n 0, 1, 121, [])]),
  (147, [(121, .iload_n 3, 1, 122, []), (122, .iconst 1, 1, 123, []), (123, .iadd, 1, 124, []), (124, .invokevirtual 79, 3, 127, []), (127, .iastore, 1, 128, []), (128, .aload_n 0, 1, 129, []), (129, .getfield 22, 3, 132, [3, 2, 234, 3]), (132, .getfield 137, 3, 135, [2, 8, 174, 3]), (135, .iload_n 1, 1, 136, []), (136, .iaload, 1, 137, []), (137, .bipush (-2), 2, 139, []), (139, .if_icmp .eq 7, 3, 142, [146]), (142, .iconst 1, 1, 143, []), (143, .goto 4, 3, 146, [147]), (146, .iconst 0, 1, 147, []), (147, .ireturn, 1, 148, [])])])
theorem okX3_readRest : sk_ok mX3_readRest := show ∀ c ∈ mX3_readRest.2.2.2.2, ∀ e ∈ c.2, sk_okI mX3_readRest e = true from by decide +kernel
def mX3_allMethodsAreThere : sk_M := (yX3_allMethodsAreThere, cX3_allMethodsAreThere, 3, (some .boolean), [(27, [(0, .iconst 0, 1, 1, []), (1, .istore_n 1, 1, 2, []), (2, .iload_n 1, 1, 3, []), (3, .aload_n 0, 1, 4, []), (4, .getfield 22, 3, 7, [3, 2, 234, 3]), (7, .getfield 106, 3, 10, [2, 10, 180, 0]), (10, .if_icmp .ge 79, 3, 13, [89]), (13, .aload_n 0, 1, 14, []), (14, .getfield 22, 3, 17, [3, 2, 234, 3]), (17, .getfield 140, 3, 20, [2, 2, 146, 3]), (20, .iload_n 1, 1, 21, []), (21, .iaload, 1, 22, []), (22, .iconst 1, 1, 23, []), (23, .if_icmp .eq 17, 3, 26, [40]), (26, .aload_n 0, 1, 27, []), (27, .getfield 22, 3, 30, [3, 2, 234, 3])]),
  (58, [(30, .getfield 140, 3, 33, [2, 2, 146, 3]), (33, .iload_n 1, 1, 34, []), (34, .iaload, 1, 35, []), (35, .bipush 6, 2, 37, []), (37, .if_icmp .ne 7, 3, 40, [44]), (40, .iconst 1, 1, 41, []), (41, .goto 4, 3, 44, [45]), (44, .iconst 0, 1, 45, []), (45, .istore_n 2, 1, 46, []), (46, .iload_n 2, 1, 47, []), (47, .ifCond .eq 36, 3, 50, [83]), (50, .aload_n 0, 1, 51, []), (51, .getfield 22, 3, 54, [3, 2, 234, 3]), (54, .getfield 125, 3, 57, [2, 4, 156, 3]), (57, .iload_n 1, 1, 58, []), (58, .iaload, 1, 59, [])]),
  (86, [(59, .aload_n 0, 1, 60, []), (60, .getfield 22, 3, 63, [3, 2, 234, 3]), (63, .getfield 66, 3, 66, [2, 9, 177, 0]), (66, .if_icmp .lt 17, 3, 69, [83]), (69, .aload_n 0, 1, 70, []), (70, .iconst 5, 1, 71, []), (71, .aload_n 0, 1, 72, []), (72, .getfield 18, 3, 75, [3, 1, 233, 3]), (75, .iload_n 1, 1, 76, []), (76, .iaload, 1, 77, []), (77, .invokevirtual 69, 3, 80, []), (80, .pop, 1, 81, []), (81, .iconst 0, 1, 82, []), (82, .ireturn, 1, 83, []), (83, .iinc 1 1, 3, 86, []), (86, .goto (-84), 3, 89, [2])]),
  (90, [(89, .iconst 1, 1, 90, []), (90, .ireturn, 1, 91, [])])])
theorem okX3_allMethodsAreThere : sk_ok mX3_allMethodsAreThere := show ∀ c ∈ mX3_allMethodsAreThere.2.2.2.2, ∀ e ∈ c.2, sk_okI mX3_allMethodsAreThere e = true from by decide +kernel
def mX4_init : sk_M := (yX4_init, cX4_init, 2, none, [(15, [(0, .aload_n 0, 1, 1, []), (1, .invokespecial 3, 3, 4, []), (4, .aload_n 0, 1, 5, []), (5, .iload_n 1, 1, 6, []), (6, .iconst 0, 1, 7, []), (7, .invokestatic 9, 3, 10, []), (10, .newarray .int, 2, 12, []), (12, .putfield 15, 3, 15, [4, 0, 109, 3]), (15, .return_, 1, 16, [])])])
theorem okX4_init : sk_ok mX4_init := show ∀ c ∈ mX4_init.2.2.2.2, ∀ e ∈ c.2, sk_okI mX4_init e = true from by decide +kernel
def mX4_hasRoomFor : sk_M := (yX4_hasRoomFor, cX4_hasRoomFor, 2, (some .boolean), [(19, [(0, .iload_n 1, 1, 1, []), (1, .aload_n 0, 1, 2, []), (2, .getfield 15, 3, 5, [4, 0, 109, 3]), (5, .arraylength, 1, 6, []), (6, .aload_n 0, 1, 7, []), (7, .getfield 21, 3, 10, [4, 1, 110, 0]), (10, .isub, 1, 11, []), (11, .if_icmp .gt 7, 3, 14, [18]), (14, .iconst 1, 1, 15, []), (15, .goto 4, 3, 18, [19]), (18, .iconst 0, 1, 19, []), (19, .ireturn, 1, 20, [])])])
theorem okX4_hasRoomFor : sk_ok mX4_hasRoomFor := show ∀ c ∈ mX4_hasRoomFor.2.2.2.2, ∀ e ∈ c.2, sk_okI mX4_hasRoomFor e = true from by decide +kernel
def mX4_add : sk_M := (yX4_add, cX4_add, 2, none, [(27, [(0, .aload_n 0, 1, 1, []), (1, .getfield 21, 3, 4, [4, 1, 110, 0]), (4, .aload_n 0, 1, 5, []), (5, .getfield 15, 3, 8, [4, 0, 109, 3]), (8, .arraylength, 1, 9, []), (9, .invokestatic 25, 3, 12, []), (12, .ifCond .eq 23, 3, 15, [35]), (15, .aload_n 0, 1, 16, []), (16, .getfield 15, 3, 19, [4, 0, 109, 3]), (19, .aload_n 0, 1, 20, []), (20, .getfield 21, 3, 23, [4, 1, 110, 0]), (23, .iload_n 1, 1, 24, []), (24, .iastore, 1, 25, []), (25, .aload_n 0, 1, 26, []), (26, .dup, 1, 27, []), (27, .getfield 21, 3, 30, [4, 1, 110, 0])]),
  (35, [(30, .iconst 1, 1, 31, []), (31, .iadd, 1, 32, []), (32, .putfield 21, 3, 35, [4, 1, 110, 0]), (35, .return_, 1, 36, [])])])
theorem okX4_add : sk_ok mX4_add := show ∀ c ∈ mX4_add.2.2.2.2, ∀ e ∈ c.2, sk_okI mX4_add e = true from by decide +kernel
def mX4_at : sk_M := (yX4_at, cX4_at, 2, (some .int), [(22, [(0, .iload_n 1, 1, 1, []), (1, .ifCond .lt 20, 3, 4, [21]), (4, .iload_n 1, 1, 5, []), (5, .aload_n 0, 1, 6, []), (6, .getfield 21, 3, 9, [4, 1, 110, 0]), (9, .if_icmp .ge 12, 3, 12, [21]), (12, .aload_n 0, 1, 13, []), (13, .getfield 15, 3, 16, [4, 0, 109, 3]), (16, .iload_n 1, 1, 17, []), (17, .iaload, 1, 18, []), (18, .goto 4, 3, 21, [22]), (21, .iconst (-1), 1, 22, []), (22, .ireturn, 1, 23, [])])])
theorem okX4_at : sk_ok mX4_at := show ∀ c ∈ mX4_at.2.2.2.2, ∀ e ∈ c.2, sk_okI mX4_at e = true from by decide +kernel
def mX4_cutTo : sk_M := (yX4_cutTo, cX4_cutTo, 2, none, [(16, [(0, .aload_n 0, 1, 1, []), (1, .iconst 0, 1, 2, []), (2, .iload_n 1, 1, 3, []), (3, .aload_n 0, 1, 4, []), (4, .getfield 21, 3, 7, [4, 1, 110, 0]), (7, .invokestatic 29, 3, 10, []), (10, .invokestatic 9, 3, 13, []), (13, .putfield 21, 3, 16, [4, 1, 110, 0]), (16, .return_, 1, 17, [])])])
theorem okX4_cutTo : sk_ok mX4_cutTo := show ∀ c ∈ mX4_cutTo.2.2.2.2, ∀ e ∈ c.2, sk_okI mX4_cutTo e = true from by decide +kernel
def mX5_init : sk_M := (yX5_init, cX5_init, 1, none, [(20, [(0, .aload_n 0, 1, 1, []), (1, .invokespecial 3, 3, 4, []), (4, .aload_n 0, 1, 5, []), (5, .bipush 64, 2, 7, []), (7, .newarray .int, 2, 9, []), (9, .putfield 9, 3, 12, [5, 0, 129, 3]), (12, .aload_n 0, 1, 13, []), (13, .getfield 9, 3, 16, [5, 0, 129, 3]), (16, .iconst (-1), 1, 17, []), (17, .invokestatic 15, 3, 20, []), (20, .return_, 1, 21, [])])])
theorem okX5_init : sk_ok mX5_init := show ∀ c ∈ mX5_init.2.2.2.2, ∀ e ∈ c.2, sk_okI mX5_init e = true from by decide +kernel
def mX5_of : sk_M := (yX5_of, cX5_of, 3, (some .int), [(28, [(0, .iload_n 1, 1, 1, []), (1, .bipush 8, 2, 3, []), (3, .invokestatic 21, 3, 6, []), (6, .ifCond .eq 26, 3, 9, [32]), (9, .iload_n 2, 1, 10, []), (10, .bipush 8, 2, 12, []), (12, .invokestatic 21, 3, 15, []), (15, .ifCond .eq 17, 3, 18, [32]), (18, .aload_n 0, 1, 19, []), (19, .getfield 9, 3, 22, [5, 0, 129, 3]), (22, .iload_n 1, 1, 23, []), (23, .bipush 8, 2, 25, []), (25, .imul, 1, 26, []), (26, .iload_n 2, 1, 27, []), (27, .iadd, 1, 28, []), (28, .iaload, 1, 29, [])]),
  (33, [(29, .goto 4, 3, 32, [33]), (32, .iconst (-1), 1, 33, []), (33, .ireturn, 1, 34, [])])])
theorem okX5_of : sk_ok mX5_of := show ∀ c ∈ mX5_of.2.2.2.2, ∀ e ∈ c.2, sk_okI mX5_of e = true from by decide +kernel
def mX5_replace : sk_M := (yX5_replace, cX5_replace, 5, (some .int), [(30, [(0, .aload_n 0, 1, 1, []), (1, .iload_n 1, 1, 2, []), (2, .iload_n 2, 1, 3, []), (3, .invokevirtual 25, 3, 6, []), (6, .istore 4, 2, 8, []), (8, .iload_n 1, 1, 9, []), (9, .bipush 8, 2, 11, []), (11, .invokestatic 21, 3, 14, []), (14, .ifCond .eq 24, 3, 17, [38]), (17, .iload_n 2, 1, 18, []), (18, .bipush 8, 2, 20, []), (20, .invokestatic 21, 3, 23, []), (23, .ifCond .eq 15, 3, 26, [38]), (26, .aload_n 0, 1, 27, []), (27, .getfield 9, 3, 30, [5, 0, 129, 3]), (30, .iload_n 1, 1, 31, [])]),
  (40, [(31, .bipush 8, 2, 33, []), (33, .imul, 1, 34, []), (34, .iload_n 2, 1, 35, []), (35, .iadd, 1, 36, []), (36, .iload_n 3, 1, 37, []), (37, .iastore, 1, 38, []), (38, .iload 4, 2, 40, []), (40, .ireturn, 1, 41, [])])])
theorem okX5_replace : sk_ok mX5_replace := show ∀ c ∈ mX5_replace.2.2.2.2, ∀ e ∈ c.2, sk_okI mX5_replace e = true from by decide +kernel
def mX5_given : sk_M := (yX5_given, cX5_given, 6, (some .int), [(22, [(0, .iconst 0, 1, 1, []), (1, .istore_n 1, 1, 2, []), (2, .aload_n 0, 1, 3, []), (3, .getfield 9, 3, 6, [5, 0, 129, 3]), (6, .astore_n 2, 1, 7, []), (7, .aload_n 2, 1, 8, []), (8, .arraylength, 1, 9, []), (9, .istore_n 3, 1, 10, []), (10, .iconst 0, 1, 11, []), (11, .istore 4, 2, 13, []), (13, .iload 4, 2, 15, []), (15, .iload_n 3, 1, 16, []), (16, .if_icmp .ge 29, 3, 19, [45]), (19, .aload_n 2, 1, 20, []), (20, .iload 4, 2, 22, []), (22, .iaload, 1, 23, [])]),
  (46, [(23, .istore 5, 2, 25, []), (25, .iload_n 1, 1, 26, []), (26, .iload 5, 2, 28, []), (28, .iconst (-1), 1, 29, []), (29, .if_icmp .ne 7, 3, 32, [36]), (32, .iconst 0, 1, 33, []), (33, .goto 4, 3, 36, [37]), (36, .iconst 1, 1, 37, []), (37, .iadd, 1, 38, []), (38, .istore_n 1, 1, 39, []), (39, .iinc 4 1, 3, 42, []), (42, .goto (-29), 3, 45, [13]), (45, .iload_n 1, 1, 46, []), (46, .ireturn, 1, 47, [])])])
theorem okX5_given : sk_ok mX5_given := show ∀ c ∈ mX5_given.2.2.2.2, ∀ e ∈ c.2, sk_okI mX5_given e = true from by decide +kernel
def mX6_init : sk_M := (yX6_init, cX6_init, 5, none, [(30, [(0, .aload_n 0, 1, 1, []), (1, .invokespecial 3, 3, 4, []), (4, .aload_n 0, 1, 5, []), (5, .new 9, 3, 8, [1, 262, 263, 83]), (8, .dup, 1, 9, []), (9, .invokespecial 11, 3, 12, []), (12, .putfield 12, 3, 15, [6, 3, 312, 3]), (15, .aload_n 0, 1, 16, []), (16, .iconst 4, 1, 17, []), (17, .newarray .int, 2, 19, []), (19, .putfield 18, 3, 22, [6, 4, 313, 3]), (22, .aload_n 0, 1, 23, []), (23, .bipush 21, 2, 25, []), (25, .newarray .int, 2, 27, []), (27, .putfield 22, 3, 30, [6, 5, 314, 3]), (30, .aload_n 0, 1, 31, [])]),
  (59, [(31, .bipush 21, 2, 33, []), (33, .newarray .int, 2, 35, []), (35, .putfield 25, 3, 38, [6, 6, 315, 3]), (38, .aload_n 0, 1, 39, []), (39, .bipush 8, 2, 41, []), (41, .newarray .int, 2, 43, []), (43, .putfield 28, 3, 46, [6, 7, 316, 3]), (46, .aload_n 0, 1, 47, []), (47, .aload_n 1, 1, 48, []), (48, .putfield 31, 3, 51, [6, 9, 320, 3]), (51, .aload_n 0, 1, 52, []), (52, .aload_n 3, 1, 53, []), (53, .putfield 35, 3, 56, [6, 0, 309, 3]), (56, .aload_n 0, 1, 57, []), (57, .aload 4, 2, 59, []), (59, .putfield 39, 3, 62, [6, 1, 310, 3])]),
  (75, [(62, .aload_n 0, 1, 63, []), (63, .new 42, 3, 66, [7, 287, 288, 84]), (66, .dup, 1, 67, []), (67, .aload_n 1, 1, 68, []), (68, .aload_n 2, 1, 69, []), (69, .invokespecial 44, 3, 72, []), (72, .putfield 47, 3, 75, [6, 2, 311, 3]), (75, .return_, 1, 76, [])])])
theorem okX6_init : sk_ok mX6_init := show ∀ c ∈ mX6_init.2.2.2.2, ∀ e ∈ c.2, sk_okI mX6_init e = true from by decide +kernel
def mX6_execute : sk_M := (yX6_execute, cX6_execute, 5, (some .int), [(26, [(0, .aload_n 0, 1, 1, []), (1, .aload_n 1, 1, 2, []), (2, .iload_n 3, 1, 3, []), (3, .invokevirtual 51, 3, 6, []), (6, .aload_n 0, 1, 7, []), (7, .iload_n 2, 1, 8, []), (8, .iconst (-1), 1, 9, []), (9, .invokevirtual 55, 3, 12, []), (12, .iconst 0, 1, 13, []), (13, .istore 4, 2, 15, []), (15, .iload 4, 2, 17, []), (17, .ldc 59, 2, 19, [99, 705]), (19, .if_icmp .ge 69, 3, 22, [88]), (22, .aload_n 0, 1, 23, []), (23, .getfield 60, 3, 26, [6, 13, 324, 0]), (26, .iconst (-1), 1, 27, [])]),
  (64, [(27, .if_icmp .ne 61, 3, 30, [88]), (30, .aload_n 0, 1, 31, []), (31, .getfield 12, 3, 34, [6, 3, 312, 3]), (34, .invokevirtual 64, 3, 37, []), (37, .ifCond .eq 10, 3, 40, [47]), (40, .aload_n 0, 1, 41, []), (41, .invokevirtual 68, 3, 44, []), (44, .goto 38, 3, 47, [82]), (47, .aload_n 0, 1, 48, []), (48, .getfield 31, 3, 51, [6, 9, 320, 3]), (51, .aload_n 0, 1, 52, []), (52, .getfield 12, 3, 55, [6, 3, 312, 3]), (55, .invokevirtual 71, 3, 58, []), (58, .invokevirtual 75, 3, 61, []), (61, .ifCond .eq 17, 3, 64, [78]), (64, .aload_n 0, 1, 65, [])]),
  (101, [(65, .aload_n 0, 1, 66, []), (66, .getfield 12, 3, 69, [6, 3, 312, 3]), (69, .invokevirtual 71, 3, 72, []), (72, .invokevirtual 81, 3, 75, []), (75, .goto 7, 3, 78, [82]), (78, .aload_n 0, 1, 79, []), (79, .invokevirtual 85, 3, 82, []), (82, .iinc 4 1, 3, 85, []), (85, .goto (-70), 3, 88, [15]), (88, .aload_n 0, 1, 89, []), (89, .getfield 28, 3, 92, [6, 7, 316, 3]), (92, .bipush 6, 2, 94, []), (94, .aload_n 0, 1, 95, []), (95, .getfield 39, 3, 98, [6, 1, 310, 3]), (98, .getfield 88, 3, 101, [4, 1, 113, 0]), (101, .iastore, 1, 102, [])]),
  (106, [(102, .aload_n 0, 1, 103, []), (103, .getfield 60, 3, 106, [6, 13, 324, 0]), (106, .ireturn, 1, 107, [])])])
theorem okX6_execute : sk_ok mX6_execute := show ∀ c ∈ mX6_execute.2.2.2.2, ∀ e ∈ c.2, sk_okI mX6_execute e = true from by decide +kernel
def mX6_begin : sk_M := (yX6_begin, cX6_begin, 3, none, [(25, [(0, .aload_n 0, 1, 1, []), (1, .aload_n 1, 1, 2, []), (2, .putfield 31, 3, 5, [6, 9, 320, 3]), (5, .aload_n 0, 1, 6, []), (6, .iload_n 2, 1, 7, []), (7, .putfield 93, 3, 10, [6, 11, 322, 0]), (10, .aload_n 0, 1, 11, []), (11, .iconst 0, 1, 12, []), (12, .putfield 96, 3, 15, [6, 10, 321, 0]), (15, .aload_n 0, 1, 16, []), (16, .iconst (-1), 1, 17, []), (17, .putfield 60, 3, 20, [6, 13, 324, 0]), (20, .aload_n 0, 1, 21, []), (21, .iconst 1, 1, 22, []), (22, .putfield 99, 3, 25, [6, 8, 318, 1]), (25, .aload_n 0, 1, 26, [])]),
  (57, [(26, .getfield 39, 3, 29, [6, 1, 310, 3]), (29, .iconst 0, 1, 30, []), (30, .invokevirtual 103, 3, 33, []), (33, .aload_n 0, 1, 34, []), (34, .getfield 47, 3, 37, [6, 2, 311, 3]), (37, .aload_n 1, 1, 38, []), (38, .invokevirtual 106, 3, 41, []), (41, .aload_n 0, 1, 42, []), (42, .getfield 12, 3, 45, [6, 3, 312, 3]), (45, .invokevirtual 110, 3, 48, []), (48, .aload_n 0, 1, 49, []), (49, .getfield 18, 3, 52, [6, 4, 313, 3]), (52, .iconst (-1), 1, 53, []), (53, .invokestatic 112, 3, 56, []), (56, .aload_n 0, 1, 57, []), (57, .getfield 28, 3, 60, [6, 7, 316, 3])]),
  (64, [(60, .iconst 0, 1, 61, []), (61, .invokestatic 112, 3, 64, []), (64, .return_, 1, 65, [])])])
theorem okX6_begin : sk_ok mX6_begin := show ∀ c ∈ mX6_begin.2.2.2.2, ∀ e ∈ c.2, sk_okI mX6_begin e = true from by decide +kernel
def mX6_beginJob : sk_M := (yX6_beginJob, cX6_beginJob, 2, none, [(25, [(0, .aload_n 0, 1, 1, []), (1, .getfield 28, 3, 4, [6, 7, 316, 3]), (4, .iconst 1, 1, 5, []), (5, .iaload, 1, 6, []), (6, .istore_n 1, 1, 7, []), (7, .iload_n 1, 1, 8, []), (8, .aload_n 0, 1, 9, []), (9, .getfield 96, 3, 12, [6, 10, 321, 0]), (12, .invokestatic 118, 3, 15, []), (15, .ifCond .ne 9, 3, 18, [24]), (18, .aload_n 0, 1, 19, []), (19, .iconst 0, 1, 20, []), (20, .putfield 60, 3, 23, [6, 13, 324, 0]), (23, .return_, 1, 24, []), (24, .aload_n 0, 1, 25, []), (25, .getfield 28, 3, 28, [6, 7, 316, 3])]),
  (47, [(28, .iconst 1, 1, 29, []), (29, .dup2, 1, 30, []), (30, .iaload, 1, 31, []), (31, .iconst 1, 1, 32, []), (32, .iadd, 1, 33, []), (33, .iastore, 1, 34, []), (34, .aload_n 0, 1, 35, []), (35, .iconst 0, 1, 36, []), (36, .putfield 122, 3, 39, [6, 12, 323, 0]), (39, .aload_n 0, 1, 40, []), (40, .aload_n 0, 1, 41, []), (41, .getfield 22, 3, 44, [6, 5, 314, 3]), (44, .iload_n 1, 1, 45, []), (45, .iaload, 1, 46, []), (46, .aload_n 0, 1, 47, []), (47, .getfield 25, 3, 50, [6, 6, 315, 3])]),
  (55, [(50, .iload_n 1, 1, 51, []), (51, .iaload, 1, 52, []), (52, .invokevirtual 125, 3, 55, []), (55, .return_, 1, 56, [])])])
theorem okX6_beginJob : sk_ok mX6_beginJob := show ∀ c ∈ mX6_beginJob.2.2.2.2, ∀ e ∈ c.2, sk_okI mX6_beginJob e = true from by decide +kernel
def mX6_putOff : sk_M := (yX6_putOff, cX6_putOff, 3, none, [(30, [(0, .aload_n 0, 1, 1, []), (1, .getfield 96, 3, 4, [6, 10, 321, 0]), (4, .bipush 21, 2, 6, []), (6, .invokestatic 118, 3, 9, []), (9, .ifCond .eq 36, 3, 12, [45]), (12, .aload_n 0, 1, 13, []), (13, .getfield 22, 3, 16, [6, 5, 314, 3]), (16, .aload_n 0, 1, 17, []), (17, .getfield 96, 3, 20, [6, 10, 321, 0]), (20, .iload_n 1, 1, 21, []), (21, .iastore, 1, 22, []), (22, .aload_n 0, 1, 23, []), (23, .getfield 25, 3, 26, [6, 6, 315, 3]), (26, .aload_n 0, 1, 27, []), (27, .getfield 96, 3, 30, [6, 10, 321, 0]), (30, .iload_n 2, 1, 31, [])]),
  (50, [(31, .iastore, 1, 32, []), (32, .aload_n 0, 1, 33, []), (33, .dup, 1, 34, []), (34, .getfield 96, 3, 37, [6, 10, 321, 0]), (37, .iconst 1, 1, 38, []), (38, .iadd, 1, 39, []), (39, .putfield 96, 3, 42, [6, 10, 321, 0]), (42, .goto 8, 3, 45, [50]), (45, .aload_n 0, 1, 46, []), (46, .iconst 3, 1, 47, []), (47, .putfield 60, 3, 50, [6, 13, 324, 0]), (50, .return_, 1, 51, [])])])
theorem okX6_putOff : sk_ok mX6_putOff := show ∀ c ∈ mX6_putOff.2.2.2.2, ∀ e ∈ c.2, sk_okI mX6_putOff e = true from by decide +kernel
def mX6_openMethod : sk_M := (yX6_openMethod, cX6_openMethod, 3, none, [(26, [(0, .aload_n 0, 1, 1, []), (1, .getfield 122, 3, 4, [6, 12, 323, 0]), (4, .bipush 40, 2, 6, []), (6, .if_icmp .lt 9, 3, 9, [15]), (9, .aload_n 0, 1, 10, []), (10, .iconst 2, 1, 11, []), (11, .putfield 60, 3, 14, [6, 13, 324, 0]), (14, .return_, 1, 15, []), (15, .aload_n 0, 1, 16, []), (16, .dup, 1, 17, []), (17, .getfield 122, 3, 20, [6, 12, 323, 0]), (20, .iconst 1, 1, 21, []), (21, .iadd, 1, 22, []), (22, .putfield 122, 3, 25, [6, 12, 323, 0]), (25, .aload_n 0, 1, 26, []), (26, .getfield 28, 3, 29, [6, 7, 316, 3])]),
  (54, [(29, .iconst 4, 1, 30, []), (30, .aload_n 0, 1, 31, []), (31, .getfield 28, 3, 34, [6, 7, 316, 3]), (34, .iconst 4, 1, 35, []), (35, .iaload, 1, 36, []), (36, .aload_n 0, 1, 37, []), (37, .getfield 122, 3, 40, [6, 12, 323, 0]), (40, .invokestatic 128, 3, 43, []), (43, .iastore, 1, 44, []), (44, .aload_n 0, 1, 45, []), (45, .getfield 12, 3, 48, [6, 3, 312, 3]), (48, .iconst 0, 1, 49, []), (49, .iconst (-1), 1, 50, []), (50, .aload_n 0, 1, 51, []), (51, .getfield 31, 3, 54, [6, 9, 320, 3]), (54, .iload_n 1, 1, 55, [])]),
  (70, [(55, .invokevirtual 134, 3, 58, []), (58, .aload_n 0, 1, 59, []), (59, .getfield 47, 3, 62, [6, 2, 311, 3]), (62, .iload_n 1, 1, 63, []), (63, .iload_n 2, 1, 64, []), (64, .invokevirtual 138, 3, 67, []), (67, .invokevirtual 141, 3, 70, []), (70, .return_, 1, 71, [])])])
theorem okX6_openMethod : sk_ok mX6_openMethod := show ∀ c ∈ mX6_openMethod.2.2.2.2, ∀ e ∈ c.2, sk_okI mX6_openMethod e = true from by decide +kernel
def mX6_endBlock : sk_M := (yX6_endBlock, cX6_endBlock, 3, none, [(31, [(0, .aload_n 0, 1, 1, []), (1, .getfield 12, 3, 4, [6, 3, 312, 3]), (4, .invokevirtual 145, 3, 7, []), (7, .istore_n 1, 1, 8, []), (8, .aload_n 0, 1, 9, []), (9, .getfield 12, 3, 12, [6, 3, 312, 3]), (12, .invokevirtual 148, 3, 15, []), (15, .istore_n 2, 1, 16, []), (16, .aload_n 0, 1, 17, []), (17, .getfield 12, 3, 20, [6, 3, 312, 3]), (20, .invokevirtual 151, 3, 23, []), (23, .iconst 2, 1, 24, []), (24, .if_icmp .ne 47, 3, 27, [71]), (27, .iload_n 2, 1, 28, []), (28, .ifCond .le 43, 3, 31, [71]), (31, .aload_n 0, 1, 32, [])]),
  (63, [(32, .getfield 31, 3, 35, [6, 9, 320, 3]), (35, .iload_n 1, 1, 36, []), (36, .invokevirtual 75, 3, 39, []), (39, .ifCond .eq 32, 3, 42, [71]), (42, .aload_n 0, 1, 43, []), (43, .getfield 12, 3, 46, [6, 3, 312, 3]), (46, .iload_n 2, 1, 47, []), (47, .iconst 1, 1, 48, []), (48, .isub, 1, 49, []), (49, .invokevirtual 154, 3, 52, []), (52, .aload_n 0, 1, 53, []), (53, .getfield 12, 3, 56, [6, 3, 312, 3]), (56, .aload_n 0, 1, 57, []), (57, .getfield 31, 3, 60, [6, 9, 320, 3]), (60, .getfield 157, 3, 63, [2, 7, 170, 3]), (63, .iload_n 1, 1, 64, [])]),
  (75, [(64, .iaload, 1, 65, []), (65, .invokevirtual 160, 3, 68, []), (68, .goto 7, 3, 71, [75]), (71, .aload_n 0, 1, 72, []), (72, .invokevirtual 163, 3, 75, []), (75, .return_, 1, 76, [])])])
theorem okX6_endBlock : sk_ok mX6_endBlock := show ∀ c ∈ mX6_endBlock.2.2.2.2, ∀ e ∈ c.2, sk_okI mX6_endBlock e = true from by decide +kernel
def mX6_closeBlock : sk_M := (yX6_closeBlock, cX6_closeBlock, 1, none, [(27, [(0, .aload_n 0, 1, 1, []), (1, .getfield 12, 3, 4, [6, 3, 312, 3]), (4, .invokevirtual 151, 3, 7, []), (7, .ifCond .ne 13, 3, 10, [20]), (10, .aload_n 0, 1, 11, []), (11, .dup, 1, 12, []), (12, .getfield 122, 3, 15, [6, 12, 323, 0]), (15, .iconst 1, 1, 16, []), (16, .isub, 1, 17, []), (17, .putfield 122, 3, 20, [6, 12, 323, 0]), (20, .aload_n 0, 1, 21, []), (21, .getfield 12, 3, 24, [6, 3, 312, 3]), (24, .invokevirtual 166, 3, 27, []), (27, .return_, 1, 28, [])])])
theorem okX6_closeBlock : sk_ok mX6_closeBlock := show ∀ c ∈ mX6_closeBlock.2.2.2.2, ∀ e ∈ c.2, sk_okI mX6_closeBlock e = true from by decide +kernel
def mX6_beginTurn : sk_M := (yX6_beginTurn, cX6_beginTurn, 2, none, [(25, [(0, .aload_n 0, 1, 1, []), (1, .getfield 28, 3, 4, [6, 7, 316, 3]), (4, .iconst 0, 1, 5, []), (5, .iaload, 1, 6, []), (6, .aload_n 0, 1, 7, []), (7, .getfield 93, 3, 10, [6, 11, 322, 0]), (10, .if_icmp .lt 9, 3, 13, [19]), (13, .aload_n 0, 1, 14, []), (14, .iconst 1, 1, 15, []), (15, .putfield 60, 3, 18, [6, 13, 324, 0]), (18, .return_, 1, 19, []), (19, .aload_n 0, 1, 20, []), (20, .getfield 28, 3, 23, [6, 7, 316, 3]), (23, .iconst 0, 1, 24, []), (24, .dup2, 1, 25, []), (25, .iaload, 1, 26, [])]),
  (51, [(26, .iconst 1, 1, 27, []), (27, .iadd, 1, 28, []), (28, .iastore, 1, 29, []), (29, .aload_n 0, 1, 30, []), (30, .getfield 12, 3, 33, [6, 3, 312, 3]), (33, .aload_n 0, 1, 34, []), (34, .getfield 31, 3, 37, [6, 9, 320, 3]), (37, .getfield 169, 3, 40, [2, 6, 167, 3]), (40, .iload_n 1, 1, 41, []), (41, .iaload, 1, 42, []), (42, .invokevirtual 160, 3, 45, []), (45, .aload_n 0, 1, 46, []), (46, .iload_n 1, 1, 47, []), (47, .aload_n 0, 1, 48, []), (48, .getfield 31, 3, 51, [6, 9, 320, 3]), (51, .getfield 172, 3, 54, [2, 4, 155, 3])]),
  (66, [(54, .iload_n 1, 1, 55, []), (55, .iaload, 1, 56, []), (56, .aload_n 0, 1, 57, []), (57, .getfield 12, 3, 60, [6, 3, 312, 3]), (60, .invokevirtual 175, 3, 63, []), (63, .invokevirtual 178, 3, 66, []), (66, .return_, 1, 67, [])])])
theorem okX6_beginTurn : sk_ok mX6_beginTurn := show ∀ c ∈ mX6_beginTurn.2.2.2.2, ∀ e ∈ c.2, sk_okI mX6_beginTurn e = true from by decide +kernel
def mX6_doStep : sk_M := (yX6_doStep, cX6_doStep, 4, none, [(87, [(0, .aload_n 0, 1, 1, []), (1, .getfield 31, 3, 4, [6, 9, 320, 3]), (4, .getfield 182, 3, 7, [2, 2, 145, 3]), (7, .iload_n 1, 1, 8, []), (8, .iaload, 1, 9, []), (9, .tableswitch 260 0 11 #[63, 77, 86, 86, 112, 121, 130, 139, 161, 171, 182, 222], 63, 72, [269, 72, 86, 95, 95, 121, 130, 139, 148, 170, 180, 191, 231]), (72, .aload_n 0, 1, 73, []), (73, .iload_n 1, 1, 74, []), (74, .aload_n 0, 1, 75, []), (75, .iload_n 1, 1, 76, []), (76, .iload_n 3, 1, 77, []), (77, .invokevirtual 185, 3, 80, []), (80, .invokevirtual 188, 3, 83, []), (83, .goto 190, 3, 86, [273]), (86, .aload_n 0, 1, 87, []), (87, .iload_n 2, 1, 88, [])]),
  (115, [(88, .iload_n 3, 1, 89, []), (89, .invokevirtual 125, 3, 92, []), (92, .goto 181, 3, 95, [273]), (95, .aload_n 0, 1, 96, []), (96, .iload_n 1, 1, 97, []), (97, .aload_n 0, 1, 98, []), (98, .getfield 31, 3, 101, [6, 9, 320, 3]), (101, .getfield 157, 3, 104, [2, 7, 170, 3]), (104, .iload_n 1, 1, 105, []), (105, .iaload, 1, 106, []), (106, .aload_n 0, 1, 107, []), (107, .getfield 47, 3, 110, [6, 2, 311, 3]), (110, .iload_n 1, 1, 111, []), (111, .iload_n 3, 1, 112, []), (112, .invokevirtual 191, 3, 115, []), (115, .invokevirtual 194, 3, 118, [])]),
  (145, [(118, .goto 155, 3, 121, [273]), (121, .aload_n 0, 1, 122, []), (122, .iload_n 2, 1, 123, []), (123, .iload_n 3, 1, 124, []), (124, .invokevirtual 197, 3, 127, []), (127, .goto 146, 3, 130, [273]), (130, .aload_n 0, 1, 131, []), (131, .iload_n 1, 1, 132, []), (132, .iload_n 2, 1, 133, []), (133, .invokevirtual 200, 3, 136, []), (136, .goto 137, 3, 139, [273]), (139, .aload_n 0, 1, 140, []), (140, .iload_n 2, 1, 141, []), (141, .iload_n 3, 1, 142, []), (142, .invokevirtual 55, 3, 145, []), (145, .goto 128, 3, 148, [273])]),
  (173, [(148, .aload_n 0, 1, 149, []), (149, .getfield 12, 3, 152, [6, 3, 312, 3]), (152, .iconst 1, 1, 153, []), (153, .iload_n 1, 1, 154, []), (154, .aload_n 0, 1, 155, []), (155, .getfield 31, 3, 158, [6, 9, 320, 3]), (158, .getfield 157, 3, 161, [2, 7, 170, 3]), (161, .iload_n 1, 1, 162, []), (162, .iaload, 1, 163, []), (163, .iload_n 3, 1, 164, []), (164, .invokevirtual 141, 3, 167, []), (167, .goto 106, 3, 170, [273]), (170, .aload_n 0, 1, 171, []), (171, .iload_n 1, 1, 172, []), (172, .iload_n 2, 1, 173, []), (173, .iload_n 3, 1, 174, [])]),
  (203, [(174, .invokevirtual 203, 3, 177, []), (177, .goto 96, 3, 180, [273]), (180, .aload_n 0, 1, 181, []), (181, .getfield 39, 3, 184, [6, 1, 310, 3]), (184, .iload_n 2, 1, 185, []), (185, .invokevirtual 206, 3, 188, []), (188, .goto 85, 3, 191, [273]), (191, .aload_n 0, 1, 192, []), (192, .iload_n 1, 1, 193, []), (193, .aload_n 0, 1, 194, []), (194, .iload_n 1, 1, 195, []), (195, .iload_n 3, 1, 196, []), (196, .invokevirtual 185, 3, 199, []), (199, .iconst (-1), 1, 200, []), (200, .if_icmp .ne 15, 3, 203, [215]), (203, .aload_n 0, 1, 204, [])]),
  (233, [(204, .getfield 31, 3, 207, [6, 9, 320, 3]), (207, .getfield 157, 3, 210, [2, 7, 170, 3]), (210, .iload_n 1, 1, 211, []), (211, .iaload, 1, 212, []), (212, .goto 12, 3, 215, [224]), (215, .aload_n 0, 1, 216, []), (216, .getfield 31, 3, 219, [6, 9, 320, 3]), (219, .getfield 209, 3, 222, [2, 8, 175, 3]), (222, .iload_n 1, 1, 223, []), (223, .iaload, 1, 224, []), (224, .iload_n 3, 1, 225, []), (225, .invokevirtual 194, 3, 228, []), (228, .goto 45, 3, 231, [273]), (231, .aload_n 0, 1, 232, []), (232, .iload_n 1, 1, 233, []), (233, .aload_n 0, 1, 234, [])]),
  (263, [(234, .invokevirtual 212, 3, 237, []), (237, .iconst 1, 1, 238, []), (238, .if_icmp .ne 15, 3, 241, [253]), (241, .aload_n 0, 1, 242, []), (242, .getfield 31, 3, 245, [6, 9, 320, 3]), (245, .getfield 157, 3, 248, [2, 7, 170, 3]), (248, .iload_n 1, 1, 249, []), (249, .iaload, 1, 250, []), (250, .goto 12, 3, 253, [262]), (253, .aload_n 0, 1, 254, []), (254, .getfield 31, 3, 257, [6, 9, 320, 3]), (257, .getfield 209, 3, 260, [2, 8, 175, 3]), (260, .iload_n 1, 1, 261, []), (261, .iaload, 1, 262, []), (262, .iload_n 3, 1, 263, []), (263, .invokevirtual 194, 3, 266, [])]),
  (273, [(266, .goto 7, 3, 269, [273]), (269, .aload_n 0, 1, 270, []), (270, .invokevirtual 215, 3, 273, []), (273, .return_, 1, 274, [])])])
theorem okX6_doStep : sk_ok mX6_doStep := show ∀ c ∈ mX6_doStep.2.2.2.2, ∀ e ∈ c.2, sk_okI mX6_doStep e = true from by decide +kernel
def mX6_open : sk_M := (yX6_open, cX6_open, 4, none, [(11, [(0, .aload_n 0, 1, 1, []), (1, .getfield 12, 3, 4, [6, 3, 312, 3]), (4, .iconst 3, 1, 5, []), (5, .iload_n 1, 1, 6, []), (6, .iload_n 2, 1, 7, []), (7, .iload_n 3, 1, 8, []), (8, .invokevirtual 141, 3, 11, []), (11, .return_, 1, 12, [])])])
theorem okX6_open : sk_ok mX6_open := show ∀ c ∈ mX6_open.2.2.2.2, ∀ e ∈ c.2, sk_okI mX6_open e = true from by decide +kernel
def mX6_judge : sk_M := (yX6_judge, cX6_judge, 3, (some .int), [(24, [(0, .aload_n 0, 1, 1, []), (1, .getfield 28, 3, 4, [6, 7, 316, 3]), (4, .bipush 7, 2, 6, []), (6, .dup2, 1, 7, []), (7, .iaload, 1, 8, []), (8, .iconst 1, 1, 9, []), (9, .iadd, 1, 10, []), (10, .iastore, 1, 11, []), (11, .aload_n 0, 1, 12, []), (12, .getfield 47, 3, 15, [6, 2, 311, 3]), (15, .iload_n 2, 1, 16, []), (16, .aload_n 0, 1, 17, []), (17, .getfield 31, 3, 20, [6, 9, 320, 3]), (20, .getfield 172, 3, 23, [2, 4, 155, 3]), (23, .iload_n 1, 1, 24, []), (24, .iaload, 1, 25, [])]),
  (37, [(25, .aload_n 0, 1, 26, []), (26, .getfield 31, 3, 29, [6, 9, 320, 3]), (29, .getfield 218, 3, 32, [2, 5, 163, 3]), (32, .iload_n 1, 1, 33, []), (33, .iaload, 1, 34, []), (34, .invokevirtual 221, 3, 37, []), (37, .ireturn, 1, 38, [])])])
theorem okX6_judge : sk_ok mX6_judge := show ∀ c ∈ mX6_judge.2.2.2.2, ∀ e ∈ c.2, sk_okI mX6_judge e = true from by decide +kernel
def mX6_failIfRefused : sk_M := (yX6_failIfRefused, cX6_failIfRefused, 3, none, [(11, [(0, .iload_n 2, 1, 1, []), (1, .iconst (-1), 1, 2, []), (2, .if_icmp .eq 9, 3, 5, [11]), (5, .aload_n 0, 1, 6, []), (6, .iload_n 1, 1, 7, []), (7, .iload_n 2, 1, 8, []), (8, .invokevirtual 225, 3, 11, []), (11, .return_, 1, 12, [])])])
theorem okX6_failIfRefused : sk_ok mX6_failIfRefused := show ∀ c ∈ mX6_failIfRefused.2.2.2.2, ∀ e ∈ c.2, sk_okI mX6_failIfRefused e = true from by decide +kernel
def mX6_keep : sk_M := (yX6_keep, cX6_keep, 3, none, [(19, [(0, .iload_n 1, 1, 1, []), (1, .aload_n 0, 1, 2, []), (2, .getfield 18, 3, 5, [6, 4, 313, 3]), (5, .arraylength, 1, 6, []), (6, .invokestatic 118, 3, 9, []), (9, .ifCond .eq 10, 3, 12, [19]), (12, .aload_n 0, 1, 13, []), (13, .getfield 18, 3, 16, [6, 4, 313, 3]), (16, .iload_n 1, 1, 17, []), (17, .iload_n 2, 1, 18, []), (18, .iastore, 1, 19, []), (19, .return_, 1, 20, [])])])
theorem okX6_keep : sk_ok mX6_keep := show ∀ c ∈ mX6_keep.2.2.2.2, ∀ e ∈ c.2, sk_okI mX6_keep e = true from by decide +kernel
def mX6_under : sk_M := (yX6_under, cX6_under, 4, none, [(25, [(0, .iload_n 2, 1, 1, []), (1, .aload_n 0, 1, 2, []), (2, .getfield 18, 3, 5, [6, 4, 313, 3]), (5, .arraylength, 1, 6, []), (6, .invokestatic 118, 3, 9, []), (9, .ifCond .eq 12, 3, 12, [21]), (12, .aload_n 0, 1, 13, []), (13, .getfield 18, 3, 16, [6, 4, 313, 3]), (16, .iload_n 2, 1, 17, []), (17, .iaload, 1, 18, []), (18, .goto 4, 3, 21, [22]), (21, .iconst (-1), 1, 22, []), (22, .istore_n 3, 1, 23, []), (23, .iload_n 3, 1, 24, []), (24, .iconst (-1), 1, 25, []), (25, .if_icmp .ne 12, 3, 28, [37])]),
  (53, [(28, .aload_n 0, 1, 29, []), (29, .iload_n 1, 1, 30, []), (30, .iconst (-1), 1, 31, []), (31, .invokevirtual 225, 3, 34, []), (34, .goto 26, 3, 37, [60]), (37, .aload_n 0, 1, 38, []), (38, .iload_n 1, 1, 39, []), (39, .aload_n 0, 1, 40, []), (40, .getfield 31, 3, 43, [6, 9, 320, 3]), (43, .getfield 157, 3, 46, [2, 7, 170, 3]), (46, .iload_n 1, 1, 47, []), (47, .iaload, 1, 48, []), (48, .aload_n 0, 1, 49, []), (49, .getfield 47, 3, 52, [6, 2, 311, 3]), (52, .iload_n 1, 1, 53, []), (53, .iload_n 3, 1, 54, [])]),
  (60, [(54, .invokevirtual 191, 3, 57, []), (57, .invokevirtual 194, 3, 60, []), (60, .return_, 1, 61, [])])])
theorem okX6_under : sk_ok mX6_under := show ∀ c ∈ mX6_under.2.2.2.2, ∀ e ∈ c.2, sk_okI mX6_under e = true from by decide +kernel
def mX6_repeat : sk_M := (yX6_repeat, cX6_repeat, 4, none, [(27, [(0, .iload_n 2, 1, 1, []), (1, .ifCond .le 45, 3, 4, [46]), (4, .aload_n 0, 1, 5, []), (5, .getfield 31, 3, 8, [6, 9, 320, 3]), (8, .getfield 157, 3, 11, [2, 7, 170, 3]), (11, .iload_n 1, 1, 12, []), (12, .iaload, 1, 13, []), (13, .iconst (-1), 1, 14, []), (14, .if_icmp .eq 32, 3, 17, [46]), (17, .aload_n 0, 1, 18, []), (18, .getfield 12, 3, 21, [6, 3, 312, 3]), (21, .iconst 2, 1, 22, []), (22, .iload_n 1, 1, 23, []), (23, .aload_n 0, 1, 24, []), (24, .getfield 31, 3, 27, [6, 9, 320, 3]), (27, .getfield 157, 3, 30, [2, 7, 170, 3])]),
  (46, [(30, .iload_n 1, 1, 31, []), (31, .iaload, 1, 32, []), (32, .iload_n 3, 1, 33, []), (33, .invokevirtual 141, 3, 36, []), (36, .aload_n 0, 1, 37, []), (37, .getfield 12, 3, 40, [6, 3, 312, 3]), (40, .iload_n 2, 1, 41, []), (41, .iconst 1, 1, 42, []), (42, .isub, 1, 43, []), (43, .invokevirtual 154, 3, 46, []), (46, .return_, 1, 47, [])])])
theorem okX6_repeat : sk_ok mX6_repeat := show ∀ c ∈ mX6_repeat.2.2.2.2, ∀ e ∈ c.2, sk_okI mX6_repeat e = true from by decide +kernel
def mX6_takeBit : sk_M := (yX6_takeBit, cX6_takeBit, 2, (some .int), [(25, [(0, .aload_n 0, 1, 1, []), (1, .getfield 35, 3, 4, [6, 0, 309, 3]), (4, .aload_n 0, 1, 5, []), (5, .getfield 28, 3, 8, [6, 7, 316, 3]), (8, .iconst 5, 1, 9, []), (9, .iaload, 1, 10, []), (10, .invokevirtual 228, 3, 13, []), (13, .istore_n 1, 1, 14, []), (14, .iload_n 1, 1, 15, []), (15, .iconst (-1), 1, 16, []), (16, .if_icmp .eq 13, 3, 19, [29]), (19, .aload_n 0, 1, 20, []), (20, .getfield 28, 3, 23, [6, 7, 316, 3]), (23, .iconst 5, 1, 24, []), (24, .dup2, 1, 25, []), (25, .iaload, 1, 26, [])]),
  (30, [(26, .iconst 1, 1, 27, []), (27, .iadd, 1, 28, []), (28, .iastore, 1, 29, []), (29, .iload_n 1, 1, 30, []), (30, .ireturn, 1, 31, [])])])
theorem okX6_takeBit : sk_ok mX6_takeBit := show ∀ c ∈ mX6_takeBit.2.2.2.2, ∀ e ∈ c.2, sk_okI mX6_takeBit e = true from by decide +kernel
def mX6_goBack : sk_M := (yX6_goBack, cX6_goBack, 2, none, [(32, [(0, .sipush 480, 3, 3, []), (3, .istore_n 1, 1, 4, []), (4, .iload_n 1, 1, 5, []), (5, .ifCond .le 23, 3, 8, [28]), (8, .aload_n 0, 1, 9, []), (9, .getfield 12, 3, 12, [6, 3, 312, 3]), (12, .invokevirtual 151, 3, 15, []), (15, .ifCond .eq 13, 3, 18, [28]), (18, .aload_n 0, 1, 19, []), (19, .invokevirtual 163, 3, 22, []), (22, .iinc 1 (-1), 3, 25, []), (25, .goto (-21), 3, 28, [4]), (28, .aload_n 0, 1, 29, []), (29, .invokevirtual 163, 3, 32, []), (32, .return_, 1, 33, [])])])
theorem okX6_goBack : sk_ok mX6_goBack := show ∀ c ∈ mX6_goBack.2.2.2.2, ∀ e ∈ c.2, sk_okI mX6_goBack e = true from by decide +kernel
def mX6_fail : sk_M := (yX6_fail, cX6_fail, 6, none, [(25, [(0, .aload_n 0, 1, 1, []), (1, .getfield 39, 3, 4, [6, 1, 310, 3]), (4, .sipush 10000, 3, 7, []), (7, .sipush 1000, 3, 10, []), (10, .iload_n 2, 1, 11, []), (11, .iconst 1, 1, 12, []), (12, .iadd, 1, 13, []), (13, .imul, 1, 14, []), (14, .iadd, 1, 15, []), (15, .iload_n 1, 1, 16, []), (16, .iadd, 1, 17, []), (17, .invokevirtual 206, 3, 20, []), (20, .aload_n 0, 1, 21, []), (21, .getfield 28, 3, 24, [6, 7, 316, 3]), (24, .iconst 2, 1, 25, []), (25, .dup2, 1, 26, [])]),
  (55, [(26, .iaload, 1, 27, []), (27, .iconst 1, 1, 28, []), (28, .iadd, 1, 29, []), (29, .iastore, 1, 30, []), (30, .sipush 480, 3, 33, []), (33, .istore_n 3, 1, 34, []), (34, .iload_n 3, 1, 35, []), (35, .ifCond .le 83, 3, 38, [118]), (38, .aload_n 0, 1, 39, []), (39, .getfield 12, 3, 42, [6, 3, 312, 3]), (42, .invokevirtual 64, 3, 45, []), (45, .ifCond .ne 73, 3, 48, [118]), (48, .aload_n 0, 1, 49, []), (49, .getfield 12, 3, 52, [6, 3, 312, 3]), (52, .invokevirtual 151, 3, 55, []), (55, .istore 4, 2, 57, [])]),
  (89, [(57, .aload_n 0, 1, 58, []), (58, .getfield 12, 3, 61, [6, 3, 312, 3]), (61, .invokevirtual 145, 3, 64, []), (64, .istore 5, 2, 66, []), (66, .aload_n 0, 1, 67, []), (67, .invokevirtual 163, 3, 70, []), (70, .iload 4, 2, 72, []), (72, .iconst 1, 1, 73, []), (73, .if_icmp .ne 39, 3, 76, [112]), (76, .aload_n 0, 1, 77, []), (77, .getfield 31, 3, 80, [6, 9, 320, 3]), (80, .iload 5, 2, 82, []), (82, .invokevirtual 75, 3, 85, []), (85, .ifCond .eq 27, 3, 88, [112]), (88, .aload_n 0, 1, 89, []), (89, .iload 5, 2, 91, [])]),
  (123, [(91, .aload_n 0, 1, 92, []), (92, .getfield 31, 3, 95, [6, 9, 320, 3]), (95, .getfield 209, 3, 98, [2, 8, 175, 3]), (98, .iload 5, 2, 100, []), (100, .iaload, 1, 101, []), (101, .aload_n 0, 1, 102, []), (102, .getfield 12, 3, 105, [6, 3, 312, 3]), (105, .invokevirtual 175, 3, 108, []), (108, .invokevirtual 194, 3, 111, []), (111, .return_, 1, 112, []), (112, .iinc 3 (-1), 3, 115, []), (115, .goto (-81), 3, 118, [34]), (118, .aload_n 0, 1, 119, []), (119, .getfield 28, 3, 122, [6, 7, 316, 3]), (122, .iconst 3, 1, 123, []), (123, .dup2, 1, 124, [])]),
  (128, [(124, .iaload, 1, 125, []), (125, .iconst 1, 1, 126, []), (126, .iadd, 1, 127, []), (127, .iastore, 1, 128, []), (128, .return_, 1, 129, [])])])
theorem okX6_fail : sk_ok mX6_fail := show ∀ c ∈ mX6_fail.2.2.2.2, ∀ e ∈ c.2, sk_okI mX6_fail e = true from by decide +kernel
def mX7_init : sk_M := (yX7_init, cX7_init, 3, none, [(29, [(0, .aload_n 0, 1, 1, []), (1, .invokespecial 3, 3, 4, []), (4, .aload_n 0, 1, 5, []), (5, .sipush 3021, 3, 8, []), (8, .newarray .int, 2, 10, []), (10, .putfield 11, 3, 13, [7, 2, 295, 3]), (13, .aload_n 0, 1, 14, []), (14, .sipush 3021, 3, 17, []), (17, .newarray .int, 2, 19, []), (19, .putfield 15, 3, 22, [7, 3, 296, 3]), (22, .aload_n 0, 1, 23, []), (23, .aload_n 1, 1, 24, []), (24, .putfield 18, 3, 27, [7, 1, 294, 3]), (27, .aload_n 0, 1, 28, []), (28, .aload_n 2, 1, 29, []), (29, .putfield 22, 3, 32, [7, 0, 293, 3])]),
  (32, [(32, .return_, 1, 33, [])])])
theorem okX7_init : sk_ok mX7_init := show ∀ c ∈ mX7_init.2.2.2.2, ∀ e ∈ c.2, sk_okI mX7_init e = true from by decide +kernel
def mX7_clear : sk_M := (yX7_clear, cX7_clear, 2, none, [(10, [(0, .aload_n 0, 1, 1, []), (1, .aload_n 1, 1, 2, []), (2, .putfield 18, 3, 5, [7, 1, 294, 3]), (5, .aload_n 0, 1, 6, []), (6, .iconst 0, 1, 7, []), (7, .putfield 26, 3, 10, [7, 4, 297, 0]), (10, .return_, 1, 11, [])])])
theorem okX7_clear : sk_ok mX7_clear := show ∀ c ∈ mX7_clear.2.2.2.2, ∀ e ∈ c.2, sk_okI mX7_clear e = true from by decide +kernel
def mX7_withMethod : sk_M := (yX7_withMethod, cX7_withMethod, 3, (some .int), [(8, [(0, .aload_n 0, 1, 1, []), (1, .iconst (-1), 1, 2, []), (2, .iload_n 1, 1, 3, []), (3, .isub, 1, 4, []), (4, .iload_n 2, 1, 5, []), (5, .invokevirtual 30, 3, 8, []), (8, .ireturn, 1, 9, [])])])
theorem okX7_withMethod : sk_ok mX7_withMethod := show ∀ c ∈ mX7_withMethod.2.2.2.2, ∀ e ∈ c.2, sk_okI mX7_withMethod e = true from by decide +kernel
def mX7_withBlock : sk_M := (yX7_withBlock, cX7_withBlock, 3, (some .int), [(6, [(0, .aload_n 0, 1, 1, []), (1, .iload_n 1, 1, 2, []), (2, .iload_n 2, 1, 3, []), (3, .invokevirtual 30, 3, 6, []), (6, .ireturn, 1, 7, [])])])
theorem okX7_withBlock : sk_ok mX7_withBlock := show ∀ c ∈ mX7_withBlock.2.2.2.2, ∀ e ∈ c.2, sk_okI mX7_withBlock e = true from by decide +kernel
def mX7_add : sk_M := (yX7_add, cX7_add, 3, (some .int), [(29, [(0, .aload_n 0, 1, 1, []), (1, .getfield 26, 3, 4, [7, 4, 297, 0]), (4, .sipush 3021, 3, 7, []), (7, .invokestatic 34, 3, 10, []), (10, .ifCond .ne 5, 3, 13, [15]), (13, .iconst (-1), 1, 14, []), (14, .ireturn, 1, 15, []), (15, .aload_n 0, 1, 16, []), (16, .getfield 11, 3, 19, [7, 2, 295, 3]), (19, .aload_n 0, 1, 20, []), (20, .getfield 26, 3, 23, [7, 4, 297, 0]), (23, .iload_n 1, 1, 24, []), (24, .iastore, 1, 25, []), (25, .aload_n 0, 1, 26, []), (26, .getfield 15, 3, 29, [7, 3, 296, 3]), (29, .aload_n 0, 1, 30, [])]),
  (51, [(30, .getfield 26, 3, 33, [7, 4, 297, 0]), (33, .iload_n 2, 1, 34, []), (34, .iastore, 1, 35, []), (35, .aload_n 0, 1, 36, []), (36, .dup, 1, 37, []), (37, .getfield 26, 3, 40, [7, 4, 297, 0]), (40, .iconst 1, 1, 41, []), (41, .iadd, 1, 42, []), (42, .putfield 26, 3, 45, [7, 4, 297, 0]), (45, .aload_n 0, 1, 46, []), (46, .getfield 26, 3, 49, [7, 4, 297, 0]), (49, .iconst 1, 1, 50, []), (50, .isub, 1, 51, []), (51, .ireturn, 1, 52, [])])])
theorem okX7_add : sk_ok mX7_add := show ∀ c ∈ mX7_add.2.2.2.2, ∀ e ∈ c.2, sk_okI mX7_add e = true from by decide +kernel
def mX7_refuser : sk_M := (yX7_refuser, cX7_refuser, 12, (some .int), [(32, [(0, .iload_n 1, 1, 1, []), (1, .istore 4, 2, 3, []), (3, .sipush 3021, 3, 6, []), (6, .istore 5, 2, 8, []), (8, .iload 5, 2, 10, []), (10, .ifCond .le 220, 3, 13, [230]), (13, .iload 4, 2, 15, []), (15, .aload_n 0, 1, 16, []), (16, .getfield 26, 3, 19, [7, 4, 297, 0]), (19, .invokestatic 34, 3, 22, []), (22, .ifCond .eq 208, 3, 25, [230]), (25, .aload_n 0, 1, 26, []), (26, .getfield 11, 3, 29, [7, 2, 295, 3]), (29, .iload 4, 2, 31, []), (31, .iaload, 1, 32, []), (32, .istore 6, 2, 34, [])]),
  (66, [(34, .aload_n 0, 1, 35, []), (35, .getfield 18, 3, 38, [7, 1, 294, 3]), (38, .iload 6, 2, 40, []), (40, .invokevirtual 38, 3, 43, []), (43, .istore 7, 2, 45, []), (45, .iload 7, 2, 47, []), (47, .ifCond .eq 16, 3, 50, [63]), (50, .aload_n 0, 1, 51, []), (51, .getfield 18, 3, 54, [7, 1, 294, 3]), (54, .getfield 44, 3, 57, [2, 2, 144, 3]), (57, .iload 6, 2, 59, []), (59, .iaload, 1, 60, []), (60, .goto 4, 3, 63, [64]), (63, .iconst 1, 1, 64, []), (64, .istore 8, 2, 66, []), (66, .iload 7, 2, 68, [])]),
  (98, [(68, .ifCond .eq 21, 3, 71, [89]), (71, .aload_n 0, 1, 72, []), (72, .getfield 18, 3, 75, [7, 1, 294, 3]), (75, .getfield 47, 3, 78, [2, 4, 153, 3]), (78, .iload 6, 2, 80, []), (80, .iaload, 1, 81, []), (81, .iload_n 2, 1, 82, []), (82, .if_icmp .ne 7, 3, 85, [89]), (85, .iconst 1, 1, 86, []), (86, .goto 4, 3, 89, [90]), (89, .iconst 0, 1, 90, []), (90, .istore 9, 2, 92, []), (92, .aload_n 0, 1, 93, []), (93, .getfield 18, 3, 96, [7, 1, 294, 3]), (96, .iload 7, 2, 98, []), (98, .ifCond .eq 16, 3, 101, [114])]),
  (130, [(101, .aload_n 0, 1, 102, []), (102, .getfield 18, 3, 105, [7, 1, 294, 3]), (105, .getfield 50, 3, 108, [2, 3, 149, 3]), (108, .iload 6, 2, 110, []), (110, .iaload, 1, 111, []), (111, .goto 7, 3, 114, [118]), (114, .iconst (-1), 1, 115, []), (115, .iload 6, 2, 117, []), (117, .isub, 1, 118, []), (118, .invokevirtual 53, 3, 121, []), (121, .istore 10, 2, 123, []), (123, .aload_n 0, 1, 124, []), (124, .getfield 22, 3, 127, [7, 0, 293, 3]), (127, .iload 10, 2, 129, []), (129, .iload_n 2, 1, 130, []), (130, .invokevirtual 57, 3, 133, [])]),
  (161, [(133, .iload_n 3, 1, 134, []), (134, .if_icmp .lt 7, 3, 137, [141]), (137, .iconst 1, 1, 138, []), (138, .goto 4, 3, 141, [142]), (141, .iconst 0, 1, 142, []), (142, .istore 11, 2, 144, []), (144, .iload 8, 2, 146, []), (146, .iconst 3, 1, 147, []), (147, .if_icmp .ne 11, 3, 150, [158]), (150, .iload 9, 2, 152, []), (152, .ifCond .eq 6, 3, 155, [158]), (155, .iload 10, 2, 157, []), (157, .ireturn, 1, 158, []), (158, .iload 8, 2, 160, []), (160, .iconst 2, 1, 161, []), (161, .if_icmp .ne 34, 3, 164, [195])]),
  (195, [(164, .iload 9, 2, 166, []), (166, .ifCond .eq 29, 3, 169, [195]), (169, .aload_n 0, 1, 170, []), (170, .getfield 18, 3, 173, [7, 1, 294, 3]), (173, .getfield 62, 3, 176, [2, 5, 159, 3]), (176, .iload 6, 2, 178, []), (178, .iaload, 1, 179, []), (179, .iload_n 3, 1, 180, []), (180, .if_icmp .lt 15, 3, 183, [195]), (183, .iload 11, 2, 185, []), (185, .ifCond .eq 7, 3, 188, [192]), (188, .iconst (-1), 1, 189, []), (189, .goto 5, 3, 192, [194]), (192, .iload 10, 2, 194, []), (194, .ireturn, 1, 195, []), (195, .iload 8, 2, 197, [])]),
  (227, [(197, .iconst 3, 1, 198, []), (198, .if_icmp .eq 17, 3, 201, [215]), (201, .iload 8, 2, 203, []), (203, .iconst 2, 1, 204, []), (204, .if_icmp .eq 11, 3, 207, [215]), (207, .iload 11, 2, 209, []), (209, .ifCond .ne 6, 3, 212, [215]), (212, .iload 10, 2, 214, []), (214, .ireturn, 1, 215, []), (215, .aload_n 0, 1, 216, []), (216, .getfield 15, 3, 219, [7, 3, 296, 3]), (219, .iload 4, 2, 221, []), (221, .iaload, 1, 222, []), (222, .istore 4, 2, 224, []), (224, .iinc 5 (-1), 3, 227, []), (227, .goto (-219), 3, 230, [8])]),
  (231, [(230, .iconst (-1), 1, 231, []), (231, .ireturn, 1, 232, [])])])
theorem okX7_refuser : sk_ok mX7_refuser := show ∀ c ∈ mX7_refuser.2.2.2.2, ∀ e ∈ c.2, sk_okI mX7_refuser e = true from by decide +kernel
def mX8_init : sk_M := (yX8_init, cX8_init, 1, none, [(22, [(0, .aload_n 0, 1, 1, []), (1, .invokespecial 3, 3, 4, []), (4, .aload_n 0, 1, 5, []), (5, .sipush 1201, 3, 8, []), (8, .newarray .int, 2, 10, []), (10, .putfield 9, 3, 13, [8, 0, 222, 3]), (13, .aload_n 0, 1, 14, []), (14, .sipush 1201, 3, 17, []), (17, .newarray .int, 2, 19, []), (19, .putfield 15, 3, 22, [8, 1, 223, 3]), (22, .return_, 1, 23, [])])])
theorem okX8_init : sk_ok mX8_init := show ∀ c ∈ mX8_init.2.2.2.2, ∀ e ∈ c.2, sk_okI mX8_init e = true from by decide +kernel
def mX8_cut : sk_M := (yX8_cut, cX8_cut, 6, none, [(25, [(0, .aload_n 0, 1, 1, []), (1, .iconst 0, 1, 2, []), (2, .putfield 18, 3, 5, [8, 2, 224, 0]), (5, .iconst 0, 1, 6, []), (6, .istore_n 2, 1, 7, []), (7, .iconst 0, 1, 8, []), (8, .istore_n 3, 1, 9, []), (9, .iload_n 3, 1, 10, []), (10, .sipush 1200, 3, 13, []), (13, .if_icmp .ge 116, 3, 16, [129]), (16, .iload_n 2, 1, 17, []), (17, .aload_n 1, 1, 18, []), (18, .getfield 22, 3, 21, [4, 1, 111, 0]), (21, .if_icmp .ge 108, 3, 24, [129]), (24, .aload_n 1, 1, 25, []), (25, .iload_n 2, 1, 26, [])]),
  (53, [(26, .invokevirtual 25, 3, 29, []), (29, .istore 4, 2, 31, []), (31, .iload_n 2, 1, 32, []), (32, .iconst 1, 1, 33, []), (33, .iadd, 1, 34, []), (34, .istore 5, 2, 36, []), (36, .iload 4, 2, 38, []), (38, .invokestatic 28, 3, 41, []), (41, .ifCond .eq 25, 3, 44, [66]), (44, .aload_n 1, 1, 45, []), (45, .iload_n 2, 1, 46, []), (46, .invokestatic 32, 3, 49, []), (49, .istore 5, 2, 51, []), (51, .aload_n 0, 1, 52, []), (52, .aload_n 1, 1, 53, []), (53, .iload_n 2, 1, 54, [])]),
  (84, [(54, .iload 5, 2, 56, []), (56, .invokestatic 36, 3, 59, []), (59, .iload_n 2, 1, 60, []), (60, .invokevirtual 40, 3, 63, []), (63, .goto 57, 3, 66, [120]), (66, .iload 4, 2, 68, []), (68, .invokestatic 44, 3, 71, []), (71, .ifCond .eq 25, 3, 74, [96]), (74, .aload_n 1, 1, 75, []), (75, .iload_n 2, 1, 76, []), (76, .invokestatic 47, 3, 79, []), (79, .istore 5, 2, 81, []), (81, .aload_n 0, 1, 82, []), (82, .aload_n 1, 1, 83, []), (83, .iload_n 2, 1, 84, []), (84, .iload 5, 2, 86, [])]),
  (120, [(86, .invokestatic 50, 3, 89, []), (89, .iload_n 2, 1, 90, []), (90, .invokevirtual 40, 3, 93, []), (93, .goto 27, 3, 96, [120]), (96, .iload 4, 2, 98, []), (98, .bipush 32, 2, 100, []), (100, .if_icmp .eq 20, 3, 103, [120]), (103, .iload 4, 2, 105, []), (105, .bipush 10, 2, 107, []), (107, .if_icmp .eq 13, 3, 110, [120]), (110, .aload_n 0, 1, 111, []), (111, .iload 4, 2, 113, []), (113, .invokestatic 53, 3, 116, []), (116, .iload_n 2, 1, 117, []), (117, .invokevirtual 40, 3, 120, []), (120, .iload 5, 2, 122, [])]),
  (139, [(122, .istore_n 2, 1, 123, []), (123, .iinc 3 1, 3, 126, []), (126, .goto (-117), 3, 129, [9]), (129, .aload_n 0, 1, 130, []), (130, .bipush 20, 2, 132, []), (132, .aload_n 1, 1, 133, []), (133, .getfield 22, 3, 136, [4, 1, 111, 0]), (136, .invokevirtual 40, 3, 139, []), (139, .return_, 1, 140, [])])])
theorem okX8_cut : sk_ok mX8_cut := show ∀ c ∈ mX8_cut.2.2.2.2, ∀ e ∈ c.2, sk_okI mX8_cut e = true from by decide +kernel
def mX8_tokenAt : sk_M := (yX8_tokenAt, cX8_tokenAt, 2, (some .int), [(23, [(0, .iload_n 1, 1, 1, []), (1, .ifCond .lt 20, 3, 4, [21]), (4, .iload_n 1, 1, 5, []), (5, .aload_n 0, 1, 6, []), (6, .getfield 18, 3, 9, [8, 2, 224, 0]), (9, .if_icmp .ge 12, 3, 12, [21]), (12, .aload_n 0, 1, 13, []), (13, .getfield 9, 3, 16, [8, 0, 222, 3]), (16, .iload_n 1, 1, 17, []), (17, .iaload, 1, 18, []), (18, .goto 5, 3, 21, [23]), (21, .bipush 20, 2, 23, []), (23, .ireturn, 1, 24, [])])])
theorem okX8_tokenAt : sk_ok mX8_tokenAt := show ∀ c ∈ mX8_tokenAt.2.2.2.2, ∀ e ∈ c.2, sk_okI mX8_tokenAt e = true from by decide +kernel
def mX8_placeOf : sk_M := (yX8_placeOf, cX8_placeOf, 2, (some .int), [(22, [(0, .iload_n 1, 1, 1, []), (1, .ifCond .lt 20, 3, 4, [21]), (4, .iload_n 1, 1, 5, []), (5, .aload_n 0, 1, 6, []), (6, .getfield 18, 3, 9, [8, 2, 224, 0]), (9, .if_icmp .ge 12, 3, 12, [21]), (12, .aload_n 0, 1, 13, []), (13, .getfield 15, 3, 16, [8, 1, 223, 3]), (16, .iload_n 1, 1, 17, []), (17, .iaload, 1, 18, []), (18, .goto 4, 3, 21, [22]), (21, .iconst 0, 1, 22, []), (22, .ireturn, 1, 23, [])])])
theorem okX8_placeOf : sk_ok mX8_placeOf := show ∀ c ∈ mX8_placeOf.2.2.2.2, ∀ e ∈ c.2, sk_okI mX8_placeOf e = true from by decide +kernel
def mX8_add : sk_M := (yX8_add, cX8_add, 3, none, [(31, [(0, .aload_n 0, 1, 1, []), (1, .getfield 18, 3, 4, [8, 2, 224, 0]), (4, .sipush 1201, 3, 7, []), (7, .invokestatic 56, 3, 10, []), (10, .ifCond .eq 33, 3, 13, [43]), (13, .aload_n 0, 1, 14, []), (14, .getfield 9, 3, 17, [8, 0, 222, 3]), (17, .aload_n 0, 1, 18, []), (18, .getfield 18, 3, 21, [8, 2, 224, 0]), (21, .iload_n 1, 1, 22, []), (22, .iastore, 1, 23, []), (23, .aload_n 0, 1, 24, []), (24, .getfield 15, 3, 27, [8, 1, 223, 3]), (27, .aload_n 0, 1, 28, []), (28, .getfield 18, 3, 31, [8, 2, 224, 0]), (31, .iload_n 2, 1, 32, [])]),
  (43, [(32, .iastore, 1, 33, []), (33, .aload_n 0, 1, 34, []), (34, .dup, 1, 35, []), (35, .getfield 18, 3, 38, [8, 2, 224, 0]), (38, .iconst 1, 1, 39, []), (39, .iadd, 1, 40, []), (40, .putfield 18, 3, 43, [8, 2, 224, 0]), (43, .return_, 1, 44, [])])])
theorem okX8_add : sk_ok mX8_add := show ∀ c ∈ mX8_add.2.2.2.2, ∀ e ∈ c.2, sk_okI mX8_add e = true from by decide +kernel
def mX8_isLetter : sk_M := (yX8_isLetter, cX8_isLetter, 1, (some .boolean), [(17, [(0, .iload_n 0, 1, 1, []), (1, .bipush 97, 2, 3, []), (3, .if_icmp .lt 13, 3, 6, [16]), (6, .iload_n 0, 1, 7, []), (7, .bipush 122, 2, 9, []), (9, .if_icmp .gt 7, 3, 12, [16]), (12, .iconst 1, 1, 13, []), (13, .goto 4, 3, 16, [17]), (16, .iconst 0, 1, 17, []), (17, .ireturn, 1, 18, [])])])
theorem okX8_isLetter : sk_ok mX8_isLetter := show ∀ c ∈ mX8_isLetter.2.2.2.2, ∀ e ∈ c.2, sk_okI mX8_isLetter e = true from by decide +kernel
def mX8_isDigit : sk_M := (yX8_isDigit, cX8_isDigit, 1, (some .boolean), [(17, [(0, .iload_n 0, 1, 1, []), (1, .bipush 48, 2, 3, []), (3, .if_icmp .lt 13, 3, 6, [16]), (6, .iload_n 0, 1, 7, []), (7, .bipush 57, 2, 9, []), (9, .if_icmp .gt 7, 3, 12, [16]), (12, .iconst 1, 1, 13, []), (13, .goto 4, 3, 16, [17]), (16, .iconst 0, 1, 17, []), (17, .ireturn, 1, 18, [])])])
theorem okX8_isDigit : sk_ok mX8_isDigit := show ∀ c ∈ mX8_isDigit.2.2.2.2, ∀ e ∈ c.2, sk_okI mX8_isDigit e = true from by decide +kernel
def mX8_endOfWord : sk_M := (yX8_endOfWord, cX8_endOfWord, 3, (some .int), [(28, [(0, .iload_n 1, 1, 1, []), (1, .istore_n 2, 1, 2, []), (2, .iload_n 2, 1, 3, []), (3, .aload_n 0, 1, 4, []), (4, .getfield 22, 3, 7, [4, 1, 111, 0]), (7, .if_icmp .ge 20, 3, 10, [27]), (10, .aload_n 0, 1, 11, []), (11, .iload_n 2, 1, 12, []), (12, .invokevirtual 25, 3, 15, []), (15, .invokestatic 28, 3, 18, []), (18, .ifCond .eq 9, 3, 21, [27]), (21, .iinc 2 1, 3, 24, []), (24, .goto (-22), 3, 27, [2]), (27, .iload_n 2, 1, 28, []), (28, .ireturn, 1, 29, [])])])
theorem okX8_endOfWord : sk_ok mX8_endOfWord := show ∀ c ∈ mX8_endOfWord.2.2.2.2, ∀ e ∈ c.2, sk_okI mX8_endOfWord e = true from by decide +kernel
def mX8_endOfNumber : sk_M := (yX8_endOfNumber, cX8_endOfNumber, 3, (some .int), [(28, [(0, .iload_n 1, 1, 1, []), (1, .istore_n 2, 1, 2, []), (2, .iload_n 2, 1, 3, []), (3, .aload_n 0, 1, 4, []), (4, .getfield 22, 3, 7, [4, 1, 111, 0]), (7, .if_icmp .ge 20, 3, 10, [27]), (10, .aload_n 0, 1, 11, []), (11, .iload_n 2, 1, 12, []), (12, .invokevirtual 25, 3, 15, []), (15, .invokestatic 44, 3, 18, []), (18, .ifCond .eq 9, 3, 21, [27]), (21, .iinc 2 1, 3, 24, []), (24, .goto (-22), 3, 27, [2]), (27, .iload_n 2, 1, 28, []), (28, .ireturn, 1, 29, [])])])
theorem okX8_endOfNumber : sk_ok mX8_endOfNumber := show ∀ c ∈ mX8_endOfNumber.2.2.2.2, ∀ e ∈ c.2, sk_okI mX8_endOfNumber e = true from by decide +kernel
def mX8_wordOf : sk_M := (yX8_wordOf, cX8_wordOf, 4, (some .int), [(22, [(0, .iload_n 2, 1, 1, []), (1, .iload_n 1, 1, 2, []), (2, .isub, 1, 3, []), (3, .bipush 6, 2, 5, []), (5, .if_icmp .le 6, 3, 8, [11]), (8, .bipush 19, 2, 10, []), (10, .ireturn, 1, 11, []), (11, .iconst 0, 1, 12, []), (12, .istore_n 3, 1, 13, []), (13, .iload_n 3, 1, 14, []), (14, .bipush 16, 2, 16, []), (16, .if_icmp .ge 21, 3, 19, [37]), (19, .iload_n 3, 1, 20, []), (20, .aload_n 0, 1, 21, []), (21, .iload_n 1, 1, 22, []), (22, .iload_n 2, 1, 23, [])]),
  (39, [(23, .invokestatic 60, 3, 26, []), (26, .ifCond .eq 5, 3, 29, [31]), (29, .iload_n 3, 1, 30, []), (30, .ireturn, 1, 31, []), (31, .iinc 3 1, 3, 34, []), (34, .goto (-21), 3, 37, [13]), (37, .bipush 19, 2, 39, []), (39, .ireturn, 1, 40, [])])])
theorem okX8_wordOf : sk_ok mX8_wordOf := show ∀ c ∈ mX8_wordOf.2.2.2.2, ∀ e ∈ c.2, sk_okI mX8_wordOf e = true from by decide +kernel
def mX8_isWord : sk_M := (yX8_isWord, cX8_isWord, 7, (some .boolean), [(24, [(0, .iconst 0, 1, 1, []), (1, .istore 4, 2, 3, []), (3, .iload 4, 2, 5, []), (5, .bipush 6, 2, 7, []), (7, .if_icmp .ge 68, 3, 10, [75]), (10, .iload_n 0, 1, 11, []), (11, .bipush 6, 2, 13, []), (13, .imul, 1, 14, []), (14, .iload 4, 2, 16, []), (16, .iadd, 1, 17, []), (17, .istore 5, 2, 19, []), (19, .iload_n 2, 1, 20, []), (20, .iload 4, 2, 22, []), (22, .iadd, 1, 23, []), (23, .iload_n 3, 1, 24, []), (24, .if_icmp .ge 14, 3, 27, [38])]),
  (59, [(27, .aload_n 1, 1, 28, []), (28, .iload_n 2, 1, 29, []), (29, .iload 4, 2, 31, []), (31, .iadd, 1, 32, []), (32, .invokevirtual 25, 3, 35, []), (35, .goto 5, 3, 38, [40]), (38, .bipush 32, 2, 40, []), (40, .istore 6, 2, 42, []), (42, .iload 5, 2, 44, []), (44, .ldc 64, 2, 46, [0, 0]), (46, .invokevirtual 66, 3, 49, []), (49, .invokestatic 56, 3, 52, []), (52, .ifCond .eq 15, 3, 55, [67]), (55, .ldc 64, 2, 57, [0, 0]), (57, .iload 5, 2, 59, []), (59, .invokevirtual 72, 3, 62, [])]),
  (76, [(62, .iload 6, 2, 64, []), (64, .if_icmp .eq 5, 3, 67, [69]), (67, .iconst 0, 1, 68, []), (68, .ireturn, 1, 69, []), (69, .iinc 4 1, 3, 72, []), (72, .goto (-69), 3, 75, [3]), (75, .iconst 1, 1, 76, []), (76, .ireturn, 1, 77, [])])])
theorem okX8_isWord : sk_ok mX8_isWord := show ∀ c ∈ mX8_isWord.2.2.2.2, ∀ e ∈ c.2, sk_okI mX8_isWord e = true from by decide +kernel
def mX8_numberOf : sk_M := (yX8_numberOf, cX8_numberOf, 5, (some .int), [(22, [(0, .iload_n 2, 1, 1, []), (1, .iload_n 1, 1, 2, []), (2, .isub, 1, 3, []), (3, .iconst 3, 1, 4, []), (4, .if_icmp .le 6, 3, 7, [10]), (7, .bipush 19, 2, 9, []), (9, .ireturn, 1, 10, []), (10, .iconst 0, 1, 11, []), (11, .istore_n 3, 1, 12, []), (12, .iload_n 1, 1, 13, []), (13, .istore 4, 2, 15, []), (15, .iload 4, 2, 17, []), (17, .iload_n 2, 1, 18, []), (18, .if_icmp .ge 24, 3, 21, [42]), (21, .iload_n 3, 1, 22, []), (22, .bipush 10, 2, 24, [])]),
  (46, [(24, .imul, 1, 25, []), (25, .aload_n 0, 1, 26, []), (26, .iload 4, 2, 28, []), (28, .invokevirtual 25, 3, 31, []), (31, .iadd, 1, 32, []), (32, .bipush 48, 2, 34, []), (34, .isub, 1, 35, []), (35, .istore_n 3, 1, 36, []), (36, .iinc 4 1, 3, 39, []), (39, .goto (-24), 3, 42, [15]), (42, .bipush 100, 2, 44, []), (44, .iload_n 3, 1, 45, []), (45, .iadd, 1, 46, []), (46, .ireturn, 1, 47, [])])])
theorem okX8_numberOf : sk_ok mX8_numberOf := show ∀ c ∈ mX8_numberOf.2.2.2.2, ∀ e ∈ c.2, sk_okI mX8_numberOf e = true from by decide +kernel
def mX8_signOf : sk_M := (yX8_signOf, cX8_signOf, 1, (some .int), [(47, [(0, .iload_n 0, 1, 1, []), (1, .lookupswitch 44 #[(59, 41), (123, 35), (125, 38)], 35, 36, [45, 42, 36, 39]), (36, .bipush 16, 2, 38, []), (38, .ireturn, 1, 39, []), (39, .bipush 17, 2, 41, []), (41, .ireturn, 1, 42, []), (42, .bipush 18, 2, 44, []), (44, .ireturn, 1, 45, []), (45, .bipush 19, 2, 47, []), (47, .ireturn, 1, 48, [])])])
theorem okX8_signOf : sk_ok mX8_signOf := show ∀ c ∈ mX8_signOf.2.2.2.2, ∀ e ∈ c.2, sk_okI mX8_signOf e = true from by decide +kernel
def mX9_init : sk_M := (yX9_init, cX9_init, 1, none, [(33, [(0, .aload_n 0, 1, 1, []), (1, .invokespecial 1, 3, 4, []), (4, .aload_n 0, 1, 5, []), (5, .new 7, 3, 8, [4, 100, 101, 75]), (8, .dup, 1, 9, []), (9, .sipush 1200, 3, 12, []), (12, .invokespecial 11, 3, 15, []), (15, .putfield 14, 3, 18, [9, 0, 414, 3]), (18, .aload_n 0, 1, 19, []), (19, .new 7, 3, 22, [4, 100, 101, 75]), (22, .dup, 1, 23, []), (23, .sipush 400, 3, 26, []), (26, .invokespecial 11, 3, 29, []), (29, .putfield 18, 3, 32, [9, 1, 415, 3]), (32, .aload_n 0, 1, 33, []), (33, .new 7, 3, 36, [4, 100, 101, 75])]),
  (69, [(36, .dup, 1, 37, []), (37, .sipush 3000, 3, 40, []), (40, .invokespecial 11, 3, 43, []), (43, .putfield 21, 3, 46, [9, 2, 416, 3]), (46, .aload_n 0, 1, 47, []), (47, .new 24, 3, 50, [5, 120, 121, 77]), (50, .dup, 1, 51, []), (51, .invokespecial 26, 3, 54, []), (54, .putfield 27, 3, 57, [9, 3, 417, 3]), (57, .aload_n 0, 1, 58, []), (58, .new 31, 3, 61, [2, 133, 134, 79]), (61, .dup, 1, 62, []), (62, .invokespecial 33, 3, 65, []), (65, .putfield 34, 3, 68, [9, 4, 418, 3]), (68, .aload_n 0, 1, 69, []), (69, .new 31, 3, 72, [2, 133, 134, 79])]),
  (103, [(72, .dup, 1, 73, []), (73, .invokespecial 33, 3, 76, []), (76, .putfield 38, 3, 79, [9, 5, 419, 3]), (79, .aload_n 0, 1, 80, []), (80, .new 41, 3, 83, [3, 210, 211, 80]), (83, .dup, 1, 84, []), (84, .aload_n 0, 1, 85, []), (85, .getfield 38, 3, 88, [9, 5, 419, 3]), (88, .invokespecial 43, 3, 91, []), (91, .putfield 46, 3, 94, [9, 6, 420, 3]), (94, .aload_n 0, 1, 95, []), (95, .new 50, 3, 98, [6, 256, 257, 82]), (98, .dup, 1, 99, []), (99, .aload_n 0, 1, 100, []), (100, .getfield 34, 3, 103, [9, 4, 418, 3]), (103, .aload_n 0, 1, 104, [])]),
  (137, [(104, .getfield 27, 3, 107, [9, 3, 417, 3]), (107, .aload_n 0, 1, 108, []), (108, .getfield 18, 3, 111, [9, 1, 415, 3]), (111, .aload_n 0, 1, 112, []), (112, .getfield 21, 3, 115, [9, 2, 416, 3]), (115, .invokespecial 52, 3, 118, []), (118, .putfield 55, 3, 121, [9, 7, 421, 3]), (121, .aload_n 0, 1, 122, []), (122, .new 59, 3, 125, [0, 354, 355, 85]), (125, .dup, 1, 126, []), (126, .aload_n 0, 1, 127, []), (127, .getfield 34, 3, 130, [9, 4, 418, 3]), (130, .aload_n 0, 1, 131, []), (131, .getfield 27, 3, 134, [9, 3, 417, 3]), (134, .invokespecial 61, 3, 137, []), (137, .putfield 64, 3, 140, [9, 8, 422, 3])]),
  (140, [(140, .return_, 1, 141, [])])])
theorem okX9_init : sk_ok mX9_init := show ∀ c ∈ mX9_init.2.2.2.2, ∀ e ∈ c.2, sk_okI mX9_init e = true from by decide +kernel
def mX9_feed : sk_M := (yX9_feed, cX9_feed, 6, (some .int), [(27, [(0, .aload_n 0, 1, 1, []), (1, .getfield 14, 3, 4, [9, 0, 414, 3]), (4, .bipush 20, 2, 6, []), (6, .invokevirtual 68, 3, 9, []), (9, .ifCond .ne 6, 3, 12, [15]), (12, .bipush (-5), 2, 14, []), (14, .ireturn, 1, 15, []), (15, .aload_n 0, 1, 16, []), (16, .iload_n 1, 1, 17, []), (17, .invokevirtual 72, 3, 20, []), (20, .aload_n 0, 1, 21, []), (21, .iload_n 2, 1, 22, []), (22, .invokevirtual 72, 3, 25, []), (25, .aload_n 0, 1, 26, []), (26, .iload_n 3, 1, 27, []), (27, .invokevirtual 72, 3, 30, [])]),
  (49, [(30, .aload_n 0, 1, 31, []), (31, .iload 4, 2, 33, []), (33, .invokevirtual 72, 3, 36, []), (36, .aload_n 0, 1, 37, []), (37, .iload 5, 2, 39, []), (39, .invokevirtual 72, 3, 42, []), (42, .aload_n 0, 1, 43, []), (43, .getfield 14, 3, 46, [9, 0, 414, 3]), (46, .getfield 75, 3, 49, [4, 1, 112, 0]), (49, .ireturn, 1, 50, [])])])
theorem okX9_feed : sk_ok mX9_feed := show ∀ c ∈ mX9_feed.2.2.2.2, ∀ e ∈ c.2, sk_okI mX9_feed e = true from by decide +kernel
def mX9_addBytes : sk_M := (yX9_addBytes, cX9_addBytes, 3, none, [(27, [(0, .bipush 24, 2, 2, []), (2, .istore_n 2, 1, 3, []), (3, .iload_n 2, 1, 4, []), (4, .ifCond .lt 23, 3, 7, [27]), (7, .aload_n 0, 1, 8, []), (8, .getfield 14, 3, 11, [9, 0, 414, 3]), (11, .iload_n 1, 1, 12, []), (12, .iload_n 2, 1, 13, []), (13, .iushr, 1, 14, []), (14, .sipush 255, 3, 17, []), (17, .iand, 1, 18, []), (18, .invokevirtual 79, 3, 21, []), (21, .iinc 2 (-8), 3, 24, []), (24, .goto (-21), 3, 27, [3]), (27, .return_, 1, 28, [])])])
theorem okX9_addBytes : sk_ok mX9_addBytes := show ∀ c ∈ mX9_addBytes.2.2.2.2, ∀ e ∈ c.2, sk_okI mX9_addBytes e = true from by decide +kernel
def mX9_trim : sk_M := (yX9_trim, cX9_trim, 2, (some .int), [(28, [(0, .iload_n 1, 1, 1, []), (1, .aload_n 0, 1, 2, []), (2, .getfield 14, 3, 5, [9, 0, 414, 3]), (5, .getfield 75, 3, 8, [4, 1, 112, 0]), (8, .iconst 1, 1, 9, []), (9, .iadd, 1, 10, []), (10, .invokestatic 82, 3, 13, []), (13, .ifCond .ne 6, 3, 16, [19]), (16, .bipush (-3), 2, 18, []), (18, .ireturn, 1, 19, []), (19, .aload_n 0, 1, 20, []), (20, .getfield 14, 3, 23, [9, 0, 414, 3]), (23, .iload_n 1, 1, 24, []), (24, .invokevirtual 86, 3, 27, []), (27, .iload_n 1, 1, 28, []), (28, .ireturn, 1, 29, [])])])
theorem okX9_trim : sk_ok mX9_trim := show ∀ c ∈ mX9_trim.2.2.2.2, ∀ e ∈ c.2, sk_okI mX9_trim e = true from by decide +kernel
def mX9_program : sk_M := (yX9_program, cX9_program, 3, (some .int), [(30, [(0, .aload_n 0, 1, 1, []), (1, .getfield 46, 3, 4, [9, 6, 420, 3]), (4, .aload_n 0, 1, 5, []), (5, .getfield 38, 3, 8, [9, 5, 419, 3]), (8, .aload_n 0, 1, 9, []), (9, .getfield 14, 3, 12, [9, 0, 414, 3]), (12, .invokevirtual 89, 3, 15, []), (15, .istore_n 1, 1, 16, []), (16, .aload_n 0, 1, 17, []), (17, .getfield 14, 3, 20, [9, 0, 414, 3]), (20, .iconst 0, 1, 21, []), (21, .invokevirtual 86, 3, 24, []), (24, .iload_n 1, 1, 25, []), (25, .ifCond .ne 14, 3, 28, [39]), (28, .bipush (-100), 2, 30, []), (30, .aload_n 0, 1, 31, [])]),
  (58, [(31, .getfield 46, 3, 34, [9, 6, 420, 3]), (34, .getfield 93, 3, 37, [3, 6, 240, 0]), (37, .isub, 1, 38, []), (38, .ireturn, 1, 39, []), (39, .aload_n 0, 1, 40, []), (40, .getfield 34, 3, 43, [9, 4, 418, 3]), (43, .astore_n 2, 1, 44, []), (44, .aload_n 0, 1, 45, []), (45, .aload_n 0, 1, 46, []), (46, .getfield 38, 3, 49, [9, 5, 419, 3]), (49, .putfield 34, 3, 52, [9, 4, 418, 3]), (52, .aload_n 0, 1, 53, []), (53, .aload_n 2, 1, 54, []), (54, .putfield 38, 3, 57, [9, 5, 419, 3]), (57, .aload_n 0, 1, 58, []), (58, .getfield 55, 3, 61, [9, 7, 421, 3])]),
  (80, [(61, .iconst 0, 1, 62, []), (62, .putfield 96, 3, 65, [6, 8, 319, 1]), (65, .aload_n 0, 1, 66, []), (66, .getfield 64, 3, 69, [9, 8, 422, 3]), (69, .iconst 0, 1, 70, []), (70, .putfield 100, 3, 73, [0, 15, 378, 1]), (73, .aload_n 0, 1, 74, []), (74, .getfield 34, 3, 77, [9, 4, 418, 3]), (77, .getfield 103, 3, 80, [2, 9, 178, 0]), (80, .ireturn, 1, 81, [])])])
theorem okX9_program : sk_ok mX9_program := show ∀ c ∈ mX9_program.2.2.2.2, ∀ e ∈ c.2, sk_okI mX9_program e = true from by decide +kernel
def mX9_fault : sk_M := (yX9_fault, cX9_fault, 1, (some .int), [(7, [(0, .aload_n 0, 1, 1, []), (1, .getfield 46, 3, 4, [9, 6, 420, 3]), (4, .getfield 106, 3, 7, [3, 5, 238, 0]), (7, .ireturn, 1, 8, [])])])
theorem okX9_fault : sk_ok mX9_fault := show ∀ c ∈ mX9_fault.2.2.2.2, ∀ e ∈ c.2, sk_okI mX9_fault e = true from by decide +kernel
def mX9_rule : sk_M := (yX9_rule, cX9_rule, 4, (some .int), [(31, [(0, .iload_n 1, 1, 1, []), (1, .bipush 8, 2, 3, []), (3, .invokestatic 82, 3, 6, []), (6, .ifCond .eq 23, 3, 9, [29]), (9, .iload_n 2, 1, 10, []), (10, .bipush 8, 2, 12, []), (12, .invokestatic 82, 3, 15, []), (15, .ifCond .eq 14, 3, 18, [29]), (18, .iload_n 3, 1, 19, []), (19, .iconst (-1), 1, 20, []), (20, .if_icmp .lt 9, 3, 23, [29]), (23, .iload_n 3, 1, 24, []), (24, .bipush 10, 2, 26, []), (26, .if_icmp .lt 6, 3, 29, [32]), (29, .bipush (-3), 2, 31, []), (31, .ireturn, 1, 32, [])]),
  (42, [(32, .aload_n 0, 1, 33, []), (33, .getfield 27, 3, 36, [9, 3, 417, 3]), (36, .iload_n 1, 1, 37, []), (37, .iload_n 2, 1, 38, []), (38, .iload_n 3, 1, 39, []), (39, .invokevirtual 109, 3, 42, []), (42, .ireturn, 1, 43, [])])])
theorem okX9_rule : sk_ok mX9_rule := show ∀ c ∈ mX9_rule.2.2.2.2, ∀ e ∈ c.2, sk_okI mX9_rule e = true from by decide +kernel
def mX9_bits : sk_M := (yX9_bits, cX9_bits, 4, (some .int), [(28, [(0, .iload_n 2, 1, 1, []), (1, .iconst 1, 1, 2, []), (2, .if_icmp .lt 9, 3, 5, [11]), (5, .iload_n 2, 1, 6, []), (6, .bipush 32, 2, 8, []), (8, .if_icmp .le 6, 3, 11, [14]), (11, .bipush (-3), 2, 13, []), (13, .ireturn, 1, 14, []), (14, .aload_n 0, 1, 15, []), (15, .getfield 18, 3, 18, [9, 1, 415, 3]), (18, .iload_n 2, 1, 19, []), (19, .invokevirtual 68, 3, 22, []), (22, .ifCond .ne 6, 3, 25, [28]), (25, .bipush (-5), 2, 27, []), (27, .ireturn, 1, 28, []), (28, .iconst 0, 1, 29, [])]),
  (54, [(29, .istore_n 3, 1, 30, []), (30, .iload_n 3, 1, 31, []), (31, .iload_n 2, 1, 32, []), (32, .if_icmp .ge 21, 3, 35, [53]), (35, .aload_n 0, 1, 36, []), (36, .getfield 18, 3, 39, [9, 1, 415, 3]), (39, .iload_n 1, 1, 40, []), (40, .iload_n 3, 1, 41, []), (41, .iushr, 1, 42, []), (42, .iconst 1, 1, 43, []), (43, .iand, 1, 44, []), (44, .invokevirtual 79, 3, 47, []), (47, .iinc 3 1, 3, 50, []), (50, .goto (-20), 3, 53, [30]), (53, .aload_n 0, 1, 54, []), (54, .getfield 18, 3, 57, [9, 1, 415, 3])]),
  (60, [(57, .getfield 75, 3, 60, [4, 1, 112, 0]), (60, .ireturn, 1, 61, [])])])
theorem okX9_bits : sk_ok mX9_bits := show ∀ c ∈ mX9_bits.2.2.2.2, ∀ e ∈ c.2, sk_okI mX9_bits e = true from by decide +kernel
def mX9_forget : sk_M := (yX9_forget, cX9_forget, 2, (some .int), [(17, [(0, .aload_n 0, 1, 1, []), (1, .getfield 18, 3, 4, [9, 1, 415, 3]), (4, .getfield 75, 3, 7, [4, 1, 112, 0]), (7, .istore_n 1, 1, 8, []), (8, .aload_n 0, 1, 9, []), (9, .getfield 18, 3, 12, [9, 1, 415, 3]), (12, .iconst 0, 1, 13, []), (13, .invokevirtual 86, 3, 16, []), (16, .iload_n 1, 1, 17, []), (17, .ireturn, 1, 18, [])])])
theorem okX9_forget : sk_ok mX9_forget := show ∀ c ∈ mX9_forget.2.2.2.2, ∀ e ∈ c.2, sk_okI mX9_forget e = true from by decide +kernel
def mX9_about : sk_M := (yX9_about, cX9_about, 2, (some .int), [(52, [(0, .iload_n 1, 1, 1, []), (1, .iconst 4, 1, 2, []), (2, .invokestatic 82, 3, 5, []), (5, .ifCond .ne 6, 3, 8, [11]), (8, .bipush (-3), 2, 10, []), (10, .ireturn, 1, 11, []), (11, .aload_n 0, 1, 12, []), (12, .invokevirtual 113, 3, 15, []), (15, .ifCond .ne 6, 3, 18, [21]), (18, .bipush (-4), 2, 20, []), (20, .ireturn, 1, 21, []), (21, .iload_n 1, 1, 22, []), (22, .tableswitch 51 0 2 #[26, 34, 42], 26, 48, [73, 48, 56, 64]), (48, .aload_n 0, 1, 49, []), (49, .getfield 34, 3, 52, [9, 4, 418, 3]), (52, .getfield 103, 3, 55, [2, 9, 178, 0])]),
  (80, [(55, .ireturn, 1, 56, []), (56, .aload_n 0, 1, 57, []), (57, .getfield 34, 3, 60, [9, 4, 418, 3]), (60, .getfield 117, 3, 63, [2, 10, 181, 0]), (63, .ireturn, 1, 64, []), (64, .aload_n 0, 1, 65, []), (65, .getfield 34, 3, 68, [9, 4, 418, 3]), (68, .iconst 0, 1, 69, []), (69, .invokevirtual 120, 3, 72, []), (72, .ireturn, 1, 73, []), (73, .aload_n 0, 1, 74, []), (74, .getfield 34, 3, 77, [9, 4, 418, 3]), (77, .getfield 124, 3, 80, [2, 11, 184, 0]), (80, .ireturn, 1, 81, [])])])
theorem okX9_about : sk_ok mX9_about := show ∀ c ∈ mX9_about.2.2.2.2, ∀ e ∈ c.2, sk_okI mX9_about e = true from by decide +kernel
def mX9_step : sk_M := (yX9_step, cX9_step, 3, (some .int), [(32, [(0, .aload_n 0, 1, 1, []), (1, .invokevirtual 113, 3, 4, []), (4, .ifCond .ne 6, 3, 7, [10]), (7, .bipush (-4), 2, 9, []), (9, .ireturn, 1, 10, []), (10, .iload_n 1, 1, 11, []), (11, .aload_n 0, 1, 12, []), (12, .getfield 34, 3, 15, [9, 4, 418, 3]), (15, .getfield 117, 3, 18, [2, 10, 181, 0]), (18, .invokestatic 82, 3, 21, []), (21, .ifCond .eq 11, 3, 24, [32]), (24, .iload_n 2, 1, 25, []), (25, .iconst 4, 1, 26, []), (26, .invokestatic 82, 3, 29, []), (29, .ifCond .ne 6, 3, 32, [35]), (32, .bipush (-3), 2, 34, [])]),
  (84, [(34, .ireturn, 1, 35, []), (35, .iload_n 2, 1, 36, []), (36, .tableswitch 58 0 2 #[28, 38, 48], 28, 64, [94, 64, 74, 84]), (64, .aload_n 0, 1, 65, []), (65, .getfield 34, 3, 68, [9, 4, 418, 3]), (68, .getfield 127, 3, 71, [2, 2, 147, 3]), (71, .iload_n 1, 1, 72, []), (72, .iaload, 1, 73, []), (73, .ireturn, 1, 74, []), (74, .aload_n 0, 1, 75, []), (75, .getfield 34, 3, 78, [9, 4, 418, 3]), (78, .getfield 131, 3, 81, [2, 3, 150, 3]), (81, .iload_n 1, 1, 82, []), (82, .iaload, 1, 83, []), (83, .ireturn, 1, 84, []), (84, .aload_n 0, 1, 85, [])]),
  (103, [(85, .getfield 34, 3, 88, [9, 4, 418, 3]), (88, .getfield 134, 3, 91, [2, 4, 157, 3]), (91, .iload_n 1, 1, 92, []), (92, .iaload, 1, 93, []), (93, .ireturn, 1, 94, []), (94, .aload_n 0, 1, 95, []), (95, .getfield 34, 3, 98, [9, 4, 418, 3]), (98, .getfield 137, 3, 101, [2, 5, 162, 3]), (101, .iload_n 1, 1, 102, []), (102, .iaload, 1, 103, []), (103, .ireturn, 1, 104, [])])])
theorem okX9_step : sk_ok mX9_step := show ∀ c ∈ mX9_step.2.2.2.2, ∀ e ∈ c.2, sk_okI mX9_step e = true from by decide +kernel
def mX9_run : sk_M := (yX9_run, cX9_run, 3, (some .int), [(34, [(0, .aload_n 0, 1, 1, []), (1, .invokevirtual 113, 3, 4, []), (4, .ifCond .ne 6, 3, 7, [10]), (7, .bipush (-4), 2, 9, []), (9, .ireturn, 1, 10, []), (10, .iload_n 1, 1, 11, []), (11, .aload_n 0, 1, 12, []), (12, .getfield 34, 3, 15, [9, 4, 418, 3]), (15, .getfield 103, 3, 18, [2, 9, 178, 0]), (18, .invokestatic 82, 3, 21, []), (21, .ifCond .eq 13, 3, 24, [34]), (24, .iload_n 2, 1, 25, []), (25, .sipush 3001, 3, 28, []), (28, .invokestatic 82, 3, 31, []), (31, .ifCond .ne 6, 3, 34, [37]), (34, .bipush (-3), 2, 36, [])]),
  (50, [(36, .ireturn, 1, 37, []), (37, .aload_n 0, 1, 38, []), (38, .getfield 55, 3, 41, [9, 7, 421, 3]), (41, .aload_n 0, 1, 42, []), (42, .getfield 34, 3, 45, [9, 4, 418, 3]), (45, .iload_n 1, 1, 46, []), (46, .iload_n 2, 1, 47, []), (47, .invokevirtual 140, 3, 50, []), (50, .ireturn, 1, 51, [])])])
theorem okX9_run : sk_ok mX9_run := show ∀ c ∈ mX9_run.2.2.2.2, ∀ e ∈ c.2, sk_okI mX9_run e = true from by decide +kernel
def mX9_ran : sk_M := (yX9_ran, cX9_ran, 2, (some .int), [(31, [(0, .iload_n 1, 1, 1, []), (1, .bipush 8, 2, 3, []), (3, .invokestatic 82, 3, 6, []), (6, .ifCond .ne 6, 3, 9, [12]), (9, .bipush (-3), 2, 11, []), (11, .ireturn, 1, 12, []), (12, .aload_n 0, 1, 13, []), (13, .getfield 55, 3, 16, [9, 7, 421, 3]), (16, .getfield 96, 3, 19, [6, 8, 319, 1]), (19, .ifCond .eq 15, 3, 22, [34]), (22, .aload_n 0, 1, 23, []), (23, .getfield 55, 3, 26, [9, 7, 421, 3]), (26, .getfield 144, 3, 29, [6, 7, 317, 3]), (29, .iload_n 1, 1, 30, []), (30, .iaload, 1, 31, []), (31, .goto 4, 3, 34, [35])]),
  (35, [(34, .iconst (-1), 1, 35, []), (35, .ireturn, 1, 36, [])])])
theorem okX9_ran : sk_ok mX9_ran := show ∀ c ∈ mX9_ran.2.2.2.2, ∀ e ∈ c.2, sk_okI mX9_ran e = true from by decide +kernel
def mX9_note : sk_M := (yX9_note, cX9_note, 2, (some .int), [(8, [(0, .aload_n 0, 1, 1, []), (1, .getfield 21, 3, 4, [9, 2, 416, 3]), (4, .iload_n 1, 1, 5, []), (5, .invokevirtual 147, 3, 8, []), (8, .ireturn, 1, 9, [])])])
theorem okX9_note : sk_ok mX9_note := show ∀ c ∈ mX9_note.2.2.2.2, ∀ e ∈ c.2, sk_okI mX9_note e = true from by decide +kernel
def mX9_ahead : sk_M := (yX9_ahead, cX9_ahead, 2, (some .int), [(34, [(0, .aload_n 0, 1, 1, []), (1, .invokevirtual 113, 3, 4, []), (4, .ifCond .eq 13, 3, 7, [17]), (7, .aload_n 0, 1, 8, []), (8, .getfield 34, 3, 11, [9, 4, 418, 3]), (11, .invokevirtual 150, 3, 14, []), (14, .ifCond .ne 6, 3, 17, [20]), (17, .bipush (-4), 2, 19, []), (19, .ireturn, 1, 20, []), (20, .iload_n 1, 1, 21, []), (21, .aload_n 0, 1, 22, []), (22, .getfield 34, 3, 25, [9, 4, 418, 3]), (25, .getfield 103, 3, 28, [2, 9, 178, 0]), (28, .invokestatic 82, 3, 31, []), (31, .ifCond .ne 6, 3, 34, [37]), (34, .bipush (-3), 2, 36, [])]),
  (49, [(36, .ireturn, 1, 37, []), (37, .aload_n 0, 1, 38, []), (38, .getfield 64, 3, 41, [9, 8, 422, 3]), (41, .aload_n 0, 1, 42, []), (42, .getfield 34, 3, 45, [9, 4, 418, 3]), (45, .iload_n 1, 1, 46, []), (46, .invokevirtual 153, 3, 49, []), (49, .ireturn, 1, 50, [])])])
theorem okX9_ahead : sk_ok mX9_ahead := show ∀ c ∈ mX9_ahead.2.2.2.2, ∀ e ∈ c.2, sk_okI mX9_ahead e = true from by decide +kernel
def mX9_walked : sk_M := (yX9_walked, cX9_walked, 3, (some .int), [(32, [(0, .aload_n 0, 1, 1, []), (1, .getfield 64, 3, 4, [9, 8, 422, 3]), (4, .getfield 100, 3, 7, [0, 15, 378, 1]), (7, .ifCond .ne 6, 3, 10, [13]), (10, .bipush (-4), 2, 12, []), (12, .ireturn, 1, 13, []), (13, .iload_n 2, 1, 14, []), (14, .iconst 2, 1, 15, []), (15, .invokestatic 82, 3, 18, []), (18, .ifCond .eq 17, 3, 21, [35]), (21, .iload_n 1, 1, 22, []), (22, .aload_n 0, 1, 23, []), (23, .getfield 34, 3, 26, [9, 4, 418, 3]), (26, .getfield 117, 3, 29, [2, 10, 181, 0]), (29, .invokestatic 82, 3, 32, []), (32, .ifCond .ne 6, 3, 35, [38])]),
  (63, [(35, .bipush (-3), 2, 37, []), (37, .ireturn, 1, 38, []), (38, .iload_n 2, 1, 39, []), (39, .ifCond .ne 15, 3, 42, [54]), (42, .aload_n 0, 1, 43, []), (43, .getfield 64, 3, 46, [9, 8, 422, 3]), (46, .getfield 157, 3, 49, [0, 10, 371, 3]), (49, .iload_n 1, 1, 50, []), (50, .iaload, 1, 51, []), (51, .goto 12, 3, 54, [63]), (54, .aload_n 0, 1, 55, []), (55, .getfield 64, 3, 58, [9, 8, 422, 3]), (58, .getfield 160, 3, 61, [0, 11, 373, 3]), (61, .iload_n 1, 1, 62, []), (62, .iaload, 1, 63, []), (63, .ireturn, 1, 64, [])])])
theorem okX9_walked : sk_ok mX9_walked := show ∀ c ∈ mX9_walked.2.2.2.2, ∀ e ∈ c.2, sk_okI mX9_walked e = true from by decide +kernel
def mX9_told : sk_M := (yX9_told, cX9_told, 2, (some .int), [(61, [(0, .aload_n 0, 1, 1, []), (1, .getfield 64, 3, 4, [9, 8, 422, 3]), (4, .getfield 100, 3, 7, [0, 15, 378, 1]), (7, .ifCond .ne 6, 3, 10, [13]), (10, .bipush (-4), 2, 12, []), (12, .ireturn, 1, 13, []), (13, .iload_n 1, 1, 14, []), (14, .tableswitch 82 0 4 #[34, 43, 52, 63, 74], 34, 48, [96, 48, 57, 66, 77, 88]), (48, .aload_n 0, 1, 49, []), (49, .getfield 64, 3, 52, [9, 8, 422, 3]), (52, .iconst 5, 1, 53, []), (53, .invokevirtual 163, 3, 56, []), (56, .ireturn, 1, 57, []), (57, .aload_n 0, 1, 58, []), (58, .getfield 64, 3, 61, [9, 8, 422, 3]), (61, .iconst 2, 1, 62, [])]),
  (95, [(62, .invokevirtual 163, 3, 65, []), (65, .ireturn, 1, 66, []), (66, .aload_n 0, 1, 67, []), (67, .getfield 64, 3, 70, [9, 8, 422, 3]), (70, .getfield 157, 3, 73, [0, 10, 371, 3]), (73, .invokestatic 166, 3, 76, []), (76, .ireturn, 1, 77, []), (77, .aload_n 0, 1, 78, []), (78, .getfield 64, 3, 81, [9, 8, 422, 3]), (81, .getfield 160, 3, 84, [0, 11, 373, 3]), (84, .invokestatic 166, 3, 87, []), (87, .ireturn, 1, 88, []), (88, .aload_n 0, 1, 89, []), (89, .getfield 64, 3, 92, [9, 8, 422, 3]), (92, .invokevirtual 170, 3, 95, []), (95, .ireturn, 1, 96, [])]),
  (98, [(96, .bipush (-3), 2, 98, []), (98, .ireturn, 1, 99, [])])])
theorem okX9_told : sk_ok mX9_told := show ∀ c ∈ mX9_told.2.2.2.2, ∀ e ∈ c.2, sk_okI mX9_told e = true from by decide +kernel
def mX9_pair : sk_M := (yX9_pair, cX9_pair, 5, (some .int), [(32, [(0, .aload_n 0, 1, 1, []), (1, .getfield 64, 3, 4, [9, 8, 422, 3]), (4, .getfield 100, 3, 7, [0, 15, 378, 1]), (7, .ifCond .ne 6, 3, 10, [13]), (10, .bipush (-4), 2, 12, []), (12, .ireturn, 1, 13, []), (13, .iload_n 1, 1, 14, []), (14, .aload_n 0, 1, 15, []), (15, .getfield 34, 3, 18, [9, 4, 418, 3]), (18, .getfield 103, 3, 21, [2, 9, 178, 0]), (21, .invokestatic 82, 3, 24, []), (24, .ifCond .eq 26, 3, 27, [50]), (27, .iload_n 2, 1, 28, []), (28, .ifCond .lt 22, 3, 31, [50]), (31, .iload_n 3, 1, 32, []), (32, .bipush 8, 2, 34, [])]),
  (65, [(34, .invokestatic 82, 3, 37, []), (37, .ifCond .eq 13, 3, 40, [50]), (40, .iload 4, 2, 42, []), (42, .bipush 10, 2, 44, []), (44, .invokestatic 82, 3, 47, []), (47, .ifCond .ne 6, 3, 50, [53]), (50, .bipush (-3), 2, 52, []), (52, .ireturn, 1, 53, []), (53, .aload_n 0, 1, 54, []), (54, .getfield 64, 3, 57, [9, 8, 422, 3]), (57, .iload_n 1, 1, 58, []), (58, .iload_n 2, 1, 59, []), (59, .iload_n 3, 1, 60, []), (60, .iload 4, 2, 62, []), (62, .invokevirtual 174, 3, 65, []), (65, .ireturn, 1, 66, [])])])
theorem okX9_pair : sk_ok mX9_pair := show ∀ c ∈ mX9_pair.2.2.2.2, ∀ e ∈ c.2, sk_okI mX9_pair e = true from by decide +kernel
def mX9_count : sk_M := (yX9_count, cX9_count, 2, (some .int), [(57, [(0, .iload_n 1, 1, 1, []), (1, .tableswitch 63 0 3 #[31, 39, 47, 55], 31, 32, [64, 32, 40, 48, 56]), (32, .aload_n 0, 1, 33, []), (33, .getfield 14, 3, 36, [9, 0, 414, 3]), (36, .getfield 75, 3, 39, [4, 1, 112, 0]), (39, .ireturn, 1, 40, []), (40, .aload_n 0, 1, 41, []), (41, .getfield 18, 3, 44, [9, 1, 415, 3]), (44, .getfield 75, 3, 47, [4, 1, 112, 0]), (47, .ireturn, 1, 48, []), (48, .aload_n 0, 1, 49, []), (49, .getfield 21, 3, 52, [9, 2, 416, 3]), (52, .getfield 75, 3, 55, [4, 1, 112, 0]), (55, .ireturn, 1, 56, []), (56, .aload_n 0, 1, 57, []), (57, .getfield 27, 3, 60, [9, 3, 417, 3])]),
  (66, [(60, .invokevirtual 178, 3, 63, []), (63, .ireturn, 1, 64, []), (64, .bipush (-3), 2, 66, []), (66, .ireturn, 1, 67, [])])])
theorem okX9_count : sk_ok mX9_count := show ∀ c ∈ mX9_count.2.2.2.2, ∀ e ∈ c.2, sk_okI mX9_count e = true from by decide +kernel
def mX9_hasProgram : sk_M := (yX9_hasProgram, cX9_hasProgram, 1, (some .boolean), [(15, [(0, .aload_n 0, 1, 1, []), (1, .getfield 34, 3, 4, [9, 4, 418, 3]), (4, .getfield 103, 3, 7, [2, 9, 178, 0]), (7, .ifCond .le 7, 3, 10, [14]), (10, .iconst 1, 1, 11, []), (11, .goto 4, 3, 14, [15]), (14, .iconst 0, 1, 15, []), (15, .ireturn, 1, 16, [])])])
theorem okX9_hasProgram : sk_ok mX9_hasProgram := show ∀ c ∈ mX9_hasProgram.2.2.2.2, ∀ e ∈ c.2, sk_okI mX9_hasProgram e = true from by decide +kernel
def mX9_within : sk_M := (yX9_within, cX9_within, 2, (some .boolean), [(14, [(0, .iload_n 0, 1, 1, []), (1, .ifCond .lt 12, 3, 4, [13]), (4, .iload_n 0, 1, 5, []), (5, .iload_n 1, 1, 6, []), (6, .if_icmp .ge 7, 3, 9, [13]), (9, .iconst 1, 1, 10, []), (10, .goto 4, 3, 13, [14]), (13, .iconst 0, 1, 14, []), (14, .ireturn, 1, 15, [])])])
theorem okX9_within : sk_ok mX9_within := show ∀ c ∈ mX9_within.2.2.2.2, ∀ e ∈ c.2, sk_okI mX9_within e = true from by decide +kernel
def mX9_sum : sk_M := (yX9_sum, cX9_sum, 6, (some .int), [(20, [(0, .iconst 0, 1, 1, []), (1, .istore_n 1, 1, 2, []), (2, .aload_n 0, 1, 3, []), (3, .astore_n 2, 1, 4, []), (4, .aload_n 2, 1, 5, []), (5, .arraylength, 1, 6, []), (6, .istore_n 3, 1, 7, []), (7, .iconst 0, 1, 8, []), (8, .istore 4, 2, 10, []), (10, .iload 4, 2, 12, []), (12, .iload_n 3, 1, 13, []), (13, .if_icmp .ge 20, 3, 16, [33]), (16, .aload_n 2, 1, 17, []), (17, .iload 4, 2, 19, []), (19, .iaload, 1, 20, []), (20, .istore 5, 2, 22, [])]),
  (34, [(22, .iload_n 1, 1, 23, []), (23, .iload 5, 2, 25, []), (25, .iadd, 1, 26, []), (26, .istore_n 1, 1, 27, []), (27, .iinc 4 1, 3, 30, []), (30, .goto (-20), 3, 33, [10]), (33, .iload_n 1, 1, 34, []), (34, .ireturn, 1, 35, [])])])
theorem okX9_sum : sk_ok mX9_sum := show ∀ c ∈ mX9_sum.2.2.2.2, ∀ e ∈ c.2, sk_okI mX9_sum e = true from by decide +kernel
def mX10_init : sk_M := (yX10_init, cX10_init, 2, none, [(31, [(0, .aload_n 0, 1, 1, []), (1, .invokespecial 1, 3, 4, []), (4, .aload_n 0, 1, 5, []), (5, .sipush 1200, 3, 8, []), (8, .newarray .int, 2, 10, []), (10, .putfield 7, 3, 13, [10, 1, 1012, 3]), (13, .aload_n 0, 1, 14, []), (14, .bipush 64, 2, 16, []), (16, .newarray .int, 2, 18, []), (18, .putfield 13, 3, 21, [10, 3, 1014, 3]), (21, .aload_n 0, 1, 22, []), (22, .sipush 400, 3, 25, []), (25, .newarray .int, 2, 27, []), (27, .putfield 16, 3, 30, [10, 4, 1015, 3]), (30, .aload_n 0, 1, 31, []), (31, .iconst 2, 1, 32, [])]),
  (61, [(32, .newarray .int, 2, 34, []), (34, .putfield 19, 3, 37, [10, 8, 1019, 3]), (37, .aload_n 0, 1, 38, []), (38, .bipush 40, 2, 40, []), (40, .newarray .int, 2, 42, []), (42, .putfield 22, 3, 45, [10, 9, 1020, 3]), (45, .aload_n 0, 1, 46, []), (46, .bipush 40, 2, 48, []), (48, .newarray .int, 2, 50, []), (50, .putfield 25, 3, 53, [10, 10, 1021, 3]), (53, .aload_n 0, 1, 54, []), (54, .iconst 2, 1, 55, []), (55, .newarray .int, 2, 57, []), (57, .putfield 28, 3, 60, [10, 11, 1022, 3]), (60, .aload_n 0, 1, 61, []), (61, .sipush 400, 3, 64, [])]),
  (97, [(64, .newarray .int, 2, 66, []), (66, .putfield 31, 3, 69, [10, 12, 1023, 3]), (69, .aload_n 0, 1, 70, []), (70, .sipush 400, 3, 73, []), (73, .newarray .int, 2, 75, []), (75, .putfield 34, 3, 78, [10, 13, 1024, 3]), (78, .aload_n 0, 1, 79, []), (79, .sipush 400, 3, 82, []), (82, .newarray .int, 2, 84, []), (84, .putfield 37, 3, 87, [10, 14, 1025, 3]), (87, .aload_n 0, 1, 88, []), (88, .sipush 400, 3, 91, []), (91, .newarray .int, 2, 93, []), (93, .putfield 40, 3, 96, [10, 15, 1026, 3]), (96, .aload_n 0, 1, 97, []), (97, .sipush 400, 3, 100, [])]),
  (131, [(100, .newarray .int, 2, 102, []), (102, .putfield 43, 3, 105, [10, 16, 1027, 3]), (105, .aload_n 0, 1, 106, []), (106, .sipush 400, 3, 109, []), (109, .newarray .int, 2, 111, []), (111, .putfield 46, 3, 114, [10, 17, 1028, 3]), (114, .aload_n 0, 1, 115, []), (115, .sipush 400, 3, 118, []), (118, .newarray .int, 2, 120, []), (120, .putfield 49, 3, 123, [10, 18, 1029, 3]), (123, .aload_n 0, 1, 124, []), (124, .iconst 2, 1, 125, []), (125, .newarray .int, 2, 127, []), (127, .putfield 52, 3, 130, [10, 19, 1030, 3]), (130, .aload_n 0, 1, 131, []), (131, .bipush 16, 2, 133, [])]),
  (153, [(133, .anewarray 55, 3, 136, []), (136, .dup, 1, 137, []), (137, .iconst 0, 1, 138, []), (138, .ldc 57, 2, 140, [1, 0]), (140, .aastore, 1, 141, []), (141, .dup, 1, 142, []), (142, .iconst 1, 1, 143, []), (143, .ldc 59, 2, 145, [2, 0]), (145, .aastore, 1, 146, []), (146, .dup, 1, 147, []), (147, .iconst 2, 1, 148, []), (148, .ldc 61, 2, 150, [3, 0]), (150, .aastore, 1, 151, []), (151, .dup, 1, 152, []), (152, .iconst 3, 1, 153, []), (153, .ldc 63, 2, 155, [4, 0])]),
  (175, [(155, .aastore, 1, 156, []), (156, .dup, 1, 157, []), (157, .iconst 4, 1, 158, []), (158, .ldc 65, 2, 160, [5, 0]), (160, .aastore, 1, 161, []), (161, .dup, 1, 162, []), (162, .iconst 5, 1, 163, []), (163, .ldc 67, 2, 165, [6, 0]), (165, .aastore, 1, 166, []), (166, .dup, 1, 167, []), (167, .bipush 6, 2, 169, []), (169, .ldc 69, 2, 171, [7, 0]), (171, .aastore, 1, 172, []), (172, .dup, 1, 173, []), (173, .bipush 7, 2, 175, []), (175, .ldc 71, 2, 177, [8, 0])]),
  (199, [(177, .aastore, 1, 178, []), (178, .dup, 1, 179, []), (179, .bipush 8, 2, 181, []), (181, .ldc 73, 2, 183, [9, 0]), (183, .aastore, 1, 184, []), (184, .dup, 1, 185, []), (185, .bipush 9, 2, 187, []), (187, .ldc 75, 2, 189, [10, 0]), (189, .aastore, 1, 190, []), (190, .dup, 1, 191, []), (191, .bipush 10, 2, 193, []), (193, .ldc 77, 2, 195, [11, 0]), (195, .aastore, 1, 196, []), (196, .dup, 1, 197, []), (197, .bipush 11, 2, 199, []), (199, .ldc 79, 2, 201, [12, 0])]),
  (223, [(201, .aastore, 1, 202, []), (202, .dup, 1, 203, []), (203, .bipush 12, 2, 205, []), (205, .ldc 81, 2, 207, [13, 0]), (207, .aastore, 1, 208, []), (208, .dup, 1, 209, []), (209, .bipush 13, 2, 211, []), (211, .ldc 83, 2, 213, [14, 0]), (213, .aastore, 1, 214, []), (214, .dup, 1, 215, []), (215, .bipush 14, 2, 217, []), (217, .ldc 85, 2, 219, [15, 0]), (219, .aastore, 1, 220, []), (220, .dup, 1, 221, []), (221, .bipush 15, 2, 223, []), (223, .ldc 87, 2, 225, [16, 0])]),
  (257, [(225, .aastore, 1, 226, []), (226, .putfield 89, 3, 229, [10, 20, 1031, 3]), (229, .aload_n 0, 1, 230, []), (230, .sipush 200, 3, 233, []), (233, .newarray .int, 2, 235, []), (235, .putfield 93, 3, 238, [10, 28, 1039, 3]), (238, .aload_n 0, 1, 239, []), (239, .sipush 3100, 3, 242, []), (242, .newarray .int, 2, 244, []), (244, .putfield 96, 3, 247, [10, 30, 1041, 3]), (247, .aload_n 0, 1, 248, []), (248, .sipush 3100, 3, 251, []), (251, .newarray .int, 2, 253, []), (253, .putfield 99, 3, 256, [10, 31, 1042, 3]), (256, .aload_n 0, 1, 257, []), (257, .sipush 3100, 3, 260, [])]),
  (291, [(260, .newarray .int, 2, 262, []), (262, .putfield 102, 3, 265, [10, 32, 1043, 3]), (265, .aload_n 0, 1, 266, []), (266, .sipush 3100, 3, 269, []), (269, .newarray .int, 2, 271, []), (271, .putfield 105, 3, 274, [10, 33, 1044, 3]), (274, .aload_n 0, 1, 275, []), (275, .sipush 3100, 3, 278, []), (278, .newarray .int, 2, 280, []), (280, .putfield 108, 3, 283, [10, 34, 1045, 3]), (283, .aload_n 0, 1, 284, []), (284, .iconst 4, 1, 285, []), (285, .newarray .int, 2, 287, []), (287, .putfield 111, 3, 290, [10, 36, 1047, 3]), (290, .aload_n 0, 1, 291, []), (291, .sipush 600, 3, 294, [])]),
  (327, [(294, .newarray .int, 2, 296, []), (296, .putfield 114, 3, 299, [10, 38, 1049, 3]), (299, .aload_n 0, 1, 300, []), (300, .sipush 600, 3, 303, []), (303, .newarray .int, 2, 305, []), (305, .putfield 117, 3, 308, [10, 39, 1050, 3]), (308, .aload_n 0, 1, 309, []), (309, .sipush 600, 3, 312, []), (312, .newarray .int, 2, 314, []), (314, .putfield 120, 3, 317, [10, 40, 1051, 3]), (317, .aload_n 0, 1, 318, []), (318, .sipush 600, 3, 321, []), (321, .newarray .int, 2, 323, []), (323, .putfield 123, 3, 326, [10, 41, 1052, 3]), (326, .aload_n 0, 1, 327, []), (327, .sipush 600, 3, 330, [])]),
  (361, [(330, .newarray .int, 2, 332, []), (332, .putfield 126, 3, 335, [10, 42, 1053, 3]), (335, .aload_n 0, 1, 336, []), (336, .bipush 20, 2, 338, []), (338, .newarray .int, 2, 340, []), (340, .putfield 129, 3, 343, [10, 45, 1056, 3]), (343, .aload_n 0, 1, 344, []), (344, .bipush 20, 2, 346, []), (346, .newarray .int, 2, 348, []), (348, .putfield 132, 3, 351, [10, 46, 1057, 3]), (351, .aload_n 0, 1, 352, []), (352, .sipush 3100, 3, 355, []), (355, .newarray .int, 2, 357, []), (357, .putfield 135, 3, 360, [10, 57, 1068, 3]), (360, .aload_n 0, 1, 361, []), (361, .sipush 300, 3, 364, [])]),
  (397, [(364, .newarray .int, 2, 366, []), (366, .putfield 138, 3, 369, [10, 61, 1072, 3]), (369, .aload_n 0, 1, 370, []), (370, .sipush 24000, 3, 373, []), (373, .newarray .int, 2, 375, []), (375, .putfield 141, 3, 378, [10, 62, 1073, 3]), (378, .aload_n 0, 1, 379, []), (379, .sipush 300, 3, 382, []), (382, .newarray .boolean, 2, 384, []), (384, .putfield 144, 3, 387, [10, 63, 1074, 3]), (387, .aload_n 0, 1, 388, []), (388, .sipush 300, 3, 391, []), (391, .newarray .boolean, 2, 393, []), (393, .putfield 148, 3, 396, [10, 64, 1075, 3]), (396, .aload_n 0, 1, 397, []), (397, .sipush 300, 3, 400, [])]),
  (432, [(400, .newarray .boolean, 2, 402, []), (402, .putfield 151, 3, 405, [10, 65, 1076, 3]), (405, .aload_n 0, 1, 406, []), (406, .sipush 1280, 3, 409, []), (409, .newarray .int, 2, 411, []), (411, .putfield 154, 3, 414, [10, 66, 1077, 3]), (414, .aload_n 0, 1, 415, []), (415, .bipush 80, 2, 417, []), (417, .newarray .int, 2, 419, []), (419, .putfield 157, 3, 422, [10, 67, 1078, 3]), (422, .aload_n 0, 1, 423, []), (423, .sipush 200, 3, 426, []), (426, .newarray .boolean, 2, 428, []), (428, .putfield 160, 3, 431, [10, 68, 1079, 3]), (431, .aload_n 0, 1, 432, []), (432, .sipush 200, 3, 435, [])]),
  (461, [(435, .newarray .boolean, 2, 437, []), (437, .putfield 163, 3, 440, [10, 69, 1080, 3]), (440, .iconst 0, 1, 441, []), (441, .istore_n 1, 1, 442, []), (442, .iload_n 1, 1, 443, []), (443, .bipush 64, 2, 445, []), (445, .if_icmp .ge 16, 3, 448, [461]), (448, .aload_n 0, 1, 449, []), (449, .getfield 13, 3, 452, [10, 3, 1014, 3]), (452, .iload_n 1, 1, 453, []), (453, .iconst (-1), 1, 454, []), (454, .iastore, 1, 455, []), (455, .iinc 1 1, 3, 458, []), (458, .goto (-16), 3, 461, [442]), (461, .return_, 1, 462, [])])])
theorem okX10_init : sk_ok mX10_init := show ∀ c ∈ mX10_init.2.2.2.2, ∀ e ∈ c.2, sk_okI mX10_init e = true from by decide +kernel
def mX10_in : sk_M := (yX10_in, cX10_in, 3, (some .boolean), [(15, [(0, .iload_n 0, 1, 1, []), (1, .iload_n 1, 1, 2, []), (2, .if_icmp .lt 12, 3, 5, [14]), (5, .iload_n 0, 1, 6, []), (6, .iload_n 2, 1, 7, []), (7, .if_icmp .gt 7, 3, 10, [14]), (10, .iconst 1, 1, 11, []), (11, .goto 4, 3, 14, [15]), (14, .iconst 0, 1, 15, []), (15, .ireturn, 1, 16, [])])])
theorem okX10_in : sk_ok mX10_in := show ∀ c ∈ mX10_in.2.2.2.2, ∀ e ∈ c.2, sk_okI mX10_in e = true from by decide +kernel
def mX10_feed : sk_M := (yX10_feed, cX10_feed, 6, (some .int), [(27, [(0, .aload_n 0, 1, 1, []), (1, .iconst 0, 1, 2, []), (2, .putfield 166, 3, 5, [10, 0, 1011, 0]), (5, .aload_n 0, 1, 6, []), (6, .getfield 170, 3, 9, [10, 2, 1013, 0]), (9, .bipush 20, 2, 11, []), (11, .iadd, 1, 12, []), (12, .sipush 1200, 3, 15, []), (15, .if_icmp .le 6, 3, 18, [21]), (18, .bipush (-5), 2, 20, []), (20, .ireturn, 1, 21, []), (21, .aload_n 0, 1, 22, []), (22, .iload_n 1, 1, 23, []), (23, .invokevirtual 173, 3, 26, []), (26, .aload_n 0, 1, 27, []), (27, .iload_n 2, 1, 28, [])]),
  (52, [(28, .invokevirtual 173, 3, 31, []), (31, .aload_n 0, 1, 32, []), (32, .iload_n 3, 1, 33, []), (33, .invokevirtual 173, 3, 36, []), (36, .aload_n 0, 1, 37, []), (37, .iload 4, 2, 39, []), (39, .invokevirtual 173, 3, 42, []), (42, .aload_n 0, 1, 43, []), (43, .iload 5, 2, 45, []), (45, .invokevirtual 173, 3, 48, []), (48, .aload_n 0, 1, 49, []), (49, .getfield 170, 3, 52, [10, 2, 1013, 0]), (52, .ireturn, 1, 53, [])])])
theorem okX10_feed : sk_ok mX10_feed := show ∀ c ∈ mX10_feed.2.2.2.2, ∀ e ∈ c.2, sk_okI mX10_feed e = true from by decide +kernel
def mX10_four : sk_M := (yX10_four, cX10_four, 3, none, [(24, [(0, .bipush 24, 2, 2, []), (2, .istore_n 2, 1, 3, []), (3, .iload_n 2, 1, 4, []), (4, .ifCond .lt 35, 3, 7, [39]), (7, .aload_n 0, 1, 8, []), (8, .getfield 7, 3, 11, [10, 1, 1012, 3]), (11, .aload_n 0, 1, 12, []), (12, .getfield 170, 3, 15, [10, 2, 1013, 0]), (15, .iload_n 1, 1, 16, []), (16, .iload_n 2, 1, 17, []), (17, .ishr, 1, 18, []), (18, .sipush 255, 3, 21, []), (21, .iand, 1, 22, []), (22, .iastore, 1, 23, []), (23, .aload_n 0, 1, 24, []), (24, .dup, 1, 25, [])]),
  (39, [(25, .getfield 170, 3, 28, [10, 2, 1013, 0]), (28, .iconst 1, 1, 29, []), (29, .iadd, 1, 30, []), (30, .putfield 170, 3, 33, [10, 2, 1013, 0]), (33, .iinc 2 (-8), 3, 36, []), (36, .goto (-33), 3, 39, [3]), (39, .return_, 1, 40, [])])])
theorem okX10_four : sk_ok mX10_four := show ∀ c ∈ mX10_four.2.2.2.2, ∀ e ∈ c.2, sk_okI mX10_four e = true from by decide +kernel
def mX10_trim : sk_M := (yX10_trim, cX10_trim, 2, (some .int), [(26, [(0, .aload_n 0, 1, 1, []), (1, .iconst 0, 1, 2, []), (2, .putfield 166, 3, 5, [10, 0, 1011, 0]), (5, .iload_n 1, 1, 6, []), (6, .iconst 0, 1, 7, []), (7, .aload_n 0, 1, 8, []), (8, .getfield 170, 3, 11, [10, 2, 1013, 0]), (11, .invokestatic 177, 3, 14, []), (14, .ifCond .ne 6, 3, 17, [20]), (17, .bipush (-3), 2, 19, []), (19, .ireturn, 1, 20, []), (20, .aload_n 0, 1, 21, []), (21, .iload_n 1, 1, 22, []), (22, .putfield 170, 3, 25, [10, 2, 1013, 0]), (25, .iload_n 1, 1, 26, []), (26, .ireturn, 1, 27, [])])])
theorem okX10_trim : sk_ok mX10_trim := show ∀ c ∈ mX10_trim.2.2.2.2, ∀ e ∈ c.2, sk_okI mX10_trim e = true from by decide +kernel
def mX10_rule : sk_M := (yX10_rule, cX10_rule, 5, (some .int), [(27, [(0, .aload_n 0, 1, 1, []), (1, .iconst 0, 1, 2, []), (2, .putfield 166, 3, 5, [10, 0, 1011, 0]), (5, .iload_n 1, 1, 6, []), (6, .iconst 0, 1, 7, []), (7, .bipush 7, 2, 9, []), (9, .invokestatic 177, 3, 12, []), (12, .ifCond .eq 23, 3, 15, [35]), (15, .iload_n 2, 1, 16, []), (16, .iconst 0, 1, 17, []), (17, .bipush 7, 2, 19, []), (19, .invokestatic 177, 3, 22, []), (22, .ifCond .eq 13, 3, 25, [35]), (25, .iload_n 3, 1, 26, []), (26, .iconst (-1), 1, 27, []), (27, .bipush 9, 2, 29, [])]),
  (55, [(29, .invokestatic 177, 3, 32, []), (32, .ifCond .ne 6, 3, 35, [38]), (35, .bipush (-3), 2, 37, []), (37, .ireturn, 1, 38, []), (38, .aload_n 0, 1, 39, []), (39, .getfield 13, 3, 42, [10, 3, 1014, 3]), (42, .bipush 8, 2, 44, []), (44, .iload_n 1, 1, 45, []), (45, .imul, 1, 46, []), (46, .iload_n 2, 1, 47, []), (47, .iadd, 1, 48, []), (48, .iaload, 1, 49, []), (49, .istore 4, 2, 51, []), (51, .aload_n 0, 1, 52, []), (52, .getfield 13, 3, 55, [10, 3, 1014, 3]), (55, .bipush 8, 2, 57, [])]),
  (65, [(57, .iload_n 1, 1, 58, []), (58, .imul, 1, 59, []), (59, .iload_n 2, 1, 60, []), (60, .iadd, 1, 61, []), (61, .iload_n 3, 1, 62, []), (62, .iastore, 1, 63, []), (63, .iload 4, 2, 65, []), (65, .ireturn, 1, 66, [])])])
theorem okX10_rule : sk_ok mX10_rule := show ∀ c ∈ mX10_rule.2.2.2.2, ∀ e ∈ c.2, sk_okI mX10_rule e = true from by decide +kernel
def mX10_hasRight : sk_M := (yX10_hasRight, cX10_hasRight, 4, (some .boolean), [(20, [(0, .aload_n 0, 1, 1, []), (1, .getfield 13, 3, 4, [10, 3, 1014, 3]), (4, .bipush 8, 2, 6, []), (6, .iload_n 1, 1, 7, []), (7, .imul, 1, 8, []), (8, .iload_n 2, 1, 9, []), (9, .iadd, 1, 10, []), (10, .iaload, 1, 11, []), (11, .iload_n 3, 1, 12, []), (12, .if_icmp .lt 7, 3, 15, [19]), (15, .iconst 1, 1, 16, []), (16, .goto 4, 3, 19, [20]), (19, .iconst 0, 1, 20, []), (20, .ireturn, 1, 21, [])])])
theorem okX10_hasRight : sk_ok mX10_hasRight := show ∀ c ∈ mX10_hasRight.2.2.2.2, ∀ e ∈ c.2, sk_okI mX10_hasRight e = true from by decide +kernel
def mX10_bits : sk_M := (yX10_bits, cX10_bits, 4, (some .int), [(27, [(0, .aload_n 0, 1, 1, []), (1, .iconst 0, 1, 2, []), (2, .putfield 166, 3, 5, [10, 0, 1011, 0]), (5, .iload_n 2, 1, 6, []), (6, .iconst 1, 1, 7, []), (7, .bipush 32, 2, 9, []), (9, .invokestatic 177, 3, 12, []), (12, .ifCond .ne 6, 3, 15, [18]), (15, .bipush (-3), 2, 17, []), (17, .ireturn, 1, 18, []), (18, .aload_n 0, 1, 19, []), (19, .getfield 181, 3, 22, [10, 5, 1016, 0]), (22, .iload_n 2, 1, 23, []), (23, .iadd, 1, 24, []), (24, .sipush 400, 3, 27, []), (27, .if_icmp .le 6, 3, 30, [33])]),
  (52, [(30, .bipush (-5), 2, 32, []), (32, .ireturn, 1, 33, []), (33, .iconst 0, 1, 34, []), (34, .istore_n 3, 1, 35, []), (35, .iload_n 3, 1, 36, []), (36, .iload_n 2, 1, 37, []), (37, .if_icmp .ge 33, 3, 40, [70]), (40, .aload_n 0, 1, 41, []), (41, .getfield 16, 3, 44, [10, 4, 1015, 3]), (44, .aload_n 0, 1, 45, []), (45, .getfield 181, 3, 48, [10, 5, 1016, 0]), (48, .iload_n 1, 1, 49, []), (49, .iload_n 3, 1, 50, []), (50, .ishr, 1, 51, []), (51, .iconst 1, 1, 52, []), (52, .iand, 1, 53, [])]),
  (74, [(53, .iastore, 1, 54, []), (54, .aload_n 0, 1, 55, []), (55, .dup, 1, 56, []), (56, .getfield 181, 3, 59, [10, 5, 1016, 0]), (59, .iconst 1, 1, 60, []), (60, .iadd, 1, 61, []), (61, .putfield 181, 3, 64, [10, 5, 1016, 0]), (64, .iinc 3 1, 3, 67, []), (67, .goto (-32), 3, 70, [35]), (70, .aload_n 0, 1, 71, []), (71, .getfield 181, 3, 74, [10, 5, 1016, 0]), (74, .ireturn, 1, 75, [])])])
theorem okX10_bits : sk_ok mX10_bits := show ∀ c ∈ mX10_bits.2.2.2.2, ∀ e ∈ c.2, sk_okI mX10_bits e = true from by decide +kernel
def mX10_forget : sk_M := (yX10_forget, cX10_forget, 2, (some .int), [(16, [(0, .aload_n 0, 1, 1, []), (1, .iconst 0, 1, 2, []), (2, .putfield 166, 3, 5, [10, 0, 1011, 0]), (5, .aload_n 0, 1, 6, []), (6, .getfield 181, 3, 9, [10, 5, 1016, 0]), (9, .istore_n 1, 1, 10, []), (10, .aload_n 0, 1, 11, []), (11, .iconst 0, 1, 12, []), (12, .putfield 181, 3, 15, [10, 5, 1016, 0]), (15, .iload_n 1, 1, 16, []), (16, .ireturn, 1, 17, [])])])
theorem okX10_forget : sk_ok mX10_forget := show ∀ c ∈ mX10_forget.2.2.2.2, ∀ e ∈ c.2, sk_okI mX10_forget e = true from by decide +kernel
def mX10_isSmall : sk_M := (yX10_isSmall, cX10_isSmall, 1, (some .boolean), [(17, [(0, .iload_n 0, 1, 1, []), (1, .bipush 97, 2, 3, []), (3, .if_icmp .lt 13, 3, 6, [16]), (6, .iload_n 0, 1, 7, []), (7, .bipush 122, 2, 9, []), (9, .if_icmp .gt 7, 3, 12, [16]), (12, .iconst 1, 1, 13, []), (13, .goto 4, 3, 16, [17]), (16, .iconst 0, 1, 17, []), (17, .ireturn, 1, 18, [])])])
theorem okX10_isSmall : sk_ok mX10_isSmall := show ∀ c ∈ mX10_isSmall.2.2.2.2, ∀ e ∈ c.2, sk_okI mX10_isSmall e = true from by decide +kernel
def mX10_isDigit : sk_M := (yX10_isDigit, cX10_isDigit, 1, (some .boolean), [(17, [(0, .iload_n 0, 1, 1, []), (1, .bipush 48, 2, 3, []), (3, .if_icmp .lt 13, 3, 6, [16]), (6, .iload_n 0, 1, 7, []), (7, .bipush 57, 2, 9, []), (9, .if_icmp .gt 7, 3, 12, [16]), (12, .iconst 1, 1, 13, []), (13, .goto 4, 3, 16, [17]), (16, .iconst 0, 1, 17, []), (17, .ireturn, 1, 18, [])])])
theorem okX10_isDigit : sk_ok mX10_isDigit := show ∀ c ∈ mX10_isDigit.2.2.2.2, ∀ e ∈ c.2, sk_okI mX10_isDigit e = true from by decide +kernel
def mX10_wordOf : sk_M := (yX10_wordOf, cX10_wordOf, 4, (some .int), [(25, [(0, .iconst 0, 1, 1, []), (1, .istore_n 1, 1, 2, []), (2, .iload_n 1, 1, 3, []), (3, .aload_n 0, 1, 4, []), (4, .getfield 89, 3, 7, [10, 20, 1031, 3]), (7, .arraylength, 1, 8, []), (8, .if_icmp .ge 97, 3, 11, [105]), (11, .aload_n 0, 1, 12, []), (12, .getfield 89, 3, 15, [10, 20, 1031, 3]), (15, .iload_n 1, 1, 16, []), (16, .aaload, 1, 17, []), (17, .invokevirtual 184, 3, 20, []), (20, .aload_n 0, 1, 21, []), (21, .getfield 188, 3, 24, [10, 23, 1034, 0]), (24, .aload_n 0, 1, 25, []), (25, .getfield 191, 3, 28, [10, 22, 1033, 0])]),
  (53, [(28, .isub, 1, 29, []), (29, .if_icmp .ne 7, 3, 32, [36]), (32, .iconst 1, 1, 33, []), (33, .goto 4, 3, 36, [37]), (36, .iconst 0, 1, 37, []), (37, .istore_n 2, 1, 38, []), (38, .iconst 0, 1, 39, []), (39, .istore_n 3, 1, 40, []), (40, .iload_n 3, 1, 41, []), (41, .aload_n 0, 1, 42, []), (42, .getfield 188, 3, 45, [10, 23, 1034, 0]), (45, .aload_n 0, 1, 46, []), (46, .getfield 191, 3, 49, [10, 22, 1033, 0]), (49, .isub, 1, 50, []), (50, .if_icmp .ge 43, 3, 53, [93]), (53, .iload_n 2, 1, 54, [])]),
  (81, [(54, .ifCond .eq 39, 3, 57, [93]), (57, .aload_n 0, 1, 58, []), (58, .getfield 89, 3, 61, [10, 20, 1031, 3]), (61, .iload_n 1, 1, 62, []), (62, .aaload, 1, 63, []), (63, .iload_n 3, 1, 64, []), (64, .invokevirtual 194, 3, 67, []), (67, .aload_n 0, 1, 68, []), (68, .getfield 7, 3, 71, [10, 1, 1012, 3]), (71, .aload_n 0, 1, 72, []), (72, .getfield 191, 3, 75, [10, 22, 1033, 0]), (75, .iload_n 3, 1, 76, []), (76, .iadd, 1, 77, []), (77, .iaload, 1, 78, []), (78, .if_icmp .ne 7, 3, 81, [85]), (81, .iconst 1, 1, 82, [])]),
  (107, [(82, .goto 4, 3, 85, [86]), (85, .iconst 0, 1, 86, []), (86, .istore_n 2, 1, 87, []), (87, .iinc 3 1, 3, 90, []), (90, .goto (-50), 3, 93, [40]), (93, .iload_n 2, 1, 94, []), (94, .ifCond .eq 5, 3, 97, [99]), (97, .iload_n 1, 1, 98, []), (98, .ireturn, 1, 99, []), (99, .iinc 1 1, 3, 102, []), (102, .goto (-100), 3, 105, [2]), (105, .bipush 25, 2, 107, []), (107, .ireturn, 1, 108, [])])])
theorem okX10_wordOf : sk_ok mX10_wordOf := show ∀ c ∈ mX10_wordOf.2.2.2.2, ∀ e ∈ c.2, sk_okI mX10_wordOf e = true from by decide +kernel
def mX10_next : sk_M := (yX10_next, cX10_next, 3, none, [(30, [(0, .aload_n 0, 1, 1, []), (1, .getfield 188, 3, 4, [10, 23, 1034, 0]), (4, .aload_n 0, 1, 5, []), (5, .getfield 198, 3, 8, [10, 21, 1032, 0]), (8, .if_icmp .ge 44, 3, 11, [52]), (11, .aload_n 0, 1, 12, []), (12, .getfield 7, 3, 15, [10, 1, 1012, 3]), (15, .aload_n 0, 1, 16, []), (16, .getfield 188, 3, 19, [10, 23, 1034, 0]), (19, .iaload, 1, 20, []), (20, .bipush 32, 2, 22, []), (22, .if_icmp .eq 17, 3, 25, [39]), (25, .aload_n 0, 1, 26, []), (26, .getfield 7, 3, 29, [10, 1, 1012, 3]), (29, .aload_n 0, 1, 30, []), (30, .getfield 188, 3, 33, [10, 23, 1034, 0])]),
  (61, [(33, .iaload, 1, 34, []), (34, .bipush 10, 2, 36, []), (36, .if_icmp .ne 16, 3, 39, [52]), (39, .aload_n 0, 1, 40, []), (40, .dup, 1, 41, []), (41, .getfield 188, 3, 44, [10, 23, 1034, 0]), (44, .iconst 1, 1, 45, []), (45, .iadd, 1, 46, []), (46, .putfield 188, 3, 49, [10, 23, 1034, 0]), (49, .goto (-49), 3, 52, [0]), (52, .aload_n 0, 1, 53, []), (53, .aload_n 0, 1, 54, []), (54, .getfield 188, 3, 57, [10, 23, 1034, 0]), (57, .putfield 191, 3, 60, [10, 22, 1033, 0]), (60, .aload_n 0, 1, 61, []), (61, .getfield 191, 3, 64, [10, 22, 1033, 0])]),
  (90, [(64, .aload_n 0, 1, 65, []), (65, .getfield 198, 3, 68, [10, 21, 1032, 0]), (68, .if_icmp .ne 10, 3, 71, [78]), (71, .aload_n 0, 1, 72, []), (72, .bipush 24, 2, 74, []), (74, .putfield 201, 3, 77, [10, 24, 1035, 0]), (77, .return_, 1, 78, []), (78, .aload_n 0, 1, 79, []), (79, .getfield 7, 3, 82, [10, 1, 1012, 3]), (82, .aload_n 0, 1, 83, []), (83, .getfield 191, 3, 86, [10, 22, 1033, 0]), (86, .iaload, 1, 87, []), (87, .istore_n 1, 1, 88, []), (88, .aload_n 0, 1, 89, []), (89, .dup, 1, 90, []), (90, .getfield 188, 3, 93, [10, 23, 1034, 0])]),
  (124, [(93, .iconst 1, 1, 94, []), (94, .iadd, 1, 95, []), (95, .putfield 188, 3, 98, [10, 23, 1034, 0]), (98, .iload_n 1, 1, 99, []), (99, .invokestatic 204, 3, 102, []), (102, .ifCond .eq 53, 3, 105, [155]), (105, .aload_n 0, 1, 106, []), (106, .getfield 188, 3, 109, [10, 23, 1034, 0]), (109, .aload_n 0, 1, 110, []), (110, .getfield 198, 3, 113, [10, 21, 1032, 0]), (113, .if_icmp .ge 31, 3, 116, [144]), (116, .aload_n 0, 1, 117, []), (117, .getfield 7, 3, 120, [10, 1, 1012, 3]), (120, .aload_n 0, 1, 121, []), (121, .getfield 188, 3, 124, [10, 23, 1034, 0]), (124, .iaload, 1, 125, [])]),
  (156, [(125, .invokestatic 204, 3, 128, []), (128, .ifCond .eq 16, 3, 131, [144]), (131, .aload_n 0, 1, 132, []), (132, .dup, 1, 133, []), (133, .getfield 188, 3, 136, [10, 23, 1034, 0]), (136, .iconst 1, 1, 137, []), (137, .iadd, 1, 138, []), (138, .putfield 188, 3, 141, [10, 23, 1034, 0]), (141, .goto (-36), 3, 144, [105]), (144, .aload_n 0, 1, 145, []), (145, .aload_n 0, 1, 146, []), (146, .invokevirtual 208, 3, 149, []), (149, .putfield 201, 3, 152, [10, 24, 1035, 0]), (152, .goto 173, 3, 155, [325]), (155, .iload_n 1, 1, 156, []), (156, .invokestatic 211, 3, 159, [])]),
  (190, [(159, .ifCond .eq 127, 3, 162, [286]), (162, .aload_n 0, 1, 163, []), (163, .getfield 188, 3, 166, [10, 23, 1034, 0]), (166, .aload_n 0, 1, 167, []), (167, .getfield 198, 3, 170, [10, 21, 1032, 0]), (170, .if_icmp .ge 31, 3, 173, [201]), (173, .aload_n 0, 1, 174, []), (174, .getfield 7, 3, 177, [10, 1, 1012, 3]), (177, .aload_n 0, 1, 178, []), (178, .getfield 188, 3, 181, [10, 23, 1034, 0]), (181, .iaload, 1, 182, []), (182, .invokestatic 211, 3, 185, []), (185, .ifCond .eq 16, 3, 188, [201]), (188, .aload_n 0, 1, 189, []), (189, .dup, 1, 190, []), (190, .getfield 188, 3, 193, [10, 23, 1034, 0])]),
  (220, [(193, .iconst 1, 1, 194, []), (194, .iadd, 1, 195, []), (195, .putfield 188, 3, 198, [10, 23, 1034, 0]), (198, .goto (-36), 3, 201, [162]), (201, .aload_n 0, 1, 202, []), (202, .iconst 0, 1, 203, []), (203, .putfield 214, 3, 206, [10, 25, 1036, 0]), (206, .aload_n 0, 1, 207, []), (207, .getfield 191, 3, 210, [10, 22, 1033, 0]), (210, .istore_n 2, 1, 211, []), (211, .iload_n 2, 1, 212, []), (212, .aload_n 0, 1, 213, []), (213, .getfield 188, 3, 216, [10, 23, 1034, 0]), (216, .if_icmp .ge 43, 3, 219, [259]), (219, .aload_n 0, 1, 220, []), (220, .getfield 188, 3, 223, [10, 23, 1034, 0])]),
  (247, [(223, .aload_n 0, 1, 224, []), (224, .getfield 191, 3, 227, [10, 22, 1033, 0]), (227, .isub, 1, 228, []), (228, .iconst 3, 1, 229, []), (229, .if_icmp .gt 30, 3, 232, [259]), (232, .aload_n 0, 1, 233, []), (233, .bipush 10, 2, 235, []), (235, .aload_n 0, 1, 236, []), (236, .getfield 214, 3, 239, [10, 25, 1036, 0]), (239, .imul, 1, 240, []), (240, .aload_n 0, 1, 241, []), (241, .getfield 7, 3, 244, [10, 1, 1012, 3]), (244, .iload_n 2, 1, 245, []), (245, .iaload, 1, 246, []), (246, .iadd, 1, 247, []), (247, .bipush 48, 2, 249, [])]),
  (280, [(249, .isub, 1, 250, []), (250, .putfield 214, 3, 253, [10, 25, 1036, 0]), (253, .iinc 2 1, 3, 256, []), (256, .goto (-45), 3, 259, [211]), (259, .aload_n 0, 1, 260, []), (260, .aload_n 0, 1, 261, []), (261, .getfield 188, 3, 264, [10, 23, 1034, 0]), (264, .aload_n 0, 1, 265, []), (265, .getfield 191, 3, 268, [10, 22, 1033, 0]), (268, .isub, 1, 269, []), (269, .iconst 3, 1, 270, []), (270, .if_icmp .gt 8, 3, 273, [278]), (273, .bipush 20, 2, 275, []), (275, .goto 5, 3, 278, [280]), (278, .bipush 25, 2, 280, []), (280, .putfield 201, 3, 283, [10, 24, 1035, 0])]),
  (315, [(283, .goto 42, 3, 286, [325]), (286, .aload_n 0, 1, 287, []), (287, .iload_n 1, 1, 288, []), (288, .bipush 123, 2, 290, []), (290, .if_icmp .ne 8, 3, 293, [298]), (293, .bipush 21, 2, 295, []), (295, .goto 27, 3, 298, [322]), (298, .iload_n 1, 1, 299, []), (299, .bipush 125, 2, 301, []), (301, .if_icmp .ne 8, 3, 304, [309]), (304, .bipush 22, 2, 306, []), (306, .goto 16, 3, 309, [322]), (309, .iload_n 1, 1, 310, []), (310, .bipush 59, 2, 312, []), (312, .if_icmp .ne 8, 3, 315, [320]), (315, .bipush 23, 2, 317, [])]),
  (325, [(317, .goto 5, 3, 320, [322]), (320, .bipush 25, 2, 322, []), (322, .putfield 201, 3, 325, [10, 24, 1035, 0]), (325, .return_, 1, 326, [])])])
theorem okX10_next : sk_ok mX10_next := show ∀ c ∈ mX10_next.2.2.2.2, ∀ e ∈ c.2, sk_okI mX10_next e = true from by decide +kernel
def mX10_wrong : sk_M := (yX10_wrong, cX10_wrong, 2, none, [(20, [(0, .aload_n 0, 1, 1, []), (1, .getfield 217, 3, 4, [10, 26, 1037, 0]), (4, .ifCond .ne 16, 3, 7, [20]), (7, .aload_n 0, 1, 8, []), (8, .iload_n 1, 1, 9, []), (9, .putfield 217, 3, 12, [10, 26, 1037, 0]), (12, .aload_n 0, 1, 13, []), (13, .aload_n 0, 1, 14, []), (14, .getfield 191, 3, 17, [10, 22, 1033, 0]), (17, .putfield 220, 3, 20, [10, 27, 1038, 0]), (20, .return_, 1, 21, [])])])
theorem okX10_wrong : sk_ok mX10_wrong := show ∀ c ∈ mX10_wrong.2.2.2.2, ∀ e ∈ c.2, sk_okI mX10_wrong e = true from by decide +kernel
def mX10_must : sk_M := (yX10_must, cX10_must, 2, none, [(27, [(0, .aload_n 0, 1, 1, []), (1, .getfield 217, 3, 4, [10, 26, 1037, 0]), (4, .ifCond .ne 18, 3, 7, [22]), (7, .aload_n 0, 1, 8, []), (8, .getfield 201, 3, 11, [10, 24, 1035, 0]), (11, .iload_n 1, 1, 12, []), (12, .if_icmp .ne 10, 3, 15, [22]), (15, .aload_n 0, 1, 16, []), (16, .invokevirtual 223, 3, 19, []), (19, .goto 8, 3, 22, [27]), (22, .aload_n 0, 1, 23, []), (23, .iconst 1, 1, 24, []), (24, .invokevirtual 226, 3, 27, []), (27, .return_, 1, 28, [])])])
theorem okX10_must : sk_ok mX10_must := show ∀ c ∈ mX10_must.2.2.2.2, ∀ e ∈ c.2, sk_okI mX10_must e = true from by decide +kernel
def mX10_numberTo : sk_M := (yX10_numberTo, cX10_numberTo, 3, (some .int), [(30, [(0, .aload_n 0, 1, 1, []), (1, .getfield 217, 3, 4, [10, 26, 1037, 0]), (4, .ifCond .ne 31, 3, 7, [35]), (7, .aload_n 0, 1, 8, []), (8, .getfield 201, 3, 11, [10, 24, 1035, 0]), (11, .bipush 20, 2, 13, []), (13, .if_icmp .ne 22, 3, 16, [35]), (16, .aload_n 0, 1, 17, []), (17, .getfield 214, 3, 20, [10, 25, 1036, 0]), (20, .iload_n 1, 1, 21, []), (21, .if_icmp .gt 14, 3, 24, [35]), (24, .aload_n 0, 1, 25, []), (25, .getfield 214, 3, 28, [10, 25, 1036, 0]), (28, .istore_n 2, 1, 29, []), (29, .aload_n 0, 1, 30, []), (30, .invokevirtual 223, 3, 33, [])]),
  (54, [(33, .iload_n 2, 1, 34, []), (34, .ireturn, 1, 35, []), (35, .aload_n 0, 1, 36, []), (36, .aload_n 0, 1, 37, []), (37, .getfield 201, 3, 40, [10, 24, 1035, 0]), (40, .bipush 20, 2, 42, []), (42, .if_icmp .ne 7, 3, 45, [49]), (45, .iconst 2, 1, 46, []), (46, .goto 4, 3, 49, [50]), (49, .iconst 1, 1, 50, []), (50, .invokevirtual 226, 3, 53, []), (53, .iconst 0, 1, 54, []), (54, .ireturn, 1, 55, [])])])
theorem okX10_numberTo : sk_ok mX10_numberTo := show ∀ c ∈ mX10_numberTo.2.2.2.2, ∀ e ∈ c.2, sk_okI mX10_numberTo e = true from by decide +kernel
def mX10_block : sk_M := (yX10_block, cX10_block, 5, (some .int), [(30, [(0, .aload_n 0, 1, 1, []), (1, .getfield 217, 3, 4, [10, 26, 1037, 0]), (4, .ifCond .ne 23, 3, 7, [27]), (7, .aload_n 0, 1, 8, []), (8, .getfield 201, 3, 11, [10, 24, 1035, 0]), (11, .bipush 21, 2, 13, []), (13, .if_icmp .ne 14, 3, 16, [27]), (16, .iload_n 1, 1, 17, []), (17, .bipush 12, 2, 19, []), (19, .if_icmp .ne 8, 3, 22, [27]), (22, .aload_n 0, 1, 23, []), (23, .iconst 3, 1, 24, []), (24, .invokevirtual 226, 3, 27, []), (27, .aload_n 0, 1, 28, []), (28, .bipush 21, 2, 30, []), (30, .invokevirtual 228, 3, 33, [])]),
  (58, [(33, .aload_n 0, 1, 34, []), (34, .getfield 52, 3, 37, [10, 19, 1030, 3]), (37, .iconst 1, 1, 38, []), (38, .aload_n 0, 1, 39, []), (39, .getfield 217, 3, 42, [10, 26, 1037, 0]), (42, .ifCond .ne 21, 3, 45, [63]), (45, .iload_n 1, 1, 46, []), (46, .iconst 1, 1, 47, []), (47, .iadd, 1, 48, []), (48, .aload_n 0, 1, 49, []), (49, .getfield 52, 3, 52, [10, 19, 1030, 3]), (52, .iconst 1, 1, 53, []), (53, .iaload, 1, 54, []), (54, .if_icmp .le 9, 3, 57, [63]), (57, .iload_n 1, 1, 58, []), (58, .iconst 1, 1, 59, [])]),
  (82, [(59, .iadd, 1, 60, []), (60, .goto 9, 3, 63, [69]), (63, .aload_n 0, 1, 64, []), (64, .getfield 52, 3, 67, [10, 19, 1030, 3]), (67, .iconst 1, 1, 68, []), (68, .iaload, 1, 69, []), (69, .iastore, 1, 70, []), (70, .iconst (-1), 1, 71, []), (71, .istore_n 2, 1, 72, []), (72, .iconst (-1), 1, 73, []), (73, .istore_n 3, 1, 74, []), (74, .aload_n 0, 1, 75, []), (75, .getfield 217, 3, 78, [10, 26, 1037, 0]), (78, .ifCond .ne 54, 3, 81, [132]), (81, .aload_n 0, 1, 82, []), (82, .getfield 201, 3, 85, [10, 24, 1035, 0])]),
  (111, [(85, .bipush 22, 2, 87, []), (87, .if_icmp .eq 45, 3, 90, [132]), (90, .aload_n 0, 1, 91, []), (91, .iload_n 1, 1, 92, []), (92, .invokevirtual 231, 3, 95, []), (95, .istore 4, 2, 97, []), (97, .iload_n 2, 1, 98, []), (98, .iconst (-1), 1, 99, []), (99, .if_icmp .ne 8, 3, 102, [107]), (102, .iload 4, 2, 104, []), (104, .goto 4, 3, 107, [108]), (107, .iload_n 2, 1, 108, []), (108, .istore_n 2, 1, 109, []), (109, .iload_n 3, 1, 110, []), (110, .iconst (-1), 1, 111, []), (111, .if_icmp .eq 15, 3, 114, [126])]),
  (139, [(114, .aload_n 0, 1, 115, []), (115, .getfield 43, 3, 118, [10, 16, 1027, 3]), (118, .sipush 200, 3, 121, []), (121, .iload_n 3, 1, 122, []), (122, .iadd, 1, 123, []), (123, .iload 4, 2, 125, []), (125, .iastore, 1, 126, []), (126, .iload 4, 2, 128, []), (128, .istore_n 3, 1, 129, []), (129, .goto (-55), 3, 132, [74]), (132, .aload_n 0, 1, 133, []), (133, .bipush 22, 2, 135, []), (135, .invokevirtual 228, 3, 138, []), (138, .iload_n 2, 1, 139, []), (139, .ireturn, 1, 140, [])])])
theorem okX10_block : sk_ok mX10_block := show ∀ c ∈ mX10_block.2.2.2.2, ∀ e ∈ c.2, sk_okI mX10_block e = true from by decide +kernel
def mX10_step : sk_M := (yX10_step, cX10_step, 5, (some .int), [(28, [(0, .aload_n 0, 1, 1, []), (1, .getfield 201, 3, 4, [10, 24, 1035, 0]), (4, .bipush 12, 2, 6, []), (6, .if_icmp .le 10, 3, 9, [16]), (9, .aload_n 0, 1, 10, []), (10, .iconst 1, 1, 11, []), (11, .invokevirtual 226, 3, 14, []), (14, .iconst 0, 1, 15, []), (15, .ireturn, 1, 16, []), (16, .aload_n 0, 1, 17, []), (17, .getfield 28, 3, 20, [10, 11, 1022, 3]), (20, .iconst 1, 1, 21, []), (21, .iaload, 1, 22, []), (22, .sipush 200, 3, 25, []), (25, .if_icmp .ne 10, 3, 28, [35]), (28, .aload_n 0, 1, 29, [])]),
  (50, [(29, .iconst 4, 1, 30, []), (30, .invokevirtual 226, 3, 33, []), (33, .iconst 0, 1, 34, []), (34, .ireturn, 1, 35, []), (35, .aload_n 0, 1, 36, []), (36, .getfield 28, 3, 39, [10, 11, 1022, 3]), (39, .iconst 1, 1, 40, []), (40, .iaload, 1, 41, []), (41, .istore_n 2, 1, 42, []), (42, .aload_n 0, 1, 43, []), (43, .getfield 28, 3, 46, [10, 11, 1022, 3]), (46, .iconst 1, 1, 47, []), (47, .dup2, 1, 48, []), (48, .iaload, 1, 49, []), (49, .iconst 1, 1, 50, []), (50, .iadd, 1, 51, [])]),
  (76, [(51, .iastore, 1, 52, []), (52, .sipush 200, 3, 55, []), (55, .iload_n 2, 1, 56, []), (56, .iadd, 1, 57, []), (57, .istore_n 3, 1, 58, []), (58, .aload_n 0, 1, 59, []), (59, .getfield 201, 3, 62, [10, 24, 1035, 0]), (62, .istore 4, 2, 64, []), (64, .aload_n 0, 1, 65, []), (65, .getfield 31, 3, 68, [10, 12, 1023, 3]), (68, .iload_n 3, 1, 69, []), (69, .iload 4, 2, 71, []), (71, .iastore, 1, 72, []), (72, .aload_n 0, 1, 73, []), (73, .getfield 34, 3, 76, [10, 13, 1024, 3]), (76, .iload_n 3, 1, 77, [])]),
  (98, [(77, .aload_n 0, 1, 78, []), (78, .getfield 19, 3, 81, [10, 8, 1019, 3]), (81, .iconst 1, 1, 82, []), (82, .iaload, 1, 83, []), (83, .iconst 1, 1, 84, []), (84, .isub, 1, 85, []), (85, .iastore, 1, 86, []), (86, .aload_n 0, 1, 87, []), (87, .getfield 37, 3, 90, [10, 14, 1025, 3]), (90, .iload_n 3, 1, 91, []), (91, .iconst (-1), 1, 92, []), (92, .iastore, 1, 93, []), (93, .aload_n 0, 1, 94, []), (94, .getfield 40, 3, 97, [10, 15, 1026, 3]), (97, .iload_n 3, 1, 98, []), (98, .iconst (-1), 1, 99, [])]),
  (120, [(99, .iastore, 1, 100, []), (100, .aload_n 0, 1, 101, []), (101, .getfield 43, 3, 104, [10, 16, 1027, 3]), (104, .iload_n 3, 1, 105, []), (105, .iconst (-1), 1, 106, []), (106, .iastore, 1, 107, []), (107, .aload_n 0, 1, 108, []), (108, .getfield 46, 3, 111, [10, 17, 1028, 3]), (111, .iload_n 3, 1, 112, []), (112, .iconst (-1), 1, 113, []), (113, .iastore, 1, 114, []), (114, .aload_n 0, 1, 115, []), (115, .getfield 49, 3, 118, [10, 18, 1029, 3]), (118, .iload_n 3, 1, 119, []), (119, .iconst (-1), 1, 120, []), (120, .iastore, 1, 121, [])]),
  (151, [(121, .aload_n 0, 1, 122, []), (122, .invokevirtual 223, 3, 125, []), (125, .iload 4, 2, 127, []), (127, .ifCond .eq 16, 3, 130, [143]), (130, .iload 4, 2, 132, []), (132, .iconst 2, 1, 133, []), (133, .if_icmp .eq 10, 3, 136, [143]), (136, .iload 4, 2, 138, []), (138, .bipush 10, 2, 140, []), (140, .if_icmp .ne 30, 3, 143, [170]), (143, .aload_n 0, 1, 144, []), (144, .getfield 37, 3, 147, [10, 14, 1025, 3]), (147, .iload_n 3, 1, 148, []), (148, .aload_n 0, 1, 149, []), (149, .bipush 7, 2, 151, []), (151, .invokevirtual 235, 3, 154, [])]),
  (183, [(154, .iastore, 1, 155, []), (155, .aload_n 0, 1, 156, []), (156, .getfield 40, 3, 159, [10, 15, 1026, 3]), (159, .iload_n 3, 1, 160, []), (160, .aload_n 0, 1, 161, []), (161, .bipush 9, 2, 163, []), (163, .invokevirtual 235, 3, 166, []), (166, .iastore, 1, 167, []), (167, .goto 130, 3, 170, [297]), (170, .iload 4, 2, 172, []), (172, .iconst 1, 1, 173, []), (173, .if_icmp .eq 10, 3, 176, [183]), (176, .iload 4, 2, 178, []), (178, .bipush 6, 2, 180, []), (180, .if_icmp .ne 28, 3, 183, [208]), (183, .aload_n 0, 1, 184, [])]),
  (211, [(184, .getfield 93, 3, 187, [10, 28, 1039, 3]), (187, .iload_n 2, 1, 188, []), (188, .aload_n 0, 1, 189, []), (189, .getfield 191, 3, 192, [10, 22, 1033, 0]), (192, .iastore, 1, 193, []), (193, .aload_n 0, 1, 194, []), (194, .getfield 37, 3, 197, [10, 14, 1025, 3]), (197, .iload_n 3, 1, 198, []), (198, .aload_n 0, 1, 199, []), (199, .bipush 99, 2, 201, []), (201, .invokevirtual 235, 3, 204, []), (204, .iastore, 1, 205, []), (205, .goto 92, 3, 208, [297]), (208, .iload 4, 2, 210, []), (210, .iconst 3, 1, 211, []), (211, .if_icmp .ne 18, 3, 214, [229])]),
  (242, [(214, .aload_n 0, 1, 215, []), (215, .getfield 37, 3, 218, [10, 14, 1025, 3]), (218, .iload_n 3, 1, 219, []), (219, .aload_n 0, 1, 220, []), (220, .bipush 7, 2, 222, []), (222, .invokevirtual 235, 3, 225, []), (225, .iastore, 1, 226, []), (226, .goto 71, 3, 229, [297]), (229, .iload 4, 2, 231, []), (231, .iconst 4, 1, 232, []), (232, .if_icmp .eq 9, 3, 235, [241]), (235, .iload 4, 2, 237, []), (237, .iconst 5, 1, 238, []), (238, .if_icmp .ne 17, 3, 241, [255]), (241, .aload_n 0, 1, 242, []), (242, .getfield 37, 3, 245, [10, 14, 1025, 3])]),
  (273, [(245, .iload_n 3, 1, 246, []), (246, .aload_n 0, 1, 247, []), (247, .iconst 3, 1, 248, []), (248, .invokevirtual 235, 3, 251, []), (251, .iastore, 1, 252, []), (252, .goto 45, 3, 255, [297]), (255, .iload 4, 2, 257, []), (257, .bipush 8, 2, 259, []), (259, .if_icmp .ne 18, 3, 262, [277]), (262, .aload_n 0, 1, 263, []), (263, .getfield 37, 3, 266, [10, 14, 1025, 3]), (266, .iload_n 3, 1, 267, []), (267, .aload_n 0, 1, 268, []), (268, .bipush 99, 2, 270, []), (270, .invokevirtual 235, 3, 273, []), (273, .iastore, 1, 274, [])]),
  (305, [(274, .goto 23, 3, 277, [297]), (277, .iload 4, 2, 279, []), (279, .bipush 9, 2, 281, []), (281, .if_icmp .ne 16, 3, 284, [297]), (284, .aload_n 0, 1, 285, []), (285, .getfield 37, 3, 288, [10, 14, 1025, 3]), (288, .iload_n 3, 1, 289, []), (289, .aload_n 0, 1, 290, []), (290, .sipush 999, 3, 293, []), (293, .invokevirtual 235, 3, 296, []), (296, .iastore, 1, 297, []), (297, .iload 4, 2, 299, []), (299, .iconst 2, 1, 300, []), (300, .if_icmp .eq 43, 3, 303, [343]), (303, .iload 4, 2, 305, []), (305, .iconst 3, 1, 306, [])]),
  (340, [(306, .if_icmp .eq 37, 3, 309, [343]), (309, .iload 4, 2, 311, []), (311, .iconst 5, 1, 312, []), (312, .if_icmp .eq 31, 3, 315, [343]), (315, .iload 4, 2, 317, []), (317, .bipush 7, 2, 319, []), (319, .if_icmp .eq 24, 3, 322, [343]), (322, .iload 4, 2, 324, []), (324, .bipush 8, 2, 326, []), (326, .if_icmp .eq 17, 3, 329, [343]), (329, .iload 4, 2, 331, []), (331, .bipush 10, 2, 333, []), (333, .if_icmp .eq 10, 3, 336, [343]), (336, .iload 4, 2, 338, []), (338, .bipush 11, 2, 340, []), (340, .if_icmp .ne 71, 3, 343, [411])]),
  (370, [(343, .aload_n 0, 1, 344, []), (344, .getfield 46, 3, 347, [10, 17, 1028, 3]), (347, .iload_n 3, 1, 348, []), (348, .aload_n 0, 1, 349, []), (349, .iload_n 1, 1, 350, []), (350, .iconst 1, 1, 351, []), (351, .iadd, 1, 352, []), (352, .invokevirtual 238, 3, 355, []), (355, .iastore, 1, 356, []), (356, .iload 4, 2, 358, []), (358, .bipush 7, 2, 360, []), (360, .if_icmp .eq 17, 3, 363, [377]), (363, .iload 4, 2, 365, []), (365, .bipush 10, 2, 367, []), (367, .if_icmp .eq 10, 3, 370, [377]), (370, .iload 4, 2, 372, [])]),
  (402, [(372, .bipush 11, 2, 374, []), (374, .if_icmp .ne 43, 3, 377, [417]), (377, .aload_n 0, 1, 378, []), (378, .iload 4, 2, 380, []), (380, .bipush 11, 2, 382, []), (382, .if_icmp .ne 8, 3, 385, [390]), (385, .bipush 15, 2, 387, []), (387, .goto 5, 3, 390, [392]), (390, .bipush 14, 2, 392, []), (392, .invokevirtual 228, 3, 395, []), (395, .aload_n 0, 1, 396, []), (396, .getfield 49, 3, 399, [10, 18, 1029, 3]), (399, .iload_n 3, 1, 400, []), (400, .aload_n 0, 1, 401, []), (401, .iload_n 1, 1, 402, []), (402, .iconst 1, 1, 403, [])]),
  (418, [(403, .iadd, 1, 404, []), (404, .invokevirtual 238, 3, 407, []), (407, .iastore, 1, 408, []), (408, .goto 9, 3, 411, [417]), (411, .aload_n 0, 1, 412, []), (412, .bipush 23, 2, 414, []), (414, .invokevirtual 228, 3, 417, []), (417, .iload_n 2, 1, 418, []), (418, .ireturn, 1, 419, [])])])
theorem okX10_step : sk_ok mX10_step := show ∀ c ∈ mX10_step.2.2.2.2, ∀ e ∈ c.2, sk_okI mX10_step e = true from by decide +kernel
def mX10_program : sk_M := (yX10_program, cX10_program, 4, (some .int), [(25, [(0, .aload_n 0, 1, 1, []), (1, .iconst 0, 1, 2, []), (2, .putfield 166, 3, 5, [10, 0, 1011, 0]), (5, .aload_n 0, 1, 6, []), (6, .aload_n 0, 1, 7, []), (7, .getfield 170, 3, 10, [10, 2, 1013, 0]), (10, .putfield 198, 3, 13, [10, 21, 1032, 0]), (13, .aload_n 0, 1, 14, []), (14, .iconst 0, 1, 15, []), (15, .putfield 170, 3, 18, [10, 2, 1013, 0]), (18, .aload_n 0, 1, 19, []), (19, .iconst 0, 1, 20, []), (20, .putfield 188, 3, 23, [10, 23, 1034, 0]), (23, .aload_n 0, 1, 24, []), (24, .iconst 0, 1, 25, []), (25, .putfield 217, 3, 28, [10, 26, 1037, 0])]),
  (49, [(28, .aload_n 0, 1, 29, []), (29, .getfield 19, 3, 32, [10, 8, 1019, 3]), (32, .iconst 1, 1, 33, []), (33, .iconst 0, 1, 34, []), (34, .iastore, 1, 35, []), (35, .aload_n 0, 1, 36, []), (36, .getfield 28, 3, 39, [10, 11, 1022, 3]), (39, .iconst 1, 1, 40, []), (40, .iconst 0, 1, 41, []), (41, .iastore, 1, 42, []), (42, .aload_n 0, 1, 43, []), (43, .getfield 52, 3, 46, [10, 19, 1030, 3]), (46, .iconst 1, 1, 47, []), (47, .iconst 0, 1, 48, []), (48, .iastore, 1, 49, []), (49, .aload_n 0, 1, 50, [])]),
  (79, [(50, .invokevirtual 223, 3, 53, []), (53, .iconst 1, 1, 54, []), (54, .istore_n 1, 1, 55, []), (55, .iload_n 1, 1, 56, []), (56, .ifCond .eq 119, 3, 59, [175]), (59, .aload_n 0, 1, 60, []), (60, .getfield 201, 3, 63, [10, 24, 1035, 0]), (63, .bipush 13, 2, 65, []), (65, .if_icmp .ne 19, 3, 68, [84]), (68, .aload_n 0, 1, 69, []), (69, .getfield 19, 3, 72, [10, 8, 1019, 3]), (72, .iconst 1, 1, 73, []), (73, .iaload, 1, 74, []), (74, .bipush 20, 2, 76, []), (76, .if_icmp .ne 8, 3, 79, [84]), (79, .aload_n 0, 1, 80, [])]),
  (106, [(80, .iconst 4, 1, 81, []), (81, .invokevirtual 226, 3, 84, []), (84, .aload_n 0, 1, 85, []), (85, .bipush 13, 2, 87, []), (87, .invokevirtual 228, 3, 90, []), (90, .aload_n 0, 1, 91, []), (91, .getfield 217, 3, 94, [10, 26, 1037, 0]), (94, .ifCond .ne 56, 3, 97, [150]), (97, .aload_n 0, 1, 98, []), (98, .getfield 19, 3, 101, [10, 8, 1019, 3]), (101, .iconst 1, 1, 102, []), (102, .dup2, 1, 103, []), (103, .iaload, 1, 104, []), (104, .iconst 1, 1, 105, []), (105, .iadd, 1, 106, []), (106, .iastore, 1, 107, [])]),
  (130, [(107, .aload_n 0, 1, 108, []), (108, .getfield 22, 3, 111, [10, 9, 1020, 3]), (111, .bipush 20, 2, 113, []), (113, .aload_n 0, 1, 114, []), (114, .getfield 19, 3, 117, [10, 8, 1019, 3]), (117, .iconst 1, 1, 118, []), (118, .iaload, 1, 119, []), (119, .iadd, 1, 120, []), (120, .iconst 1, 1, 121, []), (121, .isub, 1, 122, []), (122, .aload_n 0, 1, 123, []), (123, .bipush 7, 2, 125, []), (125, .invokevirtual 235, 3, 128, []), (128, .iastore, 1, 129, []), (129, .aload_n 0, 1, 130, []), (130, .getfield 25, 3, 133, [10, 10, 1021, 3])]),
  (157, [(133, .bipush 20, 2, 135, []), (135, .aload_n 0, 1, 136, []), (136, .getfield 19, 3, 139, [10, 8, 1019, 3]), (139, .iconst 1, 1, 140, []), (140, .iaload, 1, 141, []), (141, .iadd, 1, 142, []), (142, .iconst 1, 1, 143, []), (143, .isub, 1, 144, []), (144, .aload_n 0, 1, 145, []), (145, .iconst 0, 1, 146, []), (146, .invokevirtual 238, 3, 149, []), (149, .iastore, 1, 150, []), (150, .aload_n 0, 1, 151, []), (151, .getfield 217, 3, 154, [10, 26, 1037, 0]), (154, .ifCond .ne 16, 3, 157, [170]), (157, .aload_n 0, 1, 158, [])]),
  (184, [(158, .getfield 201, 3, 161, [10, 24, 1035, 0]), (161, .bipush 24, 2, 163, []), (163, .if_icmp .eq 7, 3, 166, [170]), (166, .iconst 1, 1, 167, []), (167, .goto 4, 3, 170, [171]), (170, .iconst 0, 1, 171, []), (171, .istore_n 1, 1, 172, []), (172, .goto (-117), 3, 175, [55]), (175, .iconst 0, 1, 176, []), (176, .istore_n 2, 1, 177, []), (177, .iload_n 2, 1, 178, []), (178, .aload_n 0, 1, 179, []), (179, .getfield 28, 3, 182, [10, 11, 1022, 3]), (182, .iconst 1, 1, 183, []), (183, .iaload, 1, 184, []), (184, .if_icmp .ge 72, 3, 187, [256])]),
  (213, [(187, .aload_n 0, 1, 188, []), (188, .getfield 217, 3, 191, [10, 26, 1037, 0]), (191, .ifCond .ne 65, 3, 194, [256]), (194, .aload_n 0, 1, 195, []), (195, .getfield 31, 3, 198, [10, 12, 1023, 3]), (198, .sipush 200, 3, 201, []), (201, .iload_n 2, 1, 202, []), (202, .iadd, 1, 203, []), (203, .iaload, 1, 204, []), (204, .istore_n 3, 1, 205, []), (205, .iload_n 3, 1, 206, []), (206, .iconst 1, 1, 207, []), (207, .if_icmp .eq 9, 3, 210, [216]), (210, .iload_n 3, 1, 211, []), (211, .bipush 6, 2, 213, []), (213, .if_icmp .ne 37, 3, 216, [250])]),
  (241, [(216, .aload_n 0, 1, 217, []), (217, .getfield 37, 3, 220, [10, 14, 1025, 3]), (220, .sipush 200, 3, 223, []), (223, .iload_n 2, 1, 224, []), (224, .iadd, 1, 225, []), (225, .iaload, 1, 226, []), (226, .aload_n 0, 1, 227, []), (227, .getfield 19, 3, 230, [10, 8, 1019, 3]), (230, .iconst 1, 1, 231, []), (231, .iaload, 1, 232, []), (232, .if_icmp .lt 18, 3, 235, [250]), (235, .aload_n 0, 1, 236, []), (236, .iconst 5, 1, 237, []), (237, .putfield 217, 3, 240, [10, 26, 1037, 0]), (240, .aload_n 0, 1, 241, []), (241, .aload_n 0, 1, 242, [])]),
  (274, [(242, .getfield 93, 3, 245, [10, 28, 1039, 3]), (245, .iload_n 2, 1, 246, []), (246, .iaload, 1, 247, []), (247, .putfield 220, 3, 250, [10, 27, 1038, 0]), (250, .iinc 2 1, 3, 253, []), (253, .goto (-76), 3, 256, [177]), (256, .aload_n 0, 1, 257, []), (257, .aload_n 0, 1, 258, []), (258, .getfield 217, 3, 261, [10, 26, 1037, 0]), (261, .putfield 241, 3, 264, [10, 6, 1017, 0]), (264, .aload_n 0, 1, 265, []), (265, .getfield 217, 3, 268, [10, 26, 1037, 0]), (268, .ifCond .eq 11, 3, 271, [279]), (271, .bipush (-100), 2, 273, []), (273, .aload_n 0, 1, 274, []), (274, .getfield 220, 3, 277, [10, 27, 1038, 0])]),
  (300, [(277, .isub, 1, 278, []), (278, .ireturn, 1, 279, []), (279, .aload_n 0, 1, 280, []), (280, .iconst 1, 1, 281, []), (281, .putfield 244, 3, 284, [10, 7, 1018, 1]), (284, .aload_n 0, 1, 285, []), (285, .iconst 0, 1, 286, []), (286, .putfield 248, 3, 289, [10, 50, 1061, 1]), (289, .aload_n 0, 1, 290, []), (290, .iconst 0, 1, 291, []), (291, .putfield 251, 3, 294, [10, 59, 1070, 1]), (294, .aload_n 0, 1, 295, []), (295, .getfield 19, 3, 298, [10, 8, 1019, 3]), (298, .iconst 0, 1, 299, []), (299, .aload_n 0, 1, 300, []), (300, .getfield 19, 3, 303, [10, 8, 1019, 3])]),
  (324, [(303, .iconst 1, 1, 304, []), (304, .iaload, 1, 305, []), (305, .iastore, 1, 306, []), (306, .aload_n 0, 1, 307, []), (307, .getfield 28, 3, 310, [10, 11, 1022, 3]), (310, .iconst 0, 1, 311, []), (311, .aload_n 0, 1, 312, []), (312, .getfield 28, 3, 315, [10, 11, 1022, 3]), (315, .iconst 1, 1, 316, []), (316, .iaload, 1, 317, []), (317, .iastore, 1, 318, []), (318, .aload_n 0, 1, 319, []), (319, .getfield 52, 3, 322, [10, 19, 1030, 3]), (322, .iconst 0, 1, 323, []), (323, .aload_n 0, 1, 324, []), (324, .getfield 52, 3, 327, [10, 19, 1030, 3])]),
  (350, [(327, .iconst 1, 1, 328, []), (328, .iaload, 1, 329, []), (329, .iastore, 1, 330, []), (330, .iconst 0, 1, 331, []), (331, .istore_n 2, 1, 332, []), (332, .iload_n 2, 1, 333, []), (333, .bipush 20, 2, 335, []), (335, .if_icmp .ge 39, 3, 338, [374]), (338, .aload_n 0, 1, 339, []), (339, .getfield 22, 3, 342, [10, 9, 1020, 3]), (342, .iload_n 2, 1, 343, []), (343, .aload_n 0, 1, 344, []), (344, .getfield 22, 3, 347, [10, 9, 1020, 3]), (347, .bipush 20, 2, 349, []), (349, .iload_n 2, 1, 350, []), (350, .iadd, 1, 351, [])]),
  (375, [(351, .iaload, 1, 352, []), (352, .iastore, 1, 353, []), (353, .aload_n 0, 1, 354, []), (354, .getfield 25, 3, 357, [10, 10, 1021, 3]), (357, .iload_n 2, 1, 358, []), (358, .aload_n 0, 1, 359, []), (359, .getfield 25, 3, 362, [10, 10, 1021, 3]), (362, .bipush 20, 2, 364, []), (364, .iload_n 2, 1, 365, []), (365, .iadd, 1, 366, []), (366, .iaload, 1, 367, []), (367, .iastore, 1, 368, []), (368, .iinc 2 1, 3, 371, []), (371, .goto (-39), 3, 374, [332]), (374, .iconst 0, 1, 375, []), (375, .istore_n 2, 1, 376, [])]),
  (403, [(376, .iload_n 2, 1, 377, []), (377, .sipush 200, 3, 380, []), (380, .if_icmp .ge 121, 3, 383, [501]), (383, .aload_n 0, 1, 384, []), (384, .getfield 31, 3, 387, [10, 12, 1023, 3]), (387, .iload_n 2, 1, 388, []), (388, .aload_n 0, 1, 389, []), (389, .getfield 31, 3, 392, [10, 12, 1023, 3]), (392, .sipush 200, 3, 395, []), (395, .iload_n 2, 1, 396, []), (396, .iadd, 1, 397, []), (397, .iaload, 1, 398, []), (398, .iastore, 1, 399, []), (399, .aload_n 0, 1, 400, []), (400, .getfield 34, 3, 403, [10, 13, 1024, 3]), (403, .iload_n 2, 1, 404, [])]),
  (429, [(404, .aload_n 0, 1, 405, []), (405, .getfield 34, 3, 408, [10, 13, 1024, 3]), (408, .sipush 200, 3, 411, []), (411, .iload_n 2, 1, 412, []), (412, .iadd, 1, 413, []), (413, .iaload, 1, 414, []), (414, .iastore, 1, 415, []), (415, .aload_n 0, 1, 416, []), (416, .getfield 37, 3, 419, [10, 14, 1025, 3]), (419, .iload_n 2, 1, 420, []), (420, .aload_n 0, 1, 421, []), (421, .getfield 37, 3, 424, [10, 14, 1025, 3]), (424, .sipush 200, 3, 427, []), (427, .iload_n 2, 1, 428, []), (428, .iadd, 1, 429, []), (429, .iaload, 1, 430, [])]),
  (453, [(430, .iastore, 1, 431, []), (431, .aload_n 0, 1, 432, []), (432, .getfield 40, 3, 435, [10, 15, 1026, 3]), (435, .iload_n 2, 1, 436, []), (436, .aload_n 0, 1, 437, []), (437, .getfield 40, 3, 440, [10, 15, 1026, 3]), (440, .sipush 200, 3, 443, []), (443, .iload_n 2, 1, 444, []), (444, .iadd, 1, 445, []), (445, .iaload, 1, 446, []), (446, .iastore, 1, 447, []), (447, .aload_n 0, 1, 448, []), (448, .getfield 43, 3, 451, [10, 16, 1027, 3]), (451, .iload_n 2, 1, 452, []), (452, .aload_n 0, 1, 453, []), (453, .getfield 43, 3, 456, [10, 16, 1027, 3])]),
  (479, [(456, .sipush 200, 3, 459, []), (459, .iload_n 2, 1, 460, []), (460, .iadd, 1, 461, []), (461, .iaload, 1, 462, []), (462, .iastore, 1, 463, []), (463, .aload_n 0, 1, 464, []), (464, .getfield 46, 3, 467, [10, 17, 1028, 3]), (467, .iload_n 2, 1, 468, []), (468, .aload_n 0, 1, 469, []), (469, .getfield 46, 3, 472, [10, 17, 1028, 3]), (472, .sipush 200, 3, 475, []), (475, .iload_n 2, 1, 476, []), (476, .iadd, 1, 477, []), (477, .iaload, 1, 478, []), (478, .iastore, 1, 479, []), (479, .aload_n 0, 1, 480, [])]),
  (507, [(480, .getfield 49, 3, 483, [10, 18, 1029, 3]), (483, .iload_n 2, 1, 484, []), (484, .aload_n 0, 1, 485, []), (485, .getfield 49, 3, 488, [10, 18, 1029, 3]), (488, .sipush 200, 3, 491, []), (491, .iload_n 2, 1, 492, []), (492, .iadd, 1, 493, []), (493, .iaload, 1, 494, []), (494, .iastore, 1, 495, []), (495, .iinc 2 1, 3, 498, []), (498, .goto (-122), 3, 501, [376]), (501, .aload_n 0, 1, 502, []), (502, .getfield 19, 3, 505, [10, 8, 1019, 3]), (505, .iconst 0, 1, 506, []), (506, .iaload, 1, 507, []), (507, .ireturn, 1, 508, [])])])
theorem okX10_program : sk_ok mX10_program := show ∀ c ∈ mX10_program.2.2.2.2, ∀ e ∈ c.2, sk_okI mX10_program e = true from by decide +kernel
def mX10_fault : sk_M := (yX10_fault, cX10_fault, 1, (some .int), [(9, [(0, .aload_n 0, 1, 1, []), (1, .iconst 0, 1, 2, []), (2, .putfield 166, 3, 5, [10, 0, 1011, 0]), (5, .aload_n 0, 1, 6, []), (6, .getfield 241, 3, 9, [10, 6, 1017, 0]), (9, .ireturn, 1, 10, [])])])
theorem okX10_fault : sk_ok mX10_fault := show ∀ c ∈ mX10_fault.2.2.2.2, ∀ e ∈ c.2, sk_okI mX10_fault e = true from by decide +kernel
def mX10_about : sk_M := (yX10_about, cX10_about, 4, (some .int), [(27, [(0, .aload_n 0, 1, 1, []), (1, .iconst 0, 1, 2, []), (2, .putfield 166, 3, 5, [10, 0, 1011, 0]), (5, .iload_n 1, 1, 6, []), (6, .iconst 0, 1, 7, []), (7, .iconst 3, 1, 8, []), (8, .invokestatic 177, 3, 11, []), (11, .ifCond .ne 6, 3, 14, [17]), (14, .bipush (-3), 2, 16, []), (16, .ireturn, 1, 17, []), (17, .aload_n 0, 1, 18, []), (18, .getfield 244, 3, 21, [10, 7, 1018, 1]), (21, .ifCond .ne 6, 3, 24, [27]), (24, .bipush (-4), 2, 26, []), (26, .ireturn, 1, 27, []), (27, .iconst 0, 1, 28, [])]),
  (51, [(28, .istore_n 2, 1, 29, []), (29, .iconst 0, 1, 30, []), (30, .istore_n 3, 1, 31, []), (31, .iload_n 3, 1, 32, []), (32, .aload_n 0, 1, 33, []), (33, .getfield 28, 3, 36, [10, 11, 1022, 3]), (36, .iconst 0, 1, 37, []), (37, .iaload, 1, 38, []), (38, .if_icmp .ge 26, 3, 41, [64]), (41, .iload_n 2, 1, 42, []), (42, .aload_n 0, 1, 43, []), (43, .getfield 31, 3, 46, [10, 12, 1023, 3]), (46, .iload_n 3, 1, 47, []), (47, .iaload, 1, 48, []), (48, .ifCond .ne 7, 3, 51, [55]), (51, .iconst 1, 1, 52, [])]),
  (79, [(52, .goto 4, 3, 55, [56]), (55, .iconst 0, 1, 56, []), (56, .iadd, 1, 57, []), (57, .istore_n 2, 1, 58, []), (58, .iinc 3 1, 3, 61, []), (61, .goto (-30), 3, 64, [31]), (64, .iload_n 1, 1, 65, []), (65, .ifCond .ne 12, 3, 68, [77]), (68, .aload_n 0, 1, 69, []), (69, .getfield 19, 3, 72, [10, 8, 1019, 3]), (72, .iconst 0, 1, 73, []), (73, .iaload, 1, 74, []), (74, .goto 32, 3, 77, [106]), (77, .iload_n 1, 1, 78, []), (78, .iconst 1, 1, 79, []), (79, .if_icmp .ne 12, 3, 82, [91])]),
  (106, [(82, .aload_n 0, 1, 83, []), (83, .getfield 28, 3, 86, [10, 11, 1022, 3]), (86, .iconst 0, 1, 87, []), (87, .iaload, 1, 88, []), (88, .goto 18, 3, 91, [106]), (91, .iload_n 1, 1, 92, []), (92, .iconst 2, 1, 93, []), (93, .if_icmp .ne 7, 3, 96, [100]), (96, .iload_n 2, 1, 97, []), (97, .goto 9, 3, 100, [106]), (100, .aload_n 0, 1, 101, []), (101, .getfield 52, 3, 104, [10, 19, 1030, 3]), (104, .iconst 0, 1, 105, []), (105, .iaload, 1, 106, []), (106, .ireturn, 1, 107, [])])])
theorem okX10_about : sk_ok mX10_about := show ∀ c ∈ mX10_about.2.2.2.2, ∀ e ∈ c.2, sk_okI mX10_about e = true from by decide +kernel
def mX10_step_ : sk_M := (yX10_step_, cX10_step_, 3, (some .int), [(24, [(0, .aload_n 0, 1, 1, []), (1, .iconst 0, 1, 2, []), (2, .putfield 166, 3, 5, [10, 0, 1011, 0]), (5, .aload_n 0, 1, 6, []), (6, .getfield 244, 3, 9, [10, 7, 1018, 1]), (9, .ifCond .ne 6, 3, 12, [15]), (12, .bipush (-4), 2, 14, []), (14, .ireturn, 1, 15, []), (15, .iload_n 1, 1, 16, []), (16, .iconst 0, 1, 17, []), (17, .aload_n 0, 1, 18, []), (18, .getfield 28, 3, 21, [10, 11, 1022, 3]), (21, .iconst 0, 1, 22, []), (22, .iaload, 1, 23, []), (23, .iconst 1, 1, 24, []), (24, .isub, 1, 25, [])]),
  (53, [(25, .invokestatic 177, 3, 28, []), (28, .ifCond .eq 12, 3, 31, [40]), (31, .iload_n 2, 1, 32, []), (32, .iconst 0, 1, 33, []), (33, .iconst 3, 1, 34, []), (34, .invokestatic 177, 3, 37, []), (37, .ifCond .ne 6, 3, 40, [43]), (40, .bipush (-3), 2, 42, []), (42, .ireturn, 1, 43, []), (43, .iload_n 2, 1, 44, []), (44, .ifCond .ne 12, 3, 47, [56]), (47, .aload_n 0, 1, 48, []), (48, .getfield 31, 3, 51, [10, 12, 1023, 3]), (51, .iload_n 1, 1, 52, []), (52, .iaload, 1, 53, []), (53, .goto 37, 3, 56, [90])]),
  (81, [(56, .iload_n 2, 1, 57, []), (57, .iconst 1, 1, 58, []), (58, .if_icmp .ne 12, 3, 61, [70]), (61, .aload_n 0, 1, 62, []), (62, .getfield 34, 3, 65, [10, 13, 1024, 3]), (65, .iload_n 1, 1, 66, []), (66, .iaload, 1, 67, []), (67, .goto 23, 3, 70, [90]), (70, .iload_n 2, 1, 71, []), (71, .iconst 2, 1, 72, []), (72, .if_icmp .ne 12, 3, 75, [84]), (75, .aload_n 0, 1, 76, []), (76, .getfield 37, 3, 79, [10, 14, 1025, 3]), (79, .iload_n 1, 1, 80, []), (80, .iaload, 1, 81, []), (81, .goto 9, 3, 84, [90])]),
  (90, [(84, .aload_n 0, 1, 85, []), (85, .getfield 40, 3, 88, [10, 15, 1026, 3]), (88, .iload_n 1, 1, 89, []), (89, .iaload, 1, 90, []), (90, .ireturn, 1, 91, [])])])
theorem okX10_step_ : sk_ok mX10_step_ := show ∀ c ∈ mX10_step_.2.2.2.2, ∀ e ∈ c.2, sk_okI mX10_step_ e = true from by decide +kernel
def mX10_enter : sk_M := (yX10_enter, cX10_enter, 6, none, [(25, [(0, .aload_n 0, 1, 1, []), (1, .getfield 254, 3, 4, [10, 29, 1040, 0]), (4, .istore 5, 2, 6, []), (6, .aload_n 0, 1, 7, []), (7, .dup, 1, 8, []), (8, .getfield 254, 3, 11, [10, 29, 1040, 0]), (11, .iconst 1, 1, 12, []), (12, .iadd, 1, 13, []), (13, .putfield 254, 3, 16, [10, 29, 1040, 0]), (16, .aload_n 0, 1, 17, []), (17, .getfield 96, 3, 20, [10, 30, 1041, 3]), (20, .iload 5, 2, 22, []), (22, .iload_n 1, 1, 23, []), (23, .iastore, 1, 24, []), (24, .aload_n 0, 1, 25, []), (25, .getfield 99, 3, 28, [10, 31, 1042, 3])]),
  (53, [(28, .iload 5, 2, 30, []), (30, .iload_n 2, 1, 31, []), (31, .iastore, 1, 32, []), (32, .aload_n 0, 1, 33, []), (33, .getfield 102, 3, 36, [10, 32, 1043, 3]), (36, .iload 5, 2, 38, []), (38, .iload_n 3, 1, 39, []), (39, .iastore, 1, 40, []), (40, .aload_n 0, 1, 41, []), (41, .getfield 105, 3, 44, [10, 33, 1044, 3]), (44, .iload 5, 2, 46, []), (46, .iload 4, 2, 48, []), (48, .iastore, 1, 49, []), (49, .aload_n 0, 1, 50, []), (50, .getfield 108, 3, 53, [10, 34, 1045, 3]), (53, .iload 5, 2, 55, [])]),
  (66, [(55, .aload_n 0, 1, 56, []), (56, .getfield 257, 3, 59, [10, 35, 1046, 0]), (59, .iastore, 1, 60, []), (60, .aload_n 0, 1, 61, []), (61, .iload 5, 2, 63, []), (63, .putfield 257, 3, 66, [10, 35, 1046, 0]), (66, .return_, 1, 67, [])])])
theorem okX10_enter : sk_ok mX10_enter := show ∀ c ∈ mX10_enter.2.2.2.2, ∀ e ∈ c.2, sk_okI mX10_enter e = true from by decide +kernel
def mX10_judge : sk_M := (yX10_judge, cX10_judge, 8, (some .int), [(26, [(0, .iload_n 1, 1, 1, []), (1, .istore 4, 2, 3, []), (3, .iload 4, 2, 5, []), (5, .iconst (-1), 1, 6, []), (6, .if_icmp .eq 156, 3, 9, [162]), (9, .aload_n 0, 1, 10, []), (10, .getfield 99, 3, 13, [10, 31, 1042, 3]), (13, .iload 4, 2, 15, []), (15, .iaload, 1, 16, []), (16, .istore 5, 2, 18, []), (18, .aload_n 0, 1, 19, []), (19, .iload 5, 2, 21, []), (21, .iload_n 2, 1, 22, []), (22, .iload_n 3, 1, 23, []), (23, .invokevirtual 260, 3, 26, []), (26, .istore 6, 2, 28, [])]),
  (57, [(28, .aload_n 0, 1, 29, []), (29, .getfield 108, 3, 32, [10, 34, 1045, 3]), (32, .iload 4, 2, 34, []), (34, .iaload, 1, 35, []), (35, .istore 7, 2, 37, []), (37, .aload_n 0, 1, 38, []), (38, .getfield 96, 3, 41, [10, 30, 1041, 3]), (41, .iload 4, 2, 43, []), (43, .iaload, 1, 44, []), (44, .bipush 20, 2, 46, []), (46, .if_icmp .ne 11, 3, 49, [57]), (49, .iload 6, 2, 51, []), (51, .ifCond .ne 6, 3, 54, [57]), (54, .iload 5, 2, 56, []), (56, .ireturn, 1, 57, []), (57, .aload_n 0, 1, 58, [])]),
  (86, [(58, .getfield 96, 3, 61, [10, 30, 1041, 3]), (61, .iload 4, 2, 63, []), (63, .iaload, 1, 64, []), (64, .iconst 2, 1, 65, []), (65, .if_icmp .ne 37, 3, 68, [102]), (68, .aload_n 0, 1, 69, []), (69, .getfield 102, 3, 72, [10, 32, 1043, 3]), (72, .iload 4, 2, 74, []), (74, .iaload, 1, 75, []), (75, .iload_n 2, 1, 76, []), (76, .if_icmp .ne 26, 3, 79, [102]), (79, .aload_n 0, 1, 80, []), (80, .getfield 105, 3, 83, [10, 33, 1044, 3]), (83, .iload 4, 2, 85, []), (85, .iaload, 1, 86, []), (86, .iload_n 3, 1, 87, [])]),
  (117, [(87, .if_icmp .lt 15, 3, 90, [102]), (90, .iload 6, 2, 92, []), (92, .ifCond .eq 7, 3, 95, [99]), (95, .iconst (-1), 1, 96, []), (96, .goto 5, 3, 99, [101]), (99, .iload 5, 2, 101, []), (101, .ireturn, 1, 102, []), (102, .aload_n 0, 1, 103, []), (103, .getfield 96, 3, 106, [10, 30, 1041, 3]), (106, .iload 4, 2, 108, []), (108, .iaload, 1, 109, []), (109, .iconst 3, 1, 110, []), (110, .if_icmp .ne 17, 3, 113, [127]), (113, .aload_n 0, 1, 114, []), (114, .getfield 102, 3, 117, [10, 32, 1043, 3]), (117, .iload 4, 2, 119, [])]),
  (146, [(119, .iaload, 1, 120, []), (120, .iload_n 2, 1, 121, []), (121, .if_icmp .ne 6, 3, 124, [127]), (124, .iload 5, 2, 126, []), (126, .ireturn, 1, 127, []), (127, .aload_n 0, 1, 128, []), (128, .getfield 96, 3, 131, [10, 30, 1041, 3]), (131, .iload 4, 2, 133, []), (133, .iaload, 1, 134, []), (134, .iconst 5, 1, 135, []), (135, .if_icmp .ne 20, 3, 138, [155]), (138, .iload 6, 2, 140, []), (140, .ifCond .ne 6, 3, 143, [146]), (143, .iload 5, 2, 145, []), (145, .ireturn, 1, 146, []), (146, .aload_n 0, 1, 147, [])]),
  (163, [(147, .getfield 105, 3, 150, [10, 33, 1044, 3]), (150, .iload 4, 2, 152, []), (152, .iaload, 1, 153, []), (153, .istore 7, 2, 155, []), (155, .iload 7, 2, 157, []), (157, .istore 4, 2, 159, []), (159, .goto (-156), 3, 162, [3]), (162, .iconst (-1), 1, 163, []), (163, .ireturn, 1, 164, [])])])
theorem okX10_judge : sk_ok mX10_judge := show ∀ c ∈ mX10_judge.2.2.2.2, ∀ e ∈ c.2, sk_okI mX10_judge e = true from by decide +kernel
def mX10_open : sk_M := (yX10_open, cX10_open, 5, none, [(25, [(0, .aload_n 0, 1, 1, []), (1, .getfield 114, 3, 4, [10, 38, 1049, 3]), (4, .aload_n 0, 1, 5, []), (5, .getfield 263, 3, 8, [10, 37, 1048, 0]), (8, .iload_n 1, 1, 9, []), (9, .iastore, 1, 10, []), (10, .aload_n 0, 1, 11, []), (11, .getfield 117, 3, 14, [10, 39, 1050, 3]), (14, .aload_n 0, 1, 15, []), (15, .getfield 263, 3, 18, [10, 37, 1048, 0]), (18, .iload_n 2, 1, 19, []), (19, .iastore, 1, 20, []), (20, .aload_n 0, 1, 21, []), (21, .getfield 120, 3, 24, [10, 40, 1051, 3]), (24, .aload_n 0, 1, 25, []), (25, .getfield 263, 3, 28, [10, 37, 1048, 0])]),
  (55, [(28, .aload_n 0, 1, 29, []), (29, .getfield 257, 3, 32, [10, 35, 1046, 0]), (32, .iastore, 1, 33, []), (33, .aload_n 0, 1, 34, []), (34, .getfield 123, 3, 37, [10, 41, 1052, 3]), (37, .aload_n 0, 1, 38, []), (38, .getfield 263, 3, 41, [10, 37, 1048, 0]), (41, .iload_n 2, 1, 42, []), (42, .iconst (-1), 1, 43, []), (43, .if_icmp .ne 7, 3, 46, [50]), (46, .iconst (-1), 1, 47, []), (47, .goto 9, 3, 50, [56]), (50, .aload_n 0, 1, 51, []), (51, .getfield 43, 3, 54, [10, 16, 1027, 3]), (54, .iload_n 2, 1, 55, []), (55, .iaload, 1, 56, [])]),
  (80, [(56, .iastore, 1, 57, []), (57, .aload_n 0, 1, 58, []), (58, .getfield 126, 3, 61, [10, 42, 1053, 3]), (61, .aload_n 0, 1, 62, []), (62, .getfield 263, 3, 65, [10, 37, 1048, 0]), (65, .iload 4, 2, 67, []), (67, .iastore, 1, 68, []), (68, .aload_n 0, 1, 69, []), (69, .dup, 1, 70, []), (70, .getfield 263, 3, 73, [10, 37, 1048, 0]), (73, .iconst 1, 1, 74, []), (74, .iadd, 1, 75, []), (75, .putfield 263, 3, 78, [10, 37, 1048, 0]), (78, .aload_n 0, 1, 79, []), (79, .iload_n 3, 1, 80, []), (80, .putfield 266, 3, 83, [10, 43, 1054, 0])]),
  (83, [(83, .return_, 1, 84, [])])])
theorem okX10_open : sk_ok mX10_open := show ∀ c ∈ mX10_open.2.2.2.2, ∀ e ∈ c.2, sk_okI mX10_open e = true from by decide +kernel
def mX10_openMethod : sk_M := (yX10_openMethod, cX10_openMethod, 3, none, [(23, [(0, .aload_n 0, 1, 1, []), (1, .bipush 20, 2, 3, []), (3, .iload_n 1, 1, 4, []), (4, .aload_n 0, 1, 5, []), (5, .getfield 25, 3, 8, [10, 10, 1021, 3]), (8, .iload_n 2, 1, 9, []), (9, .iaload, 1, 10, []), (10, .iconst 0, 1, 11, []), (11, .invokevirtual 269, 3, 14, []), (14, .aload_n 0, 1, 15, []), (15, .bipush 20, 2, 17, []), (17, .aload_n 0, 1, 18, []), (18, .getfield 22, 3, 21, [10, 9, 1020, 3]), (21, .iload_n 2, 1, 22, []), (22, .iaload, 1, 23, []), (23, .iconst (-1), 1, 24, [])]),
  (51, [(24, .iconst (-1), 1, 25, []), (25, .invokevirtual 273, 3, 28, []), (28, .aload_n 0, 1, 29, []), (29, .dup, 1, 30, []), (30, .getfield 276, 3, 33, [10, 44, 1055, 0]), (33, .iconst 1, 1, 34, []), (34, .iadd, 1, 35, []), (35, .putfield 276, 3, 38, [10, 44, 1055, 0]), (38, .aload_n 0, 1, 39, []), (39, .aload_n 0, 1, 40, []), (40, .getfield 276, 3, 43, [10, 44, 1055, 0]), (43, .aload_n 0, 1, 44, []), (44, .getfield 279, 3, 47, [10, 54, 1065, 0]), (47, .if_icmp .le 10, 3, 50, [57]), (50, .aload_n 0, 1, 51, []), (51, .getfield 276, 3, 54, [10, 44, 1055, 0])]),
  (64, [(54, .goto 7, 3, 57, [61]), (57, .aload_n 0, 1, 58, []), (58, .getfield 279, 3, 61, [10, 54, 1065, 0]), (61, .putfield 279, 3, 64, [10, 54, 1065, 0]), (64, .return_, 1, 65, [])])])
theorem okX10_openMethod : sk_ok mX10_openMethod := show ∀ c ∈ mX10_openMethod.2.2.2.2, ∀ e ∈ c.2, sk_okI mX10_openMethod e = true from by decide +kernel
def mX10_close : sk_M := (yX10_close, cX10_close, 1, none, [(25, [(0, .aload_n 0, 1, 1, []), (1, .dup, 1, 2, []), (2, .getfield 263, 3, 5, [10, 37, 1048, 0]), (5, .iconst 1, 1, 6, []), (6, .isub, 1, 7, []), (7, .putfield 263, 3, 10, [10, 37, 1048, 0]), (10, .aload_n 0, 1, 11, []), (11, .aload_n 0, 1, 12, []), (12, .getfield 120, 3, 15, [10, 40, 1051, 3]), (15, .aload_n 0, 1, 16, []), (16, .getfield 263, 3, 19, [10, 37, 1048, 0]), (19, .iaload, 1, 20, []), (20, .putfield 257, 3, 23, [10, 35, 1046, 0]), (23, .aload_n 0, 1, 24, []), (24, .aload_n 0, 1, 25, []), (25, .getfield 123, 3, 28, [10, 41, 1052, 3])]),
  (56, [(28, .aload_n 0, 1, 29, []), (29, .getfield 263, 3, 32, [10, 37, 1048, 0]), (32, .iaload, 1, 33, []), (33, .putfield 266, 3, 36, [10, 43, 1054, 0]), (36, .aload_n 0, 1, 37, []), (37, .dup, 1, 38, []), (38, .getfield 276, 3, 41, [10, 44, 1055, 0]), (41, .aload_n 0, 1, 42, []), (42, .getfield 114, 3, 45, [10, 38, 1049, 3]), (45, .aload_n 0, 1, 46, []), (46, .getfield 263, 3, 49, [10, 37, 1048, 0]), (49, .iaload, 1, 50, []), (50, .bipush 20, 2, 52, []), (52, .if_icmp .ne 7, 3, 55, [59]), (55, .iconst 1, 1, 56, []), (56, .goto 4, 3, 59, [60])]),
  (64, [(59, .iconst 0, 1, 60, []), (60, .isub, 1, 61, []), (61, .putfield 276, 3, 64, [10, 44, 1055, 0]), (64, .return_, 1, 65, [])])])
theorem okX10_close : sk_ok mX10_close := show ∀ c ∈ mX10_close.2.2.2.2, ∀ e ∈ c.2, sk_okI mX10_close e = true from by decide +kernel
def mX10_say : sk_M := (yX10_say, cX10_say, 2, none, [(20, [(0, .aload_n 0, 1, 1, []), (1, .getfield 135, 3, 4, [10, 57, 1068, 3]), (4, .aload_n 0, 1, 5, []), (5, .getfield 282, 3, 8, [10, 58, 1069, 0]), (8, .iload_n 1, 1, 9, []), (9, .iastore, 1, 10, []), (10, .aload_n 0, 1, 11, []), (11, .dup, 1, 12, []), (12, .getfield 282, 3, 15, [10, 58, 1069, 0]), (15, .iconst 1, 1, 16, []), (16, .iadd, 1, 17, []), (17, .putfield 282, 3, 20, [10, 58, 1069, 0]), (20, .return_, 1, 21, [])])])
theorem okX10_say : sk_ok mX10_say := show ∀ c ∈ mX10_say.2.2.2.2, ∀ e ∈ c.2, sk_okI mX10_say e = true from by decide +kernel
def mX10_fail : sk_M := (yX10_fail, cX10_fail, 4, none, [(23, [(0, .aload_n 0, 1, 1, []), (1, .dup, 1, 2, []), (2, .getfield 285, 3, 5, [10, 52, 1063, 0]), (5, .iconst 1, 1, 6, []), (6, .iadd, 1, 7, []), (7, .putfield 285, 3, 10, [10, 52, 1063, 0]), (10, .aload_n 0, 1, 11, []), (11, .sipush 10000, 3, 14, []), (14, .sipush 1000, 3, 17, []), (17, .iload_n 2, 1, 18, []), (18, .iconst 1, 1, 19, []), (19, .iadd, 1, 20, []), (20, .imul, 1, 21, []), (21, .iadd, 1, 22, []), (22, .iload_n 1, 1, 23, []), (23, .iadd, 1, 24, [])]),
  (54, [(24, .invokevirtual 288, 3, 27, []), (27, .aload_n 0, 1, 28, []), (28, .getfield 263, 3, 31, [10, 37, 1048, 0]), (31, .ifCond .le 26, 3, 34, [57]), (34, .aload_n 0, 1, 35, []), (35, .getfield 114, 3, 38, [10, 38, 1049, 3]), (38, .aload_n 0, 1, 39, []), (39, .getfield 263, 3, 42, [10, 37, 1048, 0]), (42, .iconst 1, 1, 43, []), (43, .isub, 1, 44, []), (44, .iaload, 1, 45, []), (45, .bipush 7, 2, 47, []), (47, .if_icmp .eq 10, 3, 50, [57]), (50, .aload_n 0, 1, 51, []), (51, .invokevirtual 290, 3, 54, []), (54, .goto (-27), 3, 57, [27])]),
  (84, [(57, .aload_n 0, 1, 58, []), (58, .getfield 263, 3, 61, [10, 37, 1048, 0]), (61, .ifCond .ne 14, 3, 64, [75]), (64, .aload_n 0, 1, 65, []), (65, .dup, 1, 66, []), (66, .getfield 293, 3, 69, [10, 53, 1064, 0]), (69, .iconst 1, 1, 70, []), (70, .iadd, 1, 71, []), (71, .putfield 293, 3, 74, [10, 53, 1064, 0]), (74, .return_, 1, 75, []), (75, .aload_n 0, 1, 76, []), (76, .getfield 117, 3, 79, [10, 39, 1050, 3]), (79, .aload_n 0, 1, 80, []), (80, .getfield 263, 3, 83, [10, 37, 1048, 0]), (83, .iconst 1, 1, 84, []), (84, .isub, 1, 85, [])]),
  (105, [(85, .iaload, 1, 86, []), (86, .istore_n 3, 1, 87, []), (87, .aload_n 0, 1, 88, []), (88, .invokevirtual 290, 3, 91, []), (91, .aload_n 0, 1, 92, []), (92, .bipush 14, 2, 94, []), (94, .iload_n 3, 1, 95, []), (95, .aload_n 0, 1, 96, []), (96, .getfield 49, 3, 99, [10, 18, 1029, 3]), (99, .iload_n 3, 1, 100, []), (100, .iaload, 1, 101, []), (101, .iconst 0, 1, 102, []), (102, .invokevirtual 269, 3, 105, []), (105, .return_, 1, 106, [])])])
theorem okX10_fail : sk_ok mX10_fail := show ∀ c ∈ mX10_fail.2.2.2.2, ∀ e ∈ c.2, sk_okI mX10_fail e = true from by decide +kernel
def mX10_takeBit : sk_M := (yX10_takeBit, cX10_takeBit, 1, (some .int), [(27, [(0, .aload_n 0, 1, 1, []), (1, .getfield 296, 3, 4, [10, 55, 1066, 0]), (4, .aload_n 0, 1, 5, []), (5, .getfield 181, 3, 8, [10, 5, 1016, 0]), (8, .if_icmp .ne 5, 3, 11, [13]), (11, .iconst 0, 1, 12, []), (12, .ireturn, 1, 13, []), (13, .aload_n 0, 1, 14, []), (14, .dup, 1, 15, []), (15, .getfield 296, 3, 18, [10, 55, 1066, 0]), (18, .iconst 1, 1, 19, []), (19, .iadd, 1, 20, []), (20, .putfield 296, 3, 23, [10, 55, 1066, 0]), (23, .aload_n 0, 1, 24, []), (24, .getfield 16, 3, 27, [10, 4, 1015, 3]), (27, .aload_n 0, 1, 28, [])]),
  (34, [(28, .getfield 296, 3, 31, [10, 55, 1066, 0]), (31, .iconst 1, 1, 32, []), (32, .isub, 1, 33, []), (33, .iaload, 1, 34, []), (34, .ireturn, 1, 35, [])])])
theorem okX10_takeBit : sk_ok mX10_takeBit := show ∀ c ∈ mX10_takeBit.2.2.2.2, ∀ e ∈ c.2, sk_okI mX10_takeBit e = true from by decide +kernel
def mX10_perform : sk_M := (yX10_perform, cX10_perform, 4, none, [(23, [(0, .aload_n 0, 1, 1, []), (1, .getfield 22, 3, 4, [10, 9, 1020, 3]), (4, .aload_n 0, 1, 5, []), (5, .getfield 34, 3, 8, [10, 13, 1024, 3]), (8, .iload_n 1, 1, 9, []), (9, .iaload, 1, 10, []), (10, .iaload, 1, 11, []), (11, .istore_n 2, 1, 12, []), (12, .aload_n 0, 1, 13, []), (13, .aload_n 0, 1, 14, []), (14, .getfield 43, 3, 17, [10, 16, 1027, 3]), (17, .iload_n 1, 1, 18, []), (18, .iaload, 1, 19, []), (19, .putfield 266, 3, 22, [10, 43, 1054, 0]), (22, .aload_n 0, 1, 23, []), (23, .getfield 31, 3, 26, [10, 12, 1023, 3])]),
  (112, [(26, .iload_n 1, 1, 27, []), (27, .iaload, 1, 28, []), (28, .tableswitch 482 0 11 #[64, 109, 140, 140, 184, 202, 265, 323, 340, 373, 386, 448], 64, 92, [510, 92, 137, 168, 168, 212, 230, 293, 351, 368, 401, 414, 476]), (92, .aload_n 0, 1, 93, []), (93, .dup, 1, 94, []), (94, .getfield 299, 3, 97, [10, 56, 1067, 0]), (97, .iconst 1, 1, 98, []), (98, .iadd, 1, 99, []), (99, .putfield 299, 3, 102, [10, 56, 1067, 0]), (102, .aload_n 0, 1, 103, []), (103, .aload_n 0, 1, 104, []), (104, .getfield 257, 3, 107, [10, 35, 1046, 0]), (107, .aload_n 0, 1, 108, []), (108, .getfield 37, 3, 111, [10, 14, 1025, 3]), (111, .iload_n 1, 1, 112, []), (112, .iaload, 1, 113, [])]),
  (138, [(113, .aload_n 0, 1, 114, []), (114, .getfield 40, 3, 117, [10, 15, 1026, 3]), (117, .iload_n 1, 1, 118, []), (118, .iaload, 1, 119, []), (119, .invokevirtual 302, 3, 122, []), (122, .istore_n 3, 1, 123, []), (123, .iload_n 3, 1, 124, []), (124, .iconst (-1), 1, 125, []), (125, .if_icmp .eq 412, 3, 128, [537]), (128, .aload_n 0, 1, 129, []), (129, .iload_n 1, 1, 130, []), (130, .iload_n 3, 1, 131, []), (131, .invokevirtual 306, 3, 134, []), (134, .goto 403, 3, 137, [537]), (137, .aload_n 0, 1, 138, []), (138, .getfield 276, 3, 141, [10, 44, 1055, 0])]),
  (169, [(141, .bipush 40, 2, 143, []), (143, .if_icmp .ne 11, 3, 146, [154]), (146, .aload_n 0, 1, 147, []), (147, .iconst 2, 1, 148, []), (148, .putfield 310, 3, 151, [10, 49, 1060, 0]), (151, .goto 386, 3, 154, [537]), (154, .aload_n 0, 1, 155, []), (155, .iload_n 1, 1, 156, []), (156, .aload_n 0, 1, 157, []), (157, .getfield 37, 3, 160, [10, 14, 1025, 3]), (160, .iload_n 1, 1, 161, []), (161, .iaload, 1, 162, []), (162, .invokevirtual 313, 3, 165, []), (165, .goto 372, 3, 168, [537]), (168, .aload_n 0, 1, 169, []), (169, .aload_n 0, 1, 170, [])]),
  (193, [(170, .getfield 31, 3, 173, [10, 12, 1023, 3]), (173, .iload_n 1, 1, 174, []), (174, .iaload, 1, 175, []), (175, .iload_n 1, 1, 176, []), (176, .aload_n 0, 1, 177, []), (177, .getfield 46, 3, 180, [10, 17, 1028, 3]), (180, .iload_n 1, 1, 181, []), (181, .iaload, 1, 182, []), (182, .iconst 0, 1, 183, []), (183, .invokevirtual 269, 3, 186, []), (186, .aload_n 0, 1, 187, []), (187, .aload_n 0, 1, 188, []), (188, .getfield 31, 3, 191, [10, 12, 1023, 3]), (191, .iload_n 1, 1, 192, []), (192, .iaload, 1, 193, []), (193, .iload_n 2, 1, 194, [])]),
  (221, [(194, .aload_n 0, 1, 195, []), (195, .getfield 37, 3, 198, [10, 14, 1025, 3]), (198, .iload_n 1, 1, 199, []), (199, .iaload, 1, 200, []), (200, .aload_n 0, 1, 201, []), (201, .getfield 40, 3, 204, [10, 15, 1026, 3]), (204, .iload_n 1, 1, 205, []), (205, .iaload, 1, 206, []), (206, .invokevirtual 273, 3, 209, []), (209, .goto 328, 3, 212, [537]), (212, .aload_n 0, 1, 213, []), (213, .getfield 111, 3, 216, [10, 36, 1047, 3]), (216, .aload_n 0, 1, 217, []), (217, .getfield 37, 3, 220, [10, 14, 1025, 3]), (220, .iload_n 1, 1, 221, []), (221, .iaload, 1, 222, [])]),
  (247, [(222, .aload_n 0, 1, 223, []), (223, .getfield 257, 3, 226, [10, 35, 1046, 0]), (226, .iastore, 1, 227, []), (227, .goto 310, 3, 230, [537]), (230, .aload_n 0, 1, 231, []), (231, .getfield 111, 3, 234, [10, 36, 1047, 3]), (234, .aload_n 0, 1, 235, []), (235, .getfield 37, 3, 238, [10, 14, 1025, 3]), (238, .iload_n 1, 1, 239, []), (239, .iaload, 1, 240, []), (240, .iaload, 1, 241, []), (241, .iconst (-1), 1, 242, []), (242, .if_icmp .ne 12, 3, 245, [254]), (245, .aload_n 0, 1, 246, []), (246, .iload_n 1, 1, 247, []), (247, .iconst (-1), 1, 248, [])]),
  (271, [(248, .invokevirtual 306, 3, 251, []), (251, .goto 286, 3, 254, [537]), (254, .aload_n 0, 1, 255, []), (255, .iconst 5, 1, 256, []), (256, .iload_n 1, 1, 257, []), (257, .aload_n 0, 1, 258, []), (258, .getfield 46, 3, 261, [10, 17, 1028, 3]), (261, .iload_n 1, 1, 262, []), (262, .iaload, 1, 263, []), (263, .iconst 0, 1, 264, []), (264, .invokevirtual 269, 3, 267, []), (267, .aload_n 0, 1, 268, []), (268, .iconst 5, 1, 269, []), (269, .iload_n 2, 1, 270, []), (270, .aload_n 0, 1, 271, []), (271, .getfield 37, 3, 274, [10, 14, 1025, 3])]),
  (302, [(274, .iload_n 1, 1, 275, []), (275, .iaload, 1, 276, []), (276, .aload_n 0, 1, 277, []), (277, .getfield 111, 3, 280, [10, 36, 1047, 3]), (280, .aload_n 0, 1, 281, []), (281, .getfield 37, 3, 284, [10, 14, 1025, 3]), (284, .iload_n 1, 1, 285, []), (285, .iaload, 1, 286, []), (286, .iaload, 1, 287, []), (287, .invokevirtual 273, 3, 290, []), (290, .goto 247, 3, 293, [537]), (293, .aload_n 0, 1, 294, []), (294, .getfield 316, 3, 297, [10, 47, 1058, 0]), (297, .bipush 20, 2, 299, []), (299, .if_icmp .ne 11, 3, 302, [310]), (302, .aload_n 0, 1, 303, [])]),
  (330, [(303, .iconst 3, 1, 304, []), (304, .putfield 310, 3, 307, [10, 49, 1060, 0]), (307, .goto 230, 3, 310, [537]), (310, .aload_n 0, 1, 311, []), (311, .getfield 129, 3, 314, [10, 45, 1056, 3]), (314, .aload_n 0, 1, 315, []), (315, .getfield 316, 3, 318, [10, 47, 1058, 0]), (318, .aload_n 0, 1, 319, []), (319, .getfield 37, 3, 322, [10, 14, 1025, 3]), (322, .iload_n 1, 1, 323, []), (323, .iaload, 1, 324, []), (324, .iastore, 1, 325, []), (325, .aload_n 0, 1, 326, []), (326, .getfield 132, 3, 329, [10, 46, 1057, 3]), (329, .aload_n 0, 1, 330, []), (330, .getfield 316, 3, 333, [10, 47, 1058, 0])]),
  (359, [(333, .aload_n 0, 1, 334, []), (334, .getfield 257, 3, 337, [10, 35, 1046, 0]), (337, .iastore, 1, 338, []), (338, .aload_n 0, 1, 339, []), (339, .dup, 1, 340, []), (340, .getfield 316, 3, 343, [10, 47, 1058, 0]), (343, .iconst 1, 1, 344, []), (344, .iadd, 1, 345, []), (345, .putfield 316, 3, 348, [10, 47, 1058, 0]), (348, .goto 189, 3, 351, [537]), (351, .aload_n 0, 1, 352, []), (352, .bipush 7, 2, 354, []), (354, .iload_n 1, 1, 355, []), (355, .aload_n 0, 1, 356, []), (356, .getfield 46, 3, 359, [10, 17, 1028, 3]), (359, .iload_n 1, 1, 360, [])]),
  (386, [(360, .iaload, 1, 361, []), (361, .iconst 0, 1, 362, []), (362, .invokevirtual 269, 3, 365, []), (365, .goto 172, 3, 368, [537]), (368, .aload_n 0, 1, 369, []), (369, .getfield 37, 3, 372, [10, 14, 1025, 3]), (372, .iload_n 1, 1, 373, []), (373, .iaload, 1, 374, []), (374, .ifCond .le 163, 3, 377, [537]), (377, .aload_n 0, 1, 378, []), (378, .bipush 8, 2, 380, []), (380, .iload_n 1, 1, 381, []), (381, .aload_n 0, 1, 382, []), (382, .getfield 46, 3, 385, [10, 17, 1028, 3]), (385, .iload_n 1, 1, 386, []), (386, .iaload, 1, 387, [])]),
  (414, [(387, .aload_n 0, 1, 388, []), (388, .getfield 37, 3, 391, [10, 14, 1025, 3]), (391, .iload_n 1, 1, 392, []), (392, .iaload, 1, 393, []), (393, .iconst 1, 1, 394, []), (394, .isub, 1, 395, []), (395, .invokevirtual 269, 3, 398, []), (398, .goto 139, 3, 401, [537]), (401, .aload_n 0, 1, 402, []), (402, .aload_n 0, 1, 403, []), (403, .getfield 37, 3, 406, [10, 14, 1025, 3]), (406, .iload_n 1, 1, 407, []), (407, .iaload, 1, 408, []), (408, .invokevirtual 288, 3, 411, []), (411, .goto 126, 3, 414, [537]), (414, .aload_n 0, 1, 415, [])]),
  (440, [(415, .dup, 1, 416, []), (416, .getfield 299, 3, 419, [10, 56, 1067, 0]), (419, .iconst 1, 1, 420, []), (420, .iadd, 1, 421, []), (421, .putfield 299, 3, 424, [10, 56, 1067, 0]), (424, .aload_n 0, 1, 425, []), (425, .aload_n 0, 1, 426, []), (426, .getfield 257, 3, 429, [10, 35, 1046, 0]), (429, .aload_n 0, 1, 430, []), (430, .getfield 37, 3, 433, [10, 14, 1025, 3]), (433, .iload_n 1, 1, 434, []), (434, .iaload, 1, 435, []), (435, .aload_n 0, 1, 436, []), (436, .getfield 40, 3, 439, [10, 15, 1026, 3]), (439, .iload_n 1, 1, 440, []), (440, .iaload, 1, 441, [])]),
  (467, [(441, .invokevirtual 302, 3, 444, []), (444, .istore_n 3, 1, 445, []), (445, .aload_n 0, 1, 446, []), (446, .bipush 10, 2, 448, []), (448, .iload_n 1, 1, 449, []), (449, .iload_n 3, 1, 450, []), (450, .iconst (-1), 1, 451, []), (451, .if_icmp .ne 12, 3, 454, [463]), (454, .aload_n 0, 1, 455, []), (455, .getfield 46, 3, 458, [10, 17, 1028, 3]), (458, .iload_n 1, 1, 459, []), (459, .iaload, 1, 460, []), (460, .goto 9, 3, 463, [469]), (463, .aload_n 0, 1, 464, []), (464, .getfield 49, 3, 467, [10, 18, 1029, 3]), (467, .iload_n 1, 1, 468, [])]),
  (494, [(468, .iaload, 1, 469, []), (469, .iconst 0, 1, 470, []), (470, .invokevirtual 269, 3, 473, []), (473, .goto 64, 3, 476, [537]), (476, .aload_n 0, 1, 477, []), (477, .bipush 11, 2, 479, []), (479, .iload_n 1, 1, 480, []), (480, .aload_n 0, 1, 481, []), (481, .invokevirtual 319, 3, 484, []), (484, .iconst 1, 1, 485, []), (485, .if_icmp .ne 12, 3, 488, [497]), (488, .aload_n 0, 1, 489, []), (489, .getfield 46, 3, 492, [10, 17, 1028, 3]), (492, .iload_n 1, 1, 493, []), (493, .iaload, 1, 494, []), (494, .goto 9, 3, 497, [503])]),
  (523, [(497, .aload_n 0, 1, 498, []), (498, .getfield 49, 3, 501, [10, 18, 1029, 3]), (501, .iload_n 1, 1, 502, []), (502, .iaload, 1, 503, []), (503, .iconst 0, 1, 504, []), (504, .invokevirtual 269, 3, 507, []), (507, .goto 30, 3, 510, [537]), (510, .aload_n 0, 1, 511, []), (511, .getfield 114, 3, 514, [10, 38, 1049, 3]), (514, .aload_n 0, 1, 515, []), (515, .getfield 263, 3, 518, [10, 37, 1048, 0]), (518, .iconst 1, 1, 519, []), (519, .isub, 1, 520, []), (520, .iaload, 1, 521, []), (521, .bipush 20, 2, 523, []), (523, .if_icmp .eq 10, 3, 526, [533])]),
  (537, [(526, .aload_n 0, 1, 527, []), (527, .invokevirtual 290, 3, 530, []), (530, .goto (-20), 3, 533, [510]), (533, .aload_n 0, 1, 534, []), (534, .invokevirtual 290, 3, 537, []), (537, .return_, 1, 538, [])])])
theorem okX10_perform : sk_ok mX10_perform := show ∀ c ∈ mX10_perform.2.2.2.2, ∀ e ∈ c.2, sk_okI mX10_perform e = true from by decide +kernel
def mX10_finish : sk_M := (yX10_finish, cX10_finish, 2, none, [(24, [(0, .aload_n 0, 1, 1, []), (1, .getfield 263, 3, 4, [10, 37, 1048, 0]), (4, .iconst 1, 1, 5, []), (5, .isub, 1, 6, []), (6, .istore_n 1, 1, 7, []), (7, .aload_n 0, 1, 8, []), (8, .getfield 114, 3, 11, [10, 38, 1049, 3]), (11, .iload_n 1, 1, 12, []), (12, .iaload, 1, 13, []), (13, .bipush 8, 2, 15, []), (15, .if_icmp .ne 40, 3, 18, [55]), (18, .aload_n 0, 1, 19, []), (19, .getfield 126, 3, 22, [10, 42, 1053, 3]), (22, .iload_n 1, 1, 23, []), (23, .iaload, 1, 24, []), (24, .ifCond .le 31, 3, 27, [55])]),
  (48, [(27, .aload_n 0, 1, 28, []), (28, .getfield 126, 3, 31, [10, 42, 1053, 3]), (31, .iload_n 1, 1, 32, []), (32, .dup2, 1, 33, []), (33, .iaload, 1, 34, []), (34, .iconst 1, 1, 35, []), (35, .isub, 1, 36, []), (36, .iastore, 1, 37, []), (37, .aload_n 0, 1, 38, []), (38, .aload_n 0, 1, 39, []), (39, .getfield 46, 3, 42, [10, 17, 1028, 3]), (42, .aload_n 0, 1, 43, []), (43, .getfield 117, 3, 46, [10, 39, 1050, 3]), (46, .iload_n 1, 1, 47, []), (47, .iaload, 1, 48, []), (48, .iaload, 1, 49, [])]),
  (59, [(49, .putfield 266, 3, 52, [10, 43, 1054, 0]), (52, .goto 7, 3, 55, [59]), (55, .aload_n 0, 1, 56, []), (56, .invokevirtual 290, 3, 59, []), (59, .return_, 1, 60, [])])])
theorem okX10_finish : sk_ok mX10_finish := show ∀ c ∈ mX10_finish.2.2.2.2, ∀ e ∈ c.2, sk_okI mX10_finish e = true from by decide +kernel
def mX10_doJob : sk_M := (yX10_doJob, cX10_doJob, 4, none, [(25, [(0, .aload_n 0, 1, 1, []), (1, .iload_n 2, 1, 2, []), (2, .putfield 257, 3, 5, [10, 35, 1046, 0]), (5, .aload_n 0, 1, 6, []), (6, .iconst 0, 1, 7, []), (7, .putfield 263, 3, 10, [10, 37, 1048, 0]), (10, .aload_n 0, 1, 11, []), (11, .iconst 0, 1, 12, []), (12, .putfield 276, 3, 15, [10, 44, 1055, 0]), (15, .aload_n 0, 1, 16, []), (16, .dup, 1, 17, []), (17, .getfield 322, 3, 20, [10, 48, 1059, 0]), (20, .iconst 1, 1, 21, []), (21, .iadd, 1, 22, []), (22, .putfield 322, 3, 25, [10, 48, 1059, 0]), (25, .aload_n 0, 1, 26, [])]),
  (55, [(26, .iconst (-1), 1, 27, []), (27, .iload_n 1, 1, 28, []), (28, .invokevirtual 313, 3, 31, []), (31, .aload_n 0, 1, 32, []), (32, .getfield 263, 3, 35, [10, 37, 1048, 0]), (35, .ifCond .le 63, 3, 38, [98]), (38, .aload_n 0, 1, 39, []), (39, .getfield 310, 3, 42, [10, 49, 1060, 0]), (42, .iconst (-1), 1, 43, []), (43, .if_icmp .ne 55, 3, 46, [98]), (46, .aload_n 0, 1, 47, []), (47, .getfield 266, 3, 50, [10, 43, 1054, 0]), (50, .iconst (-1), 1, 51, []), (51, .if_icmp .ne 10, 3, 54, [61]), (54, .aload_n 0, 1, 55, []), (55, .invokevirtual 325, 3, 58, [])]),
  (87, [(58, .goto (-27), 3, 61, [31]), (61, .aload_n 0, 1, 62, []), (62, .getfield 328, 3, 65, [10, 51, 1062, 0]), (65, .iload_n 3, 1, 66, []), (66, .if_icmp .ne 11, 3, 69, [77]), (69, .aload_n 0, 1, 70, []), (70, .iconst 1, 1, 71, []), (71, .putfield 310, 3, 74, [10, 49, 1060, 0]), (74, .goto (-43), 3, 77, [31]), (77, .aload_n 0, 1, 78, []), (78, .dup, 1, 79, []), (79, .getfield 328, 3, 82, [10, 51, 1062, 0]), (82, .iconst 1, 1, 83, []), (83, .iadd, 1, 84, []), (84, .putfield 328, 3, 87, [10, 51, 1062, 0]), (87, .aload_n 0, 1, 88, [])]),
  (98, [(88, .aload_n 0, 1, 89, []), (89, .getfield 266, 3, 92, [10, 43, 1054, 0]), (92, .invokevirtual 331, 3, 95, []), (95, .goto (-64), 3, 98, [31]), (98, .return_, 1, 99, [])])])
theorem okX10_doJob : sk_ok mX10_doJob := show ∀ c ∈ mX10_doJob.2.2.2.2, ∀ e ∈ c.2, sk_okI mX10_doJob e = true from by decide +kernel
def mX10_run : sk_M := (yX10_run, cX10_run, 4, (some .int), [(24, [(0, .aload_n 0, 1, 1, []), (1, .iconst 0, 1, 2, []), (2, .putfield 166, 3, 5, [10, 0, 1011, 0]), (5, .aload_n 0, 1, 6, []), (6, .getfield 244, 3, 9, [10, 7, 1018, 1]), (9, .ifCond .ne 6, 3, 12, [15]), (12, .bipush (-4), 2, 14, []), (14, .ireturn, 1, 15, []), (15, .iload_n 1, 1, 16, []), (16, .iconst 0, 1, 17, []), (17, .aload_n 0, 1, 18, []), (18, .getfield 19, 3, 21, [10, 8, 1019, 3]), (21, .iconst 0, 1, 22, []), (22, .iaload, 1, 23, []), (23, .iconst 1, 1, 24, []), (24, .isub, 1, 25, [])]),
  (55, [(25, .invokestatic 177, 3, 28, []), (28, .ifCond .eq 14, 3, 31, [42]), (31, .iload_n 2, 1, 32, []), (32, .iconst 0, 1, 33, []), (33, .sipush 3000, 3, 36, []), (36, .invokestatic 177, 3, 39, []), (39, .ifCond .ne 6, 3, 42, [45]), (42, .bipush (-3), 2, 44, []), (44, .ireturn, 1, 45, []), (45, .aload_n 0, 1, 46, []), (46, .iconst 1, 1, 47, []), (47, .putfield 248, 3, 50, [10, 50, 1061, 1]), (50, .aload_n 0, 1, 51, []), (51, .iconst 0, 1, 52, []), (52, .putfield 254, 3, 55, [10, 29, 1040, 0]), (55, .aload_n 0, 1, 56, [])]),
  (81, [(56, .iconst 0, 1, 57, []), (57, .putfield 316, 3, 60, [10, 47, 1058, 0]), (60, .aload_n 0, 1, 61, []), (61, .iconst 0, 1, 62, []), (62, .putfield 322, 3, 65, [10, 48, 1059, 0]), (65, .aload_n 0, 1, 66, []), (66, .iconst 0, 1, 67, []), (67, .putfield 328, 3, 70, [10, 51, 1062, 0]), (70, .aload_n 0, 1, 71, []), (71, .iconst 0, 1, 72, []), (72, .putfield 285, 3, 75, [10, 52, 1063, 0]), (75, .aload_n 0, 1, 76, []), (76, .iconst 0, 1, 77, []), (77, .putfield 293, 3, 80, [10, 53, 1064, 0]), (80, .aload_n 0, 1, 81, []), (81, .iconst 0, 1, 82, [])]),
  (107, [(82, .putfield 279, 3, 85, [10, 54, 1065, 0]), (85, .aload_n 0, 1, 86, []), (86, .iconst 0, 1, 87, []), (87, .putfield 296, 3, 90, [10, 55, 1066, 0]), (90, .aload_n 0, 1, 91, []), (91, .iconst 0, 1, 92, []), (92, .putfield 299, 3, 95, [10, 56, 1067, 0]), (95, .aload_n 0, 1, 96, []), (96, .iconst 0, 1, 97, []), (97, .putfield 282, 3, 100, [10, 58, 1069, 0]), (100, .iconst 0, 1, 101, []), (101, .istore_n 3, 1, 102, []), (102, .iload_n 3, 1, 103, []), (103, .iconst 4, 1, 104, []), (104, .if_icmp .ge 16, 3, 107, [120]), (107, .aload_n 0, 1, 108, [])]),
  (133, [(108, .getfield 111, 3, 111, [10, 36, 1047, 3]), (111, .iload_n 3, 1, 112, []), (112, .iconst (-1), 1, 113, []), (113, .iastore, 1, 114, []), (114, .iinc 3 1, 3, 117, []), (117, .goto (-15), 3, 120, [102]), (120, .aload_n 0, 1, 121, []), (121, .iconst (-1), 1, 122, []), (122, .putfield 310, 3, 125, [10, 49, 1060, 0]), (125, .aload_n 0, 1, 126, []), (126, .iload_n 1, 1, 127, []), (127, .iconst (-1), 1, 128, []), (128, .iload_n 2, 1, 129, []), (129, .invokevirtual 334, 3, 132, []), (132, .iconst 0, 1, 133, []), (133, .istore_n 3, 1, 134, [])]),
  (161, [(134, .iload_n 3, 1, 135, []), (135, .aload_n 0, 1, 136, []), (136, .getfield 316, 3, 139, [10, 47, 1058, 0]), (139, .if_icmp .ge 34, 3, 142, [173]), (142, .aload_n 0, 1, 143, []), (143, .getfield 310, 3, 146, [10, 49, 1060, 0]), (146, .iconst (-1), 1, 147, []), (147, .if_icmp .ne 26, 3, 150, [173]), (150, .aload_n 0, 1, 151, []), (151, .aload_n 0, 1, 152, []), (152, .getfield 129, 3, 155, [10, 45, 1056, 3]), (155, .iload_n 3, 1, 156, []), (156, .iaload, 1, 157, []), (157, .aload_n 0, 1, 158, []), (158, .getfield 132, 3, 161, [10, 46, 1057, 3]), (161, .iload_n 3, 1, 162, [])]),
  (193, [(162, .iaload, 1, 163, []), (163, .iload_n 2, 1, 164, []), (164, .invokevirtual 334, 3, 167, []), (167, .iinc 3 1, 3, 170, []), (170, .goto (-36), 3, 173, [134]), (173, .aload_n 0, 1, 174, []), (174, .aload_n 0, 1, 175, []), (175, .getfield 310, 3, 178, [10, 49, 1060, 0]), (178, .iconst (-1), 1, 179, []), (179, .if_icmp .ne 7, 3, 182, [186]), (182, .iconst 0, 1, 183, []), (183, .goto 7, 3, 186, [190]), (186, .aload_n 0, 1, 187, []), (187, .getfield 310, 3, 190, [10, 49, 1060, 0]), (190, .putfield 310, 3, 193, [10, 49, 1060, 0]), (193, .aload_n 0, 1, 194, [])]),
  (197, [(194, .getfield 310, 3, 197, [10, 49, 1060, 0]), (197, .ireturn, 1, 198, [])])])
theorem okX10_run : sk_ok mX10_run := show ∀ c ∈ mX10_run.2.2.2.2, ∀ e ∈ c.2, sk_okI mX10_run e = true from by decide +kernel
def mX10_ran : sk_M := (yX10_ran, cX10_ran, 2, (some .int), [(27, [(0, .aload_n 0, 1, 1, []), (1, .iconst 0, 1, 2, []), (2, .putfield 166, 3, 5, [10, 0, 1011, 0]), (5, .iload_n 1, 1, 6, []), (6, .iconst 0, 1, 7, []), (7, .bipush 7, 2, 9, []), (9, .invokestatic 177, 3, 12, []), (12, .ifCond .ne 6, 3, 15, [18]), (15, .bipush (-3), 2, 17, []), (17, .ireturn, 1, 18, []), (18, .aload_n 0, 1, 19, []), (19, .getfield 248, 3, 22, [10, 50, 1061, 1]), (22, .ifCond .ne 5, 3, 25, [27]), (25, .iconst (-1), 1, 26, []), (26, .ireturn, 1, 27, []), (27, .iload_n 1, 1, 28, [])]),
  (96, [(28, .tableswitch 79 0 6 #[44, 49, 54, 59, 64, 69, 74], 44, 72, [107, 72, 77, 82, 87, 92, 97, 102]), (72, .aload_n 0, 1, 73, []), (73, .getfield 328, 3, 76, [10, 51, 1062, 0]), (76, .ireturn, 1, 77, []), (77, .aload_n 0, 1, 78, []), (78, .getfield 322, 3, 81, [10, 48, 1059, 0]), (81, .ireturn, 1, 82, []), (82, .aload_n 0, 1, 83, []), (83, .getfield 285, 3, 86, [10, 52, 1063, 0]), (86, .ireturn, 1, 87, []), (87, .aload_n 0, 1, 88, []), (88, .getfield 293, 3, 91, [10, 53, 1064, 0]), (91, .ireturn, 1, 92, []), (92, .aload_n 0, 1, 93, []), (93, .getfield 279, 3, 96, [10, 54, 1065, 0]), (96, .ireturn, 1, 97, [])]),
  (111, [(97, .aload_n 0, 1, 98, []), (98, .getfield 296, 3, 101, [10, 55, 1066, 0]), (101, .ireturn, 1, 102, []), (102, .aload_n 0, 1, 103, []), (103, .getfield 282, 3, 106, [10, 58, 1069, 0]), (106, .ireturn, 1, 107, []), (107, .aload_n 0, 1, 108, []), (108, .getfield 299, 3, 111, [10, 56, 1067, 0]), (111, .ireturn, 1, 112, [])])])
theorem okX10_ran : sk_ok mX10_ran := show ∀ c ∈ mX10_ran.2.2.2.2, ∀ e ∈ c.2, sk_okI mX10_ran e = true from by decide +kernel
def mX10_note : sk_M := (yX10_note, cX10_note, 2, (some .int), [(25, [(0, .aload_n 0, 1, 1, []), (1, .iconst 0, 1, 2, []), (2, .putfield 166, 3, 5, [10, 0, 1011, 0]), (5, .iload_n 1, 1, 6, []), (6, .iconst 0, 1, 7, []), (7, .aload_n 0, 1, 8, []), (8, .getfield 282, 3, 11, [10, 58, 1069, 0]), (11, .iconst 1, 1, 12, []), (12, .isub, 1, 13, []), (13, .invokestatic 177, 3, 16, []), (16, .ifCond .eq 12, 3, 19, [28]), (19, .aload_n 0, 1, 20, []), (20, .getfield 135, 3, 23, [10, 57, 1068, 3]), (23, .iload_n 1, 1, 24, []), (24, .iaload, 1, 25, []), (25, .goto 4, 3, 28, [29])]),
  (29, [(28, .iconst (-1), 1, 29, []), (29, .ireturn, 1, 30, [])])])
theorem okX10_note : sk_ok mX10_note := show ∀ c ∈ mX10_note.2.2.2.2, ∀ e ∈ c.2, sk_okI mX10_note e = true from by decide +kernel
def mX10_pairOf : sk_M := (yX10_pairOf, cX10_pairOf, 5, (some .int), [(25, [(0, .iconst 0, 1, 1, []), (1, .istore_n 2, 1, 2, []), (2, .iload_n 2, 1, 3, []), (3, .aload_n 0, 1, 4, []), (4, .getfield 338, 3, 7, [10, 60, 1071, 0]), (7, .if_icmp .ge 79, 3, 10, [86]), (10, .aload_n 0, 1, 11, []), (11, .getfield 138, 3, 14, [10, 61, 1072, 3]), (14, .iload_n 2, 1, 15, []), (15, .iaload, 1, 16, []), (16, .iload_n 1, 1, 17, []), (17, .if_icmp .ne 7, 3, 20, [24]), (20, .iconst 1, 1, 21, []), (21, .goto 4, 3, 24, [25]), (24, .iconst 0, 1, 25, []), (25, .istore_n 3, 1, 26, [])]),
  (52, [(26, .iconst 0, 1, 27, []), (27, .istore 4, 2, 29, []), (29, .iload 4, 2, 31, []), (31, .bipush 80, 2, 33, []), (33, .if_icmp .ge 41, 3, 36, [74]), (36, .iload_n 3, 1, 37, []), (37, .ifCond .eq 37, 3, 40, [74]), (40, .aload_n 0, 1, 41, []), (41, .getfield 141, 3, 44, [10, 62, 1073, 3]), (44, .bipush 80, 2, 46, []), (46, .iload_n 2, 1, 47, []), (47, .imul, 1, 48, []), (48, .iload 4, 2, 50, []), (50, .iadd, 1, 51, []), (51, .iaload, 1, 52, []), (52, .aload_n 0, 1, 53, [])]),
  (83, [(53, .getfield 157, 3, 56, [10, 67, 1078, 3]), (56, .iload 4, 2, 58, []), (58, .iaload, 1, 59, []), (59, .if_icmp .ne 7, 3, 62, [66]), (62, .iconst 1, 1, 63, []), (63, .goto 4, 3, 66, [67]), (66, .iconst 0, 1, 67, []), (67, .istore_n 3, 1, 68, []), (68, .iinc 4 1, 3, 71, []), (71, .goto (-42), 3, 74, [29]), (74, .iload_n 3, 1, 75, []), (75, .ifCond .eq 5, 3, 78, [80]), (78, .iload_n 2, 1, 79, []), (79, .ireturn, 1, 80, []), (80, .iinc 2 1, 3, 83, []), (83, .goto (-81), 3, 86, [2])]),
  (113, [(86, .aload_n 0, 1, 87, []), (87, .getfield 338, 3, 90, [10, 60, 1071, 0]), (90, .sipush 300, 3, 93, []), (93, .if_icmp .ne 10, 3, 96, [103]), (96, .aload_n 0, 1, 97, []), (97, .iconst 1, 1, 98, []), (98, .putfield 341, 3, 101, [10, 70, 1081, 1]), (101, .iconst 0, 1, 102, []), (102, .ireturn, 1, 103, []), (103, .aload_n 0, 1, 104, []), (104, .getfield 338, 3, 107, [10, 60, 1071, 0]), (107, .istore_n 2, 1, 108, []), (108, .aload_n 0, 1, 109, []), (109, .dup, 1, 110, []), (110, .getfield 338, 3, 113, [10, 60, 1071, 0]), (113, .iconst 1, 1, 114, [])]),
  (139, [(114, .iadd, 1, 115, []), (115, .putfield 338, 3, 118, [10, 60, 1071, 0]), (118, .aload_n 0, 1, 119, []), (119, .getfield 138, 3, 122, [10, 61, 1072, 3]), (122, .iload_n 2, 1, 123, []), (123, .iload_n 1, 1, 124, []), (124, .iastore, 1, 125, []), (125, .iconst 0, 1, 126, []), (126, .istore_n 3, 1, 127, []), (127, .iload_n 3, 1, 128, []), (128, .bipush 80, 2, 130, []), (130, .if_icmp .ge 26, 3, 133, [156]), (133, .aload_n 0, 1, 134, []), (134, .getfield 141, 3, 137, [10, 62, 1073, 3]), (137, .bipush 80, 2, 139, []), (139, .iload_n 2, 1, 140, [])]),
  (163, [(140, .imul, 1, 141, []), (141, .iload_n 3, 1, 142, []), (142, .iadd, 1, 143, []), (143, .aload_n 0, 1, 144, []), (144, .getfield 157, 3, 147, [10, 67, 1078, 3]), (147, .iload_n 3, 1, 148, []), (148, .iaload, 1, 149, []), (149, .iastore, 1, 150, []), (150, .iinc 3 1, 3, 153, []), (153, .goto (-26), 3, 156, [127]), (156, .aload_n 0, 1, 157, []), (157, .getfield 144, 3, 160, [10, 63, 1074, 3]), (160, .iload_n 2, 1, 161, []), (161, .iconst 0, 1, 162, []), (162, .bastore, 1, 163, []), (163, .aload_n 0, 1, 164, [])]),
  (183, [(164, .getfield 148, 3, 167, [10, 64, 1075, 3]), (167, .iload_n 2, 1, 168, []), (168, .iconst 0, 1, 169, []), (169, .bastore, 1, 170, []), (170, .aload_n 0, 1, 171, []), (171, .getfield 151, 3, 174, [10, 65, 1076, 3]), (174, .iload_n 2, 1, 175, []), (175, .iconst 0, 1, 176, []), (176, .bastore, 1, 177, []), (177, .aload_n 0, 1, 178, []), (178, .iconst 1, 1, 179, []), (179, .putfield 344, 3, 182, [10, 71, 1082, 1]), (182, .iload_n 2, 1, 183, []), (183, .ireturn, 1, 184, [])])])
theorem okX10_pairOf : sk_ok mX10_pairOf := show ∀ c ∈ mX10_pairOf.2.2.2.2, ∀ e ∈ c.2, sk_okI mX10_pairOf e = true from by decide +kernel
def mX10_walk : sk_M := (yX10_walk, cX10_walk, 5, (some .int), [(22, [(0, .iconst 1, 1, 1, []), (1, .istore_n 3, 1, 2, []), (2, .iload_n 1, 1, 3, []), (3, .istore 4, 2, 5, []), (5, .iload 4, 2, 7, []), (7, .iconst (-1), 1, 8, []), (8, .if_icmp .eq 34, 3, 11, [42]), (11, .iload_n 3, 1, 12, []), (12, .iconst 1, 1, 13, []), (13, .iand, 1, 14, []), (14, .ifCond .eq 28, 3, 17, [42]), (17, .iload_n 3, 1, 18, []), (18, .bipush (-2), 2, 20, []), (20, .iand, 1, 21, []), (21, .aload_n 0, 1, 22, []), (22, .iload 4, 2, 24, [])]),
  (43, [(24, .iload_n 2, 1, 25, []), (25, .invokevirtual 347, 3, 28, []), (28, .ior, 1, 29, []), (29, .istore_n 3, 1, 30, []), (30, .aload_n 0, 1, 31, []), (31, .getfield 43, 3, 34, [10, 16, 1027, 3]), (34, .iload 4, 2, 36, []), (36, .iaload, 1, 37, []), (37, .istore 4, 2, 39, []), (39, .goto (-34), 3, 42, [5]), (42, .iload_n 3, 1, 43, []), (43, .ireturn, 1, 44, [])])])
theorem okX10_walk : sk_ok mX10_walk := show ∀ c ∈ mX10_walk.2.2.2.2, ∀ e ∈ c.2, sk_okI mX10_walk e = true from by decide +kernel
def mX10_cover : sk_M := (yX10_cover, cX10_cover, 8, none, [(26, [(0, .aload_n 0, 1, 1, []), (1, .getfield 22, 3, 4, [10, 9, 1020, 3]), (4, .aload_n 0, 1, 5, []), (5, .getfield 34, 3, 8, [10, 13, 1024, 3]), (8, .iload_n 1, 1, 9, []), (9, .iaload, 1, 10, []), (10, .iaload, 1, 11, []), (11, .istore_n 3, 1, 12, []), (12, .iconst 0, 1, 13, []), (13, .istore 4, 2, 15, []), (15, .iload 4, 2, 17, []), (17, .bipush 80, 2, 19, []), (19, .if_icmp .ge 128, 3, 22, [147]), (22, .iload 4, 2, 24, []), (24, .bipush 10, 2, 26, []), (26, .idiv, 1, 27, [])]),
  (52, [(27, .istore 5, 2, 29, []), (29, .iload 4, 2, 31, []), (31, .bipush 10, 2, 33, []), (33, .irem, 1, 34, []), (34, .istore 6, 2, 36, []), (36, .aload_n 0, 1, 37, []), (37, .getfield 154, 3, 40, [10, 66, 1077, 3]), (40, .bipush 80, 2, 42, []), (42, .iload_n 2, 1, 43, []), (43, .imul, 1, 44, []), (44, .iload 4, 2, 46, []), (46, .iadd, 1, 47, []), (47, .iaload, 1, 48, []), (48, .istore 7, 2, 50, []), (50, .iload 5, 2, 52, []), (52, .aload_n 0, 1, 53, [])]),
  (80, [(53, .getfield 37, 3, 56, [10, 14, 1025, 3]), (56, .iload_n 1, 1, 57, []), (57, .iaload, 1, 58, []), (58, .if_icmp .ne 16, 3, 61, [74]), (61, .aload_n 0, 1, 62, []), (62, .getfield 31, 3, 65, [10, 12, 1023, 3]), (65, .iload_n 1, 1, 66, []), (66, .iaload, 1, 67, []), (67, .iconst 3, 1, 68, []), (68, .if_icmp .ne 6, 3, 71, [74]), (71, .iload_n 3, 1, 72, []), (72, .istore 7, 2, 74, []), (74, .iload 5, 2, 76, []), (76, .aload_n 0, 1, 77, []), (77, .getfield 37, 3, 80, [10, 14, 1025, 3]), (80, .iload_n 1, 1, 81, [])]),
  (107, [(81, .iaload, 1, 82, []), (82, .if_icmp .ne 43, 3, 85, [125]), (85, .aload_n 0, 1, 86, []), (86, .getfield 31, 3, 89, [10, 12, 1023, 3]), (89, .iload_n 1, 1, 90, []), (90, .iaload, 1, 91, []), (91, .iconst 2, 1, 92, []), (92, .if_icmp .ne 33, 3, 95, [125]), (95, .aload_n 0, 1, 96, []), (96, .getfield 40, 3, 99, [10, 15, 1026, 3]), (99, .iload_n 1, 1, 100, []), (100, .iaload, 1, 101, []), (101, .iload 6, 2, 103, []), (103, .if_icmp .lt 22, 3, 106, [125]), (106, .aload_n 0, 1, 107, []), (107, .iload_n 3, 1, 108, [])]),
  (135, [(108, .iload 5, 2, 110, []), (110, .iload 6, 2, 112, []), (112, .invokevirtual 260, 3, 115, []), (115, .ifCond .eq 7, 3, 118, [122]), (118, .iconst (-1), 1, 119, []), (119, .goto 4, 3, 122, [123]), (122, .iload_n 3, 1, 123, []), (123, .istore 7, 2, 125, []), (125, .aload_n 0, 1, 126, []), (126, .getfield 154, 3, 129, [10, 66, 1077, 3]), (129, .bipush 80, 2, 131, []), (131, .iload_n 2, 1, 132, []), (132, .iconst 1, 1, 133, []), (133, .iadd, 1, 134, []), (134, .imul, 1, 135, []), (135, .iload 4, 2, 137, [])]),
  (147, [(137, .iadd, 1, 138, []), (138, .iload 7, 2, 140, []), (140, .iastore, 1, 141, []), (141, .iinc 4 1, 3, 144, []), (144, .goto (-129), 3, 147, [15]), (147, .return_, 1, 148, [])])])
theorem okX10_cover : sk_ok mX10_cover := show ∀ c ∈ mX10_cover.2.2.2.2, ∀ e ∈ c.2, sk_okI mX10_cover e = true from by decide +kernel
def mX10_same : sk_M := (yX10_same, cX10_same, 3, none, [(21, [(0, .iconst 0, 1, 1, []), (1, .istore_n 2, 1, 2, []), (2, .iload_n 2, 1, 3, []), (3, .bipush 80, 2, 5, []), (5, .if_icmp .ge 33, 3, 8, [38]), (8, .aload_n 0, 1, 9, []), (9, .getfield 154, 3, 12, [10, 66, 1077, 3]), (12, .bipush 80, 2, 14, []), (14, .iload_n 1, 1, 15, []), (15, .iconst 1, 1, 16, []), (16, .iadd, 1, 17, []), (17, .imul, 1, 18, []), (18, .iload_n 2, 1, 19, []), (19, .iadd, 1, 20, []), (20, .aload_n 0, 1, 21, []), (21, .getfield 154, 3, 24, [10, 66, 1077, 3])]),
  (38, [(24, .bipush 80, 2, 26, []), (26, .iload_n 1, 1, 27, []), (27, .imul, 1, 28, []), (28, .iload_n 2, 1, 29, []), (29, .iadd, 1, 30, []), (30, .iaload, 1, 31, []), (31, .iastore, 1, 32, []), (32, .iinc 2 1, 3, 35, []), (35, .goto (-33), 3, 38, [2]), (38, .return_, 1, 39, [])])])
theorem okX10_same : sk_ok mX10_same := show ∀ c ∈ mX10_same.2.2.2.2, ∀ e ∈ c.2, sk_okI mX10_same e = true from by decide +kernel
def mX10_walkStep : sk_M := (yX10_walkStep, cX10_walkStep, 7, (some .int), [(29, [(0, .aload_n 0, 1, 1, []), (1, .aload_n 0, 1, 2, []), (2, .getfield 344, 3, 5, [10, 71, 1082, 1]), (5, .ifCond .ne 12, 3, 8, [17]), (8, .aload_n 0, 1, 9, []), (9, .getfield 160, 3, 12, [10, 68, 1079, 3]), (12, .iload_n 1, 1, 13, []), (13, .baload, 1, 14, []), (14, .ifCond .ne 7, 3, 17, [21]), (17, .iconst 1, 1, 18, []), (18, .goto 4, 3, 21, [22]), (21, .iconst 0, 1, 22, []), (22, .putfield 344, 3, 25, [10, 71, 1082, 1]), (25, .aload_n 0, 1, 26, []), (26, .getfield 160, 3, 29, [10, 68, 1079, 3]), (29, .iload_n 1, 1, 30, [])]),
  (50, [(30, .iconst 1, 1, 31, []), (31, .bastore, 1, 32, []), (32, .bipush 10, 2, 34, []), (34, .aload_n 0, 1, 35, []), (35, .getfield 37, 3, 38, [10, 14, 1025, 3]), (38, .iload_n 1, 1, 39, []), (39, .iaload, 1, 40, []), (40, .imul, 1, 41, []), (41, .aload_n 0, 1, 42, []), (42, .getfield 40, 3, 45, [10, 15, 1026, 3]), (45, .iload_n 1, 1, 46, []), (46, .iaload, 1, 47, []), (47, .iadd, 1, 48, []), (48, .istore_n 3, 1, 49, []), (49, .aload_n 0, 1, 50, []), (50, .getfield 31, 3, 53, [10, 12, 1023, 3])]),
  (133, [(53, .iload_n 1, 1, 54, []), (54, .iaload, 1, 55, []), (55, .tableswitch 432 0 11 #[61, 112, 238, 238, 432, 432, 432, 258, 313, 430, 345, 388], 61, 116, [487, 116, 167, 293, 293, 487, 487, 487, 313, 368, 485, 400, 443]), (116, .aload_n 0, 1, 117, []), (117, .getfield 154, 3, 120, [10, 66, 1077, 3]), (120, .bipush 80, 2, 122, []), (122, .iload_n 2, 1, 123, []), (123, .imul, 1, 124, []), (124, .iload_n 3, 1, 125, []), (125, .iadd, 1, 126, []), (126, .iaload, 1, 127, []), (127, .iconst (-1), 1, 128, []), (128, .if_icmp .ne 5, 3, 131, [133]), (131, .iconst 1, 1, 132, []), (132, .ireturn, 1, 133, []), (133, .aload_n 0, 1, 134, [])]),
  (163, [(134, .aload_n 0, 1, 135, []), (135, .getfield 344, 3, 138, [10, 71, 1082, 1]), (138, .ifCond .ne 12, 3, 141, [150]), (141, .aload_n 0, 1, 142, []), (142, .getfield 163, 3, 145, [10, 69, 1080, 3]), (145, .iload_n 1, 1, 146, []), (146, .baload, 1, 147, []), (147, .ifCond .ne 7, 3, 150, [154]), (150, .iconst 1, 1, 151, []), (151, .goto 4, 3, 154, [155]), (154, .iconst 0, 1, 155, []), (155, .putfield 344, 3, 158, [10, 71, 1082, 1]), (158, .aload_n 0, 1, 159, []), (159, .getfield 163, 3, 162, [10, 69, 1080, 3]), (162, .iload_n 1, 1, 163, []), (163, .iconst 1, 1, 164, [])]),
  (188, [(164, .bastore, 1, 165, []), (165, .iconst 4, 1, 166, []), (166, .ireturn, 1, 167, []), (167, .iconst 0, 1, 168, []), (168, .istore 5, 2, 170, []), (170, .iload 5, 2, 172, []), (172, .bipush 80, 2, 174, []), (174, .if_icmp .ge 65, 3, 177, [239]), (177, .aload_n 0, 1, 178, []), (178, .getfield 22, 3, 181, [10, 9, 1020, 3]), (181, .aload_n 0, 1, 182, []), (182, .getfield 37, 3, 185, [10, 14, 1025, 3]), (185, .iload_n 1, 1, 186, []), (186, .iaload, 1, 187, []), (187, .iaload, 1, 188, []), (188, .istore 6, 2, 190, [])]),
  (219, [(190, .aload_n 0, 1, 191, []), (191, .getfield 157, 3, 194, [10, 67, 1078, 3]), (194, .iload 5, 2, 196, []), (196, .aload_n 0, 1, 197, []), (197, .iload 6, 2, 199, []), (199, .iload 5, 2, 201, []), (201, .bipush 10, 2, 203, []), (203, .idiv, 1, 204, []), (204, .iload 5, 2, 206, []), (206, .bipush 10, 2, 208, []), (208, .irem, 1, 209, []), (209, .invokevirtual 260, 3, 212, []), (212, .ifCond .eq 18, 3, 215, [230]), (215, .aload_n 0, 1, 216, []), (216, .getfield 154, 3, 219, [10, 66, 1077, 3]), (219, .bipush 80, 2, 221, [])]),
  (246, [(221, .iload_n 2, 1, 222, []), (222, .imul, 1, 223, []), (223, .iload 5, 2, 225, []), (225, .iadd, 1, 226, []), (226, .iaload, 1, 227, []), (227, .goto 5, 3, 230, [232]), (230, .iload 6, 2, 232, []), (232, .iastore, 1, 233, []), (233, .iinc 5 1, 3, 236, []), (236, .goto (-66), 3, 239, [170]), (239, .aload_n 0, 1, 240, []), (240, .aload_n 0, 1, 241, []), (241, .getfield 37, 3, 244, [10, 14, 1025, 3]), (244, .iload_n 1, 1, 245, []), (245, .iaload, 1, 246, []), (246, .invokevirtual 351, 3, 249, [])]),
  (277, [(249, .istore 5, 2, 251, []), (251, .aload_n 0, 1, 252, []), (252, .getfield 144, 3, 255, [10, 63, 1074, 3]), (255, .iload 5, 2, 257, []), (257, .baload, 1, 258, []), (258, .ifCond .ne 13, 3, 261, [271]), (261, .aload_n 0, 1, 262, []), (262, .getfield 148, 3, 265, [10, 64, 1075, 3]), (265, .iload 5, 2, 267, []), (267, .baload, 1, 268, []), (268, .ifCond .eq 7, 3, 271, [275]), (271, .iconst 1, 1, 272, []), (272, .goto 4, 3, 275, [276]), (275, .iconst 0, 1, 276, []), (276, .aload_n 0, 1, 277, []), (277, .getfield 151, 3, 280, [10, 65, 1076, 3])]),
  (304, [(280, .iload 5, 2, 282, []), (282, .baload, 1, 283, []), (283, .ifCond .eq 7, 3, 286, [290]), (286, .iconst 4, 1, 287, []), (287, .goto 4, 3, 290, [291]), (290, .iconst 0, 1, 291, []), (291, .ior, 1, 292, []), (292, .ireturn, 1, 293, []), (293, .aload_n 0, 1, 294, []), (294, .iload_n 1, 1, 295, []), (295, .iload_n 2, 1, 296, []), (296, .invokevirtual 354, 3, 299, []), (299, .aload_n 0, 1, 300, []), (300, .aload_n 0, 1, 301, []), (301, .getfield 46, 3, 304, [10, 17, 1028, 3]), (304, .iload_n 1, 1, 305, [])]),
  (326, [(305, .iaload, 1, 306, []), (306, .iload_n 2, 1, 307, []), (307, .iconst 1, 1, 308, []), (308, .iadd, 1, 309, []), (309, .invokevirtual 357, 3, 312, []), (312, .ireturn, 1, 313, []), (313, .aload_n 0, 1, 314, []), (314, .iload_n 2, 1, 315, []), (315, .invokevirtual 360, 3, 318, []), (318, .aload_n 0, 1, 319, []), (319, .aload_n 0, 1, 320, []), (320, .getfield 46, 3, 323, [10, 17, 1028, 3]), (323, .iload_n 1, 1, 324, []), (324, .iaload, 1, 325, []), (325, .iload_n 2, 1, 326, []), (326, .iconst 1, 1, 327, [])]),
  (353, [(327, .iadd, 1, 328, []), (328, .invokevirtual 357, 3, 331, []), (331, .istore 4, 2, 333, []), (333, .iload 4, 2, 335, []), (335, .iconst 4, 1, 336, []), (336, .iand, 1, 337, []), (337, .ifCond .ne 6, 3, 340, [343]), (340, .iload 4, 2, 342, []), (342, .ireturn, 1, 343, []), (343, .aload_n 0, 1, 344, []), (344, .iload_n 2, 1, 345, []), (345, .invokevirtual 360, 3, 348, []), (348, .iload 4, 2, 350, []), (350, .bipush (-5), 2, 352, []), (352, .iand, 1, 353, []), (353, .aload_n 0, 1, 354, [])]),
  (377, [(354, .aload_n 0, 1, 355, []), (355, .getfield 49, 3, 358, [10, 18, 1029, 3]), (358, .iload_n 1, 1, 359, []), (359, .iaload, 1, 360, []), (360, .iload_n 2, 1, 361, []), (361, .iconst 1, 1, 362, []), (362, .iadd, 1, 363, []), (363, .invokevirtual 357, 3, 366, []), (366, .ior, 1, 367, []), (367, .ireturn, 1, 368, []), (368, .aload_n 0, 1, 369, []), (369, .iload_n 2, 1, 370, []), (370, .invokevirtual 360, 3, 373, []), (373, .aload_n 0, 1, 374, []), (374, .getfield 37, 3, 377, [10, 14, 1025, 3]), (377, .iload_n 1, 1, 378, [])]),
  (401, [(378, .iaload, 1, 379, []), (379, .ifCond .ne 7, 3, 382, [386]), (382, .iconst 1, 1, 383, []), (383, .goto 16, 3, 386, [399]), (386, .aload_n 0, 1, 387, []), (387, .aload_n 0, 1, 388, []), (388, .getfield 46, 3, 391, [10, 17, 1028, 3]), (391, .iload_n 1, 1, 392, []), (392, .iaload, 1, 393, []), (393, .iload_n 2, 1, 394, []), (394, .iconst 1, 1, 395, []), (395, .iadd, 1, 396, []), (396, .invokevirtual 357, 3, 399, []), (399, .ireturn, 1, 400, []), (400, .aload_n 0, 1, 401, []), (401, .iload_n 2, 1, 402, [])]),
  (426, [(402, .invokevirtual 360, 3, 405, []), (405, .aload_n 0, 1, 406, []), (406, .aload_n 0, 1, 407, []), (407, .getfield 154, 3, 410, [10, 66, 1077, 3]), (410, .bipush 80, 2, 412, []), (412, .iload_n 2, 1, 413, []), (413, .imul, 1, 414, []), (414, .iload_n 3, 1, 415, []), (415, .iadd, 1, 416, []), (416, .iaload, 1, 417, []), (417, .iconst (-1), 1, 418, []), (418, .if_icmp .ne 12, 3, 421, [430]), (421, .aload_n 0, 1, 422, []), (422, .getfield 46, 3, 425, [10, 17, 1028, 3]), (425, .iload_n 1, 1, 426, []), (426, .iaload, 1, 427, [])]),
  (450, [(427, .goto 9, 3, 430, [436]), (430, .aload_n 0, 1, 431, []), (431, .getfield 49, 3, 434, [10, 18, 1029, 3]), (434, .iload_n 1, 1, 435, []), (435, .iaload, 1, 436, []), (436, .iload_n 2, 1, 437, []), (437, .iconst 1, 1, 438, []), (438, .iadd, 1, 439, []), (439, .invokevirtual 357, 3, 442, []), (442, .ireturn, 1, 443, []), (443, .aload_n 0, 1, 444, []), (444, .iload_n 2, 1, 445, []), (445, .invokevirtual 360, 3, 448, []), (448, .aload_n 0, 1, 449, []), (449, .aload_n 0, 1, 450, []), (450, .getfield 46, 3, 453, [10, 17, 1028, 3])]),
  (476, [(453, .iload_n 1, 1, 454, []), (454, .iaload, 1, 455, []), (455, .iload_n 2, 1, 456, []), (456, .iconst 1, 1, 457, []), (457, .iadd, 1, 458, []), (458, .invokevirtual 357, 3, 461, []), (461, .istore 4, 2, 463, []), (463, .aload_n 0, 1, 464, []), (464, .iload_n 2, 1, 465, []), (465, .invokevirtual 360, 3, 468, []), (468, .iload 4, 2, 470, []), (470, .aload_n 0, 1, 471, []), (471, .aload_n 0, 1, 472, []), (472, .getfield 49, 3, 475, [10, 18, 1029, 3]), (475, .iload_n 1, 1, 476, []), (476, .iaload, 1, 477, [])]),
  (488, [(477, .iload_n 2, 1, 478, []), (478, .iconst 1, 1, 479, []), (479, .iadd, 1, 480, []), (480, .invokevirtual 357, 3, 483, []), (483, .ior, 1, 484, []), (484, .ireturn, 1, 485, []), (485, .iconst 1, 1, 486, []), (486, .ireturn, 1, 487, []), (487, .iconst 2, 1, 488, []), (488, .ireturn, 1, 489, [])])])
theorem okX10_walkStep : sk_ok mX10_walkStep := show ∀ c ∈ mX10_walkStep.2.2.2.2, ∀ e ∈ c.2, sk_okI mX10_walkStep e = true from by decide +kernel
def mX10_isPlain : sk_M := (yX10_isPlain, cX10_isPlain, 3, (some .boolean), [(23, [(0, .iconst 1, 1, 1, []), (1, .istore_n 1, 1, 2, []), (2, .iconst 0, 1, 3, []), (3, .istore_n 2, 1, 4, []), (4, .iload_n 2, 1, 5, []), (5, .aload_n 0, 1, 6, []), (6, .getfield 28, 3, 9, [10, 11, 1022, 3]), (9, .iconst 0, 1, 10, []), (10, .iaload, 1, 11, []), (11, .if_icmp .ge 50, 3, 14, [61]), (14, .iload_n 1, 1, 15, []), (15, .ifCond .eq 38, 3, 18, [53]), (18, .aload_n 0, 1, 19, []), (19, .getfield 31, 3, 22, [10, 12, 1023, 3]), (22, .iload_n 2, 1, 23, []), (23, .iaload, 1, 24, [])]),
  (50, [(24, .iconst 4, 1, 25, []), (25, .if_icmp .eq 28, 3, 28, [53]), (28, .aload_n 0, 1, 29, []), (29, .getfield 31, 3, 32, [10, 12, 1023, 3]), (32, .iload_n 2, 1, 33, []), (33, .iaload, 1, 34, []), (34, .iconst 5, 1, 35, []), (35, .if_icmp .eq 18, 3, 38, [53]), (38, .aload_n 0, 1, 39, []), (39, .getfield 31, 3, 42, [10, 12, 1023, 3]), (42, .iload_n 2, 1, 43, []), (43, .iaload, 1, 44, []), (44, .bipush 6, 2, 46, []), (46, .if_icmp .eq 7, 3, 49, [53]), (49, .iconst 1, 1, 50, []), (50, .goto 4, 3, 53, [54])]),
  (62, [(53, .iconst 0, 1, 54, []), (54, .istore_n 1, 1, 55, []), (55, .iinc 2 1, 3, 58, []), (58, .goto (-54), 3, 61, [4]), (61, .iload_n 1, 1, 62, []), (62, .ireturn, 1, 63, [])])])
theorem okX10_isPlain : sk_ok mX10_isPlain := show ∀ c ∈ mX10_isPlain.2.2.2.2, ∀ e ∈ c.2, sk_okI mX10_isPlain e = true from by decide +kernel
def mX10_ahead : sk_M := (yX10_ahead, cX10_ahead, 8, (some .int), [(28, [(0, .aload_n 0, 1, 1, []), (1, .iconst 0, 1, 2, []), (2, .putfield 166, 3, 5, [10, 0, 1011, 0]), (5, .aload_n 0, 1, 6, []), (6, .getfield 244, 3, 9, [10, 7, 1018, 1]), (9, .ifCond .eq 10, 3, 12, [19]), (12, .aload_n 0, 1, 13, []), (13, .invokevirtual 363, 3, 16, []), (16, .ifCond .ne 6, 3, 19, [22]), (19, .bipush (-4), 2, 21, []), (21, .ireturn, 1, 22, []), (22, .iload_n 1, 1, 23, []), (23, .iconst 0, 1, 24, []), (24, .aload_n 0, 1, 25, []), (25, .getfield 19, 3, 28, [10, 8, 1019, 3]), (28, .iconst 0, 1, 29, [])]),
  (53, [(29, .iaload, 1, 30, []), (30, .iconst 1, 1, 31, []), (31, .isub, 1, 32, []), (32, .invokestatic 177, 3, 35, []), (35, .ifCond .ne 6, 3, 38, [41]), (38, .bipush (-3), 2, 40, []), (40, .ireturn, 1, 41, []), (41, .aload_n 0, 1, 42, []), (42, .iconst 0, 1, 43, []), (43, .putfield 251, 3, 46, [10, 59, 1070, 1]), (46, .aload_n 0, 1, 47, []), (47, .iconst 0, 1, 48, []), (48, .putfield 341, 3, 51, [10, 70, 1081, 1]), (51, .aload_n 0, 1, 52, []), (52, .iconst 0, 1, 53, []), (53, .putfield 338, 3, 56, [10, 60, 1071, 0])]),
  (79, [(56, .iconst 0, 1, 57, []), (57, .istore_n 2, 1, 58, []), (58, .iload_n 2, 1, 59, []), (59, .sipush 200, 3, 62, []), (62, .if_icmp .ge 23, 3, 65, [85]), (65, .aload_n 0, 1, 66, []), (66, .getfield 160, 3, 69, [10, 68, 1079, 3]), (69, .iload_n 2, 1, 70, []), (70, .iconst 0, 1, 71, []), (71, .bastore, 1, 72, []), (72, .aload_n 0, 1, 73, []), (73, .getfield 163, 3, 76, [10, 69, 1080, 3]), (76, .iload_n 2, 1, 77, []), (77, .iconst 0, 1, 78, []), (78, .bastore, 1, 79, []), (79, .iinc 2 1, 3, 82, [])]),
  (106, [(82, .goto (-24), 3, 85, [58]), (85, .iconst 0, 1, 86, []), (86, .istore_n 2, 1, 87, []), (87, .iload_n 2, 1, 88, []), (88, .bipush 80, 2, 90, []), (90, .if_icmp .ge 46, 3, 93, [136]), (93, .aload_n 0, 1, 94, []), (94, .getfield 157, 3, 97, [10, 67, 1078, 3]), (97, .iload_n 2, 1, 98, []), (98, .aload_n 0, 1, 99, []), (99, .aload_n 0, 1, 100, []), (100, .getfield 22, 3, 103, [10, 9, 1020, 3]), (103, .iload_n 1, 1, 104, []), (104, .iaload, 1, 105, []), (105, .iload_n 2, 1, 106, []), (106, .bipush 10, 2, 108, [])]),
  (136, [(108, .idiv, 1, 109, []), (109, .iload_n 2, 1, 110, []), (110, .bipush 10, 2, 112, []), (112, .irem, 1, 113, []), (113, .invokevirtual 260, 3, 116, []), (116, .ifCond .eq 7, 3, 119, [123]), (119, .iconst (-1), 1, 120, []), (120, .goto 9, 3, 123, [129]), (123, .aload_n 0, 1, 124, []), (124, .getfield 22, 3, 127, [10, 9, 1020, 3]), (127, .iload_n 1, 1, 128, []), (128, .iaload, 1, 129, []), (129, .iastore, 1, 130, []), (130, .iinc 2 1, 3, 133, []), (133, .goto (-46), 3, 136, [87]), (136, .aload_n 0, 1, 137, [])]),
  (166, [(137, .iload_n 1, 1, 138, []), (138, .invokevirtual 351, 3, 141, []), (141, .istore_n 2, 1, 142, []), (142, .aload_n 0, 1, 143, []), (143, .iconst 1, 1, 144, []), (144, .putfield 344, 3, 147, [10, 71, 1082, 1]), (147, .aload_n 0, 1, 148, []), (148, .getfield 344, 3, 151, [10, 71, 1082, 1]), (151, .ifCond .eq 209, 3, 154, [360]), (154, .aload_n 0, 1, 155, []), (155, .getfield 341, 3, 158, [10, 70, 1081, 1]), (158, .ifCond .ne 202, 3, 161, [360]), (161, .aload_n 0, 1, 162, []), (162, .iconst 0, 1, 163, []), (163, .putfield 344, 3, 166, [10, 71, 1082, 1]), (166, .iconst 0, 1, 167, [])]),
  (197, [(167, .istore_n 3, 1, 168, []), (168, .iload_n 3, 1, 169, []), (169, .aload_n 0, 1, 170, []), (170, .getfield 338, 3, 173, [10, 60, 1071, 0]), (173, .if_icmp .ge 184, 3, 176, [357]), (176, .aload_n 0, 1, 177, []), (177, .getfield 341, 3, 180, [10, 70, 1081, 1]), (180, .ifCond .ne 177, 3, 183, [357]), (183, .iconst 0, 1, 184, []), (184, .istore 4, 2, 186, []), (186, .iload 4, 2, 188, []), (188, .bipush 80, 2, 190, []), (190, .if_icmp .ge 28, 3, 193, [218]), (193, .aload_n 0, 1, 194, []), (194, .getfield 154, 3, 197, [10, 66, 1077, 3]), (197, .iload 4, 2, 199, [])]),
  (224, [(199, .aload_n 0, 1, 200, []), (200, .getfield 141, 3, 203, [10, 62, 1073, 3]), (203, .bipush 80, 2, 205, []), (205, .iload_n 3, 1, 206, []), (206, .imul, 1, 207, []), (207, .iload 4, 2, 209, []), (209, .iadd, 1, 210, []), (210, .iaload, 1, 211, []), (211, .iastore, 1, 212, []), (212, .iinc 4 1, 3, 215, []), (215, .goto (-29), 3, 218, [186]), (218, .aload_n 0, 1, 219, []), (219, .aload_n 0, 1, 220, []), (220, .getfield 25, 3, 223, [10, 10, 1021, 3]), (223, .aload_n 0, 1, 224, []), (224, .getfield 138, 3, 227, [10, 61, 1072, 3])]),
  (252, [(227, .iload_n 3, 1, 228, []), (228, .iaload, 1, 229, []), (229, .iaload, 1, 230, []), (230, .iconst 0, 1, 231, []), (231, .invokevirtual 357, 3, 234, []), (234, .istore 4, 2, 236, []), (236, .iload 4, 2, 238, []), (238, .iconst 1, 1, 239, []), (239, .iand, 1, 240, []), (240, .ifCond .eq 7, 3, 243, [247]), (243, .iconst 1, 1, 244, []), (244, .goto 4, 3, 247, [248]), (247, .iconst 0, 1, 248, []), (248, .istore 5, 2, 250, []), (250, .iload 4, 2, 252, []), (252, .iconst 2, 1, 253, [])]),
  (279, [(253, .iand, 1, 254, []), (254, .ifCond .eq 7, 3, 257, [261]), (257, .iconst 1, 1, 258, []), (258, .goto 4, 3, 261, [262]), (261, .iconst 0, 1, 262, []), (262, .istore 6, 2, 264, []), (264, .iload 4, 2, 266, []), (266, .iconst 4, 1, 267, []), (267, .iand, 1, 268, []), (268, .ifCond .eq 7, 3, 271, [275]), (271, .iconst 1, 1, 272, []), (272, .goto 4, 3, 275, [276]), (275, .iconst 0, 1, 276, []), (276, .istore 7, 2, 278, []), (278, .aload_n 0, 1, 279, []), (279, .aload_n 0, 1, 280, [])]),
  (310, [(280, .getfield 344, 3, 283, [10, 71, 1082, 1]), (283, .ifCond .ne 36, 3, 286, [319]), (286, .iload 5, 2, 288, []), (288, .aload_n 0, 1, 289, []), (289, .getfield 144, 3, 292, [10, 63, 1074, 3]), (292, .iload_n 3, 1, 293, []), (293, .baload, 1, 294, []), (294, .if_icmp .ne 25, 3, 297, [319]), (297, .iload 6, 2, 299, []), (299, .aload_n 0, 1, 300, []), (300, .getfield 148, 3, 303, [10, 64, 1075, 3]), (303, .iload_n 3, 1, 304, []), (304, .baload, 1, 305, []), (305, .if_icmp .ne 14, 3, 308, [319]), (308, .iload 7, 2, 310, []), (310, .aload_n 0, 1, 311, [])]),
  (339, [(311, .getfield 151, 3, 314, [10, 65, 1076, 3]), (314, .iload_n 3, 1, 315, []), (315, .baload, 1, 316, []), (316, .if_icmp .eq 7, 3, 319, [323]), (319, .iconst 1, 1, 320, []), (320, .goto 4, 3, 323, [324]), (323, .iconst 0, 1, 324, []), (324, .putfield 344, 3, 327, [10, 71, 1082, 1]), (327, .aload_n 0, 1, 328, []), (328, .getfield 144, 3, 331, [10, 63, 1074, 3]), (331, .iload_n 3, 1, 332, []), (332, .iload 5, 2, 334, []), (334, .bastore, 1, 335, []), (335, .aload_n 0, 1, 336, []), (336, .getfield 148, 3, 339, [10, 64, 1075, 3]), (339, .iload_n 3, 1, 340, [])]),
  (370, [(340, .iload 6, 2, 342, []), (342, .bastore, 1, 343, []), (343, .aload_n 0, 1, 344, []), (344, .getfield 151, 3, 347, [10, 65, 1076, 3]), (347, .iload_n 3, 1, 348, []), (348, .iload 7, 2, 350, []), (350, .bastore, 1, 351, []), (351, .iinc 3 1, 3, 354, []), (354, .goto (-186), 3, 357, [168]), (357, .goto (-210), 3, 360, [147]), (360, .aload_n 0, 1, 361, []), (361, .getfield 341, 3, 364, [10, 70, 1081, 1]), (364, .ifCond .eq 6, 3, 367, [370]), (367, .bipush (-6), 2, 369, []), (369, .ireturn, 1, 370, []), (370, .aload_n 0, 1, 371, [])]),
  (379, [(371, .iconst 1, 1, 372, []), (372, .putfield 251, 3, 375, [10, 59, 1070, 1]), (375, .aload_n 0, 1, 376, []), (376, .getfield 338, 3, 379, [10, 60, 1071, 0]), (379, .ireturn, 1, 380, [])])])
theorem okX10_ahead : sk_ok mX10_ahead := show ∀ c ∈ mX10_ahead.2.2.2.2, ∀ e ∈ c.2, sk_okI mX10_ahead e = true from by decide +kernel
def mX10_walked : sk_M := (yX10_walked, cX10_walked, 3, (some .int), [(26, [(0, .aload_n 0, 1, 1, []), (1, .iconst 0, 1, 2, []), (2, .putfield 166, 3, 5, [10, 0, 1011, 0]), (5, .aload_n 0, 1, 6, []), (6, .getfield 251, 3, 9, [10, 59, 1070, 1]), (9, .ifCond .ne 6, 3, 12, [15]), (12, .bipush (-4), 2, 14, []), (14, .ireturn, 1, 15, []), (15, .iload_n 2, 1, 16, []), (16, .iconst 0, 1, 17, []), (17, .iconst 1, 1, 18, []), (18, .invokestatic 177, 3, 21, []), (21, .ifCond .eq 19, 3, 24, [40]), (24, .iload_n 1, 1, 25, []), (25, .iconst 0, 1, 26, []), (26, .aload_n 0, 1, 27, [])]),
  (53, [(27, .getfield 28, 3, 30, [10, 11, 1022, 3]), (30, .iconst 0, 1, 31, []), (31, .iaload, 1, 32, []), (32, .iconst 1, 1, 33, []), (33, .isub, 1, 34, []), (34, .invokestatic 177, 3, 37, []), (37, .ifCond .ne 6, 3, 40, [43]), (40, .bipush (-3), 2, 42, []), (42, .ireturn, 1, 43, []), (43, .iload_n 2, 1, 44, []), (44, .ifCond .ne 15, 3, 47, [59]), (47, .aload_n 0, 1, 48, []), (48, .getfield 160, 3, 51, [10, 68, 1079, 3]), (51, .iload_n 1, 1, 52, []), (52, .baload, 1, 53, []), (53, .ifCond .eq 19, 3, 56, [72])]),
  (73, [(56, .goto 12, 3, 59, [68]), (59, .aload_n 0, 1, 60, []), (60, .getfield 163, 3, 63, [10, 69, 1080, 3]), (63, .iload_n 1, 1, 64, []), (64, .baload, 1, 65, []), (65, .ifCond .eq 7, 3, 68, [72]), (68, .iconst 1, 1, 69, []), (69, .goto 4, 3, 72, [73]), (72, .iconst 0, 1, 73, []), (73, .ireturn, 1, 74, [])])])
theorem okX10_walked : sk_ok mX10_walked := show ∀ c ∈ mX10_walked.2.2.2.2, ∀ e ∈ c.2, sk_okI mX10_walked e = true from by decide +kernel
def mX10_told : sk_M := (yX10_told, cX10_told, 6, (some .int), [(57, [(0, .aload_n 0, 1, 1, []), (1, .iconst 0, 1, 2, []), (2, .putfield 166, 3, 5, [10, 0, 1011, 0]), (5, .aload_n 0, 1, 6, []), (6, .getfield 251, 3, 9, [10, 59, 1070, 1]), (9, .ifCond .ne 6, 3, 12, [15]), (12, .bipush (-4), 2, 14, []), (14, .ireturn, 1, 15, []), (15, .iconst 0, 1, 16, []), (16, .istore_n 2, 1, 17, []), (17, .iload_n 1, 1, 18, []), (18, .tableswitch 204 0 4 #[34, 58, 73, 73, 127], 34, 52, [222, 52, 76, 91, 91, 145]), (52, .aload_n 0, 1, 53, []), (53, .getfield 144, 3, 56, [10, 63, 1074, 3]), (56, .iconst 0, 1, 57, []), (57, .baload, 1, 58, [])]),
  (85, [(58, .ifCond .ne 12, 3, 61, [70]), (61, .aload_n 0, 1, 62, []), (62, .getfield 148, 3, 65, [10, 64, 1075, 3]), (65, .iconst 0, 1, 66, []), (66, .baload, 1, 67, []), (67, .ifCond .eq 7, 3, 70, [74]), (70, .iconst 1, 1, 71, []), (71, .goto 4, 3, 74, [75]), (74, .iconst 0, 1, 75, []), (75, .ireturn, 1, 76, []), (76, .aload_n 0, 1, 77, []), (77, .getfield 151, 3, 80, [10, 65, 1076, 3]), (80, .iconst 0, 1, 81, []), (81, .baload, 1, 82, []), (82, .ifCond .eq 7, 3, 85, [89]), (85, .iconst 1, 1, 86, [])]),
  (109, [(86, .goto 4, 3, 89, [90]), (89, .iconst 0, 1, 90, []), (90, .ireturn, 1, 91, []), (91, .iconst 0, 1, 92, []), (92, .istore_n 3, 1, 93, []), (93, .iload_n 3, 1, 94, []), (94, .aload_n 0, 1, 95, []), (95, .getfield 28, 3, 98, [10, 11, 1022, 3]), (98, .iconst 0, 1, 99, []), (99, .iaload, 1, 100, []), (100, .if_icmp .ge 43, 3, 103, [143]), (103, .iload_n 2, 1, 104, []), (104, .iload_n 1, 1, 105, []), (105, .iconst 2, 1, 106, []), (106, .if_icmp .ne 15, 3, 109, [121]), (109, .aload_n 0, 1, 110, [])]),
  (137, [(110, .getfield 160, 3, 113, [10, 68, 1079, 3]), (113, .iload_n 3, 1, 114, []), (114, .baload, 1, 115, []), (115, .ifCond .eq 19, 3, 118, [134]), (118, .goto 12, 3, 121, [130]), (121, .aload_n 0, 1, 122, []), (122, .getfield 163, 3, 125, [10, 69, 1080, 3]), (125, .iload_n 3, 1, 126, []), (126, .baload, 1, 127, []), (127, .ifCond .eq 7, 3, 130, [134]), (130, .iconst 1, 1, 131, []), (131, .goto 4, 3, 134, [135]), (134, .iconst 0, 1, 135, []), (135, .iadd, 1, 136, []), (136, .istore_n 2, 1, 137, []), (137, .iinc 3 1, 3, 140, [])]),
  (163, [(140, .goto (-47), 3, 143, [93]), (143, .iload_n 2, 1, 144, []), (144, .ireturn, 1, 145, []), (145, .iconst 0, 1, 146, []), (146, .istore_n 3, 1, 147, []), (147, .iload_n 3, 1, 148, []), (148, .aload_n 0, 1, 149, []), (149, .getfield 19, 3, 152, [10, 8, 1019, 3]), (152, .iconst 0, 1, 153, []), (153, .iaload, 1, 154, []), (154, .if_icmp .ge 66, 3, 157, [220]), (157, .iconst 0, 1, 158, []), (158, .istore 4, 2, 160, []), (160, .iconst 0, 1, 161, []), (161, .istore 5, 2, 163, []), (163, .iload 5, 2, 165, [])]),
  (195, [(165, .aload_n 0, 1, 166, []), (166, .getfield 338, 3, 169, [10, 60, 1071, 0]), (169, .if_icmp .ge 32, 3, 172, [201]), (172, .iload 4, 2, 174, []), (174, .ifCond .ne 14, 3, 177, [188]), (177, .aload_n 0, 1, 178, []), (178, .getfield 138, 3, 181, [10, 61, 1072, 3]), (181, .iload 5, 2, 183, []), (183, .iaload, 1, 184, []), (184, .iload_n 3, 1, 185, []), (185, .if_icmp .ne 7, 3, 188, [192]), (188, .iconst 1, 1, 189, []), (189, .goto 4, 3, 192, [193]), (192, .iconst 0, 1, 193, []), (193, .istore 4, 2, 195, []), (195, .iinc 5 1, 3, 198, [])]),
  (224, [(198, .goto (-35), 3, 201, [163]), (201, .iload_n 2, 1, 202, []), (202, .iload 4, 2, 204, []), (204, .ifCond .eq 7, 3, 207, [211]), (207, .iconst 1, 1, 208, []), (208, .goto 4, 3, 211, [212]), (211, .iconst 0, 1, 212, []), (212, .iadd, 1, 213, []), (213, .istore_n 2, 1, 214, []), (214, .iinc 3 1, 3, 217, []), (217, .goto (-70), 3, 220, [147]), (220, .iload_n 2, 1, 221, []), (221, .ireturn, 1, 222, []), (222, .bipush (-3), 2, 224, []), (224, .ireturn, 1, 225, [])])])
theorem okX10_told : sk_ok mX10_told := show ∀ c ∈ mX10_told.2.2.2.2, ∀ e ∈ c.2, sk_okI mX10_told e = true from by decide +kernel
def mX10_isAhead : sk_M := (yX10_isAhead, cX10_isAhead, 6, (some .boolean), [(22, [(0, .iconst 0, 1, 1, []), (1, .istore_n 3, 1, 2, []), (2, .iload_n 3, 1, 3, []), (3, .bipush 80, 2, 5, []), (5, .if_icmp .ge 55, 3, 8, [60]), (8, .aload_n 0, 1, 9, []), (9, .getfield 141, 3, 12, [10, 62, 1073, 3]), (12, .bipush 80, 2, 14, []), (14, .iload_n 1, 1, 15, []), (15, .imul, 1, 16, []), (16, .iload_n 3, 1, 17, []), (17, .iadd, 1, 18, []), (18, .iaload, 1, 19, []), (19, .istore 4, 2, 21, []), (21, .aload_n 0, 1, 22, []), (22, .getfield 141, 3, 25, [10, 62, 1073, 3])]),
  (52, [(25, .bipush 80, 2, 27, []), (27, .iload_n 2, 1, 28, []), (28, .imul, 1, 29, []), (29, .iload_n 3, 1, 30, []), (30, .iadd, 1, 31, []), (31, .iaload, 1, 32, []), (32, .istore 5, 2, 34, []), (34, .iload 4, 2, 36, []), (36, .iload 5, 2, 38, []), (38, .if_icmp .eq 16, 3, 41, [54]), (41, .iload 4, 2, 43, []), (43, .iload 5, 2, 45, []), (45, .if_icmp .ge 7, 3, 48, [52]), (48, .iconst 1, 1, 49, []), (49, .goto 4, 3, 52, [53]), (52, .iconst 0, 1, 53, [])]),
  (61, [(53, .ireturn, 1, 54, []), (54, .iinc 3 1, 3, 57, []), (57, .goto (-55), 3, 60, [2]), (60, .iconst 0, 1, 61, []), (61, .ireturn, 1, 62, [])])])
theorem okX10_isAhead : sk_ok mX10_isAhead := show ∀ c ∈ mX10_isAhead.2.2.2.2, ∀ e ∈ c.2, sk_okI mX10_isAhead e = true from by decide +kernel
def mX10_pair : sk_M := (yX10_pair, cX10_pair, 8, (some .int), [(24, [(0, .aload_n 0, 1, 1, []), (1, .iconst 0, 1, 2, []), (2, .putfield 166, 3, 5, [10, 0, 1011, 0]), (5, .aload_n 0, 1, 6, []), (6, .getfield 251, 3, 9, [10, 59, 1070, 1]), (9, .ifCond .ne 6, 3, 12, [15]), (12, .bipush (-4), 2, 14, []), (14, .ireturn, 1, 15, []), (15, .iload_n 1, 1, 16, []), (16, .iconst 0, 1, 17, []), (17, .aload_n 0, 1, 18, []), (18, .getfield 19, 3, 21, [10, 8, 1019, 3]), (21, .iconst 0, 1, 22, []), (22, .iaload, 1, 23, []), (23, .iconst 1, 1, 24, []), (24, .isub, 1, 25, [])]),
  (58, [(25, .invokestatic 177, 3, 28, []), (28, .ifCond .eq 28, 3, 31, [56]), (31, .iload_n 2, 1, 32, []), (32, .ifCond .lt 24, 3, 35, [56]), (35, .iload_n 3, 1, 36, []), (36, .iconst 0, 1, 37, []), (37, .bipush 7, 2, 39, []), (39, .invokestatic 177, 3, 42, []), (42, .ifCond .eq 14, 3, 45, [56]), (45, .iload 4, 2, 47, []), (47, .iconst 0, 1, 48, []), (48, .bipush 9, 2, 50, []), (50, .invokestatic 177, 3, 53, []), (53, .ifCond .ne 6, 3, 56, [59]), (56, .bipush (-3), 2, 58, []), (58, .ireturn, 1, 59, [])]),
  (88, [(59, .iconst 0, 1, 60, []), (60, .istore 5, 2, 62, []), (62, .iload 5, 2, 64, []), (64, .aload_n 0, 1, 65, []), (65, .getfield 338, 3, 68, [10, 60, 1071, 0]), (68, .if_icmp .ge 98, 3, 71, [166]), (71, .iconst 0, 1, 72, []), (72, .istore 6, 2, 74, []), (74, .iconst 0, 1, 75, []), (75, .istore 7, 2, 77, []), (77, .iload 7, 2, 79, []), (79, .aload_n 0, 1, 80, []), (80, .getfield 338, 3, 83, [10, 60, 1071, 0]), (83, .if_icmp .ge 41, 3, 86, [124]), (86, .iload 6, 2, 88, []), (88, .aload_n 0, 1, 89, [])]),
  (118, [(89, .getfield 138, 3, 92, [10, 61, 1072, 3]), (92, .iload 7, 2, 94, []), (94, .iaload, 1, 95, []), (95, .iload_n 1, 1, 96, []), (96, .if_icmp .ne 18, 3, 99, [114]), (99, .aload_n 0, 1, 100, []), (100, .iload 7, 2, 102, []), (102, .iload 5, 2, 104, []), (104, .invokevirtual 367, 3, 107, []), (107, .ifCond .eq 7, 3, 110, [114]), (110, .iconst 1, 1, 111, []), (111, .goto 4, 3, 114, [115]), (114, .iconst 0, 1, 115, []), (115, .iadd, 1, 116, []), (116, .istore 6, 2, 118, []), (118, .iinc 7 1, 3, 121, [])]),
  (150, [(121, .goto (-44), 3, 124, [77]), (124, .aload_n 0, 1, 125, []), (125, .getfield 138, 3, 128, [10, 61, 1072, 3]), (128, .iload 5, 2, 130, []), (130, .iaload, 1, 131, []), (131, .iload_n 1, 1, 132, []), (132, .if_icmp .ne 28, 3, 135, [160]), (135, .iload 6, 2, 137, []), (137, .iload_n 2, 1, 138, []), (138, .if_icmp .ne 22, 3, 141, [160]), (141, .aload_n 0, 1, 142, []), (142, .getfield 141, 3, 145, [10, 62, 1073, 3]), (145, .bipush 80, 2, 147, []), (147, .iload 5, 2, 149, []), (149, .imul, 1, 150, []), (150, .bipush 10, 2, 152, [])]),
  (167, [(152, .iload_n 3, 1, 153, []), (153, .imul, 1, 154, []), (154, .iadd, 1, 155, []), (155, .iload 4, 2, 157, []), (157, .iadd, 1, 158, []), (158, .iaload, 1, 159, []), (159, .ireturn, 1, 160, []), (160, .iinc 5 1, 3, 163, []), (163, .goto (-101), 3, 166, [62]), (166, .iconst (-1), 1, 167, []), (167, .ireturn, 1, 168, [])])])
theorem okX10_pair : sk_ok mX10_pair := show ∀ c ∈ mX10_pair.2.2.2.2, ∀ e ∈ c.2, sk_okI mX10_pair e = true from by decide +kernel
def mX10_count : sk_M := (yX10_count, cX10_count, 4, (some .int), [(54, [(0, .aload_n 0, 1, 1, []), (1, .iconst 0, 1, 2, []), (2, .putfield 166, 3, 5, [10, 0, 1011, 0]), (5, .iconst 0, 1, 6, []), (6, .istore_n 2, 1, 7, []), (7, .iload_n 1, 1, 8, []), (8, .tableswitch 81 0 3 #[32, 37, 42, 47], 32, 40, [89, 40, 45, 50, 55]), (40, .aload_n 0, 1, 41, []), (41, .getfield 170, 3, 44, [10, 2, 1013, 0]), (44, .ireturn, 1, 45, []), (45, .aload_n 0, 1, 46, []), (46, .getfield 181, 3, 49, [10, 5, 1016, 0]), (49, .ireturn, 1, 50, []), (50, .aload_n 0, 1, 51, []), (51, .getfield 282, 3, 54, [10, 58, 1069, 0]), (54, .ireturn, 1, 55, [])]),
  (79, [(55, .iconst 0, 1, 56, []), (56, .istore_n 3, 1, 57, []), (57, .iload_n 3, 1, 58, []), (58, .bipush 64, 2, 60, []), (60, .if_icmp .ge 27, 3, 63, [87]), (63, .iload_n 2, 1, 64, []), (64, .aload_n 0, 1, 65, []), (65, .getfield 13, 3, 68, [10, 3, 1014, 3]), (68, .iload_n 3, 1, 69, []), (69, .iaload, 1, 70, []), (70, .iconst (-1), 1, 71, []), (71, .if_icmp .eq 7, 3, 74, [78]), (74, .iconst 1, 1, 75, []), (75, .goto 4, 3, 78, [79]), (78, .iconst 0, 1, 79, []), (79, .iadd, 1, 80, [])]),
  (91, [(80, .istore_n 2, 1, 81, []), (81, .iinc 3 1, 3, 84, []), (84, .goto (-27), 3, 87, [57]), (87, .iload_n 2, 1, 88, []), (88, .ireturn, 1, 89, []), (89, .bipush (-3), 2, 91, []), (91, .ireturn, 1, 92, [])])])
theorem okX10_count : sk_ok mX10_count := show ∀ c ∈ mX10_count.2.2.2.2, ∀ e ∈ c.2, sk_okI mX10_count e = true from by decide +kernel
def mJ7_rangeCheck_23922 : sk_M := (yJ7_rangeCheck_23922, cJ7_rangeCheck_23922, 3, none, [(46, [(0, .iload_n 1, 1, 1, []), (1, .iload_n 2, 1, 2, []), (2, .if_icmp .le 44, 3, 5, [46]), (8, .dup, 1, 9, []), (12, .dup, 1, 13, []), (13, .invokespecial 47, 3, 16, []), (18, .invokevirtual 50, 3, 21, []), (21, .iload_n 1, 1, 22, []), (22, .invokevirtual 54, 3, 25, []), (27, .invokevirtual 50, 3, 30, []), (30, .iload_n 2, 1, 31, []), (31, .invokevirtual 54, 3, 34, []), (36, .invokevirtual 50, 3, 39, []), (39, .invokevirtual 61, 3, 42, []), (42, .invokespecial 65, 3, 45, []), (46, .iload_n 1, 1, 47, [])]),
  (73, [(47, .ifCond .ge 12, 3, 50, [59]), (53, .dup, 1, 54, []), (54, .iload_n 1, 1, 55, []), (55, .invokespecial 70, 3, 58, []), (59, .iload_n 2, 1, 60, []), (60, .iload_n 0, 1, 61, []), (61, .if_icmp .le 12, 3, 64, [73]), (67, .dup, 1, 68, []), (68, .iload_n 2, 1, 69, []), (69, .invokespecial 70, 3, 72, []), (73, .return_, 1, 74, [])])])
theorem okJ7_rangeCheck_23922 : sk_ok mJ7_rangeCheck_23922 := show ∀ c ∈ mJ7_rangeCheck_23922.2.2.2.2, ∀ e ∈ c.2, sk_okI mJ7_rangeCheck_23922 e = true from by decide +kernel
def mJ7_fill_d0a16 : sk_M := (yJ7_fill_d0a16, cJ7_fill_d0a16, 5, none, [(22, [(0, .iconst 0, 1, 1, []), (1, .istore_n 3, 1, 2, []), (2, .aload_n 0, 1, 3, []), (3, .arraylength, 1, 4, []), (4, .istore 4, 2, 6, []), (6, .iload_n 3, 1, 7, []), (7, .iload 4, 2, 9, []), (9, .if_icmp .ge 13, 3, 12, [22]), (12, .aload_n 0, 1, 13, []), (13, .iload_n 3, 1, 14, []), (14, .lload_n 1, 1, 15, []), (15, .lastore, 1, 16, []), (16, .iinc 3 1, 3, 19, []), (19, .goto (-13), 3, 22, [6]), (22, .return_, 1, 23, [])])])
theorem okJ7_fill_d0a16 : sk_ok mJ7_fill_d0a16 := show ∀ c ∈ mJ7_fill_d0a16.2.2.2.2, ∀ e ∈ c.2, sk_okI mJ7_fill_d0a16 e = true from by decide +kernel
def mJ7_fill_bad5a : sk_M := (yJ7_fill_bad5a, cJ7_fill_bad5a, 6, none, [(24, [(0, .aload_n 0, 1, 1, []), (1, .arraylength, 1, 2, []), (2, .iload_n 1, 1, 3, []), (3, .iload_n 2, 1, 4, []), (4, .invokestatic 13, 3, 7, []), (7, .iload_n 1, 1, 8, []), (8, .istore 5, 2, 10, []), (10, .iload 5, 2, 12, []), (12, .iload_n 2, 1, 13, []), (13, .if_icmp .ge 14, 3, 16, [27]), (16, .aload_n 0, 1, 17, []), (17, .iload 5, 2, 19, []), (19, .lload_n 3, 1, 20, []), (20, .lastore, 1, 21, []), (21, .iinc 5 1, 3, 24, []), (24, .goto (-14), 3, 27, [10])]),
  (27, [(27, .return_, 1, 28, [])])])
theorem okJ7_fill_bad5a : sk_ok mJ7_fill_bad5a := show ∀ c ∈ mJ7_fill_bad5a.2.2.2.2, ∀ e ∈ c.2, sk_okI mJ7_fill_bad5a e = true from by decide +kernel
def mJ7_fill_53178 : sk_M := (yJ7_fill_53178, cJ7_fill_53178, 4, none, [(20, [(0, .iconst 0, 1, 1, []), (1, .istore_n 2, 1, 2, []), (2, .aload_n 0, 1, 3, []), (3, .arraylength, 1, 4, []), (4, .istore_n 3, 1, 5, []), (5, .iload_n 2, 1, 6, []), (6, .iload_n 3, 1, 7, []), (7, .if_icmp .ge 13, 3, 10, [20]), (10, .aload_n 0, 1, 11, []), (11, .iload_n 2, 1, 12, []), (12, .iload_n 1, 1, 13, []), (13, .iastore, 1, 14, []), (14, .iinc 2 1, 3, 17, []), (17, .goto (-12), 3, 20, [5]), (20, .return_, 1, 21, [])])])
theorem okJ7_fill_53178 : sk_ok mJ7_fill_53178 := show ∀ c ∈ mJ7_fill_53178.2.2.2.2, ∀ e ∈ c.2, sk_okI mJ7_fill_53178 e = true from by decide +kernel
def mL_law : sk_M := (yL_law, cL_law, 4, (some .boolean), [(24, [(0, .new 7, 3, 3, [9, 92, 93, 74]), (3, .dup, 1, 4, []), (4, .invokespecial 9, 3, 7, []), (7, .astore_n 1, 1, 8, []), (8, .new 10, 3, 11, [10, 987, 988, 86]), (11, .dup, 1, 12, []), (12, .invokespecial 12, 3, 15, []), (15, .astore_n 2, 1, 16, []), (16, .iconst 0, 1, 17, []), (17, .istore_n 3, 1, 18, []), (18, .iload_n 3, 1, 19, []), (19, .aload_n 0, 1, 20, []), (20, .arraylength, 1, 21, []), (21, .bipush 6, 2, 23, []), (23, .isub, 1, 24, []), (24, .if_icmp .gt 589, 3, 27, [613])]),
  (125, [(27, .aload_n 0, 1, 28, []), (28, .iload_n 3, 1, 29, []), (29, .iaload, 1, 30, []), (30, .bipush 31, 2, 32, []), (32, .iand, 1, 33, []), (33, .tableswitch 574 0 16 #[83, 146, 169, 182, 195, 238, 271, 284, 307, 340, 373, 396, 419, 442, 475, 498, 551], 83, 116, [607, 116, 179, 202, 215, 228, 271, 304, 317, 340, 373, 406, 429, 452, 475, 508, 531, 584]), (116, .aload_n 1, 1, 117, []), (117, .aload_n 0, 1, 118, []), (118, .iload_n 3, 1, 119, []), (119, .iconst 1, 1, 120, []), (120, .iadd, 1, 121, []), (121, .iaload, 1, 122, []), (122, .aload_n 0, 1, 123, []), (123, .iload_n 3, 1, 124, []), (124, .iconst 2, 1, 125, []), (125, .iadd, 1, 126, [])]),
  (141, [(126, .iaload, 1, 127, []), (127, .aload_n 0, 1, 128, []), (128, .iload_n 3, 1, 129, []), (129, .iconst 3, 1, 130, []), (130, .iadd, 1, 131, []), (131, .iaload, 1, 132, []), (132, .aload_n 0, 1, 133, []), (133, .iload_n 3, 1, 134, []), (134, .iconst 4, 1, 135, []), (135, .iadd, 1, 136, []), (136, .iaload, 1, 137, []), (137, .aload_n 0, 1, 138, []), (138, .iload_n 3, 1, 139, []), (139, .iconst 5, 1, 140, []), (140, .iadd, 1, 141, []), (141, .iaload, 1, 142, [])]),
  (159, [(142, .invokevirtual 13, 3, 145, []), (145, .aload_n 2, 1, 146, []), (146, .aload_n 0, 1, 147, []), (147, .iload_n 3, 1, 148, []), (148, .iconst 1, 1, 149, []), (149, .iadd, 1, 150, []), (150, .iaload, 1, 151, []), (151, .aload_n 0, 1, 152, []), (152, .iload_n 3, 1, 153, []), (153, .iconst 2, 1, 154, []), (154, .iadd, 1, 155, []), (155, .iaload, 1, 156, []), (156, .aload_n 0, 1, 157, []), (157, .iload_n 3, 1, 158, []), (158, .iconst 3, 1, 159, []), (159, .iadd, 1, 160, [])]),
  (179, [(160, .iaload, 1, 161, []), (161, .aload_n 0, 1, 162, []), (162, .iload_n 3, 1, 163, []), (163, .iconst 4, 1, 164, []), (164, .iadd, 1, 165, []), (165, .iaload, 1, 166, []), (166, .aload_n 0, 1, 167, []), (167, .iload_n 3, 1, 168, []), (168, .iconst 5, 1, 169, []), (169, .iadd, 1, 170, []), (170, .iaload, 1, 171, []), (171, .invokevirtual 17, 3, 174, []), (174, .if_icmp .eq 433, 3, 177, [607]), (177, .iconst 0, 1, 178, []), (178, .ireturn, 1, 179, []), (179, .aload_n 1, 1, 180, [])]),
  (201, [(180, .aload_n 0, 1, 181, []), (181, .iload_n 3, 1, 182, []), (182, .iconst 1, 1, 183, []), (183, .iadd, 1, 184, []), (184, .iaload, 1, 185, []), (185, .invokevirtual 18, 3, 188, []), (188, .aload_n 2, 1, 189, []), (189, .aload_n 0, 1, 190, []), (190, .iload_n 3, 1, 191, []), (191, .iconst 1, 1, 192, []), (192, .iadd, 1, 193, []), (193, .iaload, 1, 194, []), (194, .invokevirtual 22, 3, 197, []), (197, .if_icmp .eq 410, 3, 200, [607]), (200, .iconst 0, 1, 201, []), (201, .ireturn, 1, 202, [])]),
  (229, [(202, .aload_n 1, 1, 203, []), (203, .invokevirtual 23, 3, 206, []), (206, .aload_n 2, 1, 207, []), (207, .invokevirtual 27, 3, 210, []), (210, .if_icmp .eq 397, 3, 213, [607]), (213, .iconst 0, 1, 214, []), (214, .ireturn, 1, 215, []), (215, .aload_n 1, 1, 216, []), (216, .invokevirtual 28, 3, 219, []), (219, .aload_n 2, 1, 220, []), (220, .invokevirtual 31, 3, 223, []), (223, .if_icmp .eq 384, 3, 226, [607]), (226, .iconst 0, 1, 227, []), (227, .ireturn, 1, 228, []), (228, .aload_n 1, 1, 229, []), (229, .aload_n 0, 1, 230, [])]),
  (247, [(230, .iload_n 3, 1, 231, []), (231, .iconst 1, 1, 232, []), (232, .iadd, 1, 233, []), (233, .iaload, 1, 234, []), (234, .aload_n 0, 1, 235, []), (235, .iload_n 3, 1, 236, []), (236, .iconst 2, 1, 237, []), (237, .iadd, 1, 238, []), (238, .iaload, 1, 239, []), (239, .aload_n 0, 1, 240, []), (240, .iload_n 3, 1, 241, []), (241, .iconst 3, 1, 242, []), (242, .iadd, 1, 243, []), (243, .iaload, 1, 244, []), (244, .invokevirtual 32, 3, 247, []), (247, .aload_n 2, 1, 248, [])]),
  (263, [(248, .aload_n 0, 1, 249, []), (249, .iload_n 3, 1, 250, []), (250, .iconst 1, 1, 251, []), (251, .iadd, 1, 252, []), (252, .iaload, 1, 253, []), (253, .aload_n 0, 1, 254, []), (254, .iload_n 3, 1, 255, []), (255, .iconst 2, 1, 256, []), (256, .iadd, 1, 257, []), (257, .iaload, 1, 258, []), (258, .aload_n 0, 1, 259, []), (259, .iload_n 3, 1, 260, []), (260, .iconst 3, 1, 261, []), (261, .iadd, 1, 262, []), (262, .iaload, 1, 263, []), (263, .invokevirtual 36, 3, 266, [])]),
  (285, [(266, .if_icmp .eq 341, 3, 269, [607]), (269, .iconst 0, 1, 270, []), (270, .ireturn, 1, 271, []), (271, .aload_n 1, 1, 272, []), (272, .aload_n 0, 1, 273, []), (273, .iload_n 3, 1, 274, []), (274, .iconst 1, 1, 275, []), (275, .iadd, 1, 276, []), (276, .iaload, 1, 277, []), (277, .aload_n 0, 1, 278, []), (278, .iload_n 3, 1, 279, []), (279, .iconst 2, 1, 280, []), (280, .iadd, 1, 281, []), (281, .iaload, 1, 282, []), (282, .invokevirtual 37, 3, 285, []), (285, .aload_n 2, 1, 286, [])]),
  (305, [(286, .aload_n 0, 1, 287, []), (287, .iload_n 3, 1, 288, []), (288, .iconst 1, 1, 289, []), (289, .iadd, 1, 290, []), (290, .iaload, 1, 291, []), (291, .aload_n 0, 1, 292, []), (292, .iload_n 3, 1, 293, []), (293, .iconst 2, 1, 294, []), (294, .iadd, 1, 295, []), (295, .iaload, 1, 296, []), (296, .invokevirtual 41, 3, 299, []), (299, .if_icmp .eq 308, 3, 302, [607]), (302, .iconst 0, 1, 303, []), (303, .ireturn, 1, 304, []), (304, .aload_n 1, 1, 305, []), (305, .invokevirtual 42, 3, 308, [])]),
  (329, [(308, .aload_n 2, 1, 309, []), (309, .invokevirtual 45, 3, 312, []), (312, .if_icmp .eq 295, 3, 315, [607]), (315, .iconst 0, 1, 316, []), (316, .ireturn, 1, 317, []), (317, .aload_n 1, 1, 318, []), (318, .aload_n 0, 1, 319, []), (319, .iload_n 3, 1, 320, []), (320, .iconst 1, 1, 321, []), (321, .iadd, 1, 322, []), (322, .iaload, 1, 323, []), (323, .invokevirtual 46, 3, 326, []), (326, .aload_n 2, 1, 327, []), (327, .aload_n 0, 1, 328, []), (328, .iload_n 3, 1, 329, []), (329, .iconst 1, 1, 330, [])]),
  (349, [(330, .iadd, 1, 331, []), (331, .iaload, 1, 332, []), (332, .invokevirtual 49, 3, 335, []), (335, .if_icmp .eq 272, 3, 338, [607]), (338, .iconst 0, 1, 339, []), (339, .ireturn, 1, 340, []), (340, .aload_n 1, 1, 341, []), (341, .aload_n 0, 1, 342, []), (342, .iload_n 3, 1, 343, []), (343, .iconst 1, 1, 344, []), (344, .iadd, 1, 345, []), (345, .iaload, 1, 346, []), (346, .aload_n 0, 1, 347, []), (347, .iload_n 3, 1, 348, []), (348, .iconst 2, 1, 349, []), (349, .iadd, 1, 350, [])]),
  (371, [(350, .iaload, 1, 351, []), (351, .invokevirtual 50, 3, 354, []), (354, .aload_n 2, 1, 355, []), (355, .aload_n 0, 1, 356, []), (356, .iload_n 3, 1, 357, []), (357, .iconst 1, 1, 358, []), (358, .iadd, 1, 359, []), (359, .iaload, 1, 360, []), (360, .aload_n 0, 1, 361, []), (361, .iload_n 3, 1, 362, []), (362, .iconst 2, 1, 363, []), (363, .iadd, 1, 364, []), (364, .iaload, 1, 365, []), (365, .invokevirtual 53, 3, 368, []), (368, .if_icmp .eq 239, 3, 371, [607]), (371, .iconst 0, 1, 372, [])]),
  (389, [(372, .ireturn, 1, 373, []), (373, .aload_n 1, 1, 374, []), (374, .aload_n 0, 1, 375, []), (375, .iload_n 3, 1, 376, []), (376, .iconst 1, 1, 377, []), (377, .iadd, 1, 378, []), (378, .iaload, 1, 379, []), (379, .aload_n 0, 1, 380, []), (380, .iload_n 3, 1, 381, []), (381, .iconst 2, 1, 382, []), (382, .iadd, 1, 383, []), (383, .iaload, 1, 384, []), (384, .invokevirtual 54, 3, 387, []), (387, .aload_n 2, 1, 388, []), (388, .aload_n 0, 1, 389, []), (389, .iload_n 3, 1, 390, [])]),
  (409, [(390, .iconst 1, 1, 391, []), (391, .iadd, 1, 392, []), (392, .iaload, 1, 393, []), (393, .aload_n 0, 1, 394, []), (394, .iload_n 3, 1, 395, []), (395, .iconst 2, 1, 396, []), (396, .iadd, 1, 397, []), (397, .iaload, 1, 398, []), (398, .invokevirtual 57, 3, 401, []), (401, .if_icmp .eq 206, 3, 404, [607]), (404, .iconst 0, 1, 405, []), (405, .ireturn, 1, 406, []), (406, .aload_n 1, 1, 407, []), (407, .aload_n 0, 1, 408, []), (408, .iload_n 3, 1, 409, []), (409, .iconst 1, 1, 410, [])]),
  (431, [(410, .iadd, 1, 411, []), (411, .iaload, 1, 412, []), (412, .invokevirtual 58, 3, 415, []), (415, .aload_n 2, 1, 416, []), (416, .aload_n 0, 1, 417, []), (417, .iload_n 3, 1, 418, []), (418, .iconst 1, 1, 419, []), (419, .iadd, 1, 420, []), (420, .iaload, 1, 421, []), (421, .invokevirtual 61, 3, 424, []), (424, .if_icmp .eq 183, 3, 427, [607]), (427, .iconst 0, 1, 428, []), (428, .ireturn, 1, 429, []), (429, .aload_n 1, 1, 430, []), (430, .aload_n 0, 1, 431, []), (431, .iload_n 3, 1, 432, [])]),
  (453, [(432, .iconst 1, 1, 433, []), (433, .iadd, 1, 434, []), (434, .iaload, 1, 435, []), (435, .invokevirtual 62, 3, 438, []), (438, .aload_n 2, 1, 439, []), (439, .aload_n 0, 1, 440, []), (440, .iload_n 3, 1, 441, []), (441, .iconst 1, 1, 442, []), (442, .iadd, 1, 443, []), (443, .iaload, 1, 444, []), (444, .invokevirtual 65, 3, 447, []), (447, .if_icmp .eq 160, 3, 450, [607]), (450, .iconst 0, 1, 451, []), (451, .ireturn, 1, 452, []), (452, .aload_n 1, 1, 453, []), (453, .aload_n 0, 1, 454, [])]),
  (475, [(454, .iload_n 3, 1, 455, []), (455, .iconst 1, 1, 456, []), (456, .iadd, 1, 457, []), (457, .iaload, 1, 458, []), (458, .invokevirtual 66, 3, 461, []), (461, .aload_n 2, 1, 462, []), (462, .aload_n 0, 1, 463, []), (463, .iload_n 3, 1, 464, []), (464, .iconst 1, 1, 465, []), (465, .iadd, 1, 466, []), (466, .iaload, 1, 467, []), (467, .invokevirtual 69, 3, 470, []), (470, .if_icmp .eq 137, 3, 473, [607]), (473, .iconst 0, 1, 474, []), (474, .ireturn, 1, 475, []), (475, .aload_n 1, 1, 476, [])]),
  (493, [(476, .aload_n 0, 1, 477, []), (477, .iload_n 3, 1, 478, []), (478, .iconst 1, 1, 479, []), (479, .iadd, 1, 480, []), (480, .iaload, 1, 481, []), (481, .aload_n 0, 1, 482, []), (482, .iload_n 3, 1, 483, []), (483, .iconst 2, 1, 484, []), (484, .iadd, 1, 485, []), (485, .iaload, 1, 486, []), (486, .invokevirtual 70, 3, 489, []), (489, .aload_n 2, 1, 490, []), (490, .aload_n 0, 1, 491, []), (491, .iload_n 3, 1, 492, []), (492, .iconst 1, 1, 493, []), (493, .iadd, 1, 494, [])]),
  (513, [(494, .iaload, 1, 495, []), (495, .aload_n 0, 1, 496, []), (496, .iload_n 3, 1, 497, []), (497, .iconst 2, 1, 498, []), (498, .iadd, 1, 499, []), (499, .iaload, 1, 500, []), (500, .invokevirtual 73, 3, 503, []), (503, .if_icmp .eq 104, 3, 506, [607]), (506, .iconst 0, 1, 507, []), (507, .ireturn, 1, 508, []), (508, .aload_n 1, 1, 509, []), (509, .aload_n 0, 1, 510, []), (510, .iload_n 3, 1, 511, []), (511, .iconst 1, 1, 512, []), (512, .iadd, 1, 513, []), (513, .iaload, 1, 514, [])]),
  (535, [(514, .invokevirtual 74, 3, 517, []), (517, .aload_n 2, 1, 518, []), (518, .aload_n 0, 1, 519, []), (519, .iload_n 3, 1, 520, []), (520, .iconst 1, 1, 521, []), (521, .iadd, 1, 522, []), (522, .iaload, 1, 523, []), (523, .invokevirtual 77, 3, 526, []), (526, .if_icmp .eq 81, 3, 529, [607]), (529, .iconst 0, 1, 530, []), (530, .ireturn, 1, 531, []), (531, .aload_n 1, 1, 532, []), (532, .aload_n 0, 1, 533, []), (533, .iload_n 3, 1, 534, []), (534, .iconst 1, 1, 535, []), (535, .iadd, 1, 536, [])]),
  (551, [(536, .iaload, 1, 537, []), (537, .aload_n 0, 1, 538, []), (538, .iload_n 3, 1, 539, []), (539, .iconst 2, 1, 540, []), (540, .iadd, 1, 541, []), (541, .iaload, 1, 542, []), (542, .aload_n 0, 1, 543, []), (543, .iload_n 3, 1, 544, []), (544, .iconst 3, 1, 545, []), (545, .iadd, 1, 546, []), (546, .iaload, 1, 547, []), (547, .aload_n 0, 1, 548, []), (548, .iload_n 3, 1, 549, []), (549, .iconst 4, 1, 550, []), (550, .iadd, 1, 551, []), (551, .iaload, 1, 552, [])]),
  (569, [(552, .invokevirtual 78, 3, 555, []), (555, .aload_n 2, 1, 556, []), (556, .aload_n 0, 1, 557, []), (557, .iload_n 3, 1, 558, []), (558, .iconst 1, 1, 559, []), (559, .iadd, 1, 560, []), (560, .iaload, 1, 561, []), (561, .aload_n 0, 1, 562, []), (562, .iload_n 3, 1, 563, []), (563, .iconst 2, 1, 564, []), (564, .iadd, 1, 565, []), (565, .iaload, 1, 566, []), (566, .aload_n 0, 1, 567, []), (567, .iload_n 3, 1, 568, []), (568, .iconst 3, 1, 569, []), (569, .iadd, 1, 570, [])]),
  (589, [(570, .iaload, 1, 571, []), (571, .aload_n 0, 1, 572, []), (572, .iload_n 3, 1, 573, []), (573, .iconst 4, 1, 574, []), (574, .iadd, 1, 575, []), (575, .iaload, 1, 576, []), (576, .invokevirtual 82, 3, 579, []), (579, .if_icmp .eq 28, 3, 582, [607]), (582, .iconst 0, 1, 583, []), (583, .ireturn, 1, 584, []), (584, .aload_n 1, 1, 585, []), (585, .aload_n 0, 1, 586, []), (586, .iload_n 3, 1, 587, []), (587, .iconst 1, 1, 588, []), (588, .iadd, 1, 589, []), (589, .iaload, 1, 590, [])]),
  (614, [(590, .invokevirtual 83, 3, 593, []), (593, .aload_n 2, 1, 594, []), (594, .aload_n 0, 1, 595, []), (595, .iload_n 3, 1, 596, []), (596, .iconst 1, 1, 597, []), (597, .iadd, 1, 598, []), (598, .iaload, 1, 599, []), (599, .invokevirtual 86, 3, 602, []), (602, .if_icmp .eq 5, 3, 605, [607]), (605, .iconst 0, 1, 606, []), (606, .ireturn, 1, 607, []), (607, .iinc 3 6, 3, 610, []), (610, .goto (-592), 3, 613, [18]), (613, .iconst 1, 1, 614, []), (614, .ireturn, 1, 615, [])])])
theorem okL_law : sk_ok mL_law := show ∀ c ∈ mL_law.2.2.2.2, ∀ e ∈ c.2, sk_okI mL_law e = true from by decide +kernel
end
section
/-! ===== who may be called ===== -/
set_option maxRecDepth 100000 in
theorem lcX0_init : sk_lC 2 mX0_init := ⟨okX0_init, sk_wd (q := 358) rfl rfl, sk_wd (q := 85) (by decide +kernel) rfl, by decide, by decide, by decide, by decide, by decide +kernel⟩
set_option maxRecDepth 100000 in
theorem lcX0_foretell : sk_lC 2 mX0_foretell := ⟨okX0_foretell, sk_wd (q := 858) rfl rfl, sk_wd (q := 85) (by decide +kernel) rfl, by decide, by decide, by decide, by decide, by decide +kernel⟩
set_option maxRecDepth 100000 in
theorem lcX0_sweep : sk_lC 0 mX0_sweep := ⟨okX0_sweep, sk_wd (q := 908) rfl rfl, sk_wd (q := 85) (by decide +kernel) rfl, by decide, by decide, by decide, by decide, by decide +kernel⟩
set_option maxRecDepth 100000 in
theorem lcX0_makeCallersStale : sk_lC 1 mX0_makeCallersStale := ⟨okX0_makeCallersStale, sk_wd (q := 951) rfl rfl, sk_wd (q := 85) (by decide +kernel) rfl, by decide, by decide, by decide, by decide, by decide +kernel⟩
set_option maxRecDepth 100000 in
theorem lcX0_walkBlock : sk_lC 2 mX0_walkBlock := ⟨okX0_walkBlock, sk_wd (q := 913) rfl rfl, sk_wd (q := 85) (by decide +kernel) rfl, by decide, by decide, by decide, by decide, by decide +kernel⟩
set_option maxRecDepth 100000 in
theorem lcX0_walkStep : sk_lC 2 mX0_walkStep := ⟨okX0_walkStep, sk_wd (q := 918) rfl rfl, sk_wd (q := 85) (by decide +kernel) rfl, by decide, by decide, by decide, by decide, by decide +kernel⟩
set_option maxRecDepth 100000 in
theorem lcX0_walkAsk : sk_lC 2 mX0_walkAsk := ⟨okX0_walkAsk, sk_wd (q := 922) rfl rfl, sk_wd (q := 85) (by decide +kernel) rfl, by decide, by decide, by decide, by decide, by decide +kernel⟩
set_option maxRecDepth 100000 in
theorem lcX0_walkTry : sk_lC 2 mX0_walkTry := ⟨okX0_walkTry, sk_wd (q := 943) rfl rfl, sk_wd (q := 85) (by decide +kernel) rfl, by decide, by decide, by decide, by decide, by decide +kernel⟩
set_option maxRecDepth 100000 in
theorem lcX0_walkInner : sk_lC 2 mX0_walkInner := ⟨okX0_walkInner, sk_wd (q := 947) rfl rfl, sk_wd (q := 85) (by decide +kernel) rfl, by decide, by decide, by decide, by decide, by decide +kernel⟩
set_option maxRecDepth 100000 in
theorem lcX0_walkCall : sk_lC 1 mX0_walkCall := ⟨okX0_walkCall, sk_wd (q := 934) rfl rfl, sk_wd (q := 85) (by decide +kernel) rfl, by decide, by decide, by decide, by decide, by decide +kernel⟩
set_option maxRecDepth 100000 in
theorem lcX0_refuserOf : sk_lC 2 mX0_refuserOf := ⟨okX0_refuserOf, sk_wd (q := 926) rfl rfl, sk_wd (q := 85) (by decide +kernel) rfl, by decide, by decide, by decide, by decide, by decide +kernel⟩
set_option maxRecDepth 100000 in
theorem lcX0_refuserAt : sk_lC 2 mX0_refuserAt := ⟨okX0_refuserAt, sk_wd (q := 929) rfl rfl, sk_wd (q := 85) (by decide +kernel) rfl, by decide, by decide, by decide, by decide, by decide +kernel⟩
set_option maxRecDepth 100000 in
theorem lcX0_levelsAbove : sk_lC 1 mX0_levelsAbove := ⟨okX0_levelsAbove, sk_wd (q := 878) rfl rfl, sk_wd (q := 85) (by decide +kernel) rfl, by decide, by decide, by decide, by decide, by decide +kernel⟩
set_option maxRecDepth 100000 in
theorem lcX0_copyDown : sk_lC 1 mX0_copyDown := ⟨okX0_copyDown, sk_wd (q := 870) rfl rfl, sk_wd (q := 85) (by decide +kernel) rfl, by decide, by decide, by decide, by decide, by decide +kernel⟩
set_option maxRecDepth 100000 in
theorem lcX0_enterBlock : sk_lC 2 mX0_enterBlock := ⟨okX0_enterBlock, sk_wd (q := 938) rfl rfl, sk_wd (q := 85) (by decide +kernel) rfl, by decide, by decide, by decide, by decide, by decide +kernel⟩
set_option maxRecDepth 100000 in
theorem lcX0_change : sk_lC 4 mX0_change := ⟨okX0_change, sk_wd (q := 882) rfl rfl, sk_wd (q := 85) (by decide +kernel) rfl, by decide, by decide, by decide, by decide, by decide +kernel⟩
set_option maxRecDepth 100000 in
theorem lcX0_come : sk_lC 2 mX0_come := ⟨okX0_come, sk_wd (q := 866) rfl rfl, sk_wd (q := 85) (by decide +kernel) rfl, by decide, by decide, by decide, by decide, by decide +kernel⟩
set_option maxRecDepth 100000 in
theorem lcX0_placeInOrder : sk_lC 2 mX0_placeInOrder := ⟨okX0_placeInOrder, sk_wd (q := 889) rfl rfl, sk_wd (q := 85) (by decide +kernel) rfl, by decide, by decide, by decide, by decide, by decide +kernel⟩
set_option maxRecDepth 100000 in
theorem lcX0_compare : sk_lC 3 mX0_compare := ⟨okX0_compare, sk_wd (q := 893) rfl rfl, sk_wd (q := 85) (by decide +kernel) rfl, by decide, by decide, by decide, by decide, by decide +kernel⟩
set_option maxRecDepth 100000 in
theorem lcX0_insert : sk_lC 3 mX0_insert := ⟨okX0_insert, sk_wd (q := 897) rfl rfl, sk_wd (q := 85) (by decide +kernel) rfl, by decide, by decide, by decide, by decide, by decide +kernel⟩
set_option maxRecDepth 100000 in
theorem lcX0_rootCan : sk_lC 1 mX0_rootCan := ⟨okX0_rootCan, sk_wd (q := 963) rfl rfl, sk_wd (q := 85) (by decide +kernel) rfl, by decide, by decide, by decide, by decide, by decide +kernel⟩
set_option maxRecDepth 100000 in
theorem lcX0_methodsThatCame : sk_lC 0 mX0_methodsThatCame := ⟨okX0_methodsThatCame, sk_wd (q := 970) rfl rfl, sk_wd (q := 85) (by decide +kernel) rfl, by decide, by decide, by decide, by decide, by decide +kernel⟩
set_option maxRecDepth 100000 in
theorem lcX0_refuser : sk_lC 4 mX0_refuser := ⟨okX0_refuser, sk_wd (q := 978) rfl rfl, sk_wd (q := 85) (by decide +kernel) rfl, by decide, by decide, by decide, by decide, by decide +kernel⟩
set_option maxRecDepth 100000 in
theorem lcX1_init : sk_lC 0 mX1_init := ⟨okX1_init, sk_wd (q := 266) rfl rfl, sk_wd (q := 83) (by decide +kernel) rfl, by decide, by decide, by decide, by decide, by decide +kernel⟩
set_option maxRecDepth 100000 in
theorem lcX1_clear : sk_lC 0 mX1_clear := ⟨okX1_clear, sk_wd (q := 698) rfl rfl, sk_wd (q := 83) (by decide +kernel) rfl, by decide, by decide, by decide, by decide, by decide +kernel⟩
set_option maxRecDepth 100000 in
theorem lcX1_isEmpty : sk_lC 0 mX1_isEmpty := ⟨okX1_isEmpty, sk_wd (q := 709) rfl rfl, sk_wd (q := 83) (by decide +kernel) rfl, by decide, by decide, by decide, by decide, by decide +kernel⟩
set_option maxRecDepth 100000 in
theorem lcX1_push : sk_lC 4 mX1_push := ⟨okX1_push, sk_wd (q := 735) rfl rfl, sk_wd (q := 83) (by decide +kernel) rfl, by decide, by decide, by decide, by decide, by decide +kernel⟩
set_option maxRecDepth 100000 in
theorem lcX1_pop : sk_lC 0 mX1_pop := ⟨okX1_pop, sk_wd (q := 795) rfl rfl, sk_wd (q := 83) (by decide +kernel) rfl, by decide, by decide, by decide, by decide, by decide +kernel⟩
set_option maxRecDepth 100000 in
theorem lcX1_topRole : sk_lC 0 mX1_topRole := ⟨okX1_topRole, sk_wd (q := 783) rfl rfl, sk_wd (q := 83) (by decide +kernel) rfl, by decide, by decide, by decide, by decide, by decide +kernel⟩
set_option maxRecDepth 100000 in
theorem lcX1_topOpener : sk_lC 0 mX1_topOpener := ⟨okX1_topOpener, sk_wd (q := 787) rfl rfl, sk_wd (q := 83) (by decide +kernel) rfl, by decide, by decide, by decide, by decide, by decide +kernel⟩
set_option maxRecDepth 100000 in
theorem lcX1_topNext : sk_lC 0 mX1_topNext := ⟨okX1_topNext, sk_wd (q := 739) rfl rfl, sk_wd (q := 83) (by decide +kernel) rfl, by decide, by decide, by decide, by decide, by decide +kernel⟩
set_option maxRecDepth 100000 in
theorem lcX1_topStack : sk_lC 0 mX1_topStack := ⟨okX1_topStack, sk_wd (q := 752) rfl rfl, sk_wd (q := 83) (by decide +kernel) rfl, by decide, by decide, by decide, by decide, by decide +kernel⟩
set_option maxRecDepth 100000 in
theorem lcX1_topTimesLeft : sk_lC 0 mX1_topTimesLeft := ⟨okX1_topTimesLeft, sk_wd (q := 836) rfl rfl, sk_wd (q := 83) (by decide +kernel) rfl, by decide, by decide, by decide, by decide, by decide +kernel⟩
set_option maxRecDepth 100000 in
theorem lcX1_goTo : sk_lC 1 mX1_goTo := ⟨okX1_goTo, sk_wd (q := 748) rfl rfl, sk_wd (q := 83) (by decide +kernel) rfl, by decide, by decide, by decide, by decide, by decide +kernel⟩
set_option maxRecDepth 100000 in
theorem lcX1_setTimesLeft : sk_lC 1 mX1_setTimesLeft := ⟨okX1_setTimesLeft, sk_wd (q := 819) rfl rfl, sk_wd (q := 83) (by decide +kernel) rfl, by decide, by decide, by decide, by decide, by decide +kernel⟩
set_option maxRecDepth 100000 in
theorem lcX2_init : sk_lC 0 mX2_init := ⟨okX2_init, sk_wd (q := 137) rfl rfl, sk_wd (q := 79) (by decide +kernel) rfl, by decide, by decide, by decide, by decide, by decide +kernel⟩
set_option maxRecDepth 100000 in
theorem lcX2_clear : sk_lC 0 mX2_clear := ⟨okX2_clear, sk_wd (q := 484) rfl rfl, sk_wd (q := 79) (by decide +kernel) rfl, by decide, by decide, by decide, by decide, by decide +kernel⟩
set_option maxRecDepth 100000 in
theorem lcX2_addMethod : sk_lC 1 mX2_addMethod := ⟨okX2_addMethod, sk_wd (q := 594) rfl rfl, sk_wd (q := 79) (by decide +kernel) rfl, by decide, by decide, by decide, by decide, by decide +kernel⟩
set_option maxRecDepth 100000 in
theorem lcX2_addStep : sk_lC 1 mX2_addStep := ⟨okX2_addStep, sk_wd (q := 608) rfl rfl, sk_wd (q := 79) (by decide +kernel) rfl, by decide, by decide, by decide, by decide, by decide +kernel⟩
set_option maxRecDepth 100000 in
theorem lcX2_ownerOf : sk_lC 1 mX2_ownerOf := ⟨okX2_ownerOf, sk_wd (q := 769) rfl rfl, sk_wd (q := 79) (by decide +kernel) rfl, by decide, by decide, by decide, by decide, by decide +kernel⟩
set_option maxRecDepth 100000 in
theorem lcX2_startOf : sk_lC 1 mX2_startOf := ⟨okX2_startOf, sk_wd (q := 722) rfl rfl, sk_wd (q := 79) (by decide +kernel) rfl, by decide, by decide, by decide, by decide, by decide +kernel⟩
set_option maxRecDepth 100000 in
theorem lcX2_hasStep : sk_lC 1 mX2_hasStep := ⟨okX2_hasStep, sk_wd (q := 612) rfl rfl, sk_wd (q := 79) (by decide +kernel) rfl, by decide, by decide, by decide, by decide, by decide +kernel⟩
set_option maxRecDepth 100000 in
theorem lcX2_countOf : sk_lC 1 mX2_countOf := ⟨okX2_countOf, sk_wd (q := 673) rfl rfl, sk_wd (q := 79) (by decide +kernel) rfl, by decide, by decide, by decide, by decide, by decide +kernel⟩
set_option maxRecDepth 100000 in
theorem lcX2_canBeForetold : sk_lC 0 mX2_canBeForetold := ⟨okX2_canBeForetold, sk_wd (q := 853) rfl rfl, sk_wd (q := 79) (by decide +kernel) rfl, by decide, by decide, by decide, by decide, by decide +kernel⟩
set_option maxRecDepth 100000 in
theorem lcX3_init : sk_lC 1 mX3_init := ⟨okX3_init, sk_wd (q := 214) rfl rfl, sk_wd (q := 80) (by decide +kernel) rfl, by decide, by decide, by decide, by decide, by decide +kernel⟩
set_option maxRecDepth 100000 in
theorem lcX3_readInto : sk_lC 2 mX3_readInto := ⟨okX3_readInto, sk_wd (q := 480) rfl rfl, sk_wd (q := 80) (by decide +kernel) rfl, by decide, by decide, by decide, by decide, by decide +kernel⟩
set_option maxRecDepth 100000 in
theorem lcX3_broken : sk_lC 2 mX3_broken := ⟨okX3_broken, sk_wd (q := 586) rfl rfl, sk_wd (q := 80) (by decide +kernel) rfl, by decide, by decide, by decide, by decide, by decide +kernel⟩
set_option maxRecDepth 100000 in
theorem lcX3_readMethod : sk_lC 0 mX3_readMethod := ⟨okX3_readMethod, sk_wd (q := 574) rfl rfl, sk_wd (q := 80) (by decide +kernel) rfl, by decide, by decide, by decide, by decide, by decide +kernel⟩
set_option maxRecDepth 100000 in
theorem lcX3_take : sk_lC 1 mX3_take := ⟨okX3_take, sk_wd (q := 578) rfl rfl, sk_wd (q := 80) (by decide +kernel) rfl, by decide, by decide, by decide, by decide, by decide +kernel⟩
set_option maxRecDepth 100000 in
theorem lcX3_readNumber : sk_lC 1 mX3_readNumber := ⟨okX3_readNumber, sk_wd (q := 590) rfl rfl, sk_wd (q := 80) (by decide +kernel) rfl, by decide, by decide, by decide, by decide, by decide +kernel⟩
set_option maxRecDepth 100000 in
theorem lcX3_readBlock : sk_lC 1 mX3_readBlock := ⟨okX3_readBlock, sk_wd (q := 599) rfl rfl, sk_wd (q := 80) (by decide +kernel) rfl, by decide, by decide, by decide, by decide, by decide +kernel⟩
set_option maxRecDepth 100000 in
theorem lcX3_readStep : sk_lC 1 mX3_readStep := ⟨okX3_readStep, sk_wd (q := 604) rfl rfl, sk_wd (q := 80) (by decide +kernel) rfl, by decide, by decide, by decide, by decide, by decide +kernel⟩
set_option maxRecDepth 100000 in
theorem lcX3_readNumbers : sk_lC 2 mX3_readNumbers := ⟨okX3_readNumbers, sk_wd (q := 616) rfl rfl, sk_wd (q := 80) (by decide +kernel) rfl, by decide, by decide, by decide, by decide, by decide +kernel⟩
set_option maxRecDepth 100000 in
theorem lcX3_readRest : sk_lC 3 mX3_readRest := ⟨okX3_readRest, sk_wd (q := 625) rfl rfl, sk_wd (q := 80) (by decide +kernel) rfl, by decide, by decide, by decide, by decide, by decide +kernel⟩
set_option maxRecDepth 100000 in
theorem lcX3_allMethodsAreThere : sk_lC 0 mX3_allMethodsAreThere := ⟨okX3_allMethodsAreThere, sk_wd (q := 631) rfl rfl, sk_wd (q := 80) (by decide +kernel) rfl, by decide, by decide, by decide, by decide, by decide +kernel⟩
set_option maxRecDepth 100000 in
theorem lcX4_init : sk_lC 1 mX4_init := ⟨okX4_init, sk_wd (q := 104) rfl rfl, sk_wd (q := 75) (by decide +kernel) rfl, by decide, by decide, by decide, by decide, by decide +kernel⟩
set_option maxRecDepth 100000 in
theorem lcX4_hasRoomFor : sk_lC 1 mX4_hasRoomFor := ⟨okX4_hasRoomFor, sk_wd (q := 449) rfl rfl, sk_wd (q := 75) (by decide +kernel) rfl, by decide, by decide, by decide, by decide, by decide +kernel⟩
set_option maxRecDepth 100000 in
theorem lcX4_add : sk_lC 1 mX4_add := ⟨okX4_add, sk_wd (q := 457) rfl rfl, sk_wd (q := 75) (by decide +kernel) rfl, by decide, by decide, by decide, by decide, by decide +kernel⟩
set_option maxRecDepth 100000 in
theorem lcX4_at : sk_lC 1 mX4_at := ⟨okX4_at, sk_wd (q := 492) rfl rfl, sk_wd (q := 75) (by decide +kernel) rfl, by decide, by decide, by decide, by decide, by decide +kernel⟩
set_option maxRecDepth 100000 in
theorem lcX4_cutTo : sk_lC 1 mX4_cutTo := ⟨okX4_cutTo, sk_wd (q := 469) rfl rfl, sk_wd (q := 75) (by decide +kernel) rfl, by decide, by decide, by decide, by decide, by decide +kernel⟩
set_option maxRecDepth 100000 in
theorem lcX5_init : sk_lC 0 mX5_init := ⟨okX5_init, sk_wd (q := 124) rfl rfl, sk_wd (q := 77) (by decide +kernel) rfl, by decide, by decide, by decide, by decide, by decide +kernel⟩
set_option maxRecDepth 100000 in
theorem lcX5_of : sk_lC 2 mX5_of := ⟨okX5_of, sk_wd (q := 652) rfl rfl, sk_wd (q := 77) (by decide +kernel) rfl, by decide, by decide, by decide, by decide, by decide +kernel⟩
set_option maxRecDepth 100000 in
theorem lcX5_replace : sk_lC 3 mX5_replace := ⟨okX5_replace, sk_wd (q := 648) rfl rfl, sk_wd (q := 77) (by decide +kernel) rfl, by decide, by decide, by decide, by decide, by decide +kernel⟩
set_option maxRecDepth 100000 in
theorem lcX5_given : sk_lC 0 mX5_given := ⟨okX5_given, sk_wd (q := 986) rfl rfl, sk_wd (q := 77) (by decide +kernel) rfl, by decide, by decide, by decide, by decide, by decide +kernel⟩
set_option maxRecDepth 100000 in
theorem lcX6_init : sk_lC 4 mX6_init := ⟨okX6_init, sk_wd (q := 260) rfl rfl, sk_wd (q := 82) (by decide +kernel) rfl, by decide, by decide, by decide, by decide, by decide +kernel⟩
set_option maxRecDepth 100000 in
theorem lcX6_execute : sk_lC 3 mX6_execute := ⟨okX6_execute, sk_wd (q := 685) rfl rfl, sk_wd (q := 82) (by decide +kernel) rfl, by decide, by decide, by decide, by decide, by decide +kernel⟩
set_option maxRecDepth 100000 in
theorem lcX6_begin : sk_lC 2 mX6_begin := ⟨okX6_begin, sk_wd (q := 689) rfl rfl, sk_wd (q := 82) (by decide +kernel) rfl, by decide, by decide, by decide, by decide, by decide +kernel⟩
set_option maxRecDepth 100000 in
theorem lcX6_beginJob : sk_lC 0 mX6_beginJob := ⟨okX6_beginJob, sk_wd (q := 713) rfl rfl, sk_wd (q := 82) (by decide +kernel) rfl, by decide, by decide, by decide, by decide, by decide +kernel⟩
set_option maxRecDepth 100000 in
theorem lcX6_putOff : sk_lC 2 mX6_putOff := ⟨okX6_putOff, sk_wd (q := 703) rfl rfl, sk_wd (q := 82) (by decide +kernel) rfl, by decide, by decide, by decide, by decide, by decide +kernel⟩
set_option maxRecDepth 100000 in
theorem lcX6_openMethod : sk_lC 2 mX6_openMethod := ⟨okX6_openMethod, sk_wd (q := 717) rfl rfl, sk_wd (q := 82) (by decide +kernel) rfl, by decide, by decide, by decide, by decide, by decide +kernel⟩
set_option maxRecDepth 100000 in
theorem lcX6_endBlock : sk_lC 0 mX6_endBlock := ⟨okX6_endBlock, sk_wd (q := 832) rfl rfl, sk_wd (q := 82) (by decide +kernel) rfl, by decide, by decide, by decide, by decide, by decide +kernel⟩
set_option maxRecDepth 100000 in
theorem lcX6_closeBlock : sk_lC 0 mX6_closeBlock := ⟨okX6_closeBlock, sk_wd (q := 791) rfl rfl, sk_wd (q := 82) (by decide +kernel) rfl, by decide, by decide, by decide, by decide, by decide +kernel⟩
set_option maxRecDepth 100000 in
theorem lcX6_beginTurn : sk_lC 1 mX6_beginTurn := ⟨okX6_beginTurn, sk_wd (q := 744) rfl rfl, sk_wd (q := 82) (by decide +kernel) rfl, by decide, by decide, by decide, by decide, by decide +kernel⟩
set_option maxRecDepth 100000 in
theorem lcX6_doStep : sk_lC 3 mX6_doStep := ⟨okX6_doStep, sk_wd (q := 756) rfl rfl, sk_wd (q := 82) (by decide +kernel) rfl, by decide, by decide, by decide, by decide, by decide +kernel⟩
set_option maxRecDepth 100000 in
theorem lcX6_open : sk_lC 3 mX6_open := ⟨okX6_open, sk_wd (q := 799) rfl rfl, sk_wd (q := 82) (by decide +kernel) rfl, by decide, by decide, by decide, by decide, by decide +kernel⟩
set_option maxRecDepth 100000 in
theorem lcX6_judge : sk_lC 2 mX6_judge := ⟨okX6_judge, sk_wd (q := 760) rfl rfl, sk_wd (q := 82) (by decide +kernel) rfl, by decide, by decide, by decide, by decide, by decide +kernel⟩
set_option maxRecDepth 100000 in
theorem lcX6_failIfRefused : sk_lC 2 mX6_failIfRefused := ⟨okX6_failIfRefused, sk_wd (q := 774) rfl rfl, sk_wd (q := 82) (by decide +kernel) rfl, by decide, by decide, by decide, by decide, by decide +kernel⟩
set_option maxRecDepth 100000 in
theorem lcX6_keep : sk_lC 2 mX6_keep := ⟨okX6_keep, sk_wd (q := 807) rfl rfl, sk_wd (q := 82) (by decide +kernel) rfl, by decide, by decide, by decide, by decide, by decide +kernel⟩
set_option maxRecDepth 100000 in
theorem lcX6_under : sk_lC 2 mX6_under := ⟨okX6_under, sk_wd (q := 811) rfl rfl, sk_wd (q := 82) (by decide +kernel) rfl, by decide, by decide, by decide, by decide, by decide +kernel⟩
set_option maxRecDepth 100000 in
theorem lcX6_repeat : sk_lC 3 mX6_repeat := ⟨okX6_repeat, sk_wd (q := 815) rfl rfl, sk_wd (q := 82) (by decide +kernel) rfl, by decide, by decide, by decide, by decide, by decide +kernel⟩
set_option maxRecDepth 100000 in
theorem lcX6_takeBit : sk_lC 0 mX6_takeBit := ⟨okX6_takeBit, sk_wd (q := 823) rfl rfl, sk_wd (q := 82) (by decide +kernel) rfl, by decide, by decide, by decide, by decide, by decide +kernel⟩
set_option maxRecDepth 100000 in
theorem lcX6_goBack : sk_lC 0 mX6_goBack := ⟨okX6_goBack, sk_wd (q := 828) rfl rfl, sk_wd (q := 82) (by decide +kernel) rfl, by decide, by decide, by decide, by decide, by decide +kernel⟩
set_option maxRecDepth 100000 in
theorem lcX6_fail : sk_lC 2 mX6_fail := ⟨okX6_fail, sk_wd (q := 778) rfl rfl, sk_wd (q := 82) (by decide +kernel) rfl, by decide, by decide, by decide, by decide, by decide +kernel⟩
set_option maxRecDepth 100000 in
theorem lcX7_init : sk_lC 2 mX7_init := ⟨okX7_init, sk_wd (q := 291) rfl rfl, sk_wd (q := 84) (by decide +kernel) rfl, by decide, by decide, by decide, by decide, by decide +kernel⟩
set_option maxRecDepth 100000 in
theorem lcX7_clear : sk_lC 1 mX7_clear := ⟨okX7_clear, sk_wd (q := 694) rfl rfl, sk_wd (q := 84) (by decide +kernel) rfl, by decide, by decide, by decide, by decide, by decide +kernel⟩
set_option maxRecDepth 100000 in
theorem lcX7_withMethod : sk_lC 2 mX7_withMethod := ⟨okX7_withMethod, sk_wd (q := 726) rfl rfl, sk_wd (q := 84) (by decide +kernel) rfl, by decide, by decide, by decide, by decide, by decide +kernel⟩
set_option maxRecDepth 100000 in
theorem lcX7_withBlock : sk_lC 2 mX7_withBlock := ⟨okX7_withBlock, sk_wd (q := 803) rfl rfl, sk_wd (q := 84) (by decide +kernel) rfl, by decide, by decide, by decide, by decide, by decide +kernel⟩
set_option maxRecDepth 100000 in
theorem lcX7_add : sk_lC 2 mX7_add := ⟨okX7_add, sk_wd (q := 730) rfl rfl, sk_wd (q := 84) (by decide +kernel) rfl, by decide, by decide, by decide, by decide, by decide +kernel⟩
set_option maxRecDepth 100000 in
theorem lcX7_refuser : sk_lC 3 mX7_refuser := ⟨okX7_refuser, sk_wd (q := 764) rfl rfl, sk_wd (q := 84) (by decide +kernel) rfl, by decide, by decide, by decide, by decide, by decide +kernel⟩
set_option maxRecDepth 100000 in
theorem lcX8_init : sk_lC 0 mX8_init := ⟨okX8_init, sk_wd (q := 220) rfl rfl, sk_wd (q := 81) (by decide +kernel) rfl, by decide, by decide, by decide, by decide, by decide +kernel⟩
set_option maxRecDepth 100000 in
theorem lcX8_cut : sk_lC 1 mX8_cut := ⟨okX8_cut, sk_wd (q := 488) rfl rfl, sk_wd (q := 81) (by decide +kernel) rfl, by decide, by decide, by decide, by decide, by decide +kernel⟩
set_option maxRecDepth 100000 in
theorem lcX8_tokenAt : sk_lC 1 mX8_tokenAt := ⟨okX8_tokenAt, sk_wd (q := 582) rfl rfl, sk_wd (q := 81) (by decide +kernel) rfl, by decide, by decide, by decide, by decide, by decide +kernel⟩
set_option maxRecDepth 100000 in
theorem lcX8_placeOf : sk_lC 1 mX8_placeOf := ⟨okX8_placeOf, sk_wd (q := 635) rfl rfl, sk_wd (q := 81) (by decide +kernel) rfl, by decide, by decide, by decide, by decide, by decide +kernel⟩
set_option maxRecDepth 100000 in
theorem lcX8_add : sk_lC 2 mX8_add := ⟨okX8_add, sk_wd (q := 558) rfl rfl, sk_wd (q := 81) (by decide +kernel) rfl, by decide, by decide, by decide, by decide, by decide +kernel⟩
set_option maxRecDepth 100000 in
theorem lcX8_isLetter : sk_lC 1 mX8_isLetter := ⟨okX8_isLetter, sk_wd (q := 495) rfl rfl, sk_wd (q := 81) (by decide +kernel) rfl, by decide, by decide, by decide, by decide, by decide +kernel⟩
set_option maxRecDepth 100000 in
theorem lcX8_isDigit : sk_lC 1 mX8_isDigit := ⟨okX8_isDigit, sk_wd (q := 561) rfl rfl, sk_wd (q := 81) (by decide +kernel) rfl, by decide, by decide, by decide, by decide, by decide +kernel⟩
set_option maxRecDepth 100000 in
theorem lcX8_endOfWord : sk_lC 2 mX8_endOfWord := ⟨okX8_endOfWord, sk_wd (q := 498) rfl rfl, sk_wd (q := 81) (by decide +kernel) rfl, by decide, by decide, by decide, by decide, by decide +kernel⟩
set_option maxRecDepth 100000 in
theorem lcX8_endOfNumber : sk_lC 2 mX8_endOfNumber := ⟨okX8_endOfNumber, sk_wd (q := 564) rfl rfl, sk_wd (q := 81) (by decide +kernel) rfl, by decide, by decide, by decide, by decide, by decide +kernel⟩
set_option maxRecDepth 100000 in
theorem lcX8_wordOf : sk_lC 3 mX8_wordOf := ⟨okX8_wordOf, sk_wd (q := 501) rfl rfl, sk_wd (q := 81) (by decide +kernel) rfl, by decide, by decide, by decide, by decide, by decide +kernel⟩
set_option maxRecDepth 100000 in
theorem lcX8_isWord : sk_lC 4 mX8_isWord := ⟨okX8_isWord, sk_wd (q := 504) rfl rfl, sk_wd (q := 81) (by decide +kernel) rfl, by decide, by decide, by decide, by decide, by decide +kernel⟩
set_option maxRecDepth 100000 in
theorem lcX8_numberOf : sk_lC 3 mX8_numberOf := ⟨okX8_numberOf, sk_wd (q := 567) rfl rfl, sk_wd (q := 81) (by decide +kernel) rfl, by decide, by decide, by decide, by decide, by decide +kernel⟩
set_option maxRecDepth 100000 in
theorem lcX8_signOf : sk_lC 1 mX8_signOf := ⟨okX8_signOf, sk_wd (q := 570) rfl rfl, sk_wd (q := 81) (by decide +kernel) rfl, by decide, by decide, by decide, by decide, by decide +kernel⟩
set_option maxRecDepth 100000 in
theorem lcX9_init : sk_lC 0 mX9_init := ⟨okX9_init, sk_wd (q := 96) rfl rfl, sk_wd (q := 74) (by decide +kernel) rfl, by decide, by decide, by decide, by decide, by decide +kernel⟩
set_option maxRecDepth 100000 in
theorem lcX9_feed : sk_lC 5 mX9_feed := ⟨okX9_feed, sk_wd (q := 445) rfl rfl, sk_wd (q := 74) (by decide +kernel) rfl, by decide, by decide, by decide, by decide, by decide +kernel⟩
set_option maxRecDepth 100000 in
theorem lcX9_addBytes : sk_lC 1 mX9_addBytes := ⟨okX9_addBytes, sk_wd (q := 453) rfl rfl, sk_wd (q := 74) (by decide +kernel) rfl, by decide, by decide, by decide, by decide, by decide +kernel⟩
set_option maxRecDepth 100000 in
theorem lcX9_trim : sk_lC 1 mX9_trim := ⟨okX9_trim, sk_wd (q := 464) rfl rfl, sk_wd (q := 74) (by decide +kernel) rfl, by decide, by decide, by decide, by decide, by decide +kernel⟩
set_option maxRecDepth 100000 in
theorem lcX9_program : sk_lC 0 mX9_program := ⟨okX9_program, sk_wd (q := 476) rfl rfl, sk_wd (q := 74) (by decide +kernel) rfl, by decide, by decide, by decide, by decide, by decide +kernel⟩
set_option maxRecDepth 100000 in
theorem lcX9_fault : sk_lC 0 mX9_fault := ⟨okX9_fault, sk_wd (q := 640) rfl rfl, sk_wd (q := 74) (by decide +kernel) rfl, by decide, by decide, by decide, by decide, by decide +kernel⟩
set_option maxRecDepth 100000 in
theorem lcX9_rule : sk_lC 3 mX9_rule := ⟨okX9_rule, sk_wd (q := 644) rfl rfl, sk_wd (q := 74) (by decide +kernel) rfl, by decide, by decide, by decide, by decide, by decide +kernel⟩
set_option maxRecDepth 100000 in
theorem lcX9_bits : sk_lC 2 mX9_bits := ⟨okX9_bits, sk_wd (q := 657) rfl rfl, sk_wd (q := 74) (by decide +kernel) rfl, by decide, by decide, by decide, by decide, by decide +kernel⟩
set_option maxRecDepth 100000 in
theorem lcX9_forget : sk_lC 0 mX9_forget := ⟨okX9_forget, sk_wd (q := 661) rfl rfl, sk_wd (q := 74) (by decide +kernel) rfl, by decide, by decide, by decide, by decide, by decide +kernel⟩
set_option maxRecDepth 100000 in
theorem lcX9_about : sk_lC 1 mX9_about := ⟨okX9_about, sk_wd (q := 665) rfl rfl, sk_wd (q := 74) (by decide +kernel) rfl, by decide, by decide, by decide, by decide, by decide +kernel⟩
set_option maxRecDepth 100000 in
theorem lcX9_step : sk_lC 2 mX9_step := ⟨okX9_step, sk_wd (q := 677) rfl rfl, sk_wd (q := 74) (by decide +kernel) rfl, by decide, by decide, by decide, by decide, by decide +kernel⟩
set_option maxRecDepth 100000 in
theorem lcX9_run : sk_lC 2 mX9_run := ⟨okX9_run, sk_wd (q := 681) rfl rfl, sk_wd (q := 74) (by decide +kernel) rfl, by decide, by decide, by decide, by decide, by decide +kernel⟩
set_option maxRecDepth 100000 in
theorem lcX9_ran : sk_lC 1 mX9_ran := ⟨okX9_ran, sk_wd (q := 840) rfl rfl, sk_wd (q := 74) (by decide +kernel) rfl, by decide, by decide, by decide, by decide, by decide +kernel⟩
set_option maxRecDepth 100000 in
theorem lcX9_note : sk_lC 1 mX9_note := ⟨okX9_note, sk_wd (q := 844) rfl rfl, sk_wd (q := 74) (by decide +kernel) rfl, by decide, by decide, by decide, by decide, by decide +kernel⟩
set_option maxRecDepth 100000 in
theorem lcX9_ahead : sk_lC 1 mX9_ahead := ⟨okX9_ahead, sk_wd (q := 849) rfl rfl, sk_wd (q := 74) (by decide +kernel) rfl, by decide, by decide, by decide, by decide, by decide +kernel⟩
set_option maxRecDepth 100000 in
theorem lcX9_walked : sk_lC 2 mX9_walked := ⟨okX9_walked, sk_wd (q := 955) rfl rfl, sk_wd (q := 74) (by decide +kernel) rfl, by decide, by decide, by decide, by decide, by decide +kernel⟩
set_option maxRecDepth 100000 in
theorem lcX9_told : sk_lC 1 mX9_told := ⟨okX9_told, sk_wd (q := 959) rfl rfl, sk_wd (q := 74) (by decide +kernel) rfl, by decide, by decide, by decide, by decide, by decide +kernel⟩
set_option maxRecDepth 100000 in
theorem lcX9_pair : sk_lC 4 mX9_pair := ⟨okX9_pair, sk_wd (q := 974) rfl rfl, sk_wd (q := 74) (by decide +kernel) rfl, by decide, by decide, by decide, by decide, by decide +kernel⟩
set_option maxRecDepth 100000 in
theorem lcX9_count : sk_lC 1 mX9_count := ⟨okX9_count, sk_wd (q := 982) rfl rfl, sk_wd (q := 74) (by decide +kernel) rfl, by decide, by decide, by decide, by decide, by decide +kernel⟩
set_option maxRecDepth 100000 in
theorem lcX9_hasProgram : sk_lC 0 mX9_hasProgram := ⟨okX9_hasProgram, sk_wd (q := 669) rfl rfl, sk_wd (q := 74) (by decide +kernel) rfl, by decide, by decide, by decide, by decide, by decide +kernel⟩
set_option maxRecDepth 100000 in
theorem lcX9_within : sk_lC 2 mX9_within := ⟨okX9_within, sk_wd (q := 460) rfl rfl, sk_wd (q := 74) (by decide +kernel) rfl, by decide, by decide, by decide, by decide, by decide +kernel⟩
set_option maxRecDepth 100000 in
theorem lcX9_sum : sk_lC 1 mX9_sum := ⟨okX9_sum, sk_wd (q := 966) rfl rfl, sk_wd (q := 74) (by decide +kernel) rfl, by decide, by decide, by decide, by decide, by decide +kernel⟩
set_option maxRecDepth 100000 in
theorem lcX10_init : sk_lC 0 mX10_init := ⟨okX10_init, sk_wd (q := 991) rfl rfl, sk_wd (q := 86) (by decide +kernel) rfl, by decide, by decide, by decide, by decide, by decide +kernel⟩
set_option maxRecDepth 100000 in
theorem lcX10_in : sk_lC 3 mX10_in := ⟨okX10_in, sk_wd (q := 1242) rfl rfl, sk_wd (q := 86) (by decide +kernel) rfl, by decide, by decide, by decide, by decide, by decide +kernel⟩
set_option maxRecDepth 100000 in
theorem lcX10_feed : sk_lC 5 mX10_feed := ⟨okX10_feed, sk_wd (q := 1231) rfl rfl, sk_wd (q := 86) (by decide +kernel) rfl, by decide, by decide, by decide, by decide, by decide +kernel⟩
set_option maxRecDepth 100000 in
theorem lcX10_four : sk_lC 1 mX10_four := ⟨okX10_four, sk_wd (q := 1235) rfl rfl, sk_wd (q := 86) (by decide +kernel) rfl, by decide, by decide, by decide, by decide, by decide +kernel⟩
set_option maxRecDepth 100000 in
theorem lcX10_trim : sk_lC 1 mX10_trim := ⟨okX10_trim, sk_wd (q := 1239) rfl rfl, sk_wd (q := 86) (by decide +kernel) rfl, by decide, by decide, by decide, by decide, by decide +kernel⟩
set_option maxRecDepth 100000 in
theorem lcX10_rule : sk_lC 3 mX10_rule := ⟨okX10_rule, sk_wd (q := 1246) rfl rfl, sk_wd (q := 86) (by decide +kernel) rfl, by decide, by decide, by decide, by decide, by decide +kernel⟩
set_option maxRecDepth 100000 in
theorem lcX10_hasRight : sk_lC 3 mX10_hasRight := ⟨okX10_hasRight, sk_wd (q := 1346) rfl rfl, sk_wd (q := 86) (by decide +kernel) rfl, by decide, by decide, by decide, by decide, by decide +kernel⟩
set_option maxRecDepth 100000 in
theorem lcX10_bits : sk_lC 2 mX10_bits := ⟨okX10_bits, sk_wd (q := 1250) rfl rfl, sk_wd (q := 86) (by decide +kernel) rfl, by decide, by decide, by decide, by decide, by decide +kernel⟩
set_option maxRecDepth 100000 in
theorem lcX10_forget : sk_lC 0 mX10_forget := ⟨okX10_forget, sk_wd (q := 1254) rfl rfl, sk_wd (q := 86) (by decide +kernel) rfl, by decide, by decide, by decide, by decide, by decide +kernel⟩
set_option maxRecDepth 100000 in
theorem lcX10_isSmall : sk_lC 1 mX10_isSmall := ⟨okX10_isSmall, sk_wd (q := 1265) rfl rfl, sk_wd (q := 86) (by decide +kernel) rfl, by decide, by decide, by decide, by decide, by decide +kernel⟩
set_option maxRecDepth 100000 in
theorem lcX10_isDigit : sk_lC 1 mX10_isDigit := ⟨okX10_isDigit, sk_wd (q := 1274) rfl rfl, sk_wd (q := 86) (by decide +kernel) rfl, by decide, by decide, by decide, by decide, by decide +kernel⟩
set_option maxRecDepth 100000 in
theorem lcX10_wordOf : sk_lC 0 mX10_wordOf := ⟨okX10_wordOf, sk_wd (q := 1269) rfl rfl, sk_wd (q := 86) (by decide +kernel) rfl, by decide, by decide, by decide, by decide, by decide +kernel⟩
set_option maxRecDepth 100000 in
theorem lcX10_next : sk_lC 0 mX10_next := ⟨okX10_next, sk_wd (q := 1262) rfl rfl, sk_wd (q := 86) (by decide +kernel) rfl, by decide, by decide, by decide, by decide, by decide +kernel⟩
set_option maxRecDepth 100000 in
theorem lcX10_wrong : sk_lC 1 mX10_wrong := ⟨okX10_wrong, sk_wd (q := 1278) rfl rfl, sk_wd (q := 86) (by decide +kernel) rfl, by decide, by decide, by decide, by decide, by decide +kernel⟩
set_option maxRecDepth 100000 in
theorem lcX10_must : sk_lC 1 mX10_must := ⟨okX10_must, sk_wd (q := 1282) rfl rfl, sk_wd (q := 86) (by decide +kernel) rfl, by decide, by decide, by decide, by decide, by decide +kernel⟩
set_option maxRecDepth 100000 in
theorem lcX10_numberTo : sk_lC 1 mX10_numberTo := ⟨okX10_numberTo, sk_wd (q := 1286) rfl rfl, sk_wd (q := 86) (by decide +kernel) rfl, by decide, by decide, by decide, by decide, by decide +kernel⟩
set_option maxRecDepth 100000 in
theorem lcX10_block : sk_lC 1 mX10_block := ⟨okX10_block, sk_wd (q := 1290) rfl rfl, sk_wd (q := 86) (by decide +kernel) rfl, by decide, by decide, by decide, by decide, by decide +kernel⟩
set_option maxRecDepth 100000 in
theorem lcX10_step : sk_lC 1 mX10_step := ⟨okX10_step, sk_wd (q := 1294) rfl rfl, sk_wd (q := 86) (by decide +kernel) rfl, by decide, by decide, by decide, by decide, by decide +kernel⟩
set_option maxRecDepth 100000 in
theorem lcX10_program : sk_lC 0 mX10_program := ⟨okX10_program, sk_wd (q := 1258) rfl rfl, sk_wd (q := 86) (by decide +kernel) rfl, by decide, by decide, by decide, by decide, by decide +kernel⟩
set_option maxRecDepth 100000 in
theorem lcX10_fault : sk_lC 0 mX10_fault := ⟨okX10_fault, sk_wd (q := 1298) rfl rfl, sk_wd (q := 86) (by decide +kernel) rfl, by decide, by decide, by decide, by decide, by decide +kernel⟩
set_option maxRecDepth 100000 in
theorem lcX10_about : sk_lC 1 mX10_about := ⟨okX10_about, sk_wd (q := 1302) rfl rfl, sk_wd (q := 86) (by decide +kernel) rfl, by decide, by decide, by decide, by decide, by decide +kernel⟩
set_option maxRecDepth 100000 in
theorem lcX10_step_ : sk_lC 2 mX10_step_ := ⟨okX10_step_, sk_wd (q := 1306) rfl rfl, sk_wd (q := 86) (by decide +kernel) rfl, by decide, by decide, by decide, by decide, by decide +kernel⟩
set_option maxRecDepth 100000 in
theorem lcX10_enter : sk_lC 4 mX10_enter := ⟨okX10_enter, sk_wd (q := 1326) rfl rfl, sk_wd (q := 86) (by decide +kernel) rfl, by decide, by decide, by decide, by decide, by decide +kernel⟩
set_option maxRecDepth 100000 in
theorem lcX10_judge : sk_lC 3 mX10_judge := ⟨okX10_judge, sk_wd (q := 1342) rfl rfl, sk_wd (q := 86) (by decide +kernel) rfl, by decide, by decide, by decide, by decide, by decide +kernel⟩
set_option maxRecDepth 100000 in
theorem lcX10_open : sk_lC 4 mX10_open := ⟨okX10_open, sk_wd (q := 1322) rfl rfl, sk_wd (q := 86) (by decide +kernel) rfl, by decide, by decide, by decide, by decide, by decide +kernel⟩
set_option maxRecDepth 100000 in
theorem lcX10_openMethod : sk_lC 2 mX10_openMethod := ⟨okX10_openMethod, sk_wd (q := 1318) rfl rfl, sk_wd (q := 86) (by decide +kernel) rfl, by decide, by decide, by decide, by decide, by decide +kernel⟩
set_option maxRecDepth 100000 in
theorem lcX10_close : sk_lC 0 mX10_close := ⟨okX10_close, sk_wd (q := 1334) rfl rfl, sk_wd (q := 86) (by decide +kernel) rfl, by decide, by decide, by decide, by decide, by decide +kernel⟩
set_option maxRecDepth 100000 in
theorem lcX10_say : sk_lC 1 mX10_say := ⟨okX10_say, sk_wd (q := 1354) rfl rfl, sk_wd (q := 86) (by decide +kernel) rfl, by decide, by decide, by decide, by decide, by decide +kernel⟩
set_option maxRecDepth 100000 in
theorem lcX10_fail : sk_lC 2 mX10_fail := ⟨okX10_fail, sk_wd (q := 1350) rfl rfl, sk_wd (q := 86) (by decide +kernel) rfl, by decide, by decide, by decide, by decide, by decide +kernel⟩
set_option maxRecDepth 100000 in
theorem lcX10_takeBit : sk_lC 0 mX10_takeBit := ⟨okX10_takeBit, sk_wd (q := 1358) rfl rfl, sk_wd (q := 86) (by decide +kernel) rfl, by decide, by decide, by decide, by decide, by decide +kernel⟩
set_option maxRecDepth 100000 in
theorem lcX10_perform : sk_lC 1 mX10_perform := ⟨okX10_perform, sk_wd (q := 1338) rfl rfl, sk_wd (q := 86) (by decide +kernel) rfl, by decide, by decide, by decide, by decide, by decide +kernel⟩
set_option maxRecDepth 100000 in
theorem lcX10_finish : sk_lC 0 mX10_finish := ⟨okX10_finish, sk_wd (q := 1330) rfl rfl, sk_wd (q := 86) (by decide +kernel) rfl, by decide, by decide, by decide, by decide, by decide +kernel⟩
set_option maxRecDepth 100000 in
theorem lcX10_doJob : sk_lC 3 mX10_doJob := ⟨okX10_doJob, sk_wd (q := 1314) rfl rfl, sk_wd (q := 86) (by decide +kernel) rfl, by decide, by decide, by decide, by decide, by decide +kernel⟩
set_option maxRecDepth 100000 in
theorem lcX10_run : sk_lC 2 mX10_run := ⟨okX10_run, sk_wd (q := 1310) rfl rfl, sk_wd (q := 86) (by decide +kernel) rfl, by decide, by decide, by decide, by decide, by decide +kernel⟩
set_option maxRecDepth 100000 in
theorem lcX10_ran : sk_lC 1 mX10_ran := ⟨okX10_ran, sk_wd (q := 1362) rfl rfl, sk_wd (q := 86) (by decide +kernel) rfl, by decide, by decide, by decide, by decide, by decide +kernel⟩
set_option maxRecDepth 100000 in
theorem lcX10_note : sk_lC 1 mX10_note := ⟨okX10_note, sk_wd (q := 1366) rfl rfl, sk_wd (q := 86) (by decide +kernel) rfl, by decide, by decide, by decide, by decide, by decide +kernel⟩
set_option maxRecDepth 100000 in
theorem lcX10_pairOf : sk_lC 1 mX10_pairOf := ⟨okX10_pairOf, sk_wd (q := 1378) rfl rfl, sk_wd (q := 86) (by decide +kernel) rfl, by decide, by decide, by decide, by decide, by decide +kernel⟩
set_option maxRecDepth 100000 in
theorem lcX10_walk : sk_lC 2 mX10_walk := ⟨okX10_walk, sk_wd (q := 1382) rfl rfl, sk_wd (q := 86) (by decide +kernel) rfl, by decide, by decide, by decide, by decide, by decide +kernel⟩
set_option maxRecDepth 100000 in
theorem lcX10_cover : sk_lC 2 mX10_cover := ⟨okX10_cover, sk_wd (q := 1390) rfl rfl, sk_wd (q := 86) (by decide +kernel) rfl, by decide, by decide, by decide, by decide, by decide +kernel⟩
set_option maxRecDepth 100000 in
theorem lcX10_same : sk_lC 1 mX10_same := ⟨okX10_same, sk_wd (q := 1394) rfl rfl, sk_wd (q := 86) (by decide +kernel) rfl, by decide, by decide, by decide, by decide, by decide +kernel⟩
set_option maxRecDepth 100000 in
theorem lcX10_walkStep : sk_lC 2 mX10_walkStep := ⟨okX10_walkStep, sk_wd (q := 1386) rfl rfl, sk_wd (q := 86) (by decide +kernel) rfl, by decide, by decide, by decide, by decide, by decide +kernel⟩
set_option maxRecDepth 100000 in
theorem lcX10_isPlain : sk_lC 0 mX10_isPlain := ⟨okX10_isPlain, sk_wd (q := 1374) rfl rfl, sk_wd (q := 86) (by decide +kernel) rfl, by decide, by decide, by decide, by decide, by decide +kernel⟩
set_option maxRecDepth 100000 in
theorem lcX10_ahead : sk_lC 1 mX10_ahead := ⟨okX10_ahead, sk_wd (q := 1370) rfl rfl, sk_wd (q := 86) (by decide +kernel) rfl, by decide, by decide, by decide, by decide, by decide +kernel⟩
set_option maxRecDepth 100000 in
theorem lcX10_walked : sk_lC 2 mX10_walked := ⟨okX10_walked, sk_wd (q := 1398) rfl rfl, sk_wd (q := 86) (by decide +kernel) rfl, by decide, by decide, by decide, by decide, by decide +kernel⟩
set_option maxRecDepth 100000 in
theorem lcX10_told : sk_lC 1 mX10_told := ⟨okX10_told, sk_wd (q := 1402) rfl rfl, sk_wd (q := 86) (by decide +kernel) rfl, by decide, by decide, by decide, by decide, by decide +kernel⟩
set_option maxRecDepth 100000 in
theorem lcX10_isAhead : sk_lC 2 mX10_isAhead := ⟨okX10_isAhead, sk_wd (q := 1410) rfl rfl, sk_wd (q := 86) (by decide +kernel) rfl, by decide, by decide, by decide, by decide, by decide +kernel⟩
set_option maxRecDepth 100000 in
theorem lcX10_pair : sk_lC 4 mX10_pair := ⟨okX10_pair, sk_wd (q := 1406) rfl rfl, sk_wd (q := 86) (by decide +kernel) rfl, by decide, by decide, by decide, by decide, by decide +kernel⟩
set_option maxRecDepth 100000 in
theorem lcX10_count : sk_lC 1 mX10_count := ⟨okX10_count, sk_wd (q := 1414) rfl rfl, sk_wd (q := 86) (by decide +kernel) rfl, by decide, by decide, by decide, by decide, by decide +kernel⟩
set_option maxRecDepth 100000 in
theorem lcJ7_rangeCheck_23922 : sk_lC 3 mJ7_rangeCheck_23922 := ⟨okJ7_rangeCheck_23922, sk_wd (q := 903) rfl rfl, sk_wd (q := 78) (by decide +kernel) rfl, by decide, by decide, by decide, by decide, by decide +kernel⟩
set_option maxRecDepth 100000 in
theorem lcJ7_fill_d0a16 : sk_lC 2 mJ7_fill_d0a16 := ⟨okJ7_fill_d0a16, sk_wd (q := 862) rfl rfl, sk_wd (q := 78) (by decide +kernel) rfl, by decide, by decide, by decide, by decide, by decide +kernel⟩
set_option maxRecDepth 100000 in
theorem lcJ7_fill_bad5a : sk_lC 4 mJ7_fill_bad5a := ⟨okJ7_fill_bad5a, sk_wd (q := 900) rfl rfl, sk_wd (q := 78) (by decide +kernel) rfl, by decide, by decide, by decide, by decide, by decide +kernel⟩
set_option maxRecDepth 100000 in
theorem lcJ7_fill_53178 : sk_lC 2 mJ7_fill_53178 := ⟨okJ7_fill_53178, sk_wd (q := 128) rfl rfl, sk_wd (q := 78) (by decide +kernel) rfl, by decide, by decide, by decide, by decide, by decide +kernel⟩
theorem kkL_9 : sk_lI RL 9 mX9_init := ⟨sk_wd (q := 94) (by decide +kernel) rfl, sk_wd (q := 95) (by decide +kernel) rfl, rfl, rfl⟩
theorem kkX9_11 : sk_lI RX9 11 mX4_init := ⟨sk_wd (q := 102) (by decide +kernel) rfl, sk_wd (q := 103) (by decide +kernel) rfl, rfl, rfl⟩
theorem kkX9_26 : sk_lI RX9 26 mX5_init := ⟨sk_wd (q := 122) (by decide +kernel) rfl, sk_wd (q := 123) (by decide +kernel) rfl, rfl, rfl⟩
theorem kkX5_15 : sk_lS RX5 15 mJ7_fill_53178 := ⟨sk_wd (q := 126) (by decide +kernel) rfl, sk_wd (q := 127) (by decide +kernel) rfl⟩
theorem kkX9_43 : sk_lI RX9 43 mX3_init := ⟨sk_wd (q := 212) (by decide +kernel) rfl, sk_wd (q := 213) (by decide +kernel) rfl, rfl, rfl⟩
theorem kkX9_52 : sk_lI RX9 52 mX6_init := ⟨sk_wd (q := 258) (by decide +kernel) rfl, sk_wd (q := 259) (by decide +kernel) rfl, rfl, rfl⟩
theorem kkX6_44 : sk_lI RX6 44 mX7_init := ⟨sk_wd (q := 289) (by decide +kernel) rfl, sk_wd (q := 290) (by decide +kernel) rfl, rfl, rfl⟩
theorem kkX9_61 : sk_lI RX9 61 mX0_init := ⟨sk_wd (q := 356) (by decide +kernel) rfl, sk_wd (q := 357) (by decide +kernel) rfl, rfl, rfl⟩
theorem kkL_13 : sk_lV RL 13 mX9_feed := ⟨sk_wd (q := 442) (by decide +kernel) rfl, sk_wd (q := 443) (by decide +kernel) rfl, sk_wd (q := 444) (by decide +kernel) rfl⟩
theorem kkX9_68 : sk_lV RX9 68 mX4_hasRoomFor := ⟨sk_wd (q := 446) (by decide +kernel) rfl, sk_wd (q := 447) (by decide +kernel) rfl, sk_wd (q := 448) (by decide +kernel) rfl⟩
theorem kkX9_72 : sk_lV RX9 72 mX9_addBytes := ⟨sk_wd (q := 450) (by decide +kernel) rfl, sk_wd (q := 452) (by decide +kernel) rfl, sk_wd (q := 0) (by decide +kernel) rfl⟩
theorem kkX9_79 : sk_lV RX9 79 mX4_add := ⟨sk_wd (q := 454) (by decide +kernel) rfl, sk_wd (q := 455) (by decide +kernel) rfl, sk_wd (q := 456) (by decide +kernel) rfl⟩
theorem kkL_18 : sk_lV RL 18 mX9_trim := ⟨sk_wd (q := 461) (by decide +kernel) rfl, sk_wd (q := 462) (by decide +kernel) rfl, sk_wd (q := 463) (by decide +kernel) rfl⟩
theorem kkX9_82 : sk_lS RX9 82 mX9_within := ⟨sk_wd (q := 465) (by decide +kernel) rfl, sk_wd (q := 459) (by decide +kernel) rfl⟩
theorem kkX9_86 : sk_lV RX9 86 mX4_cutTo := ⟨sk_wd (q := 466) (by decide +kernel) rfl, sk_wd (q := 467) (by decide +kernel) rfl, sk_wd (q := 468) (by decide +kernel) rfl⟩
theorem kkL_23 : sk_lV RL 23 mX9_program := ⟨sk_wd (q := 473) (by decide +kernel) rfl, sk_wd (q := 474) (by decide +kernel) rfl, sk_wd (q := 475) (by decide +kernel) rfl⟩
theorem kkX9_89 : sk_lV RX9 89 mX3_readInto := ⟨sk_wd (q := 477) (by decide +kernel) rfl, sk_wd (q := 478) (by decide +kernel) rfl, sk_wd (q := 479) (by decide +kernel) rfl⟩
theorem kkX3_26 : sk_lV RX3 26 mX2_clear := ⟨sk_wd (q := 481) (by decide +kernel) rfl, sk_wd (q := 482) (by decide +kernel) rfl, sk_wd (q := 483) (by decide +kernel) rfl⟩
theorem kkX3_31 : sk_lV RX3 31 mX8_cut := ⟨sk_wd (q := 485) (by decide +kernel) rfl, sk_wd (q := 486) (by decide +kernel) rfl, sk_wd (q := 487) (by decide +kernel) rfl⟩
theorem kkX8_25 : sk_lV RX8 25 mX4_at := ⟨sk_wd (q := 489) (by decide +kernel) rfl, sk_wd (q := 490) (by decide +kernel) rfl, sk_wd (q := 491) (by decide +kernel) rfl⟩
theorem kkX8_28 : sk_lS RX8 28 mX8_isLetter := ⟨sk_wd (q := 493) (by decide +kernel) rfl, sk_wd (q := 494) (by decide +kernel) rfl⟩
theorem kkX8_32 : sk_lS RX8 32 mX8_endOfWord := ⟨sk_wd (q := 496) (by decide +kernel) rfl, sk_wd (q := 497) (by decide +kernel) rfl⟩
theorem kkX8_36 : sk_lS RX8 36 mX8_wordOf := ⟨sk_wd (q := 499) (by decide +kernel) rfl, sk_wd (q := 500) (by decide +kernel) rfl⟩
theorem kkX8_60 : sk_lS RX8 60 mX8_isWord := ⟨sk_wd (q := 502) (by decide +kernel) rfl, sk_wd (q := 503) (by decide +kernel) rfl⟩
theorem kkX8_40 : sk_lV RX8 40 mX8_add := ⟨sk_wd (q := 555) (by decide +kernel) rfl, sk_wd (q := 557) (by decide +kernel) rfl, sk_wd (q := 1) (by decide +kernel) rfl⟩
theorem kkX8_44 : sk_lS RX8 44 mX8_isDigit := ⟨sk_wd (q := 559) (by decide +kernel) rfl, sk_wd (q := 560) (by decide +kernel) rfl⟩
theorem kkX8_47 : sk_lS RX8 47 mX8_endOfNumber := ⟨sk_wd (q := 562) (by decide +kernel) rfl, sk_wd (q := 563) (by decide +kernel) rfl⟩
theorem kkX8_50 : sk_lS RX8 50 mX8_numberOf := ⟨sk_wd (q := 565) (by decide +kernel) rfl, sk_wd (q := 566) (by decide +kernel) rfl⟩
theorem kkX8_53 : sk_lS RX8 53 mX8_signOf := ⟨sk_wd (q := 568) (by decide +kernel) rfl, sk_wd (q := 569) (by decide +kernel) rfl⟩
theorem kkX3_42 : sk_lV RX3 42 mX3_readMethod := ⟨sk_wd (q := 571) (by decide +kernel) rfl, sk_wd (q := 573) (by decide +kernel) rfl, sk_wd (q := 2) (by decide +kernel) rfl⟩
theorem kkX3_62 : sk_lV RX3 62 mX3_take := ⟨sk_wd (q := 575) (by decide +kernel) rfl, sk_wd (q := 577) (by decide +kernel) rfl, sk_wd (q := 3) (by decide +kernel) rfl⟩
theorem kkX3_46 : sk_lV RX3 46 mX8_tokenAt := ⟨sk_wd (q := 579) (by decide +kernel) rfl, sk_wd (q := 580) (by decide +kernel) rfl, sk_wd (q := 581) (by decide +kernel) rfl⟩
theorem kkX3_69 : sk_lV RX3 69 mX3_broken := ⟨sk_wd (q := 583) (by decide +kernel) rfl, sk_wd (q := 585) (by decide +kernel) rfl, sk_wd (q := 4) (by decide +kernel) rfl⟩
theorem kkX3_73 : sk_lV RX3 73 mX3_readNumber := ⟨sk_wd (q := 587) (by decide +kernel) rfl, sk_wd (q := 589) (by decide +kernel) rfl, sk_wd (q := 5) (by decide +kernel) rfl⟩
theorem kkX3_76 : sk_lV RX3 76 mX2_addMethod := ⟨sk_wd (q := 591) (by decide +kernel) rfl, sk_wd (q := 592) (by decide +kernel) rfl, sk_wd (q := 593) (by decide +kernel) rfl⟩
theorem kkX3_79 : sk_lV RX3 79 mX3_readBlock := ⟨sk_wd (q := 596) (by decide +kernel) rfl, sk_wd (q := 598) (by decide +kernel) rfl, sk_wd (q := 6) (by decide +kernel) rfl⟩
theorem kkX3_97 : sk_lV RX3 97 mX3_readStep := ⟨sk_wd (q := 601) (by decide +kernel) rfl, sk_wd (q := 603) (by decide +kernel) rfl, sk_wd (q := 7) (by decide +kernel) rfl⟩
theorem kkX3_109 : sk_lV RX3 109 mX2_addStep := ⟨sk_wd (q := 605) (by decide +kernel) rfl, sk_wd (q := 606) (by decide +kernel) rfl, sk_wd (q := 607) (by decide +kernel) rfl⟩
theorem kkX3_100 : sk_lV RX3 100 mX2_hasStep := ⟨sk_wd (q := 609) (by decide +kernel) rfl, sk_wd (q := 610) (by decide +kernel) rfl, sk_wd (q := 611) (by decide +kernel) rfl⟩
theorem kkX3_112 : sk_lV RX3 112 mX3_readNumbers := ⟨sk_wd (q := 613) (by decide +kernel) rfl, sk_wd (q := 615) (by decide +kernel) rfl, sk_wd (q := 8) (by decide +kernel) rfl⟩
theorem kkX3_115 : sk_lV RX3 115 mX3_readRest := ⟨sk_wd (q := 622) (by decide +kernel) rfl, sk_wd (q := 624) (by decide +kernel) rfl, sk_wd (q := 9) (by decide +kernel) rfl⟩
theorem kkX3_50 : sk_lV RX3 50 mX3_allMethodsAreThere := ⟨sk_wd (q := 628) (by decide +kernel) rfl, sk_wd (q := 630) (by decide +kernel) rfl, sk_wd (q := 10) (by decide +kernel) rfl⟩
theorem kkX3_56 : sk_lV RX3 56 mX8_placeOf := ⟨sk_wd (q := 632) (by decide +kernel) rfl, sk_wd (q := 633) (by decide +kernel) rfl, sk_wd (q := 634) (by decide +kernel) rfl⟩
theorem kkL_28 : sk_lV RL 28 mX9_fault := ⟨sk_wd (q := 637) (by decide +kernel) rfl, sk_wd (q := 638) (by decide +kernel) rfl, sk_wd (q := 639) (by decide +kernel) rfl⟩
theorem kkL_32 : sk_lV RL 32 mX9_rule := ⟨sk_wd (q := 641) (by decide +kernel) rfl, sk_wd (q := 642) (by decide +kernel) rfl, sk_wd (q := 643) (by decide +kernel) rfl⟩
theorem kkX9_109 : sk_lV RX9 109 mX5_replace := ⟨sk_wd (q := 645) (by decide +kernel) rfl, sk_wd (q := 646) (by decide +kernel) rfl, sk_wd (q := 647) (by decide +kernel) rfl⟩
theorem kkX5_25 : sk_lV RX5 25 mX5_of := ⟨sk_wd (q := 649) (by decide +kernel) rfl, sk_wd (q := 650) (by decide +kernel) rfl, sk_wd (q := 651) (by decide +kernel) rfl⟩
theorem kkL_37 : sk_lV RL 37 mX9_bits := ⟨sk_wd (q := 654) (by decide +kernel) rfl, sk_wd (q := 655) (by decide +kernel) rfl, sk_wd (q := 656) (by decide +kernel) rfl⟩
theorem kkL_42 : sk_lV RL 42 mX9_forget := ⟨sk_wd (q := 658) (by decide +kernel) rfl, sk_wd (q := 659) (by decide +kernel) rfl, sk_wd (q := 660) (by decide +kernel) rfl⟩
theorem kkL_46 : sk_lV RL 46 mX9_about := ⟨sk_wd (q := 662) (by decide +kernel) rfl, sk_wd (q := 663) (by decide +kernel) rfl, sk_wd (q := 664) (by decide +kernel) rfl⟩
theorem kkX9_113 : sk_lV RX9 113 mX9_hasProgram := ⟨sk_wd (q := 666) (by decide +kernel) rfl, sk_wd (q := 668) (by decide +kernel) rfl, sk_wd (q := 11) (by decide +kernel) rfl⟩
theorem kkX9_120 : sk_lV RX9 120 mX2_countOf := ⟨sk_wd (q := 670) (by decide +kernel) rfl, sk_wd (q := 671) (by decide +kernel) rfl, sk_wd (q := 672) (by decide +kernel) rfl⟩
theorem kkL_50 : sk_lV RL 50 mX9_step := ⟨sk_wd (q := 674) (by decide +kernel) rfl, sk_wd (q := 675) (by decide +kernel) rfl, sk_wd (q := 676) (by decide +kernel) rfl⟩
theorem kkL_54 : sk_lV RL 54 mX9_run := ⟨sk_wd (q := 678) (by decide +kernel) rfl, sk_wd (q := 679) (by decide +kernel) rfl, sk_wd (q := 680) (by decide +kernel) rfl⟩
theorem kkX9_140 : sk_lV RX9 140 mX6_execute := ⟨sk_wd (q := 682) (by decide +kernel) rfl, sk_wd (q := 683) (by decide +kernel) rfl, sk_wd (q := 684) (by decide +kernel) rfl⟩
theorem kkX6_51 : sk_lV RX6 51 mX6_begin := ⟨sk_wd (q := 686) (by decide +kernel) rfl, sk_wd (q := 688) (by decide +kernel) rfl, sk_wd (q := 12) (by decide +kernel) rfl⟩
theorem kkX6_103 : sk_lV RX6 103 mX4_cutTo := ⟨sk_wd (q := 690) (by decide +kernel) rfl, sk_wd (q := 467) (by decide +kernel) rfl, sk_wd (q := 468) (by decide +kernel) rfl⟩
theorem kkX6_106 : sk_lV RX6 106 mX7_clear := ⟨sk_wd (q := 691) (by decide +kernel) rfl, sk_wd (q := 692) (by decide +kernel) rfl, sk_wd (q := 693) (by decide +kernel) rfl⟩
theorem kkX6_110 : sk_lV RX6 110 mX1_clear := ⟨sk_wd (q := 695) (by decide +kernel) rfl, sk_wd (q := 696) (by decide +kernel) rfl, sk_wd (q := 697) (by decide +kernel) rfl⟩
theorem kkX6_112 : sk_lS RX6 112 mJ7_fill_53178 := ⟨sk_wd (q := 699) (by decide +kernel) rfl, sk_wd (q := 127) (by decide +kernel) rfl⟩
theorem kkX6_55 : sk_lV RX6 55 mX6_putOff := ⟨sk_wd (q := 700) (by decide +kernel) rfl, sk_wd (q := 702) (by decide +kernel) rfl, sk_wd (q := 13) (by decide +kernel) rfl⟩
theorem kkX6_64 : sk_lV RX6 64 mX1_isEmpty := ⟨sk_wd (q := 706) (by decide +kernel) rfl, sk_wd (q := 707) (by decide +kernel) rfl, sk_wd (q := 708) (by decide +kernel) rfl⟩
theorem kkX6_68 : sk_lV RX6 68 mX6_beginJob := ⟨sk_wd (q := 710) (by decide +kernel) rfl, sk_wd (q := 712) (by decide +kernel) rfl, sk_wd (q := 14) (by decide +kernel) rfl⟩
theorem kkX6_125 : sk_lV RX6 125 mX6_openMethod := ⟨sk_wd (q := 714) (by decide +kernel) rfl, sk_wd (q := 716) (by decide +kernel) rfl, sk_wd (q := 15) (by decide +kernel) rfl⟩
theorem kkX6_134 : sk_lV RX6 134 mX2_startOf := ⟨sk_wd (q := 719) (by decide +kernel) rfl, sk_wd (q := 720) (by decide +kernel) rfl, sk_wd (q := 721) (by decide +kernel) rfl⟩
theorem kkX6_138 : sk_lV RX6 138 mX7_withMethod := ⟨sk_wd (q := 723) (by decide +kernel) rfl, sk_wd (q := 724) (by decide +kernel) rfl, sk_wd (q := 725) (by decide +kernel) rfl⟩
theorem kkX7_30 : sk_lV RX7 30 mX7_add := ⟨sk_wd (q := 727) (by decide +kernel) rfl, sk_wd (q := 729) (by decide +kernel) rfl, sk_wd (q := 16) (by decide +kernel) rfl⟩
theorem kkX6_141 : sk_lV RX6 141 mX1_push := ⟨sk_wd (q := 732) (by decide +kernel) rfl, sk_wd (q := 733) (by decide +kernel) rfl, sk_wd (q := 734) (by decide +kernel) rfl⟩
theorem kkX6_71 : sk_lV RX6 71 mX1_topNext := ⟨sk_wd (q := 736) (by decide +kernel) rfl, sk_wd (q := 737) (by decide +kernel) rfl, sk_wd (q := 738) (by decide +kernel) rfl⟩
theorem kkX6_75 : sk_lV RX6 75 mX2_hasStep := ⟨sk_wd (q := 740) (by decide +kernel) rfl, sk_wd (q := 610) (by decide +kernel) rfl, sk_wd (q := 611) (by decide +kernel) rfl⟩
theorem kkX6_81 : sk_lV RX6 81 mX6_beginTurn := ⟨sk_wd (q := 741) (by decide +kernel) rfl, sk_wd (q := 743) (by decide +kernel) rfl, sk_wd (q := 17) (by decide +kernel) rfl⟩
theorem kkX6_160 : sk_lV RX6 160 mX1_goTo := ⟨sk_wd (q := 745) (by decide +kernel) rfl, sk_wd (q := 746) (by decide +kernel) rfl, sk_wd (q := 747) (by decide +kernel) rfl⟩
theorem kkX6_175 : sk_lV RX6 175 mX1_topStack := ⟨sk_wd (q := 749) (by decide +kernel) rfl, sk_wd (q := 750) (by decide +kernel) rfl, sk_wd (q := 751) (by decide +kernel) rfl⟩
theorem kkX6_178 : sk_lV RX6 178 mX6_doStep := ⟨sk_wd (q := 753) (by decide +kernel) rfl, sk_wd (q := 755) (by decide +kernel) rfl, sk_wd (q := 18) (by decide +kernel) rfl⟩
theorem kkX6_185 : sk_lV RX6 185 mX6_judge := ⟨sk_wd (q := 757) (by decide +kernel) rfl, sk_wd (q := 759) (by decide +kernel) rfl, sk_wd (q := 19) (by decide +kernel) rfl⟩
theorem kkX6_221 : sk_lV RX6 221 mX7_refuser := ⟨sk_wd (q := 761) (by decide +kernel) rfl, sk_wd (q := 762) (by decide +kernel) rfl, sk_wd (q := 763) (by decide +kernel) rfl⟩
theorem kkX7_38 : sk_lV RX7 38 mX2_hasStep := ⟨sk_wd (q := 765) (by decide +kernel) rfl, sk_wd (q := 610) (by decide +kernel) rfl, sk_wd (q := 611) (by decide +kernel) rfl⟩
theorem kkX7_53 : sk_lV RX7 53 mX2_ownerOf := ⟨sk_wd (q := 766) (by decide +kernel) rfl, sk_wd (q := 767) (by decide +kernel) rfl, sk_wd (q := 768) (by decide +kernel) rfl⟩
theorem kkX7_57 : sk_lV RX7 57 mX5_of := ⟨sk_wd (q := 770) (by decide +kernel) rfl, sk_wd (q := 650) (by decide +kernel) rfl, sk_wd (q := 651) (by decide +kernel) rfl⟩
theorem kkX6_188 : sk_lV RX6 188 mX6_failIfRefused := ⟨sk_wd (q := 771) (by decide +kernel) rfl, sk_wd (q := 773) (by decide +kernel) rfl, sk_wd (q := 20) (by decide +kernel) rfl⟩
theorem kkX6_225 : sk_lV RX6 225 mX6_fail := ⟨sk_wd (q := 775) (by decide +kernel) rfl, sk_wd (q := 777) (by decide +kernel) rfl, sk_wd (q := 21) (by decide +kernel) rfl⟩
theorem kkX6_206 : sk_lV RX6 206 mX4_add := ⟨sk_wd (q := 779) (by decide +kernel) rfl, sk_wd (q := 455) (by decide +kernel) rfl, sk_wd (q := 456) (by decide +kernel) rfl⟩
theorem kkX6_151 : sk_lV RX6 151 mX1_topRole := ⟨sk_wd (q := 780) (by decide +kernel) rfl, sk_wd (q := 781) (by decide +kernel) rfl, sk_wd (q := 782) (by decide +kernel) rfl⟩
theorem kkX6_145 : sk_lV RX6 145 mX1_topOpener := ⟨sk_wd (q := 784) (by decide +kernel) rfl, sk_wd (q := 785) (by decide +kernel) rfl, sk_wd (q := 786) (by decide +kernel) rfl⟩
theorem kkX6_163 : sk_lV RX6 163 mX6_closeBlock := ⟨sk_wd (q := 788) (by decide +kernel) rfl, sk_wd (q := 790) (by decide +kernel) rfl, sk_wd (q := 22) (by decide +kernel) rfl⟩
theorem kkX6_166 : sk_lV RX6 166 mX1_pop := ⟨sk_wd (q := 792) (by decide +kernel) rfl, sk_wd (q := 793) (by decide +kernel) rfl, sk_wd (q := 794) (by decide +kernel) rfl⟩
theorem kkX6_194 : sk_lV RX6 194 mX6_open := ⟨sk_wd (q := 796) (by decide +kernel) rfl, sk_wd (q := 798) (by decide +kernel) rfl, sk_wd (q := 23) (by decide +kernel) rfl⟩
theorem kkX6_191 : sk_lV RX6 191 mX7_withBlock := ⟨sk_wd (q := 800) (by decide +kernel) rfl, sk_wd (q := 801) (by decide +kernel) rfl, sk_wd (q := 802) (by decide +kernel) rfl⟩
theorem kkX6_197 : sk_lV RX6 197 mX6_keep := ⟨sk_wd (q := 804) (by decide +kernel) rfl, sk_wd (q := 806) (by decide +kernel) rfl, sk_wd (q := 24) (by decide +kernel) rfl⟩
theorem kkX6_200 : sk_lV RX6 200 mX6_under := ⟨sk_wd (q := 808) (by decide +kernel) rfl, sk_wd (q := 810) (by decide +kernel) rfl, sk_wd (q := 25) (by decide +kernel) rfl⟩
theorem kkX6_203 : sk_lV RX6 203 mX6_repeat := ⟨sk_wd (q := 812) (by decide +kernel) rfl, sk_wd (q := 814) (by decide +kernel) rfl, sk_wd (q := 26) (by decide +kernel) rfl⟩
theorem kkX6_154 : sk_lV RX6 154 mX1_setTimesLeft := ⟨sk_wd (q := 816) (by decide +kernel) rfl, sk_wd (q := 817) (by decide +kernel) rfl, sk_wd (q := 818) (by decide +kernel) rfl⟩
theorem kkX6_212 : sk_lV RX6 212 mX6_takeBit := ⟨sk_wd (q := 820) (by decide +kernel) rfl, sk_wd (q := 822) (by decide +kernel) rfl, sk_wd (q := 27) (by decide +kernel) rfl⟩
theorem kkX6_228 : sk_lV RX6 228 mX4_at := ⟨sk_wd (q := 824) (by decide +kernel) rfl, sk_wd (q := 490) (by decide +kernel) rfl, sk_wd (q := 491) (by decide +kernel) rfl⟩
theorem kkX6_215 : sk_lV RX6 215 mX6_goBack := ⟨sk_wd (q := 825) (by decide +kernel) rfl, sk_wd (q := 827) (by decide +kernel) rfl, sk_wd (q := 28) (by decide +kernel) rfl⟩
theorem kkX6_85 : sk_lV RX6 85 mX6_endBlock := ⟨sk_wd (q := 829) (by decide +kernel) rfl, sk_wd (q := 831) (by decide +kernel) rfl, sk_wd (q := 29) (by decide +kernel) rfl⟩
theorem kkX6_148 : sk_lV RX6 148 mX1_topTimesLeft := ⟨sk_wd (q := 833) (by decide +kernel) rfl, sk_wd (q := 834) (by decide +kernel) rfl, sk_wd (q := 835) (by decide +kernel) rfl⟩
theorem kkL_58 : sk_lV RL 58 mX9_ran := ⟨sk_wd (q := 837) (by decide +kernel) rfl, sk_wd (q := 838) (by decide +kernel) rfl, sk_wd (q := 839) (by decide +kernel) rfl⟩
theorem kkL_62 : sk_lV RL 62 mX9_note := ⟨sk_wd (q := 841) (by decide +kernel) rfl, sk_wd (q := 842) (by decide +kernel) rfl, sk_wd (q := 843) (by decide +kernel) rfl⟩
theorem kkX9_147 : sk_lV RX9 147 mX4_at := ⟨sk_wd (q := 845) (by decide +kernel) rfl, sk_wd (q := 490) (by decide +kernel) rfl, sk_wd (q := 491) (by decide +kernel) rfl⟩
theorem kkL_66 : sk_lV RL 66 mX9_ahead := ⟨sk_wd (q := 846) (by decide +kernel) rfl, sk_wd (q := 847) (by decide +kernel) rfl, sk_wd (q := 848) (by decide +kernel) rfl⟩
theorem kkX9_150 : sk_lV RX9 150 mX2_canBeForetold := ⟨sk_wd (q := 850) (by decide +kernel) rfl, sk_wd (q := 851) (by decide +kernel) rfl, sk_wd (q := 852) (by decide +kernel) rfl⟩
theorem kkX2_53 : sk_lV RX2 53 mX2_countOf := ⟨sk_wd (q := 854) (by decide +kernel) rfl, sk_wd (q := 671) (by decide +kernel) rfl, sk_wd (q := 672) (by decide +kernel) rfl⟩
theorem kkX9_153 : sk_lV RX9 153 mX0_foretell := ⟨sk_wd (q := 855) (by decide +kernel) rfl, sk_wd (q := 856) (by decide +kernel) rfl, sk_wd (q := 857) (by decide +kernel) rfl⟩
theorem kkX0_60 : sk_lS RX0 60 mJ7_fill_53178 := ⟨sk_wd (q := 859) (by decide +kernel) rfl, sk_wd (q := 127) (by decide +kernel) rfl⟩
theorem kkX0_66 : sk_lS RX0 66 mJ7_fill_d0a16 := ⟨sk_wd (q := 860) (by decide +kernel) rfl, sk_wd (q := 861) (by decide +kernel) rfl⟩
theorem kkX0_69 : sk_lV RX0 69 mX0_come := ⟨sk_wd (q := 863) (by decide +kernel) rfl, sk_wd (q := 865) (by decide +kernel) rfl, sk_wd (q := 30) (by decide +kernel) rfl⟩
theorem kkX0_129 : sk_lV RX0 129 mX0_copyDown := ⟨sk_wd (q := 867) (by decide +kernel) rfl, sk_wd (q := 869) (by decide +kernel) rfl, sk_wd (q := 31) (by decide +kernel) rfl⟩
theorem kkX0_161 : sk_lV RX0 161 mX2_ownerOf := ⟨sk_wd (q := 874) (by decide +kernel) rfl, sk_wd (q := 767) (by decide +kernel) rfl, sk_wd (q := 768) (by decide +kernel) rfl⟩
theorem kkX0_176 : sk_lV RX0 176 mX5_of := ⟨sk_wd (q := 875) (by decide +kernel) rfl, sk_wd (q := 650) (by decide +kernel) rfl, sk_wd (q := 651) (by decide +kernel) rfl⟩
theorem kkX0_170 : sk_lS RX0 170 mX0_levelsAbove := ⟨sk_wd (q := 876) (by decide +kernel) rfl, sk_wd (q := 877) (by decide +kernel) rfl⟩
theorem kkX0_166 : sk_lV RX0 166 mX0_change := ⟨sk_wd (q := 879) (by decide +kernel) rfl, sk_wd (q := 881) (by decide +kernel) rfl, sk_wd (q := 32) (by decide +kernel) rfl⟩
theorem kkX0_183 : sk_lV RX0 183 mX0_placeInOrder := ⟨sk_wd (q := 886) (by decide +kernel) rfl, sk_wd (q := 888) (by decide +kernel) rfl, sk_wd (q := 33) (by decide +kernel) rfl⟩
theorem kkX0_186 : sk_lV RX0 186 mX0_compare := ⟨sk_wd (q := 890) (by decide +kernel) rfl, sk_wd (q := 892) (by decide +kernel) rfl, sk_wd (q := 34) (by decide +kernel) rfl⟩
theorem kkX0_190 : sk_lV RX0 190 mX0_insert := ⟨sk_wd (q := 894) (by decide +kernel) rfl, sk_wd (q := 896) (by decide +kernel) rfl, sk_wd (q := 35) (by decide +kernel) rfl⟩
theorem kkX0_193 : sk_lS RX0 193 mJ7_fill_bad5a := ⟨sk_wd (q := 898) (by decide +kernel) rfl, sk_wd (q := 899) (by decide +kernel) rfl⟩
theorem kkJ7_13 : sk_lS RJ7 13 mJ7_rangeCheck_23922 := ⟨sk_wd (q := 901) (by decide +kernel) rfl, sk_wd (q := 902) (by decide +kernel) rfl⟩
theorem kkX0_74 : sk_lV RX0 74 mX0_sweep := ⟨sk_wd (q := 905) (by decide +kernel) rfl, sk_wd (q := 907) (by decide +kernel) rfl, sk_wd (q := 36) (by decide +kernel) rfl⟩
theorem kkX0_90 : sk_lV RX0 90 mX2_startOf := ⟨sk_wd (q := 909) (by decide +kernel) rfl, sk_wd (q := 720) (by decide +kernel) rfl, sk_wd (q := 721) (by decide +kernel) rfl⟩
theorem kkX0_96 : sk_lV RX0 96 mX0_walkBlock := ⟨sk_wd (q := 910) (by decide +kernel) rfl, sk_wd (q := 912) (by decide +kernel) rfl, sk_wd (q := 37) (by decide +kernel) rfl⟩
theorem kkX0_107 : sk_lV RX0 107 mX2_hasStep := ⟨sk_wd (q := 914) (by decide +kernel) rfl, sk_wd (q := 610) (by decide +kernel) rfl, sk_wd (q := 611) (by decide +kernel) rfl⟩
theorem kkX0_111 : sk_lV RX0 111 mX0_walkStep := ⟨sk_wd (q := 915) (by decide +kernel) rfl, sk_wd (q := 917) (by decide +kernel) rfl, sk_wd (q := 38) (by decide +kernel) rfl⟩
theorem kkX0_120 : sk_lV RX0 120 mX0_walkAsk := ⟨sk_wd (q := 919) (by decide +kernel) rfl, sk_wd (q := 921) (by decide +kernel) rfl, sk_wd (q := 39) (by decide +kernel) rfl⟩
theorem kkX0_145 : sk_lV RX0 145 mX0_refuserOf := ⟨sk_wd (q := 923) (by decide +kernel) rfl, sk_wd (q := 925) (by decide +kernel) rfl, sk_wd (q := 40) (by decide +kernel) rfl⟩
theorem kkX0_154 : sk_lS RX0 154 mX0_refuserAt := ⟨sk_wd (q := 927) (by decide +kernel) rfl, sk_wd (q := 928) (by decide +kernel) rfl⟩
theorem kkX0_126 : sk_lV RX0 126 mX0_walkCall := ⟨sk_wd (q := 931) (by decide +kernel) rfl, sk_wd (q := 933) (by decide +kernel) rfl, sk_wd (q := 41) (by decide +kernel) rfl⟩
theorem kkX0_132 : sk_lV RX0 132 mX0_enterBlock := ⟨sk_wd (q := 935) (by decide +kernel) rfl, sk_wd (q := 937) (by decide +kernel) rfl, sk_wd (q := 42) (by decide +kernel) rfl⟩
theorem kkX0_139 : sk_lV RX0 139 mX0_walkTry := ⟨sk_wd (q := 940) (by decide +kernel) rfl, sk_wd (q := 942) (by decide +kernel) rfl, sk_wd (q := 43) (by decide +kernel) rfl⟩
theorem kkX0_142 : sk_lV RX0 142 mX0_walkInner := ⟨sk_wd (q := 944) (by decide +kernel) rfl, sk_wd (q := 946) (by decide +kernel) rfl, sk_wd (q := 44) (by decide +kernel) rfl⟩
theorem kkX0_99 : sk_lV RX0 99 mX0_makeCallersStale := ⟨sk_wd (q := 948) (by decide +kernel) rfl, sk_wd (q := 950) (by decide +kernel) rfl, sk_wd (q := 45) (by decide +kernel) rfl⟩
theorem kkL_70 : sk_lV RL 70 mX9_walked := ⟨sk_wd (q := 952) (by decide +kernel) rfl, sk_wd (q := 953) (by decide +kernel) rfl, sk_wd (q := 954) (by decide +kernel) rfl⟩
theorem kkL_74 : sk_lV RL 74 mX9_told := ⟨sk_wd (q := 956) (by decide +kernel) rfl, sk_wd (q := 957) (by decide +kernel) rfl, sk_wd (q := 958) (by decide +kernel) rfl⟩
theorem kkX9_163 : sk_lV RX9 163 mX0_rootCan := ⟨sk_wd (q := 960) (by decide +kernel) rfl, sk_wd (q := 961) (by decide +kernel) rfl, sk_wd (q := 962) (by decide +kernel) rfl⟩
theorem kkX9_166 : sk_lS RX9 166 mX9_sum := ⟨sk_wd (q := 964) (by decide +kernel) rfl, sk_wd (q := 965) (by decide +kernel) rfl⟩
theorem kkX9_170 : sk_lV RX9 170 mX0_methodsThatCame := ⟨sk_wd (q := 967) (by decide +kernel) rfl, sk_wd (q := 968) (by decide +kernel) rfl, sk_wd (q := 969) (by decide +kernel) rfl⟩
theorem kkL_78 : sk_lV RL 78 mX9_pair := ⟨sk_wd (q := 971) (by decide +kernel) rfl, sk_wd (q := 972) (by decide +kernel) rfl, sk_wd (q := 973) (by decide +kernel) rfl⟩
theorem kkX9_174 : sk_lV RX9 174 mX0_refuser := ⟨sk_wd (q := 975) (by decide +kernel) rfl, sk_wd (q := 976) (by decide +kernel) rfl, sk_wd (q := 977) (by decide +kernel) rfl⟩
theorem kkL_83 : sk_lV RL 83 mX9_count := ⟨sk_wd (q := 979) (by decide +kernel) rfl, sk_wd (q := 980) (by decide +kernel) rfl, sk_wd (q := 981) (by decide +kernel) rfl⟩
theorem kkX9_178 : sk_lV RX9 178 mX5_given := ⟨sk_wd (q := 983) (by decide +kernel) rfl, sk_wd (q := 984) (by decide +kernel) rfl, sk_wd (q := 985) (by decide +kernel) rfl⟩
theorem kkL_12 : sk_lI RL 12 mX10_init := ⟨sk_wd (q := 989) (by decide +kernel) rfl, sk_wd (q := 990) (by decide +kernel) rfl, rfl, rfl⟩
theorem kkL_17 : sk_lV RL 17 mX10_feed := ⟨sk_wd (q := 1228) (by decide +kernel) rfl, sk_wd (q := 1229) (by decide +kernel) rfl, sk_wd (q := 1230) (by decide +kernel) rfl⟩
theorem kkX10_173 : sk_lV RX10 173 mX10_four := ⟨sk_wd (q := 1232) (by decide +kernel) rfl, sk_wd (q := 1234) (by decide +kernel) rfl, sk_wd (q := 46) (by decide +kernel) rfl⟩
theorem kkL_22 : sk_lV RL 22 mX10_trim := ⟨sk_wd (q := 1236) (by decide +kernel) rfl, sk_wd (q := 1237) (by decide +kernel) rfl, sk_wd (q := 1238) (by decide +kernel) rfl⟩
theorem kkX10_177 : sk_lS RX10 177 mX10_in := ⟨sk_wd (q := 1240) (by decide +kernel) rfl, sk_wd (q := 1241) (by decide +kernel) rfl⟩
theorem kkL_36 : sk_lV RL 36 mX10_rule := ⟨sk_wd (q := 1243) (by decide +kernel) rfl, sk_wd (q := 1244) (by decide +kernel) rfl, sk_wd (q := 1245) (by decide +kernel) rfl⟩
theorem kkL_41 : sk_lV RL 41 mX10_bits := ⟨sk_wd (q := 1247) (by decide +kernel) rfl, sk_wd (q := 1248) (by decide +kernel) rfl, sk_wd (q := 1249) (by decide +kernel) rfl⟩
theorem kkL_45 : sk_lV RL 45 mX10_forget := ⟨sk_wd (q := 1251) (by decide +kernel) rfl, sk_wd (q := 1252) (by decide +kernel) rfl, sk_wd (q := 1253) (by decide +kernel) rfl⟩
theorem kkL_27 : sk_lV RL 27 mX10_program := ⟨sk_wd (q := 1255) (by decide +kernel) rfl, sk_wd (q := 1256) (by decide +kernel) rfl, sk_wd (q := 1257) (by decide +kernel) rfl⟩
theorem kkX10_223 : sk_lV RX10 223 mX10_next := ⟨sk_wd (q := 1259) (by decide +kernel) rfl, sk_wd (q := 1261) (by decide +kernel) rfl, sk_wd (q := 47) (by decide +kernel) rfl⟩
theorem kkX10_204 : sk_lS RX10 204 mX10_isSmall := ⟨sk_wd (q := 1263) (by decide +kernel) rfl, sk_wd (q := 1264) (by decide +kernel) rfl⟩
theorem kkX10_208 : sk_lV RX10 208 mX10_wordOf := ⟨sk_wd (q := 1266) (by decide +kernel) rfl, sk_wd (q := 1268) (by decide +kernel) rfl, sk_wd (q := 48) (by decide +kernel) rfl⟩
theorem kkX10_211 : sk_lS RX10 211 mX10_isDigit := ⟨sk_wd (q := 1272) (by decide +kernel) rfl, sk_wd (q := 1273) (by decide +kernel) rfl⟩
theorem kkX10_226 : sk_lV RX10 226 mX10_wrong := ⟨sk_wd (q := 1275) (by decide +kernel) rfl, sk_wd (q := 1277) (by decide +kernel) rfl, sk_wd (q := 49) (by decide +kernel) rfl⟩
theorem kkX10_228 : sk_lV RX10 228 mX10_must := ⟨sk_wd (q := 1279) (by decide +kernel) rfl, sk_wd (q := 1281) (by decide +kernel) rfl, sk_wd (q := 50) (by decide +kernel) rfl⟩
theorem kkX10_235 : sk_lV RX10 235 mX10_numberTo := ⟨sk_wd (q := 1283) (by decide +kernel) rfl, sk_wd (q := 1285) (by decide +kernel) rfl, sk_wd (q := 51) (by decide +kernel) rfl⟩
theorem kkX10_238 : sk_lV RX10 238 mX10_block := ⟨sk_wd (q := 1287) (by decide +kernel) rfl, sk_wd (q := 1289) (by decide +kernel) rfl, sk_wd (q := 52) (by decide +kernel) rfl⟩
theorem kkX10_231 : sk_lV RX10 231 mX10_step := ⟨sk_wd (q := 1291) (by decide +kernel) rfl, sk_wd (q := 1293) (by decide +kernel) rfl, sk_wd (q := 53) (by decide +kernel) rfl⟩
theorem kkL_31 : sk_lV RL 31 mX10_fault := ⟨sk_wd (q := 1295) (by decide +kernel) rfl, sk_wd (q := 1296) (by decide +kernel) rfl, sk_wd (q := 1297) (by decide +kernel) rfl⟩
theorem kkL_49 : sk_lV RL 49 mX10_about := ⟨sk_wd (q := 1299) (by decide +kernel) rfl, sk_wd (q := 1300) (by decide +kernel) rfl, sk_wd (q := 1301) (by decide +kernel) rfl⟩
theorem kkL_53 : sk_lV RL 53 mX10_step_ := ⟨sk_wd (q := 1303) (by decide +kernel) rfl, sk_wd (q := 1304) (by decide +kernel) rfl, sk_wd (q := 1305) (by decide +kernel) rfl⟩
theorem kkL_57 : sk_lV RL 57 mX10_run := ⟨sk_wd (q := 1307) (by decide +kernel) rfl, sk_wd (q := 1308) (by decide +kernel) rfl, sk_wd (q := 1309) (by decide +kernel) rfl⟩
theorem kkX10_334 : sk_lV RX10 334 mX10_doJob := ⟨sk_wd (q := 1311) (by decide +kernel) rfl, sk_wd (q := 1313) (by decide +kernel) rfl, sk_wd (q := 54) (by decide +kernel) rfl⟩
theorem kkX10_313 : sk_lV RX10 313 mX10_openMethod := ⟨sk_wd (q := 1315) (by decide +kernel) rfl, sk_wd (q := 1317) (by decide +kernel) rfl, sk_wd (q := 55) (by decide +kernel) rfl⟩
theorem kkX10_269 : sk_lV RX10 269 mX10_open := ⟨sk_wd (q := 1319) (by decide +kernel) rfl, sk_wd (q := 1321) (by decide +kernel) rfl, sk_wd (q := 56) (by decide +kernel) rfl⟩
theorem kkX10_273 : sk_lV RX10 273 mX10_enter := ⟨sk_wd (q := 1323) (by decide +kernel) rfl, sk_wd (q := 1325) (by decide +kernel) rfl, sk_wd (q := 57) (by decide +kernel) rfl⟩
theorem kkX10_325 : sk_lV RX10 325 mX10_finish := ⟨sk_wd (q := 1327) (by decide +kernel) rfl, sk_wd (q := 1329) (by decide +kernel) rfl, sk_wd (q := 58) (by decide +kernel) rfl⟩
theorem kkX10_290 : sk_lV RX10 290 mX10_close := ⟨sk_wd (q := 1331) (by decide +kernel) rfl, sk_wd (q := 1333) (by decide +kernel) rfl, sk_wd (q := 59) (by decide +kernel) rfl⟩
theorem kkX10_331 : sk_lV RX10 331 mX10_perform := ⟨sk_wd (q := 1335) (by decide +kernel) rfl, sk_wd (q := 1337) (by decide +kernel) rfl, sk_wd (q := 60) (by decide +kernel) rfl⟩
theorem kkX10_302 : sk_lV RX10 302 mX10_judge := ⟨sk_wd (q := 1339) (by decide +kernel) rfl, sk_wd (q := 1341) (by decide +kernel) rfl, sk_wd (q := 61) (by decide +kernel) rfl⟩
theorem kkX10_260 : sk_lV RX10 260 mX10_hasRight := ⟨sk_wd (q := 1343) (by decide +kernel) rfl, sk_wd (q := 1345) (by decide +kernel) rfl, sk_wd (q := 62) (by decide +kernel) rfl⟩
theorem kkX10_306 : sk_lV RX10 306 mX10_fail := ⟨sk_wd (q := 1347) (by decide +kernel) rfl, sk_wd (q := 1349) (by decide +kernel) rfl, sk_wd (q := 63) (by decide +kernel) rfl⟩
theorem kkX10_288 : sk_lV RX10 288 mX10_say := ⟨sk_wd (q := 1351) (by decide +kernel) rfl, sk_wd (q := 1353) (by decide +kernel) rfl, sk_wd (q := 64) (by decide +kernel) rfl⟩
theorem kkX10_319 : sk_lV RX10 319 mX10_takeBit := ⟨sk_wd (q := 1355) (by decide +kernel) rfl, sk_wd (q := 1357) (by decide +kernel) rfl, sk_wd (q := 65) (by decide +kernel) rfl⟩
theorem kkL_61 : sk_lV RL 61 mX10_ran := ⟨sk_wd (q := 1359) (by decide +kernel) rfl, sk_wd (q := 1360) (by decide +kernel) rfl, sk_wd (q := 1361) (by decide +kernel) rfl⟩
theorem kkL_65 : sk_lV RL 65 mX10_note := ⟨sk_wd (q := 1363) (by decide +kernel) rfl, sk_wd (q := 1364) (by decide +kernel) rfl, sk_wd (q := 1365) (by decide +kernel) rfl⟩
theorem kkL_69 : sk_lV RL 69 mX10_ahead := ⟨sk_wd (q := 1367) (by decide +kernel) rfl, sk_wd (q := 1368) (by decide +kernel) rfl, sk_wd (q := 1369) (by decide +kernel) rfl⟩
theorem kkX10_363 : sk_lV RX10 363 mX10_isPlain := ⟨sk_wd (q := 1371) (by decide +kernel) rfl, sk_wd (q := 1373) (by decide +kernel) rfl, sk_wd (q := 66) (by decide +kernel) rfl⟩
theorem kkX10_351 : sk_lV RX10 351 mX10_pairOf := ⟨sk_wd (q := 1375) (by decide +kernel) rfl, sk_wd (q := 1377) (by decide +kernel) rfl, sk_wd (q := 67) (by decide +kernel) rfl⟩
theorem kkX10_357 : sk_lV RX10 357 mX10_walk := ⟨sk_wd (q := 1379) (by decide +kernel) rfl, sk_wd (q := 1381) (by decide +kernel) rfl, sk_wd (q := 68) (by decide +kernel) rfl⟩
theorem kkX10_347 : sk_lV RX10 347 mX10_walkStep := ⟨sk_wd (q := 1383) (by decide +kernel) rfl, sk_wd (q := 1385) (by decide +kernel) rfl, sk_wd (q := 69) (by decide +kernel) rfl⟩
theorem kkX10_354 : sk_lV RX10 354 mX10_cover := ⟨sk_wd (q := 1387) (by decide +kernel) rfl, sk_wd (q := 1389) (by decide +kernel) rfl, sk_wd (q := 70) (by decide +kernel) rfl⟩
theorem kkX10_360 : sk_lV RX10 360 mX10_same := ⟨sk_wd (q := 1391) (by decide +kernel) rfl, sk_wd (q := 1393) (by decide +kernel) rfl, sk_wd (q := 71) (by decide +kernel) rfl⟩
theorem kkL_73 : sk_lV RL 73 mX10_walked := ⟨sk_wd (q := 1395) (by decide +kernel) rfl, sk_wd (q := 1396) (by decide +kernel) rfl, sk_wd (q := 1397) (by decide +kernel) rfl⟩
theorem kkL_77 : sk_lV RL 77 mX10_told := ⟨sk_wd (q := 1399) (by decide +kernel) rfl, sk_wd (q := 1400) (by decide +kernel) rfl, sk_wd (q := 1401) (by decide +kernel) rfl⟩
theorem kkL_82 : sk_lV RL 82 mX10_pair := ⟨sk_wd (q := 1403) (by decide +kernel) rfl, sk_wd (q := 1404) (by decide +kernel) rfl, sk_wd (q := 1405) (by decide +kernel) rfl⟩
theorem kkX10_367 : sk_lV RX10 367 mX10_isAhead := ⟨sk_wd (q := 1407) (by decide +kernel) rfl, sk_wd (q := 1409) (by decide +kernel) rfl, sk_wd (q := 72) (by decide +kernel) rfl⟩
theorem kkL_86 : sk_lV RL 86 mX10_count := ⟨sk_wd (q := 1411) (by decide +kernel) rfl, sk_wd (q := 1412) (by decide +kernel) rfl, sk_wd (q := 1413) (by decide +kernel) rfl⟩
theorem kkX9_33 : sk_lIN RX9 33 mX2_init := ⟨List.mem_of_getElem? (i := 0) (by decide +kernel), sk_wd (q := 136) (by decide +kernel) rfl, rfl, rfl⟩
theorem kkX3_11 : sk_lIN RX3 11 mX8_init := ⟨List.mem_of_getElem? (i := 1) (by decide +kernel), sk_wd (q := 219) (by decide +kernel) rfl, rfl, rfl⟩
theorem kkX6_11 : sk_lIN RX6 11 mX1_init := ⟨List.mem_of_getElem? (i := 2) (by decide +kernel), sk_wd (q := 265) (by decide +kernel) rfl, rfl, rfl⟩
theorem kkX4_25 : sk_lSN RX4 25 mX9_within := ⟨List.mem_of_getElem? (i := 3) (by decide +kernel), sk_wd (q := 459) (by decide +kernel) rfl⟩
theorem kkX8_56 : sk_lSN RX8 56 mX9_within := ⟨List.mem_of_getElem? (i := 4) (by decide +kernel), sk_wd (q := 459) (by decide +kernel) rfl⟩
theorem kkX2_49 : sk_lSN RX2 49 mX9_within := ⟨List.mem_of_getElem? (i := 5) (by decide +kernel), sk_wd (q := 459) (by decide +kernel) rfl⟩
theorem kkX3_82 : sk_lSN RX3 82 mX9_within := ⟨List.mem_of_getElem? (i := 6) (by decide +kernel), sk_wd (q := 459) (by decide +kernel) rfl⟩
theorem kkX5_21 : sk_lSN RX5 21 mX9_within := ⟨List.mem_of_getElem? (i := 7) (by decide +kernel), sk_wd (q := 459) (by decide +kernel) rfl⟩
theorem kkX6_118 : sk_lSN RX6 118 mX9_within := ⟨List.mem_of_getElem? (i := 8) (by decide +kernel), sk_wd (q := 459) (by decide +kernel) rfl⟩
theorem kkX7_34 : sk_lSN RX7 34 mX9_within := ⟨List.mem_of_getElem? (i := 9) (by decide +kernel), sk_wd (q := 459) (by decide +kernel) rfl⟩
theorem kkX0_103 : sk_lSN RX0 103 mX9_within := ⟨List.mem_of_getElem? (i := 10) (by decide +kernel), sk_wd (q := 459) (by decide +kernel) rfl⟩
theorem kw_oi : Cond.instanceMethod objectInit ∈ sk_gw := sk_wd (q := 98) (by decide +kernel) rfl
theorem kw_oc : Cond.code objectInit ⟨#[0xb1]⟩ 1 none ∈ sk_gw := sk_wd (q := 99) (by decide +kernel) rfl
theorem kw_maxs : Cond.static Lib.Math.max.name ∈ sk_gw := sk_wd (q := 107) (by decide +kernel) rfl
theorem kw_maxc : Cond.code Lib.Math.max.name Lib.Math.max.code 2 (some .int) ∈ sk_gw := sk_wd (q := 108) (by decide +kernel) rfl
theorem kw_mins : Cond.static Lib.Math.min.name ∈ sk_gw := sk_wd (q := 471) (by decide +kernel) rfl
theorem kw_minc : Cond.code Lib.Math.min.name Lib.Math.min.code 2 (some .int) ∈ sk_gw := sk_wd (q := 472) (by decide +kernel) rfl
theorem kw_mi : Cond.initialized "java/lang/Math" ∈ sk_gw := sk_wd (q := 76) (by decide +kernel) rfl
theorem kw_acn : Cond.native arraycopyName ∈ sk_gw := sk_wd (q := 873) (by decide +kernel) rfl
theorem kw_acs : Cond.static arraycopyName ∈ sk_gw := sk_wd (q := 872) (by decide +kernel) rfl
theorem kw_aci : Cond.initialized "java/lang/System" ∈ sk_gw := sk_wd (q := 91) (by decide +kernel) rfl
theorem kw_pX4_9 : Cond.methodLink RX4 9 Lib.Math.max.name ∈ sk_gw := sk_wd (q := 106) (by decide +kernel) rfl
theorem kw_pX4_29 : Cond.methodLink RX4 29 Lib.Math.min.name ∈ sk_gw := sk_wd (q := 470) (by decide +kernel) rfl
theorem kw_pX3_92 : Cond.methodLink RX3 92 Lib.Math.max.name ∈ sk_gw := sk_wd (q := 600) (by decide +kernel) rfl
theorem kw_pX6_128 : Cond.methodLink RX6 128 Lib.Math.max.name ∈ sk_gw := sk_wd (q := 718) (by decide +kernel) rfl
theorem kw_pX0_84 : Cond.methodLink RX0 84 arraycopyName ∈ sk_gw := sk_wd (q := 871) (by decide +kernel) rfl
theorem kw_oX9 : Cond.methodLink RX9 1 objectInit ∈ sk_gw := sk_wd (q := 97) (by decide +kernel) rfl
theorem kw_oX4 : Cond.methodLink RX4 3 objectInit ∈ sk_gw := sk_wd (q := 105) (by decide +kernel) rfl
theorem kw_oX5 : Cond.methodLink RX5 3 objectInit ∈ sk_gw := sk_wd (q := 125) (by decide +kernel) rfl
theorem kw_oX2 : Cond.methodLink RX2 3 objectInit ∈ sk_gw := sk_wd (q := 138) (by decide +kernel) rfl
theorem kw_oX3 : Cond.methodLink RX3 3 objectInit ∈ sk_gw := sk_wd (q := 215) (by decide +kernel) rfl
theorem kw_oX8 : Cond.methodLink RX8 3 objectInit ∈ sk_gw := sk_wd (q := 221) (by decide +kernel) rfl
theorem kw_oX6 : Cond.methodLink RX6 3 objectInit ∈ sk_gw := sk_wd (q := 261) (by decide +kernel) rfl
theorem kw_oX1 : Cond.methodLink RX1 3 objectInit ∈ sk_gw := sk_wd (q := 267) (by decide +kernel) rfl
theorem kw_oX7 : Cond.methodLink RX7 3 objectInit ∈ sk_gw := sk_wd (q := 292) (by decide +kernel) rfl
theorem kw_oX0 : Cond.methodLink RX0 3 objectInit ∈ sk_gw := sk_wd (q := 359) (by decide +kernel) rfl
theorem kw_oX10 : Cond.methodLink RX10 1 objectInit ∈ sk_gw := sk_wd (q := 992) (by decide +kernel) rfl
theorem kw_aint : Cond.arrayClass .int ∈ sk_gw := sk_wd (q := 119) (by decide +kernel) rfl
theorem kw_along : Cond.arrayClass .long ∈ sk_gw := sk_wd (q := 412) (by decide +kernel) rfl
theorem kw_aboolean : Cond.arrayClass .boolean ∈ sk_gw := sk_wd (q := 413) (by decide +kernel) rfl
theorem kw_abyte : Cond.arrayClass .byte ∈ sk_gw := sk_wd (q := 636) (by decide +kernel) rfl
theorem kw_lX0_174 : Cond.constantLong RX0 174 (-1) ∈ sk_gw := sk_wd (q := 884) (by decide +kernel) rfl
theorem kw_lX0_181 : Cond.constantLong RX0 181 (73300775185) ∈ sk_gw := sk_wd (q := 885) (by decide +kernel) rfl
theorem kw_lX0_158 : Cond.constantLong RX0 158 (15) ∈ sk_gw := sk_wd (q := 930) (by decide +kernel) rfl
theorem kw_lX0_164 : Cond.constantLong RX0 164 (1099511627775) ∈ sk_gw := sk_wd (q := 939) (by decide +kernel) rfl
theorem kw_sX10_55 : Cond.classLink RX10 55 "java/lang/String" ∈ sk_gw := sk_wd (q := 993) (by decide +kernel) rfl
end
section
/-! ===== Math.max, Math.min, arraycopy ===== -/
section SKP
variable {l : Launch} {E : sk_En} {d mc ms : Nat} {M : sk_M} {pc pc0 len nxt idx : Nat} {aux : List Nat} {ls : List (Option sk_V)} {st : List sk_V} {G : List sk_Sh} {σ : sk_St} {I : sk_SI} {L : sk_SL} {J : sk_SR} {Q : Option sk_V → List sk_Sh → sk_St → Prop}
theorem AW_max {a b : Int} (h : sk_find pc M.2.2.2.2 = some (pc0, (.invokestatic idx), len, nxt, aux)) (hw : Cond.methodLink M.1.cls idx Lib.Math.max.name ∈ sk_gw) (hd1 : 1 ≤ d) (hW : Nat.ble (sk_cs st) 8 = true) (ha : sk_in a) (hb : sk_in b) (k : AW l E d mc ms M nxt ls (vi (max a b) :: st) G σ Q) : AW l E d mc ms M pc ls (vi b :: vi a :: st) G σ Q := by
  intro hM p e R s m args below meth c H locs cells slots Qf ar hF hR hl hc hs hfin
  obtain ⟨hd, rfl, hA, hlen⟩ := sk_dec hM h
  obtain rfl : 3 = len := hlen.resolve_left (by simp [sk_il])
  have hts := hF.2.2.2.2.2.2.2.1
  have k1 := k hM p e R s m args below meth c H locs cells slots Qf ar hF hR hl hc hs hfin
  have h8 := Nat.le_of_ble_eq_true hW
  have hf := hF.2.2.2.2.2.2.2.2.2.1
  have hlo := hF.2.2.2.2.2.2.2.2.2.2
  refine va_mmax hF.1 hF.2.1 (by rw [hF.2.2.2.1]; exact hl.1.symm) hF.2.2.2.2.1 (hts _ hw) (hts _ kw_maxs) (hts _ kw_mi) (hts _ kw_maxc) (by omega) (by rw [sk_cs_eq]; omega) (by omega) (by omega) hd ?_
  have he : (if Int32.ofInt a < Int32.ofInt b then Int32.ofInt b else Int32.ofInt a) = Int32.ofInt (max a b) := by
    by_cases hab : a < b
    · rw [if_pos ((sk_lt_iff ha hb).mpr hab), show max a b = b by omega]
    · rw [if_neg (fun z => hab ((sk_lt_iff ha hb).mp z)), show max a b = a by omega]
  rw [he]
  exact k1
theorem AW_min {a b : Int} (h : sk_find pc M.2.2.2.2 = some (pc0, (.invokestatic idx), len, nxt, aux)) (hw : Cond.methodLink M.1.cls idx Lib.Math.min.name ∈ sk_gw) (hd1 : 1 ≤ d) (hW : Nat.ble (sk_cs st) 8 = true) (ha : sk_in a) (hb : sk_in b) (k : AW l E d mc ms M nxt ls (vi (min a b) :: st) G σ Q) : AW l E d mc ms M pc ls (vi b :: vi a :: st) G σ Q := by
  intro hM p e R s m args below meth c H locs cells slots Qf ar hF hR hl hc hs hfin
  obtain ⟨hd, rfl, hA, hlen⟩ := sk_dec hM h
  obtain rfl : 3 = len := hlen.resolve_left (by simp [sk_il])
  have hts := hF.2.2.2.2.2.2.2.1
  have k1 := k hM p e R s m args below meth c H locs cells slots Qf ar hF hR hl hc hs hfin
  have h8 := Nat.le_of_ble_eq_true hW
  have hf := hF.2.2.2.2.2.2.2.2.2.1
  have hlo := hF.2.2.2.2.2.2.2.2.2.2
  refine va_mmin hF.1 hF.2.1 (by rw [hF.2.2.2.1]; exact hl.1.symm) hF.2.2.2.2.1 (hts _ hw) (hts _ kw_mins) (hts _ kw_mi) (hts _ kw_minc) (by omega) (by rw [sk_cs_eq]; omega) (by omega) (by omega) hd ?_
  have he : (if Int32.ofInt b < Int32.ofInt a then Int32.ofInt b else Int32.ofInt a) = Int32.ofInt (min a b) := by
    by_cases hab : b < a
    · rw [if_pos ((sk_lt_iff hb ha).mpr hab), show min a b = b by omega]
    · rw [if_neg (fun z => hab ((sk_lt_iff hb ha).mp z)), show min a b = a by omega]
  rw [he]
  exact k1
/-- what arraycopy leaves -/
def sk_cp {α : Type} (f g : Int → α) (sp dp n : Int) : Int → α := fun i => if dp ≤ i ∧ i < dp + n then f (sp + (i - dp)) else g i
def sk_cI (I : sk_SI) (k : Nat) (f : Int → Int) : sk_SI := fun k' => if k' = k then f else I k'
def sk_cL (I : sk_SL) (k : Nat) (f : Int → Int64) : sk_SL := fun k' => if k' = k then f else I k'
theorem AW_acI {ka kb na nb : Nat} {sp dp n : Int} (h : sk_find pc M.2.2.2.2 = some (pc0, (.invokestatic idx), len, nxt, aux)) (hw : Cond.methodLink M.1.cls idx arraycopyName ∈ sk_gw) (hd1 : 1 ≤ d) (hW : Nat.ble (sk_cs st) 8 = true) (hGa : G[ka]? = some (.inr (0, na))) (hGb : G[kb]? = some (.inr (0, nb))) (h1 : 0 ≤ sp) (h2 : 0 ≤ dp) (h3 : 0 ≤ n) (h4 : sp + n ≤ na) (h5 : dp + n ≤ nb) (hna : na < 1000000) (hnb : nb < 1000000)
    (kk : AW l E d mc ms M nxt ls st G (sk_cI I kb (sk_cp (I ka) (I kb) sp dp n), L, J) Q) : AW l E d mc ms M pc ls (vi n :: vi dp :: vr kb :: vi sp :: vr ka :: st) G (I, L, J) Q := by
  intro hM p e R s m args below meth c H locs cells slots Qf ar hF hR hl hc hs hfin
  obtain ⟨hd, rfl, hA, hlen⟩ := sk_dec hM h
  obtain rfl : 3 = len := hlen.resolve_left (by simp [sk_il])
  have hts := hF.2.2.2.2.2.2.2.1
  have hcx := hF.2.2.2.2.2.2.2.2.1
  have h8 := Nat.le_of_ble_eq_true hW
  have hf := hF.2.2.2.2.2.2.2.2.2.1
  have hlo := hF.2.2.2.2.2.2.2.2.2.2
  show W p l e R s m args below meth c H locs cells slots Qf (F0 m pc ar (.int (Int32.ofInt n) :: .int (Int32.ofInt dp) :: sk_v E (vr kb) :: .int (Int32.ofInt sp) :: sk_v E (vr ka) :: st.map (sk_v E)))
  rw [sk_vr hGa hR.2.1, sk_vr hGb hR.2.1]
  have e1 := sk_nat h1 (by omega)
  have e2 := sk_nat h2 (by omega)
  have e3 := sk_nat h3 (by omega)
  have ng : ∀ {x : Int}, 0 ≤ x → x ≤ 2147483647 → ¬ Int32.ofInt x < 0 := fun hx hx2 z => by
    have := (sk_lt_iff ⟨by omega, hx2⟩ sk_in0).mp z
    omega
  have hnw : nativeFrameWords "java/lang/System" "arraycopy" 5 ≤ 20 := by decide +kernel
  refine va_copyi hF.1 hF.2.1 (by rw [hF.2.2.2.1]; exact hl.1.symm) hF.2.2.2.2.1 (hts _ hw) (hts _ kw_acn) (hts _ kw_acs) (hts _ kw_aci) hcx.1 hR.1 (sk_w_D E G (I, L, J)) hR.2.2 ka kb 0 0 (sk_w_at hGa) (sk_w_at hGb) rfl rfl rfl (ng h1 (by omega)) (ng h2 (by omega)) (ng h3 (by omega)) (by omega) (by omega) (fun _ _ => rfl) (by omega) (by rw [sk_cs_eq]; omega) hd (fun H1 locs1 hP1 _ hS1 => ?_)
  rw [sk_w_set (σ' := (sk_cI I kb (sk_cp (I ka) (I kb) sp dp n), L, J)) hGb ?_ (fun k' sh' hk => sk_cell_o sh' (by simp [sk_cI, hk]) rfl rfl)] at hP1
  · exact kk hM p e R s m args below meth c H1 locs1 cells slots Qf ar hF ⟨hP1, hR.2.1, hS1⟩ hl hc hs hfin
  · show Sum.inl _ = _
    congr 3
    show Sum.inl _ = _
    congr 1
    funext j
    simp only [sk_cI, if_true, sk_cp, va_cpy]
    by_cases hj : dp ≤ (j : Int) ∧ (j : Int) < dp + n
    · rw [if_pos hj, if_pos (by omega), show sp + ((j : Int) - dp) = (((Int32.ofInt sp).toNatClampNeg + (j - (Int32.ofInt dp).toNatClampNeg) : Nat) : Int) by omega]
    · rw [if_neg hj, if_neg (by omega)]
theorem AW_acL {ka kb na nb : Nat} {sp dp n : Int} (h : sk_find pc M.2.2.2.2 = some (pc0, (.invokestatic idx), len, nxt, aux)) (hw : Cond.methodLink M.1.cls idx arraycopyName ∈ sk_gw) (hd1 : 1 ≤ d) (hW : Nat.ble (sk_cs st) 8 = true) (hGa : G[ka]? = some (.inr (2, na))) (hGb : G[kb]? = some (.inr (2, nb))) (h1 : 0 ≤ sp) (h2 : 0 ≤ dp) (h3 : 0 ≤ n) (h4 : sp + n ≤ na) (h5 : dp + n ≤ nb) (hna : na < 1000000) (hnb : nb < 1000000)
    (kk : AW l E d mc ms M nxt ls st G (I, sk_cL L kb (sk_cp (L ka) (L kb) sp dp n), J) Q) : AW l E d mc ms M pc ls (vi n :: vi dp :: vr kb :: vi sp :: vr ka :: st) G (I, L, J) Q := by
  intro hM p e R s m args below meth c H locs cells slots Qf ar hF hR hl hc hs hfin
  obtain ⟨hd, rfl, hA, hlen⟩ := sk_dec hM h
  obtain rfl : 3 = len := hlen.resolve_left (by simp [sk_il])
  have hts := hF.2.2.2.2.2.2.2.1
  have hcx := hF.2.2.2.2.2.2.2.2.1
  have h8 := Nat.le_of_ble_eq_true hW
  have hf := hF.2.2.2.2.2.2.2.2.2.1
  have hlo := hF.2.2.2.2.2.2.2.2.2.2
  show W p l e R s m args below meth c H locs cells slots Qf (F0 m pc ar (.int (Int32.ofInt n) :: .int (Int32.ofInt dp) :: sk_v E (vr kb) :: .int (Int32.ofInt sp) :: sk_v E (vr ka) :: st.map (sk_v E)))
  rw [sk_vr hGa hR.2.1, sk_vr hGb hR.2.1]
  have e1 := sk_nat h1 (by omega)
  have e2 := sk_nat h2 (by omega)
  have e3 := sk_nat h3 (by omega)
  have ng : ∀ {x : Int}, 0 ≤ x → x ≤ 2147483647 → ¬ Int32.ofInt x < 0 := fun hx hx2 z => by
    have := (sk_lt_iff ⟨by omega, hx2⟩ sk_in0).mp z
    omega
  have hnw : nativeFrameWords "java/lang/System" "arraycopy" 5 ≤ 20 := by decide +kernel
  refine va_copyl hF.1 hF.2.1 (by rw [hF.2.2.2.1]; exact hl.1.symm) hF.2.2.2.2.1 (hts _ hw) (hts _ kw_acn) (hts _ kw_acs) (hts _ kw_aci) hcx.1 hR.1 (sk_w_D E G (I, L, J)) hR.2.2 ka kb 2 2 (sk_w_at hGa) (sk_w_at hGb) rfl rfl rfl (ng h1 (by omega)) (ng h2 (by omega)) (ng h3 (by omega)) (by omega) (by omega) (fun _ _ => rfl) (by omega) (by rw [sk_cs_eq]; omega) hd (fun H1 locs1 hP1 _ hS1 => ?_)
  rw [sk_w_set (σ' := (I, sk_cL L kb (sk_cp (L ka) (L kb) sp dp n), J)) hGb ?_ (fun k' sh' hk => sk_cell_o sh' rfl (by simp [sk_cL, hk]) rfl)] at hP1
  · exact kk hM p e R s m args below meth c H1 locs1 cells slots Qf ar hF ⟨hP1, hR.2.1, hS1⟩ hl hc hs hfin
  · show Sum.inl _ = _
    congr 3
    show Sum.inr (Sum.inl _) = _
    congr 2
    funext j
    simp only [sk_cL, if_true, sk_cp, va_cpy]
    by_cases hj : dp ≤ (j : Int) ∧ (j : Int) < dp + n
    · rw [if_pos hj, if_pos (by omega), show sp + ((j : Int) - dp) = (((Int32.ofInt sp).toNatClampNeg + (j - (Int32.ofInt dp).toNatClampNeg) : Nat) : Int) by omega]
    · rw [if_neg hj, if_neg (by omega)]
end SKP
end
section
/-! ===== the cells of both objects ===== -/
def sk_G : List sk_Sh := [.inl 9, .inl 4, .inr (0, 1200), .inl 4, .inr (0, 400), .inl 4, .inr (0, 3000), .inl 5, .inr (0, 64), .inl 2, .inr (0, 20), .inr (0, 20), .inr (0, 200), .inr (0, 200), .inr (0, 200), .inr (0, 200), .inr (0, 200), .inr (0, 200), .inr (0, 200), .inl 2, .inr (0, 20), .inr (0, 20), .inr (0, 200), .inr (0, 200), .inr (0, 200), .inr (0, 200), .inr (0, 200), .inr (0, 200), .inr (0, 200), .inl 3, .inl 8, .inr (0, 1201), .inr (0, 1201), .inr (0, 200), .inl 6, .inl 1, .inr (0, 480), .inr (0, 480), .inr (0, 480), .inr (0, 480), .inr (0, 480), .inr (0, 4), .inr (0, 21), .inr (0, 21), .inr (0, 8), .inl 7, .inr (0, 3021), .inr (0, 3021), .inl 0, .inr (0, 300), .inr (2, 2400), .inr (0, 300), .inr (1, 300), .inr (2, 1500), .inr (0, 300), .inr (0, 20), .inr (2, 104), .inr (0, 200), .inr (0, 200), .inl 10, .inr (0, 1200), .inr (0, 64), .inr (0, 400), .inr (0, 2), .inr (0, 40), .inr (0, 40), .inr (0, 2), .inr (0, 400), .inr (0, 400), .inr (0, 400), .inr (0, 400), .inr (0, 400), .inr (0, 400), .inr (0, 400), .inr (0, 2), .inr (3, 16), .inr (0, 200), .inr (0, 3100), .inr (0, 3100), .inr (0, 3100), .inr (0, 3100), .inr (0, 3100), .inr (0, 4), .inr (0, 600), .inr (0, 600), .inr (0, 600), .inr (0, 600), .inr (0, 600), .inr (0, 20), .inr (0, 20), .inr (0, 3100), .inr (0, 300), .inr (0, 24000), .inr (1, 300), .inr (1, 300), .inr (1, 300), .inr (0, 1280), .inr (0, 80), .inr (1, 200), .inr (1, 200)]
def sk_jt (cur spr into rp sp fp k : Nat) : List (Option Nat) := bif Nat.beq k 0 then [some 1, some 3, some 5, some 7, some cur, some spr, some 29, some 34, some 48] else bif Nat.beq k 1 then [some 2] else bif Nat.beq k 3 then [some 4] else bif Nat.beq k 5 then [some 6] else bif Nat.beq k 7 then [some 8] else bif Nat.beq k 9 then [some 10, some 11, some 12, some 13, some 14, some 15, some 16, some 17, some 18] else bif Nat.beq k 19 then [some 20, some 21, some 22, some 23, some 24, some 25, some 26, some 27, some 28] else bif Nat.beq k 29 then [some 30, some 33, some into] else bif Nat.beq k 30 then [some 31, some 32] else bif Nat.beq k 34 then [some 3, some 5, some 45, some 35, some 41, some 42, some 43, some 44, none, some rp] else bif Nat.beq k 35 then [some 36, some 37, some 38, some 39, some 40] else bif Nat.beq k 45 then [some 7, some sp, some 46, some 47] else bif Nat.beq k 48 then [some 7, some fp, some 49, some 50, some 51, some 52, some 53, some 54, some 55, some 56, some 57, some 58] else bif Nat.beq k 59 then [none, some 60, none, some 61, some 62, none, none, none, some 63, some 64, some 65, some 66, some 67, some 68, some 69, some 70, some 71, some 72, some 73, some 74, some 75, none, none, none, none, none, none, none, some 76, none, some 77, some 78, some 79, some 80, some 81, none, some 82, none, some 83, some 84, some 85, some 86, some 87, none, none, some 88, some 89, none, none, none, none, none, none, none, none, none, none, some 90, none, none, none, some 91, some 92, some 93, some 94, some 95, some 96, some 97, some 98, some 99, none, none] else []
/-- the references of both objects: the programs that are current, spare, being read into, known to runner, stacks, foresight -/
def sk_J (cur spr into rp sp fp : Nat) : sk_SR := fun k j => bif Nat.beq k 75 then (bif decide (0 ≤ j ∧ j < 16) then some (1001 + j.toNat) else none) else (sk_jt cur spr into rp sp fp k).getD j.toNat none
theorem sk_J_cur (cur spr into rp sp fp x : Nat) : sk_uR (sk_J cur spr into rp sp fp) 0 4 (some x) = sk_J x spr into rp sp fp := by
  funext k j
  by_cases hk : k = 0
  · subst hk
    simp only [sk_uR, if_true, sk_upR, sk_J, sk_jt, Nat.beq, cond_true, cond_false]
    by_cases hj : j = 4
    · subst hj; rfl
    · rw [if_neg hj]
      have hn : j.toNat ≠ 4 := by omega
      match hm : j.toNat, hn with
      | 0, _ => rfl
      | 1, _ => rfl
      | 2, _ => rfl
      | 3, _ => rfl
      | 4, h => exact absurd rfl h
      | n + 5, _ => rfl
  · rw [sk_uR_o hk]
    have hb : Nat.beq k 0 = false := by cases h : Nat.beq k 0 with | false => rfl | true => exact absurd (Nat.eq_of_beq_eq_true h) hk
    simp only [sk_J, sk_jt, hb, cond_false]
theorem sk_J_spr (cur spr into rp sp fp x : Nat) : sk_uR (sk_J cur spr into rp sp fp) 0 5 (some x) = sk_J cur x into rp sp fp := by
  funext k j
  by_cases hk : k = 0
  · subst hk
    simp only [sk_uR, if_true, sk_upR, sk_J, sk_jt, Nat.beq, cond_true, cond_false]
    by_cases hj : j = 5
    · subst hj; rfl
    · rw [if_neg hj]
      have hn : j.toNat ≠ 5 := by omega
      match hm : j.toNat, hn with
      | 0, _ => rfl
      | 1, _ => rfl
      | 2, _ => rfl
      | 3, _ => rfl
      | 4, _ => rfl
      | 5, h => exact absurd rfl h
      | n + 6, _ => rfl
  · rw [sk_uR_o hk]
    have hb : Nat.beq k 0 = false := by cases h : Nat.beq k 0 with | false => rfl | true => exact absurd (Nat.eq_of_beq_eq_true h) hk
    simp only [sk_J, sk_jt, hb, cond_false]
theorem sk_J_into (cur spr into rp sp fp x : Nat) : sk_uR (sk_J cur spr into rp sp fp) 29 2 (some x) = sk_J cur spr x rp sp fp := by
  funext k j
  by_cases hk : k = 29
  · subst hk
    simp only [sk_uR, if_true, sk_upR, sk_J, sk_jt, Nat.beq, cond_true, cond_false]
    by_cases hj : j = 2
    · subst hj; rfl
    · rw [if_neg hj]
      have hn : j.toNat ≠ 2 := by omega
      match hm : j.toNat, hn with
      | 0, _ => rfl
      | 1, _ => rfl
      | 2, h => exact absurd rfl h
      | n + 3, _ => rfl
  · rw [sk_uR_o hk]
    have hb : Nat.beq k 29 = false := by cases h : Nat.beq k 29 with | false => rfl | true => exact absurd (Nat.eq_of_beq_eq_true h) hk
    simp only [sk_J, sk_jt, hb, cond_false]
theorem sk_J_rp (cur spr into rp sp fp x : Nat) : sk_uR (sk_J cur spr into rp sp fp) 34 9 (some x) = sk_J cur spr into x sp fp := by
  funext k j
  by_cases hk : k = 34
  · subst hk
    simp only [sk_uR, if_true, sk_upR, sk_J, sk_jt, Nat.beq, cond_true, cond_false]
    by_cases hj : j = 9
    · subst hj; rfl
    · rw [if_neg hj]
      have hn : j.toNat ≠ 9 := by omega
      match hm : j.toNat, hn with
      | 0, _ => rfl
      | 1, _ => rfl
      | 2, _ => rfl
      | 3, _ => rfl
      | 4, _ => rfl
      | 5, _ => rfl
      | 6, _ => rfl
      | 7, _ => rfl
      | 8, _ => rfl
      | 9, h => exact absurd rfl h
      | n + 10, _ => rfl
  · rw [sk_uR_o hk]
    have hb : Nat.beq k 34 = false := by cases h : Nat.beq k 34 with | false => rfl | true => exact absurd (Nat.eq_of_beq_eq_true h) hk
    simp only [sk_J, sk_jt, hb, cond_false]
theorem sk_J_sp (cur spr into rp sp fp x : Nat) : sk_uR (sk_J cur spr into rp sp fp) 45 1 (some x) = sk_J cur spr into rp x fp := by
  funext k j
  by_cases hk : k = 45
  · subst hk
    simp only [sk_uR, if_true, sk_upR, sk_J, sk_jt, Nat.beq, cond_true, cond_false]
    by_cases hj : j = 1
    · subst hj; rfl
    · rw [if_neg hj]
      have hn : j.toNat ≠ 1 := by omega
      match hm : j.toNat, hn with
      | 0, _ => rfl
      | 1, h => exact absurd rfl h
      | n + 2, _ => rfl
  · rw [sk_uR_o hk]
    have hb : Nat.beq k 45 = false := by cases h : Nat.beq k 45 with | false => rfl | true => exact absurd (Nat.eq_of_beq_eq_true h) hk
    simp only [sk_J, sk_jt, hb, cond_false]
theorem sk_J_fp (cur spr into rp sp fp x : Nat) : sk_uR (sk_J cur spr into rp sp fp) 48 1 (some x) = sk_J cur spr into rp sp x := by
  funext k j
  by_cases hk : k = 48
  · subst hk
    simp only [sk_uR, if_true, sk_upR, sk_J, sk_jt, Nat.beq, cond_true, cond_false]
    by_cases hj : j = 1
    · subst hj; rfl
    · rw [if_neg hj]
      have hn : j.toNat ≠ 1 := by omega
      match hm : j.toNat, hn with
      | 0, _ => rfl
      | 1, h => exact absurd rfl h
      | n + 2, _ => rfl
  · rw [sk_uR_o hk]
    have hb : Nat.beq k 48 = false := by cases h : Nat.beq k 48 with | false => rfl | true => exact absurd (Nat.eq_of_beq_eq_true h) hk
    simp only [sk_J, sk_jt, hb, cond_false]
end
section
/-! ===== short forms of the rules ===== -/
section SKB
variable {l : Launch} {E : sk_En} {d mc ms : Nat} {M : sk_M} {pc pc0 len nxt idx : Nat} {aux : List Nat} {ls : List (Option sk_V)} {st : List sk_V} {G : List sk_Sh} {σ : sk_St} {Q : Option sk_V → List sk_Sh → sk_St → Prop} {off : Int} {t : Nat}
theorem AW_e1 (h : sk_find pc M.2.2.2.2 = some (pc0, (.ifCond .eq off), len, nxt, [t])) (k : AW l E d mc ms M nxt ls st G σ Q) : AW l E d mc ms M pc ls (vi 1 :: st) G σ Q := AW_ifeq h (fun z => by omega) (fun _ => k)
theorem AW_e0 (h : sk_find pc M.2.2.2.2 = some (pc0, (.ifCond .eq off), len, nxt, [t])) (k : AW l E d mc ms M t ls st G σ Q) : AW l E d mc ms M pc ls (vi 0 :: st) G σ Q := AW_ifeq h (fun _ => k) (fun z => by omega)
theorem AW_n1 (h : sk_find pc M.2.2.2.2 = some (pc0, (.ifCond .ne off), len, nxt, [t])) (k : AW l E d mc ms M t ls st G σ Q) : AW l E d mc ms M pc ls (vi 1 :: st) G σ Q := AW_ifne h (fun _ => k) (fun z => by omega)
theorem AW_n0 (h : sk_find pc M.2.2.2.2 = some (pc0, (.ifCond .ne off), len, nxt, [t])) (k : AW l E d mc ms M nxt ls st G σ Q) : AW l E d mc ms M pc ls (vi 0 :: st) G σ Q := AW_ifne h (fun z => by omega) (fun _ => k)
theorem sk_up_s {f : Int → Int} {j v : Int} : sk_up f j v j = v := by simp [sk_up]
theorem sk_up_o {f : Int → Int} {j v i : Int} (h : i ≠ j) : sk_up f j v i = f i := by simp [sk_up, h]
theorem AW_cV {M' : sk_M} {n d' k ci : Nat} {as rest : List sk_V} (h : sk_find pc M.2.2.2.2 = some (pc0, (.invokevirtual idx), len, nxt, aux)) (hL : sk_lV M.1.cls idx M') (hC : sk_lC n M') (hp : sk_pop (n + 1) st [] = some (vr k :: as, rest)) (hG : G[k]? = some (.inl ci)) (hci : (sk_C ci).1 = M'.1.cls) (hci2 : Nat.blt ci 11 = true) (hW : Nat.ble (sk_cs rest) 8 = true) (hen : Nat.ble (sk_sl (vr k :: as)).length M'.2.2.1 = true) (hd : d' + 1 ≤ d)
    (kk : AW l E d' 0 0 M' 0 (sk_en M'.2.2.1 (vr k :: as)) [] G σ (fun v G' σ' => AW l E d mc ms M nxt ls (v.toList ++ rest) G' σ' Q)) : AW l E d mc ms M pc ls st G σ Q := AW_callV h hL hC hp hG hci hci2 hW hen hd (Nat.zero_add mc).symm (Nat.zero_add ms).symm kk
theorem AW_cS {M' : sk_M} {n d' : Nat} {as rest : List sk_V} (h : sk_find pc M.2.2.2.2 = some (pc0, (.invokestatic idx), len, nxt, aux)) (hL : sk_lS M.1.cls idx M') (hC : sk_lC n M') (hp : sk_pop n st [] = some (as, rest)) (hW : Nat.ble (sk_cs rest) 8 = true) (hen : Nat.ble (sk_sl as).length M'.2.2.1 = true) (hd : d' + 1 ≤ d)
    (kk : AW l E d' 0 0 M' 0 (sk_en M'.2.2.1 as) [] G σ (fun v G' σ' => AW l E d mc ms M nxt ls (v.toList ++ rest) G' σ' Q)) : AW l E d mc ms M pc ls st G σ Q := AW_callS h hL hC hp hW hen hd (Nat.zero_add mc).symm (Nat.zero_add ms).symm kk
theorem c_within (a b : Int) (ha : sk_in a) (hb : sk_in b) (hT : 0 ≤ a → a < b → Q (some (vi 1)) G σ) (hF : ¬ (0 ≤ a ∧ a < b) → Q (some (vi 0)) G σ) : AW l E d 0 0 mX9_within 0 [some (vi a), some (vi b)] [] G σ Q := by
  refine AW_run 80 rfl ?_
  refine AW_iflt rfl (fun h => ?_) (fun h => ?_)
  · refine AW_run 80 rfl ?_
    exact AW_zret rfl rfl (Or.inl rfl) (hF (by omega))
  · refine AW_run 80 rfl ?_
    refine AW_icge rfl (fun h2 => ?_) (fun h2 => ?_)
    · refine AW_run 80 rfl ?_
      exact AW_zret rfl rfl (Or.inl rfl) (hF (by omega))
    · refine AW_run 80 rfl ?_
      exact AW_zret rfl rfl (Or.inr rfl) (hT (by omega) (by omega))
theorem AW_within {a b : Int} (h : sk_find pc M.2.2.2.2 = some (pc0, (.invokestatic idx), len, nxt, aux)) (hL : sk_lSN M.1.cls idx mX9_within) (hW : Nat.ble (sk_cs st) 8 = true) (hd : 1 ≤ d) (kT : 0 ≤ a → a < b → AW l E d mc ms M nxt ls (vi 1 :: st) G σ Q) (kF : ¬ (0 ≤ a ∧ a < b) → AW l E d mc ms M nxt ls (vi 0 :: st) G σ Q) (ha : sk_in a := by (first | assumption | (unfold sk_in; omega))) (hb : sk_in b := by (first | assumption | (unfold sk_in; omega))) : AW l E d mc ms M pc ls (vi b :: vi a :: st) G σ Q :=
  AW_callSN (d' := 0) h hL lcX9_within rfl hW rfl hd (Nat.zero_add mc).symm (Nat.zero_add ms).symm (c_within a b ha hb kT kF)
theorem AW_withinS {a b : Int} (h : sk_find pc M.2.2.2.2 = some (pc0, (.invokestatic idx), len, nxt, aux)) (hL : sk_lS M.1.cls idx mX9_within) (hW : Nat.ble (sk_cs st) 8 = true) (hd : 1 ≤ d) (kT : 0 ≤ a → a < b → AW l E d mc ms M nxt ls (vi 1 :: st) G σ Q) (kF : ¬ (0 ≤ a ∧ a < b) → AW l E d mc ms M nxt ls (vi 0 :: st) G σ Q) (ha : sk_in a := by (first | assumption | (unfold sk_in; omega))) (hb : sk_in b := by (first | assumption | (unfold sk_in; omega))) : AW l E d mc ms M pc ls (vi b :: vi a :: st) G σ Q :=
  AW_callS (d' := 0) h hL lcX9_within rfl hW rfl hd (Nat.zero_add mc).symm (Nat.zero_add ms).symm (c_within a b ha hb kT kF)
end SKB
/-! ===== Row ===== -/
section SKC1
variable {l : Launch} {E : sk_En} {d : Nat} {I : sk_SI} {L : sk_SL} {cu sp io rp tp fp : Nat} {Q : Option sk_V → List sk_Sh → sk_St → Prop}
/-- the rows of SealKeeper: tape, input, notes, with what they hold at most -/
def sk_row (r n : Nat) : Prop := (r = 1 ∧ n = 1200) ∨ (r = 3 ∧ n = 400) ∨ (r = 5 ∧ n = 3000)
theorem c_Row_add (r n : Nat) (hr : sk_row r n) (c : Int) (h0 : 0 ≤ I r 1) (h1 : I r 1 < n) (hq : Q none sk_G (sk_uI (sk_uI I (r + 1) (I r 1) c) r 1 (I r 1 + 1), L, sk_J cu sp io rp tp fp)) : AW l E (d + 1) 0 0 mX4_add 0 [some (vr r), some (vi c)] [] sk_G (I, L, sk_J cu sp io rp tp fp) Q := by
  rcases hr with ⟨rfl, rfl⟩ | ⟨rfl, rfl⟩ | ⟨rfl, rfl⟩ <;>
  · refine AW_run 80 rfl ?_
    refine AW_within rfl kkX4_25 rfl (by omega) (fun w1 w2 => ?_) (fun w3 => ?_)
    · refine AW_run 80 rfl ?_
      first | refine AW_e1 rfl ?_ | refine AW_e0 rfl ?_ | refine AW_n1 rfl ?_ | refine AW_n0 rfl ?_
      refine AW_run 80 rfl ?_
      refine AW_iast rfl rfl ⟨by omega, by omega⟩ (by decide) ?_
      refine AW_run 80 rfl ?_
      refine AW_vret rfl rfl ?_
      (try simp only [sk_uI_s, sk_uI_o, sk_up_s, sk_up_o, sk_uL_s, sk_uL_o, ne_eq, Nat.reduceEqDiff, Nat.reduceAdd, Int.reduceEq, not_false_eq_true])
      exact hq
    · omega
theorem c_Row_room (r n : Nat) (hr : sk_row r n) (m : Int) (hm : sk_in m) (h0 : 0 ≤ I r 1) (h1 : I r 1 ≤ n) (hT : m ≤ n - I r 1 → Q (some (vi 1)) sk_G (I, L, sk_J cu sp io rp tp fp)) (hF : n - I r 1 < m → Q (some (vi 0)) sk_G (I, L, sk_J cu sp io rp tp fp)) : AW l E d 0 0 mX4_hasRoomFor 0 [some (vr r), some (vi m)] [] sk_G (I, L, sk_J cu sp io rp tp fp) Q := by
  rcases hr with ⟨rfl, rfl⟩ | ⟨rfl, rfl⟩ | ⟨rfl, rfl⟩ <;>
  · refine AW_run 80 rfl ?_
    refine AW_icgt rfl (fun h => ?_) (fun h => ?_)
    · refine AW_run 80 rfl ?_
      exact AW_zret rfl rfl (Or.inl rfl) (hF (by omega))
    · refine AW_run 80 rfl ?_
      exact AW_zret rfl rfl (Or.inr rfl) (hT (by omega))
theorem c_Row_at (r n : Nat) (hr : sk_row r n) (i : Int) (hi : sk_in i) (h1 : I r 1 ≤ n) (h2 : 0 ≤ I r 1) (hT : 0 ≤ i → i < I r 1 → Q (some (vi (I (r + 1) i))) sk_G (I, L, sk_J cu sp io rp tp fp)) (hF : ¬ (0 ≤ i ∧ i < I r 1) → Q (some (vi (-1))) sk_G (I, L, sk_J cu sp io rp tp fp)) : AW l E d 0 0 mX4_at 0 [some (vr r), some (vi i)] [] sk_G (I, L, sk_J cu sp io rp tp fp) Q := by
  rcases hr with ⟨rfl, rfl⟩ | ⟨rfl, rfl⟩ | ⟨rfl, rfl⟩ <;>
  · refine AW_run 80 rfl ?_
    refine AW_iflt rfl (fun h => ?_) (fun h => ?_)
    · refine AW_run 80 rfl ?_
      exact AW_iret rfl rfl (hF (by omega))
    · refine AW_run 80 rfl ?_
      refine AW_icge rfl (fun h3 => ?_) (fun h3 => ?_)
      · refine AW_run 80 rfl ?_
        exact AW_iret rfl rfl (hF (by omega))
      · refine AW_run 80 rfl ?_
        refine AW_iald rfl rfl ⟨by omega, by omega⟩ (by decide) ?_
        refine AW_run 80 rfl ?_
        exact AW_iret rfl rfl (hT (by omega) (by omega))
theorem c_Row_cut (r n : Nat) (hr : sk_row r n) (i : Int) (hi : sk_in i) (h1 : I r 1 ≤ n) (h2 : 0 ≤ I r 1) (hq : Q none sk_G (sk_uI I r 1 (max 0 (min i (I r 1))), L, sk_J cu sp io rp tp fp)) : AW l E (d + 1) 0 0 mX4_cutTo 0 [some (vr r), some (vi i)] [] sk_G (I, L, sk_J cu sp io rp tp fp) Q := by
  rcases hr with ⟨rfl, rfl⟩ | ⟨rfl, rfl⟩ | ⟨rfl, rfl⟩ <;>
  · refine AW_run 80 rfl ?_
    refine AW_min rfl kw_pX4_29 (by omega) rfl hi (by unfold sk_in; omega) ?_
    refine AW_max rfl kw_pX4_9 (by omega) rfl sk_in0 (by unfold sk_in at *; omega) ?_
    refine AW_run 80 rfl ?_
    exact AW_vret rfl rfl hq
end SKC1
/-! ===== loops ===== -/
def sk_sum (f : Int → Int) : Nat → Int
  | 0 => 0
  | n + 1 => sk_sum f n + f n
theorem sk_sum_s (f : Int → Int) {i : Int} (h : 0 ≤ i) : sk_sum f (i + 1).toNat = sk_sum f i.toNat + f i := by
  obtain ⟨n, rfl⟩ := Int.eq_ofNat_of_zero_le h
  rw [show ((n : Int) + 1).toNat = n + 1 by omega, Int.toNat_natCast]
  rfl
theorem sk_sum_b (f : Int → Int) (h : ∀ i, 0 ≤ f i ∧ f i ≤ 1) : ∀ n : Nat, 0 ≤ sk_sum f n ∧ sk_sum f n ≤ n
  | 0 => ⟨Int.le_refl _, Int.le_refl _⟩
  | n + 1 => by
    have h1 := sk_sum_b f h n
    have h2 := h n
    show 0 ≤ sk_sum f n + f n ∧ sk_sum f n + f n ≤ ((n + 1 : Nat) : Int)
    omega
def sk_sb : List (Option sk_V) → List (Option sk_V) → Prop
  | [], _ => True
  | none :: r, _ :: q => sk_sb r q
  | some v :: r, some w :: q => v = w ∧ sk_sb r q
  | _, _ => False
theorem sk_sb_get : ∀ (a b : List (Option sk_V)), sk_sb a b → ∀ (k : Nat) (v : sk_V), a[k]? = some (some v) → b[k]? = some (some v)
  | [], _, _, k, v, h => by simp at h
  | none :: r, [], h0, _, _, _ => False.elim h0
  | none :: r, _ :: q, h0, 0, v, h => by simp at h
  | none :: r, _ :: q, h0, k + 1, v, h => by simpa using sk_sb_get r q h0 k v (by simpa using h)
  | some w :: r, [], h0, _, _, _ => False.elim h0
  | some w :: r, none :: q, h0, _, _, _ => False.elim h0
  | some w :: r, some x :: q, h0, 0, v, h => by simp at h ⊢; rw [← h0.1]; exact h
  | some w :: r, some x :: q, h0, k + 1, v, h => by simpa using sk_sb_get r q h0.2 k v (by simpa using h)
theorem AW_ls {l : Launch} {E : sk_En} {d mc ms : Nat} {M : sk_M} {pc : Nat} {ls ls' : List (Option sk_V)} {st : List sk_V} {G : List sk_Sh} {σ : sk_St} {Q : Option sk_V → List sk_Sh → sk_St → Prop} (hs : sk_sb ls' ls) (k : AW l E d mc ms M pc ls' st G σ Q) : AW l E d mc ms M pc ls st G σ Q := AW_less (sk_sb_get _ _ hs) k
end
section
theorem AW_lk {l : Launch} {E : sk_En} {d mc ms : Nat} {M : sk_M} {pc : Nat} {ls ls' : List (Option sk_V)} {st : List sk_V} {G : List sk_Sh} {σ : sk_St} {Q : Option sk_V → List sk_Sh → sk_St → Prop} (k : AW l E d mc ms M pc ls' st G σ Q) (hs : sk_sb ls' ls) : AW l E d mc ms M pc ls st G σ Q := AW_ls hs k
/-! ===== Rules ===== -/
section SKC2
variable {l : Launch} {E : sk_En} {d : Nat} {I : sk_SI} {L : sk_SL} {cu sp io rp tp fp : Nat} {Q : Option sk_V → List sk_Sh → sk_St → Prop}
theorem c_Rules_of (o k : Int) (ho : sk_in o) (hk : sk_in k) (hT : 0 ≤ o → o < 8 → 0 ≤ k → k < 8 → Q (some (vi (I 8 (o * 8 + k)))) sk_G (I, L, sk_J cu sp io rp tp fp)) (hF : ¬ (0 ≤ o ∧ o < 8 ∧ 0 ≤ k ∧ k < 8) → Q (some (vi (-1))) sk_G (I, L, sk_J cu sp io rp tp fp)) : AW l E (d + 1) 0 0 mX5_of 0 [some (vr 7), some (vi o), some (vi k)] [] sk_G (I, L, sk_J cu sp io rp tp fp) Q := by
  refine AW_run 80 rfl ?_
  refine AW_within rfl kkX5_21 rfl (by omega) (fun w1 w2 => ?_) (fun w3 => ?_)
  · refine AW_run 80 rfl ?_
    first | refine AW_e1 rfl ?_ | refine AW_e0 rfl ?_ | refine AW_n1 rfl ?_ | refine AW_n0 rfl ?_
    refine AW_run 80 rfl ?_
    refine AW_within rfl kkX5_21 rfl (by omega) (fun w4 w5 => ?_) (fun w6 => ?_)
    · refine AW_run 80 rfl ?_
      first | refine AW_e1 rfl ?_ | refine AW_e0 rfl ?_ | refine AW_n1 rfl ?_ | refine AW_n0 rfl ?_
      refine AW_run 80 rfl ?_
      refine AW_iald rfl rfl ⟨by omega, by omega⟩ (by decide) ?_
      refine AW_run 80 rfl ?_
      exact AW_iret rfl rfl (hT w1 w2 w4 w5)
    · refine AW_run 80 rfl ?_
      first | refine AW_e1 rfl ?_ | refine AW_e0 rfl ?_ | refine AW_n1 rfl ?_ | refine AW_n0 rfl ?_
      refine AW_run 80 rfl ?_
      exact AW_iret rfl rfl (hF (by omega))
  · refine AW_run 80 rfl ?_
    first | refine AW_e1 rfl ?_ | refine AW_e0 rfl ?_ | refine AW_n1 rfl ?_ | refine AW_n0 rfl ?_
    refine AW_run 80 rfl ?_
    exact AW_iret rfl rfl (hF (by omega))
theorem c_Rules_replace (o k v : Int) (ho : 0 ≤ o ∧ o < 8) (hk : 0 ≤ k ∧ k < 8) (hq : Q (some (vi (I 8 (o * 8 + k)))) sk_G (sk_uI I 8 (o * 8 + k) v, L, sk_J cu sp io rp tp fp)) : AW l E (d + 2) 0 0 mX5_replace 0 [some (vr 7), some (vi o), some (vi k), some (vi v), none] [] sk_G (I, L, sk_J cu sp io rp tp fp) Q := by
  refine AW_run 80 rfl ?_
  refine AW_cV (M' := mX5_of) rfl kkX5_25 lcX5_of rfl rfl rfl rfl rfl rfl (Nat.le_refl _) ?_
  refine c_Rules_of (d := d) o k (by unfold sk_in; omega) (by unfold sk_in; omega) (fun _ _ _ _ => ?_) (fun h => by omega)
  refine AW_run 80 rfl ?_
  refine AW_within rfl kkX5_21 rfl (by omega) (fun w1 w2 => ?_) (fun w3 => ?_)
  · refine AW_run 80 rfl ?_
    first | refine AW_e1 rfl ?_ | refine AW_e0 rfl ?_ | refine AW_n1 rfl ?_ | refine AW_n0 rfl ?_
    refine AW_run 80 rfl ?_
    refine AW_within rfl kkX5_21 rfl (by omega) (fun w4 w5 => ?_) (fun w6 => ?_)
    · refine AW_run 80 rfl ?_
      first | refine AW_e1 rfl ?_ | refine AW_e0 rfl ?_ | refine AW_n1 rfl ?_ | refine AW_n0 rfl ?_
      refine AW_run 80 rfl ?_
      refine AW_iast rfl rfl ⟨by omega, by omega⟩ (by decide) ?_
      refine AW_run 80 rfl ?_
      exact AW_iret rfl rfl hq
    · omega
  · omega
def sk_ng (f : Int → Int) : Int → Int := fun i => if f i = -1 then 0 else 1
theorem c_Rules_given (hI : ∀ i, 0 ≤ i → i < 64 → sk_in (I 8 i)) (hq : Q (some (vi (sk_sum (sk_ng (I 8)) 64))) sk_G (I, L, sk_J cu sp io rp tp fp)) : AW l E d 0 0 mX5_given 0 [some (vr 7), none, none, none, none, none] [] sk_G (I, L, sk_J cu sp io rp tp fp) Q := by
  have key : ∀ (m : Nat) (i : Int), 0 ≤ i → i + m = 64 → AW l E d 0 0 mX5_given 16 [some (vr 7), some (vi (sk_sum (sk_ng (I 8)) i.toNat)), some (vr 8), some (vi 64), some (vi i), none] [vi 64, vi i] sk_G (I, L, sk_J cu sp io rp tp fp) Q := by
    intro m
    induction m with
    | zero =>
      intro i h0 hi
      refine AW_icge rfl (fun h => ?_) (fun h => ?_)
      · refine AW_run 80 rfl ?_
        rw [show i.toNat = 64 by omega]
        exact AW_iret rfl rfl hq
      · omega
    | succ m ih =>
      intro i h0 hi
      refine AW_icge rfl (fun h => ?_) (fun h => ?_)
      · omega
      · refine AW_run 80 rfl ?_
        refine AW_iald rfl rfl ⟨by omega, by omega⟩ (by decide) ?_
        refine AW_run 80 rfl ?_
        refine AW_icne rfl (fun h2 => ?_) (fun h2 => ?_) (hI i h0 (by omega))
        · refine AW_run 80 rfl ?_
          exact AW_lk (ih (i + 1) (by omega) (by omega)) ⟨rfl, by rw [sk_sum_s _ h0, sk_ng, if_neg h2], rfl, rfl, rfl, trivial⟩
        · refine AW_run 80 rfl ?_
          exact AW_lk (ih (i + 1) (by omega) (by omega)) ⟨rfl, by rw [sk_sum_s _ h0, sk_ng, if_pos h2], rfl, rfl, rfl, trivial⟩
  refine AW_run 80 rfl ?_
  exact key 64 0 (by omega) (by omega)
end SKC2
end
section
/-! ===== Frames, Stacks ===== -/
section SKC3
variable {l : Launch} {E : sk_En} {d : Nat} {I : sk_SI} {L : sk_SL} {cu sp io rp tp fp : Nat} {Q : Option sk_V → List sk_Sh → sk_St → Prop}
theorem c_Fr_clear (hq : Q none sk_G (sk_uI I 35 5 0, L, sk_J cu sp io rp tp fp)) : AW l E d 0 0 mX1_clear 0 [some (vr 35)] [] sk_G (I, L, sk_J cu sp io rp tp fp) Q := by
  refine AW_run 80 rfl ?_
  exact AW_vret rfl rfl hq
theorem c_Fr_empty (hd : 0 ≤ I 35 5 ∧ I 35 5 ≤ 480) (hT : I 35 5 = 0 → Q (some (vi 1)) sk_G (I, L, sk_J cu sp io rp tp fp)) (hF : 0 < I 35 5 → Q (some (vi 0)) sk_G (I, L, sk_J cu sp io rp tp fp)) : AW l E d 0 0 mX1_isEmpty 0 [some (vr 35)] [] sk_G (I, L, sk_J cu sp io rp tp fp) Q := by
  refine AW_run 80 rfl ?_
  refine AW_ifgt rfl (fun h => ?_) (fun h => ?_)
  · refine AW_run 80 rfl ?_
    exact AW_zret rfl rfl (Or.inl rfl) (hF (by omega))
  · refine AW_run 80 rfl ?_
    exact AW_zret rfl rfl (Or.inr rfl) (hT (by omega))
theorem c_Fr_push (r o n s : Int) (hd : 0 ≤ I 35 5 ∧ I 35 5 < 480) (hq : Q none sk_G (sk_uI (sk_uI (sk_uI (sk_uI (sk_uI (sk_uI I 36 (I 35 5) r) 37 (I 35 5) o) 38 (I 35 5) n) 39 (I 35 5) s) 40 (I 35 5) 0) 35 5 (I 35 5 + 1), L, sk_J cu sp io rp tp fp)) : AW l E d 0 0 mX1_push 0 [some (vr 35), some (vi r), some (vi o), some (vi n), some (vi s)] [] sk_G (I, L, sk_J cu sp io rp tp fp) Q := by
  refine AW_run 80 rfl ?_
  refine AW_iflt rfl (fun h => ?_) (fun h => ?_)
  · omega
  · refine AW_run 80 rfl ?_
    refine AW_icge rfl (fun h2 => ?_) (fun h2 => ?_)
    · omega
    · (refine AW_run 80 rfl ?_; (try simp only [sk_uI_s, sk_uI_o, sk_up_s, sk_up_o, sk_uL_s, sk_uL_o, ne_eq, Nat.reduceEqDiff, Nat.reduceAdd, Int.reduceEq, not_false_eq_true]))
      refine AW_iast rfl rfl ⟨by omega, by omega⟩ (by decide) ?_
      (refine AW_run 80 rfl ?_; (try simp only [sk_uI_s, sk_uI_o, sk_up_s, sk_up_o, sk_uL_s, sk_uL_o, ne_eq, Nat.reduceEqDiff, Nat.reduceAdd, Int.reduceEq, not_false_eq_true]))
      refine AW_iast rfl rfl ⟨by omega, by omega⟩ (by decide) ?_
      (refine AW_run 80 rfl ?_; (try simp only [sk_uI_s, sk_uI_o, sk_up_s, sk_up_o, sk_uL_s, sk_uL_o, ne_eq, Nat.reduceEqDiff, Nat.reduceAdd, Int.reduceEq, not_false_eq_true]))
      refine AW_iast rfl rfl ⟨by omega, by omega⟩ (by decide) ?_
      (refine AW_run 80 rfl ?_; (try simp only [sk_uI_s, sk_uI_o, sk_up_s, sk_up_o, sk_uL_s, sk_uL_o, ne_eq, Nat.reduceEqDiff, Nat.reduceAdd, Int.reduceEq, not_false_eq_true]))
      refine AW_iast rfl rfl ⟨by omega, by omega⟩ (by decide) ?_
      (refine AW_run 80 rfl ?_; (try simp only [sk_uI_s, sk_uI_o, sk_up_s, sk_up_o, sk_uL_s, sk_uL_o, ne_eq, Nat.reduceEqDiff, Nat.reduceAdd, Int.reduceEq, not_false_eq_true]))
      refine AW_iast rfl rfl ⟨by omega, by omega⟩ (by decide) ?_
      (refine AW_run 80 rfl ?_; (try simp only [sk_uI_s, sk_uI_o, sk_up_s, sk_up_o, sk_uL_s, sk_uL_o, ne_eq, Nat.reduceEqDiff, Nat.reduceAdd, Int.reduceEq, not_false_eq_true]))
      exact AW_vret rfl rfl hq
theorem c_Fr_pop (hd : 0 < I 35 5 ∧ I 35 5 ≤ 480) (hq : Q none sk_G (sk_uI I 35 5 (I 35 5 - 1), L, sk_J cu sp io rp tp fp)) : AW l E d 0 0 mX1_pop 0 [some (vr 35)] [] sk_G (I, L, sk_J cu sp io rp tp fp) Q := by
  refine AW_run 80 rfl ?_
  refine AW_ifle rfl (fun h => ?_) (fun h => ?_)
  · omega
  · refine AW_run 80 rfl ?_
    exact AW_vret rfl rfl hq
theorem c_Fr_role (hd : 0 < I 35 5 ∧ I 35 5 ≤ 480) (hq : Q (some (vi (I 36 (I 35 5 - 1)))) sk_G (I, L, sk_J cu sp io rp tp fp)) : AW l E d 0 0 mX1_topRole 0 [some (vr 35)] [] sk_G (I, L, sk_J cu sp io rp tp fp) Q := by
  refine AW_run 80 rfl ?_
  refine AW_ifle rfl (fun h => ?_) (fun h => ?_)
  · omega
  · refine AW_run 80 rfl ?_
    refine AW_iald rfl rfl ⟨by omega, by omega⟩ (by decide) ?_
    refine AW_run 80 rfl ?_
    exact AW_iret rfl rfl hq
theorem c_Fr_opener (hd : 0 < I 35 5 ∧ I 35 5 ≤ 480) (hq : Q (some (vi (I 37 (I 35 5 - 1)))) sk_G (I, L, sk_J cu sp io rp tp fp)) : AW l E d 0 0 mX1_topOpener 0 [some (vr 35)] [] sk_G (I, L, sk_J cu sp io rp tp fp) Q := by
  refine AW_run 80 rfl ?_
  refine AW_ifle rfl (fun h => ?_) (fun h => ?_)
  · omega
  · refine AW_run 80 rfl ?_
    refine AW_iald rfl rfl ⟨by omega, by omega⟩ (by decide) ?_
    refine AW_run 80 rfl ?_
    exact AW_iret rfl rfl hq
theorem c_Fr_next (hd : 0 < I 35 5 ∧ I 35 5 ≤ 480) (hq : Q (some (vi (I 38 (I 35 5 - 1)))) sk_G (I, L, sk_J cu sp io rp tp fp)) : AW l E d 0 0 mX1_topNext 0 [some (vr 35)] [] sk_G (I, L, sk_J cu sp io rp tp fp) Q := by
  refine AW_run 80 rfl ?_
  refine AW_ifle rfl (fun h => ?_) (fun h => ?_)
  · omega
  · refine AW_run 80 rfl ?_
    refine AW_iald rfl rfl ⟨by omega, by omega⟩ (by decide) ?_
    refine AW_run 80 rfl ?_
    exact AW_iret rfl rfl hq
/-- of no frame: NONE -/
theorem c_Fr_stack (hd : 0 ≤ I 35 5 ∧ I 35 5 ≤ 480) (hT : 0 < I 35 5 → Q (some (vi (I 39 (I 35 5 - 1)))) sk_G (I, L, sk_J cu sp io rp tp fp)) (hF : I 35 5 = 0 → Q (some (vi (-1))) sk_G (I, L, sk_J cu sp io rp tp fp)) : AW l E d 0 0 mX1_topStack 0 [some (vr 35)] [] sk_G (I, L, sk_J cu sp io rp tp fp) Q := by
  refine AW_run 80 rfl ?_
  refine AW_ifle rfl (fun h => ?_) (fun h => ?_)
  · refine AW_run 80 rfl ?_
    exact AW_iret rfl rfl (hF (by omega))
  · refine AW_run 80 rfl ?_
    refine AW_iald rfl rfl ⟨by omega, by omega⟩ (by decide) ?_
    refine AW_run 80 rfl ?_
    exact AW_iret rfl rfl (hT (by omega))
theorem c_Fr_times (hd : 0 < I 35 5 ∧ I 35 5 ≤ 480) (hq : Q (some (vi (I 40 (I 35 5 - 1)))) sk_G (I, L, sk_J cu sp io rp tp fp)) : AW l E d 0 0 mX1_topTimesLeft 0 [some (vr 35)] [] sk_G (I, L, sk_J cu sp io rp tp fp) Q := by
  refine AW_run 80 rfl ?_
  refine AW_ifle rfl (fun h => ?_) (fun h => ?_)
  · omega
  · refine AW_run 80 rfl ?_
    refine AW_iald rfl rfl ⟨by omega, by omega⟩ (by decide) ?_
    refine AW_run 80 rfl ?_
    exact AW_iret rfl rfl hq
theorem c_Fr_goTo (s : Int) (hd : 0 < I 35 5 ∧ I 35 5 ≤ 480) (hq : Q none sk_G (sk_uI I 38 (I 35 5 - 1) s, L, sk_J cu sp io rp tp fp)) : AW l E d 0 0 mX1_goTo 0 [some (vr 35), some (vi s)] [] sk_G (I, L, sk_J cu sp io rp tp fp) Q := by
  refine AW_run 80 rfl ?_
  refine AW_ifle rfl (fun h => ?_) (fun h => ?_)
  · omega
  · refine AW_run 80 rfl ?_
    refine AW_iast rfl rfl ⟨by omega, by omega⟩ (by decide) ?_
    refine AW_run 80 rfl ?_
    exact AW_vret rfl rfl hq
theorem c_Fr_setTimes (s : Int) (hd : 0 < I 35 5 ∧ I 35 5 ≤ 480) (hq : Q none sk_G (sk_uI I 40 (I 35 5 - 1) s, L, sk_J cu sp io rp tp fp)) : AW l E d 0 0 mX1_setTimesLeft 0 [some (vr 35), some (vi s)] [] sk_G (I, L, sk_J cu sp io rp tp fp) Q := by
  refine AW_run 80 rfl ?_
  refine AW_ifle rfl (fun h => ?_) (fun h => ?_)
  · omega
  · refine AW_run 80 rfl ?_
    refine AW_iast rfl rfl ⟨by omega, by omega⟩ (by decide) ?_
    refine AW_run 80 rfl ?_
    exact AW_vret rfl rfl hq
theorem c_St_clear (p : Nat) (hq : Q none sk_G (sk_uI I 45 4 0, L, sk_J cu sp io rp p fp)) : AW l E d 0 0 mX7_clear 0 [some (vr 45), some (vr p)] [] sk_G (I, L, sk_J cu sp io rp tp fp) Q := by
  refine AW_run 80 rfl ?_
  rw [sk_J_sp]
  exact AW_vret rfl rfl hq
theorem c_St_add (a b : Int) (hd : 0 ≤ I 45 4 ∧ I 45 4 < 3021) (hq : Q (some (vi (I 45 4))) sk_G (sk_uI (sk_uI (sk_uI I 46 (I 45 4) a) 47 (I 45 4) b) 45 4 (I 45 4 + 1), L, sk_J cu sp io rp tp fp)) : AW l E (d + 1) 0 0 mX7_add 0 [some (vr 45), some (vi a), some (vi b)] [] sk_G (I, L, sk_J cu sp io rp tp fp) Q := by
  refine AW_run 80 rfl ?_
  refine AW_within rfl kkX7_34 rfl (by omega) (fun w1 w2 => ?_) (fun w3 => ?_)
  · refine AW_run 80 rfl ?_
    first | refine AW_e1 rfl ?_ | refine AW_e0 rfl ?_ | refine AW_n1 rfl ?_ | refine AW_n0 rfl ?_
    (refine AW_run 80 rfl ?_; (try simp only [sk_uI_s, sk_uI_o, sk_up_s, sk_up_o, sk_uL_s, sk_uL_o, ne_eq, Nat.reduceEqDiff, Nat.reduceAdd, Int.reduceEq, not_false_eq_true]))
    refine AW_iast rfl rfl ⟨by omega, by omega⟩ (by decide) ?_
    (refine AW_run 80 rfl ?_; (try simp only [sk_uI_s, sk_uI_o, sk_up_s, sk_up_o, sk_uL_s, sk_uL_o, ne_eq, Nat.reduceEqDiff, Nat.reduceAdd, Int.reduceEq, not_false_eq_true]))
    refine AW_iast rfl rfl ⟨by omega, by omega⟩ (by decide) ?_
    (refine AW_run 80 rfl ?_; (try simp only [sk_uI_s, sk_uI_o, sk_up_s, sk_up_o, sk_uL_s, sk_uL_o, ne_eq, Nat.reduceEqDiff, Nat.reduceAdd, Int.reduceEq, not_false_eq_true]))
    refine AW_top (show _ = I 45 4 by omega) ?_
    exact AW_iret rfl rfl hq
  · omega
theorem c_St_meth (m b : Int) (hd : 0 ≤ I 45 4 ∧ I 45 4 < 3021) (hq : Q (some (vi (I 45 4))) sk_G (sk_uI (sk_uI (sk_uI I 46 (I 45 4) (-1 - m)) 47 (I 45 4) b) 45 4 (I 45 4 + 1), L, sk_J cu sp io rp tp fp)) : AW l E (d + 2) 0 0 mX7_withMethod 0 [some (vr 45), some (vi m), some (vi b)] [] sk_G (I, L, sk_J cu sp io rp tp fp) Q := by
  refine AW_run 80 rfl ?_
  refine AW_cV (M' := mX7_add) rfl kkX7_30 lcX7_add rfl rfl rfl rfl rfl rfl (Nat.le_refl _) ?_
  refine c_St_add (d := d) _ _ hd ?_
  exact AW_iret rfl rfl hq
theorem c_St_block (s b : Int) (hd : 0 ≤ I 45 4 ∧ I 45 4 < 3021) (hq : Q (some (vi (I 45 4))) sk_G (sk_uI (sk_uI (sk_uI I 46 (I 45 4) s) 47 (I 45 4) b) 45 4 (I 45 4 + 1), L, sk_J cu sp io rp tp fp)) : AW l E (d + 2) 0 0 mX7_withBlock 0 [some (vr 45), some (vi s), some (vi b)] [] sk_G (I, L, sk_J cu sp io rp tp fp) Q := by
  refine AW_run 80 rfl ?_
  refine AW_cV (M' := mX7_add) rfl kkX7_30 lcX7_add rfl rfl rfl rfl rfl rfl (Nat.le_refl _) ?_
  refine c_St_add (d := d) _ _ hd ?_
  exact AW_iret rfl rfl hq
end SKC3
end
section
/-! ===== Program ===== -/
section SKC4
variable {l : Launch} {E : sk_En} {d : Nat} {I : sk_SI} {L : sk_SL} {cu sp io rp tp fp : Nat} {Q : Option sk_V → List sk_Sh → sk_St → Prop}
/-- one of the two programs; its arrays are the nine cells behind it -/
def sk_pg (p : Nat) : Prop := p = 9 ∨ p = 19
theorem c_Pg_clear (p : Nat) (hp : sk_pg p) (hq : Q none sk_G (sk_uI (sk_uI (sk_uI I p 9 0) p 10 0) p 11 0, L, sk_J cu sp io rp tp fp)) : AW l E d 0 0 mX2_clear 0 [some (vr p)] [] sk_G (I, L, sk_J cu sp io rp tp fp) Q := by
  rcases hp with rfl | rfl <;>
  · refine AW_run 80 rfl ?_
    exact AW_vret rfl rfl hq
theorem c_Pg_owner (p : Nat) (hp : sk_pg p) (m : Int) (hm : sk_in m) (hn : 0 ≤ I p 9 ∧ I p 9 ≤ 20) (hT : 0 ≤ m → m < I p 9 → Q (some (vi (I (p + 1) m))) sk_G (I, L, sk_J cu sp io rp tp fp)) (hF : ¬ (0 ≤ m ∧ m < I p 9) → Q (some (vi (-1))) sk_G (I, L, sk_J cu sp io rp tp fp)) : AW l E (d + 1) 0 0 mX2_ownerOf 0 [some (vr p), some (vi m)] [] sk_G (I, L, sk_J cu sp io rp tp fp) Q := by
  rcases hp with rfl | rfl <;>
  · refine AW_run 80 rfl ?_
    refine AW_within rfl kkX2_49 rfl (by omega) (fun w1 w2 => ?_) (fun w3 => ?_)
    · refine AW_run 80 rfl ?_
      first | refine AW_e1 rfl ?_ | refine AW_e0 rfl ?_ | refine AW_n1 rfl ?_ | refine AW_n0 rfl ?_
      refine AW_run 80 rfl ?_
      refine AW_iald rfl rfl ⟨by omega, by omega⟩ (by decide) ?_
      refine AW_run 80 rfl ?_
      exact AW_iret rfl rfl (hT w1 w2)
    · refine AW_run 80 rfl ?_
      first | refine AW_e1 rfl ?_ | refine AW_e0 rfl ?_ | refine AW_n1 rfl ?_ | refine AW_n0 rfl ?_
      refine AW_run 80 rfl ?_
      exact AW_iret rfl rfl (hF w3)
theorem c_Pg_start (p : Nat) (hp : sk_pg p) (m : Int) (hm : sk_in m) (hn : 0 ≤ I p 9 ∧ I p 9 ≤ 20) (hT : 0 ≤ m → m < I p 9 → Q (some (vi (I (p + 2) m))) sk_G (I, L, sk_J cu sp io rp tp fp)) (hF : ¬ (0 ≤ m ∧ m < I p 9) → Q (some (vi (-1))) sk_G (I, L, sk_J cu sp io rp tp fp)) : AW l E (d + 1) 0 0 mX2_startOf 0 [some (vr p), some (vi m)] [] sk_G (I, L, sk_J cu sp io rp tp fp) Q := by
  rcases hp with rfl | rfl <;>
  · refine AW_run 80 rfl ?_
    refine AW_within rfl kkX2_49 rfl (by omega) (fun w1 w2 => ?_) (fun w3 => ?_)
    · refine AW_run 80 rfl ?_
      first | refine AW_e1 rfl ?_ | refine AW_e0 rfl ?_ | refine AW_n1 rfl ?_ | refine AW_n0 rfl ?_
      refine AW_run 80 rfl ?_
      refine AW_iald rfl rfl ⟨by omega, by omega⟩ (by decide) ?_
      refine AW_run 80 rfl ?_
      exact AW_iret rfl rfl (hT w1 w2)
    · refine AW_run 80 rfl ?_
      first | refine AW_e1 rfl ?_ | refine AW_e0 rfl ?_ | refine AW_n1 rfl ?_ | refine AW_n0 rfl ?_
      refine AW_run 80 rfl ?_
      exact AW_iret rfl rfl (hF w3)
theorem c_Pg_has (p : Nat) (hp : sk_pg p) (s : Int) (hs : sk_in s) (hn : 0 ≤ I p 10 ∧ I p 10 ≤ 200) (hT : 0 ≤ s → s < I p 10 → Q (some (vi 1)) sk_G (I, L, sk_J cu sp io rp tp fp)) (hF : ¬ (0 ≤ s ∧ s < I p 10) → Q (some (vi 0)) sk_G (I, L, sk_J cu sp io rp tp fp)) : AW l E (d + 1) 0 0 mX2_hasStep 0 [some (vr p), some (vi s)] [] sk_G (I, L, sk_J cu sp io rp tp fp) Q := by
  rcases hp with rfl | rfl <;>
  · refine AW_run 80 rfl ?_
    refine AW_within rfl kkX2_49 rfl (by omega) (fun w1 w2 => ?_) (fun w3 => ?_)
    · refine AW_run 80 rfl ?_
      exact AW_zret rfl rfl (Or.inr rfl) (hT w1 w2)
    · refine AW_run 80 rfl ?_
      exact AW_zret rfl rfl (Or.inl rfl) (hF w3)
def sk_eqc (f : Int → Int) (w : Int) : Int → Int := fun i => if f i = w then 1 else 0
theorem sk_eqc_b (f : Int → Int) (w : Int) (i : Int) : 0 ≤ sk_eqc f w i ∧ sk_eqc f w i ≤ 1 := by
  unfold sk_eqc
  split <;> omega
theorem c_Pg_count (p : Nat) (hp : sk_pg p) (w : Int) (hw : sk_in w) (hn : 0 ≤ I p 10 ∧ I p 10 ≤ 200) (hI : ∀ i, 0 ≤ i → i < I p 10 → sk_in (I (p + 3) i)) (hq : Q (some (vi (sk_sum (sk_eqc (I (p + 3)) w) (I p 10).toNat))) sk_G (I, L, sk_J cu sp io rp tp fp)) : AW l E d 0 0 mX2_countOf 0 [some (vr p), some (vi w), none, none] [] sk_G (I, L, sk_J cu sp io rp tp fp) Q := by
  rcases hp with rfl | rfl
  · have key : ∀ (m : Nat) (i : Int), 0 ≤ i → i + m = I 9 10 → AW l E d 0 0 mX2_countOf 9 [some (vr 9), some (vi w), some (vi (sk_sum (sk_eqc (I 12) w) i.toNat)), some (vi i)] [vi (I 9 10), vi i] sk_G (I, L, sk_J cu sp io rp tp fp) Q := by
      intro m
      induction m with
      | zero =>
        intro i h0 hi
        refine AW_icge rfl (fun h => ?_) (fun h => ?_)
        · refine AW_run 80 rfl ?_
          rw [show i = I 9 10 by omega]
          exact AW_iret rfl rfl hq
        · omega
      | succ m ih =>
        intro i h0 hi
        refine AW_icge rfl (fun h => ?_) (fun h => ?_)
        · omega
        · refine AW_run 80 rfl ?_
          refine AW_iald rfl rfl ⟨by omega, by omega⟩ (by decide) ?_
          refine AW_run 80 rfl ?_
          refine AW_icne rfl (fun h2 => ?_) (fun h2 => ?_) (hI i h0 (by omega)) hw
          · refine AW_run 80 rfl ?_
            exact AW_lk (ih (i + 1) (by omega) (by omega)) ⟨rfl, rfl, by rw [sk_sum_s _ h0, sk_eqc, if_neg h2], rfl, trivial⟩
          · refine AW_run 80 rfl ?_
            exact AW_lk (ih (i + 1) (by omega) (by omega)) ⟨rfl, rfl, by rw [sk_sum_s _ h0, sk_eqc, if_pos h2], rfl, trivial⟩
    refine AW_run 80 rfl ?_
    exact key (I 9 10).toNat 0 (by omega) (by omega)
  · have key : ∀ (m : Nat) (i : Int), 0 ≤ i → i + m = I 19 10 → AW l E d 0 0 mX2_countOf 9 [some (vr 19), some (vi w), some (vi (sk_sum (sk_eqc (I 22) w) i.toNat)), some (vi i)] [vi (I 19 10), vi i] sk_G (I, L, sk_J cu sp io rp tp fp) Q := by
      intro m
      induction m with
      | zero =>
        intro i h0 hi
        refine AW_icge rfl (fun h => ?_) (fun h => ?_)
        · refine AW_run 80 rfl ?_
          rw [show i = I 19 10 by omega]
          exact AW_iret rfl rfl hq
        · omega
      | succ m ih =>
        intro i h0 hi
        refine AW_icge rfl (fun h => ?_) (fun h => ?_)
        · omega
        · refine AW_run 80 rfl ?_
          refine AW_iald rfl rfl ⟨by omega, by omega⟩ (by decide) ?_
          refine AW_run 80 rfl ?_
          refine AW_icne rfl (fun h2 => ?_) (fun h2 => ?_) (hI i h0 (by omega)) hw
          · refine AW_run 80 rfl ?_
            exact AW_lk (ih (i + 1) (by omega) (by omega)) ⟨rfl, rfl, by rw [sk_sum_s _ h0, sk_eqc, if_neg h2], rfl, trivial⟩
          · refine AW_run 80 rfl ?_
            exact AW_lk (ih (i + 1) (by omega) (by omega)) ⟨rfl, rfl, by rw [sk_sum_s _ h0, sk_eqc, if_pos h2], rfl, trivial⟩
    refine AW_run 80 rfl ?_
    exact key (I 19 10).toNat 0 (by omega) (by omega)
/-- how many steps of a word -/
def sk_nw2 (I : sk_SI) (p : Nat) (w : Int) : Int := sk_sum (sk_eqc (I (p + 3)) w) (I p 10).toNat
theorem sk_nw2_b (I : sk_SI) (p : Nat) (w : Int) (h : I p 10 ≤ 200) : 0 ≤ sk_nw2 I p w ∧ sk_nw2 I p w ≤ 200 := by
  have := sk_sum_b _ (sk_eqc_b (I (p + 3)) w) (I p 10).toNat
  unfold sk_nw2
  omega
theorem c_Pg_plain (p : Nat) (hp : sk_pg p) (hn : 0 ≤ I p 10 ∧ I p 10 ≤ 200) (hI : ∀ i, 0 ≤ i → i < I p 10 → sk_in (I (p + 3) i)) (hT : sk_nw2 I p 4 + sk_nw2 I p 5 + sk_nw2 I p 6 = 0 → Q (some (vi 1)) sk_G (I, L, sk_J cu sp io rp tp fp)) (hF : sk_nw2 I p 4 + sk_nw2 I p 5 + sk_nw2 I p 6 ≠ 0 → Q (some (vi 0)) sk_G (I, L, sk_J cu sp io rp tp fp)) : AW l E (d + 1) 0 0 mX2_canBeForetold 0 [some (vr p)] [] sk_G (I, L, sk_J cu sp io rp tp fp) Q := by
  have b4 := sk_nw2_b I p 4 hn.2
  have b5 := sk_nw2_b I p 5 hn.2
  have b6 := sk_nw2_b I p 6 hn.2
  rcases hp with rfl | rfl <;>
  · refine AW_run 80 rfl ?_
    refine AW_cV (M' := mX2_countOf) rfl kkX2_53 lcX2_countOf rfl rfl rfl rfl rfl rfl (Nat.le_refl _) ?_
    refine c_Pg_count _ (by first | exact Or.inl rfl | exact Or.inr rfl) 4 (by unfold sk_in; omega) hn hI ?_
    refine AW_run 80 rfl ?_
    refine AW_cV (M' := mX2_countOf) rfl kkX2_53 lcX2_countOf rfl rfl rfl rfl rfl rfl (Nat.le_refl _) ?_
    refine c_Pg_count _ (by first | exact Or.inl rfl | exact Or.inr rfl) 5 (by unfold sk_in; omega) hn hI ?_
    refine AW_run 80 rfl ?_
    refine AW_cV (M' := mX2_countOf) rfl kkX2_53 lcX2_countOf rfl rfl rfl rfl rfl rfl (Nat.le_refl _) ?_
    refine c_Pg_count _ (by first | exact Or.inl rfl | exact Or.inr rfl) 6 (by unfold sk_in; omega) hn hI ?_
    refine AW_run 80 rfl ?_
    unfold sk_nw2 at *
    refine AW_ifne rfl (fun h => ?_) (fun h => ?_)
    · refine AW_run 80 rfl ?_
      exact AW_zret rfl rfl (Or.inl rfl) (hF h)
    · refine AW_run 80 rfl ?_
      exact AW_zret rfl rfl (Or.inr rfl) (hT h)
theorem c_Pg_addMethod (p : Nat) (hp : sk_pg p) (o : Int) (hn : 0 ≤ I p 9 ∧ I p 9 < 20) (hq : Q (some (vi (I p 9))) sk_G (sk_uI (sk_uI (sk_uI I (p + 1) (I p 9) o) (p + 2) (I p 9) (-1)) p 9 (I p 9 + 1), L, sk_J cu sp io rp tp fp)) : AW l E (d + 1) 0 0 mX2_addMethod 0 [some (vr p), some (vi o), none] [] sk_G (I, L, sk_J cu sp io rp tp fp) Q := by
  rcases hp with rfl | rfl <;>
  · refine AW_run 80 rfl ?_
    refine AW_within rfl kkX2_49 rfl (by omega) (fun w1 w2 => ?_) (fun w3 => ?_)
    · refine AW_run 80 rfl ?_
      first | refine AW_e1 rfl ?_ | refine AW_e0 rfl ?_ | refine AW_n1 rfl ?_ | refine AW_n0 rfl ?_
      refine AW_run 80 rfl ?_
      refine AW_iast rfl rfl ⟨by omega, by omega⟩ (by decide) ?_
      (refine AW_run 80 rfl ?_; (try simp only [sk_uI_s, sk_uI_o, sk_up_s, sk_up_o, sk_uL_s, sk_uL_o, ne_eq, Nat.reduceEqDiff, Nat.reduceAdd, Int.reduceEq, not_false_eq_true]))
      refine AW_iast rfl rfl ⟨by omega, by omega⟩ (by decide) ?_
      (refine AW_run 80 rfl ?_; (try simp only [sk_uI_s, sk_uI_o, sk_up_s, sk_up_o, sk_uL_s, sk_uL_o, ne_eq, Nat.reduceEqDiff, Nat.reduceAdd, Int.reduceEq, not_false_eq_true]))
      exact AW_iret rfl rfl hq
    · omega
theorem c_Pg_addStep (p : Nat) (hp : sk_pg p) (w : Int) (hn : 0 ≤ I p 10 ∧ I p 10 < 200) (hq : Q (some (vi (I p 10))) sk_G (sk_uI (sk_uI (sk_uI (sk_uI (sk_uI (sk_uI (sk_uI (sk_uI I (p + 3) (I p 10) w) (p + 4) (I p 10) (I p 9 - 1)) (p + 5) (I p 10) (-1)) (p + 6) (I p 10) (-1)) (p + 7) (I p 10) (-1)) (p + 8) (I p 10) (-1)) (p + 9) (I p 10) (-1)) p 10 (I p 10 + 1), L, sk_J cu sp io rp tp fp)) : AW l E (d + 1) 0 0 mX2_addStep 0 [some (vr p), some (vi w), none] [] sk_G (I, L, sk_J cu sp io rp tp fp) Q := by
  rcases hp with rfl | rfl <;>
  · refine AW_run 80 rfl ?_
    refine AW_within rfl kkX2_49 rfl (by omega) (fun w1 w2 => ?_) (fun w3 => ?_)
    · refine AW_run 80 rfl ?_
      first | refine AW_e1 rfl ?_ | refine AW_e0 rfl ?_ | refine AW_n1 rfl ?_ | refine AW_n0 rfl ?_
      refine AW_run 80 rfl ?_
      refine AW_iast rfl rfl ⟨by omega, by omega⟩ (by decide) ?_
      (refine AW_run 80 rfl ?_; (try simp only [sk_uI_s, sk_uI_o, sk_up_s, sk_up_o, sk_uL_s, sk_uL_o, ne_eq, Nat.reduceEqDiff, Nat.reduceAdd, Int.reduceEq, not_false_eq_true]))
      refine AW_iast rfl rfl ⟨by omega, by omega⟩ (by decide) ?_
      (refine AW_run 80 rfl ?_; (try simp only [sk_uI_s, sk_uI_o, sk_up_s, sk_up_o, sk_uL_s, sk_uL_o, ne_eq, Nat.reduceEqDiff, Nat.reduceAdd, Int.reduceEq, not_false_eq_true]))
      refine AW_iast rfl rfl ⟨by omega, by omega⟩ (by decide) ?_
      (refine AW_run 80 rfl ?_; (try simp only [sk_uI_s, sk_uI_o, sk_up_s, sk_up_o, sk_uL_s, sk_uL_o, ne_eq, Nat.reduceEqDiff, Nat.reduceAdd, Int.reduceEq, not_false_eq_true]))
      refine AW_iast rfl rfl ⟨by omega, by omega⟩ (by decide) ?_
      (refine AW_run 80 rfl ?_; (try simp only [sk_uI_s, sk_uI_o, sk_up_s, sk_up_o, sk_uL_s, sk_uL_o, ne_eq, Nat.reduceEqDiff, Nat.reduceAdd, Int.reduceEq, not_false_eq_true]))
      refine AW_iast rfl rfl ⟨by omega, by omega⟩ (by decide) ?_
      (refine AW_run 80 rfl ?_; (try simp only [sk_uI_s, sk_uI_o, sk_up_s, sk_up_o, sk_uL_s, sk_uL_o, ne_eq, Nat.reduceEqDiff, Nat.reduceAdd, Int.reduceEq, not_false_eq_true]))
      refine AW_iast rfl rfl ⟨by omega, by omega⟩ (by decide) ?_
      (refine AW_run 80 rfl ?_; (try simp only [sk_uI_s, sk_uI_o, sk_up_s, sk_up_o, sk_uL_s, sk_uL_o, ne_eq, Nat.reduceEqDiff, Nat.reduceAdd, Int.reduceEq, not_false_eq_true]))
      refine AW_iast rfl rfl ⟨by omega, by omega⟩ (by decide) ?_
      (refine AW_run 80 rfl ?_; (try simp only [sk_uI_s, sk_uI_o, sk_up_s, sk_up_o, sk_uL_s, sk_uL_o, ne_eq, Nat.reduceEqDiff, Nat.reduceAdd, Int.reduceEq, not_false_eq_true]))
      exact AW_iret rfl rfl hq
    · omega
end SKC4
end
section
/-! ===== SealKeeper: the short methods ===== -/
theorem sk_uI_id {I : sk_SI} {k : Nat} {j v : Int} (h : I k j = v) : sk_uI I k j v = I := by
  funext k' j'
  by_cases hk : k' = k
  · subst hk
    rw [sk_uI_s]
    by_cases hj : j' = j
    · subst hj; rw [sk_up_s, h]
    · rw [sk_up_o hj]
  · rw [sk_uI_o hk]
/-- a number behind a row -/
def sk_ap (I : sk_SI) (r : Nat) (c : Int) : sk_SI := sk_uI (sk_uI I (r + 1) (I r 1) c) r 1 (I r 1 + 1)
theorem sk_ap_n (I : sk_SI) (r : Nat) (c : Int) : sk_ap I r c r 1 = I r 1 + 1 := by
  unfold sk_ap
  rw [sk_uI_s, sk_up_s]
theorem sk_ap_o (I : sk_SI) (r : Nat) (c : Int) (k : Nat) (h1 : k ≠ r) (h2 : k ≠ r + 1) : sk_ap I r c k = I k := by
  unfold sk_ap
  rw [sk_uI_o h1, sk_uI_o h2]
theorem sk_ap_c (I : sk_SI) (r : Nat) (c : Int) : sk_ap I r c (r + 1) = sk_up (I (r + 1)) (I r 1) c := by
  unfold sk_ap
  rw [sk_uI_o (by omega), sk_uI_s]
/-- the byte of a number at a shift -/
def sk_by (a s : Int) : Int := sk_and (sk_ushr a s) 255
def sk_ab (I : sk_SI) (a : Int) : sk_SI := sk_ap (sk_ap (sk_ap (sk_ap I 1 (sk_by a 24)) 1 (sk_by a 16)) 1 (sk_by a 8)) 1 (sk_by a 0)
theorem sk_ab_n (I : sk_SI) (a : Int) : sk_ab I a 1 1 = I 1 1 + 4 := by
  unfold sk_ab
  rw [sk_ap_n, sk_ap_n, sk_ap_n, sk_ap_n]
  omega
section SKC5
variable {l : Launch} {E : sk_En} {d : Nat} {I : sk_SI} {L : sk_SL} {cu sp io rp tp fp : Nat} {Q : Option sk_V → List sk_Sh → sk_St → Prop}
theorem c_K_ab (a : Int) (h0 : 0 ≤ I 1 1) (h1 : I 1 1 + 4 ≤ 1200) (hq : Q none sk_G (sk_ab I a, L, sk_J cu sp io rp tp fp)) : AW l E (d + 2) 0 0 mX9_addBytes 0 [some (vr 0), some (vi a), none] [] sk_G (I, L, sk_J cu sp io rp tp fp) Q := by
  refine AW_run 80 rfl ?_
  refine AW_iflt rfl (fun h => by omega) (fun _ => ?_)
  refine AW_run 80 rfl ?_
  refine AW_cV (M' := mX4_add) rfl kkX9_79 lcX4_add rfl rfl rfl rfl rfl rfl (Nat.le_refl _) ?_
  refine c_Row_add (d := d) 1 1200 (Or.inl ⟨rfl, rfl⟩) _ h0 (by omega) ?_
  refine AW_run 80 rfl ?_
  refine AW_iflt rfl (fun h => by omega) (fun _ => ?_)
  refine AW_run 80 rfl ?_
  refine AW_cV (M' := mX4_add) rfl kkX9_79 lcX4_add rfl rfl rfl rfl rfl rfl (Nat.le_refl _) ?_
  have e1 := sk_ap_n I 1 (sk_by a 24)
  refine c_Row_add (I := sk_ap I 1 (sk_by a 24)) (d := d) 1 1200 (Or.inl ⟨rfl, rfl⟩) _ (by omega) (by omega) ?_
  refine AW_run 80 rfl ?_
  refine AW_iflt rfl (fun h => by omega) (fun _ => ?_)
  refine AW_run 80 rfl ?_
  refine AW_cV (M' := mX4_add) rfl kkX9_79 lcX4_add rfl rfl rfl rfl rfl rfl (Nat.le_refl _) ?_
  have e2 := sk_ap_n (sk_ap I 1 (sk_by a 24)) 1 (sk_by a 16)
  refine c_Row_add (I := sk_ap (sk_ap I 1 (sk_by a 24)) 1 (sk_by a 16)) (d := d) 1 1200 (Or.inl ⟨rfl, rfl⟩) _ (by omega) (by omega) ?_
  refine AW_run 80 rfl ?_
  refine AW_iflt rfl (fun h => by omega) (fun _ => ?_)
  refine AW_run 80 rfl ?_
  refine AW_cV (M' := mX4_add) rfl kkX9_79 lcX4_add rfl rfl rfl rfl rfl rfl (Nat.le_refl _) ?_
  have e3 := sk_ap_n (sk_ap (sk_ap I 1 (sk_by a 24)) 1 (sk_by a 16)) 1 (sk_by a 8)
  refine c_Row_add (I := sk_ap (sk_ap (sk_ap I 1 (sk_by a 24)) 1 (sk_by a 16)) 1 (sk_by a 8)) (d := d) 1 1200 (Or.inl ⟨rfl, rfl⟩) _ (by omega) (by omega) ?_
  refine AW_run 80 rfl ?_
  refine AW_iflt rfl (fun _ => ?_) (fun h => by omega)
  exact AW_vret rfl rfl hq
theorem c_K_feed (a b c e f : Int) (h0 : 0 ≤ I 1 1) (h1 : I 1 1 ≤ 1200) (hF : 1180 < I 1 1 → Q (some (vi (-5))) sk_G (I, L, sk_J cu sp io rp tp fp)) (hT : I 1 1 ≤ 1180 → Q (some (vi (I 1 1 + 20))) sk_G (sk_ab (sk_ab (sk_ab (sk_ab (sk_ab I a) b) c) e) f, L, sk_J cu sp io rp tp fp)) : AW l E (d + 3) 0 0 mX9_feed 0 [some (vr 0), some (vi a), some (vi b), some (vi c), some (vi e), some (vi f)] [] sk_G (I, L, sk_J cu sp io rp tp fp) Q := by
  refine AW_run 80 rfl ?_
  refine AW_cV (M' := mX4_hasRoomFor) rfl kkX9_68 lcX4_hasRoomFor rfl rfl rfl rfl rfl rfl (Nat.le_refl _) ?_
  refine c_Row_room 1 1200 (Or.inl ⟨rfl, rfl⟩) 20 (by unfold sk_in; omega) h0 h1 (fun g => ?_) (fun g => ?_)
  · have e1 := sk_ab_n I a
    have e2 := sk_ab_n (sk_ab I a) b
    have e3 := sk_ab_n (sk_ab (sk_ab I a) b) c
    have e4 := sk_ab_n (sk_ab (sk_ab (sk_ab I a) b) c) e
    have e5 := sk_ab_n (sk_ab (sk_ab (sk_ab (sk_ab I a) b) c) e) f
    refine AW_run 80 rfl ?_
    first | refine AW_e1 rfl ?_ | refine AW_e0 rfl ?_ | refine AW_n1 rfl ?_ | refine AW_n0 rfl ?_
    refine AW_run 80 rfl ?_
    refine AW_cV (M' := mX9_addBytes) rfl kkX9_72 lcX9_addBytes rfl rfl rfl rfl rfl rfl (Nat.le_refl _) ?_
    refine c_K_ab (d := d) _ (by omega) (by omega) ?_
    refine AW_run 80 rfl ?_
    refine AW_cV (M' := mX9_addBytes) rfl kkX9_72 lcX9_addBytes rfl rfl rfl rfl rfl rfl (Nat.le_refl _) ?_
    refine c_K_ab (d := d) _ (by omega) (by omega) ?_
    refine AW_run 80 rfl ?_
    refine AW_cV (M' := mX9_addBytes) rfl kkX9_72 lcX9_addBytes rfl rfl rfl rfl rfl rfl (Nat.le_refl _) ?_
    refine c_K_ab (d := d) _ (by omega) (by omega) ?_
    refine AW_run 80 rfl ?_
    refine AW_cV (M' := mX9_addBytes) rfl kkX9_72 lcX9_addBytes rfl rfl rfl rfl rfl rfl (Nat.le_refl _) ?_
    refine c_K_ab (d := d) _ (by omega) (by omega) ?_
    refine AW_run 80 rfl ?_
    refine AW_cV (M' := mX9_addBytes) rfl kkX9_72 lcX9_addBytes rfl rfl rfl rfl rfl rfl (Nat.le_refl _) ?_
    refine c_K_ab (d := d) _ (by omega) (by omega) ?_
    refine AW_run 80 rfl ?_
    refine AW_top (show _ = I 1 1 + 20 by omega) ?_
    exact AW_iret rfl rfl (hT (by omega))
  · refine AW_run 80 rfl ?_
    first | refine AW_e1 rfl ?_ | refine AW_e0 rfl ?_ | refine AW_n1 rfl ?_ | refine AW_n0 rfl ?_
    refine AW_run 80 rfl ?_
    exact AW_iret rfl rfl (hF (by omega))
theorem c_K_trim (n : Int) (hn : sk_in n) (h0 : 0 ≤ I 1 1) (h1 : I 1 1 ≤ 1200) (hF : ¬ (0 ≤ n ∧ n ≤ I 1 1) → Q (some (vi (-3))) sk_G (I, L, sk_J cu sp io rp tp fp)) (hT : 0 ≤ n → n ≤ I 1 1 → Q (some (vi n)) sk_G (sk_uI I 1 1 n, L, sk_J cu sp io rp tp fp)) : AW l E (d + 2) 0 0 mX9_trim 0 [some (vr 0), some (vi n)] [] sk_G (I, L, sk_J cu sp io rp tp fp) Q := by
  refine AW_run 80 rfl ?_
  refine AW_withinS rfl kkX9_82 rfl (by omega) (fun w1 w2 => ?_) (fun w3 => ?_)
  · refine AW_run 80 rfl ?_
    first | refine AW_e1 rfl ?_ | refine AW_e0 rfl ?_ | refine AW_n1 rfl ?_ | refine AW_n0 rfl ?_
    refine AW_run 80 rfl ?_
    refine AW_cV (M' := mX4_cutTo) rfl kkX9_86 lcX4_cutTo rfl rfl rfl rfl rfl rfl (Nat.le_refl _) ?_
    refine c_Row_cut (d := d) 1 1200 (Or.inl ⟨rfl, rfl⟩) n hn h1 h0 ?_
    rw [show max 0 (min n (I 1 1)) = n by omega]
    refine AW_run 80 rfl ?_
    exact AW_iret rfl rfl (hT w1 (by omega))
  · refine AW_run 80 rfl ?_
    first | refine AW_e1 rfl ?_ | refine AW_e0 rfl ?_ | refine AW_n1 rfl ?_ | refine AW_n0 rfl ?_
    refine AW_run 80 rfl ?_
    exact AW_iret rfl rfl (hF (by omega))
theorem c_K_rule (o k v : Int) (ho : sk_in o) (hk : sk_in k) (hv : sk_in v) (hF : ¬ (0 ≤ o ∧ o < 8 ∧ 0 ≤ k ∧ k < 8 ∧ -1 ≤ v ∧ v ≤ 9) → Q (some (vi (-3))) sk_G (I, L, sk_J cu sp io rp tp fp)) (hT : 0 ≤ o → o < 8 → 0 ≤ k → k < 8 → -1 ≤ v → v ≤ 9 → Q (some (vi (I 8 (o * 8 + k)))) sk_G (sk_uI I 8 (o * 8 + k) v, L, sk_J cu sp io rp tp fp)) : AW l E (d + 3) 0 0 mX9_rule 0 [some (vr 0), some (vi o), some (vi k), some (vi v)] [] sk_G (I, L, sk_J cu sp io rp tp fp) Q := by
  refine AW_run 80 rfl ?_
  refine AW_withinS rfl kkX9_82 rfl (by omega) (fun w1 w2 => ?_) (fun w3 => ?_)
  · refine AW_run 80 rfl ?_
    first | refine AW_e1 rfl ?_ | refine AW_e0 rfl ?_ | refine AW_n1 rfl ?_ | refine AW_n0 rfl ?_
    refine AW_run 80 rfl ?_
    refine AW_withinS rfl kkX9_82 rfl (by omega) (fun w4 w5 => ?_) (fun w6 => ?_)
    · refine AW_run 80 rfl ?_
      first | refine AW_e1 rfl ?_ | refine AW_e0 rfl ?_ | refine AW_n1 rfl ?_ | refine AW_n0 rfl ?_
      refine AW_run 80 rfl ?_
      refine AW_iclt rfl (fun h => ?_) (fun h => ?_)
      · refine AW_run 80 rfl ?_
        exact AW_iret rfl rfl (hF (by omega))
      · refine AW_run 80 rfl ?_
        refine AW_iclt rfl (fun h2 => ?_) (fun h2 => ?_)
        · refine AW_run 80 rfl ?_
          refine AW_cV (M' := mX5_replace) rfl kkX9_109 lcX5_replace rfl rfl rfl rfl rfl rfl (Nat.le_refl _) ?_
          refine c_Rules_replace (d := d) o k v ⟨w1, w2⟩ ⟨w4, w5⟩ ?_
          exact AW_iret rfl rfl (hT w1 w2 w4 w5 (by omega) (by omega))
        · refine AW_run 80 rfl ?_
          exact AW_iret rfl rfl (hF (by omega))
    · refine AW_run 80 rfl ?_
      first | refine AW_e1 rfl ?_ | refine AW_e0 rfl ?_ | refine AW_n1 rfl ?_ | refine AW_n0 rfl ?_
      refine AW_run 80 rfl ?_
      exact AW_iret rfl rfl (hF (by omega))
  · refine AW_run 80 rfl ?_
    first | refine AW_e1 rfl ?_ | refine AW_e0 rfl ?_ | refine AW_n1 rfl ?_ | refine AW_n0 rfl ?_
    refine AW_run 80 rfl ?_
    exact AW_iret rfl rfl (hF (by omega))
theorem c_K_forget (h0 : 0 ≤ I 3 1) (h1 : I 3 1 ≤ 400) (hq : Q (some (vi (I 3 1))) sk_G (sk_uI I 3 1 0, L, sk_J cu sp io rp tp fp)) : AW l E (d + 2) 0 0 mX9_forget 0 [some (vr 0), none] [] sk_G (I, L, sk_J cu sp io rp tp fp) Q := by
  refine AW_run 80 rfl ?_
  refine AW_cV (M' := mX4_cutTo) rfl kkX9_86 lcX4_cutTo rfl rfl rfl rfl rfl rfl (Nat.le_refl _) ?_
  refine c_Row_cut (d := d) 3 400 (Or.inr (Or.inl ⟨rfl, rfl⟩)) 0 sk_in0 h1 h0 ?_
  rw [show max 0 (min 0 (I 3 1)) = 0 by omega]
  refine AW_run 80 rfl ?_
  exact AW_iret rfl rfl hq
theorem c_K_fault (hq : Q (some (vi (I 29 5))) sk_G (I, L, sk_J cu sp io rp tp fp)) : AW l E d 0 0 mX9_fault 0 [some (vr 0)] [] sk_G (I, L, sk_J cu sp io rp tp fp) Q := by
  refine AW_run 80 rfl ?_
  exact AW_iret rfl rfl hq
theorem c_K_has (hc : sk_pg cu) (h : 0 ≤ I cu 9 ∧ I cu 9 ≤ 20) (hT : 0 < I cu 9 → Q (some (vi 1)) sk_G (I, L, sk_J cu sp io rp tp fp)) (hF : I cu 9 = 0 → Q (some (vi 0)) sk_G (I, L, sk_J cu sp io rp tp fp)) : AW l E d 0 0 mX9_hasProgram 0 [some (vr 0)] [] sk_G (I, L, sk_J cu sp io rp tp fp) Q := by
  rcases hc with rfl | rfl <;>
  · refine AW_run 80 rfl ?_
    refine AW_ifle rfl (fun g => ?_) (fun g => ?_)
    · refine AW_run 80 rfl ?_
      exact AW_zret rfl rfl (Or.inl rfl) (hF (by omega))
    · refine AW_run 80 rfl ?_
      exact AW_zret rfl rfl (Or.inr rfl) (hT (by omega))
theorem c_K_note (i : Int) (hi : sk_in i) (h0 : 0 ≤ I 5 1) (h1 : I 5 1 ≤ 3000) (hT : 0 ≤ i → i < I 5 1 → Q (some (vi (I 6 i))) sk_G (I, L, sk_J cu sp io rp tp fp)) (hF : ¬ (0 ≤ i ∧ i < I 5 1) → Q (some (vi (-1))) sk_G (I, L, sk_J cu sp io rp tp fp)) : AW l E (d + 1) 0 0 mX9_note 0 [some (vr 0), some (vi i)] [] sk_G (I, L, sk_J cu sp io rp tp fp) Q := by
  refine AW_run 80 rfl ?_
  refine AW_cV (M' := mX4_at) rfl kkX9_147 lcX4_at rfl rfl rfl rfl rfl rfl (Nat.le_refl _) ?_
  refine c_Row_at 5 3000 (Or.inr (Or.inr ⟨rfl, rfl⟩)) i hi h1 h0 (fun g1 g2 => ?_) (fun g => ?_)
  · exact AW_iret rfl rfl (hT g1 g2)
  · exact AW_iret rfl rfl (hF g)
theorem c_K_ran (w : Int) (hw : sk_in w) (h : I 34 8 = 0 ∨ I 34 8 = 1) (h1 : ¬ (0 ≤ w ∧ w < 8) → Q (some (vi (-3))) sk_G (I, L, sk_J cu sp io rp tp fp)) (h2 : 0 ≤ w → w < 8 → I 34 8 = 0 → Q (some (vi (-1))) sk_G (I, L, sk_J cu sp io rp tp fp)) (h3 : 0 ≤ w → w < 8 → I 34 8 = 1 → Q (some (vi (I 44 w))) sk_G (I, L, sk_J cu sp io rp tp fp)) : AW l E (d + 1) 0 0 mX9_ran 0 [some (vr 0), some (vi w)] [] sk_G (I, L, sk_J cu sp io rp tp fp) Q := by
  refine AW_run 80 rfl ?_
  refine AW_withinS rfl kkX9_82 rfl (by omega) (fun w1 w2 => ?_) (fun w3 => ?_)
  · refine AW_run 80 rfl ?_
    first | refine AW_e1 rfl ?_ | refine AW_e0 rfl ?_ | refine AW_n1 rfl ?_ | refine AW_n0 rfl ?_
    refine AW_run 80 rfl ?_
    refine AW_ifeq rfl (fun g => ?_) (fun g => ?_)
    · refine AW_run 80 rfl ?_
      exact AW_iret rfl rfl (h2 w1 w2 g)
    · refine AW_run 80 rfl ?_
      refine AW_iald rfl rfl ⟨by omega, by omega⟩ (by decide) ?_
      refine AW_run 80 rfl ?_
      exact AW_iret rfl rfl (h3 w1 w2 (by omega))
  · refine AW_run 80 rfl ?_
    first | refine AW_e1 rfl ?_ | refine AW_e0 rfl ?_ | refine AW_n1 rfl ?_ | refine AW_n0 rfl ?_
    refine AW_run 80 rfl ?_
    exact AW_iret rfl rfl (h1 w3)
theorem c_K_count (w : Int) (hw : sk_in w) (hI : ∀ i, 0 ≤ i → i < 64 → sk_in (I 8 i)) (h0 : w = 0 → Q (some (vi (I 1 1))) sk_G (I, L, sk_J cu sp io rp tp fp)) (h1 : w = 1 → Q (some (vi (I 3 1))) sk_G (I, L, sk_J cu sp io rp tp fp)) (h2 : w = 2 → Q (some (vi (I 5 1))) sk_G (I, L, sk_J cu sp io rp tp fp)) (h3 : w = 3 → Q (some (vi (sk_sum (sk_ng (I 8)) 64))) sk_G (I, L, sk_J cu sp io rp tp fp)) (h4 : ¬ (0 ≤ w ∧ w ≤ 3) → Q (some (vi (-3))) sk_G (I, L, sk_J cu sp io rp tp fp)) : AW l E (d + 1) 0 0 mX9_count 0 [some (vr 0), some (vi w)] [] sk_G (I, L, sk_J cu sp io rp tp fp) Q := by
  refine AW_run 80 rfl ?_
  by_cases g : 0 ≤ w ∧ w ≤ 3
  · rcases (show w = 0 ∨ w = 1 ∨ w = 2 ∨ w = 3 by omega) with e | e | e | e
    · refine AW_tin 0 rfl (by omega) rfl hw ?_
      refine AW_run 80 rfl ?_
      exact AW_iret rfl rfl (h0 e)
    · refine AW_tin 1 rfl (by omega) rfl hw ?_
      refine AW_run 80 rfl ?_
      exact AW_iret rfl rfl (h1 e)
    · refine AW_tin 2 rfl (by omega) rfl hw ?_
      refine AW_run 80 rfl ?_
      exact AW_iret rfl rfl (h2 e)
    · refine AW_tin 3 rfl (by omega) rfl hw ?_
      refine AW_run 80 rfl ?_
      refine AW_cV (M' := mX5_given) rfl kkX9_178 lcX5_given rfl rfl rfl rfl rfl rfl (Nat.le_refl _) ?_
      refine c_Rules_given hI ?_
      exact AW_iret rfl rfl (h3 e)
  · refine AW_tout rfl (by omega) hw ?_
    refine AW_run 80 rfl ?_
    exact AW_iret rfl rfl (h4 g)
end SKC5
end
section
/-! ===== SealKeeperModel: the short methods (the object is cell 59; tape 60, rules 61, bits 62, methods 63, owners 64, firsts 65, steps 66, word 67, methodOf 68, one 69, two 70, nextOf 71, blockOne 72, blockTwo 73, deepest 74, notes 90) ===== -/
section SKD0
variable {l : Launch} {E : sk_En} {d mc ms : Nat} {M : sk_M} {pc pc0 len nxt idx : Nat} {aux : List Nat} {ls : List (Option sk_V)} {st : List sk_V} {G : List sk_Sh} {σ : sk_St} {Q : Option sk_V → List sk_Sh → sk_St → Prop}
theorem c_in (v a b : Int) (hv : sk_in v) (ha : sk_in a) (hb : sk_in b) (hT : a ≤ v → v ≤ b → Q (some (vi 1)) G σ) (hF : ¬ (a ≤ v ∧ v ≤ b) → Q (some (vi 0)) G σ) : AW l E d 0 0 mX10_in 0 [some (vi v), some (vi a), some (vi b)] [] G σ Q := by
  refine AW_run 80 rfl ?_
  refine AW_iclt rfl (fun h => ?_) (fun h => ?_)
  · refine AW_run 80 rfl ?_
    exact AW_zret rfl rfl (Or.inl rfl) (hF (by omega))
  · refine AW_run 80 rfl ?_
    refine AW_icgt rfl (fun h2 => ?_) (fun h2 => ?_)
    · refine AW_run 80 rfl ?_
      exact AW_zret rfl rfl (Or.inl rfl) (hF (by omega))
    · refine AW_run 80 rfl ?_
      exact AW_zret rfl rfl (Or.inr rfl) (hT (by omega) (by omega))
theorem AW_in {v a b : Int} (h : sk_find pc M.2.2.2.2 = some (pc0, (.invokestatic idx), len, nxt, aux)) (hL : sk_lS M.1.cls idx mX10_in) (hW : Nat.ble (sk_cs st) 8 = true) (hd : 1 ≤ d) (kT : a ≤ v → v ≤ b → AW l E d mc ms M nxt ls (vi 1 :: st) G σ Q) (kF : ¬ (a ≤ v ∧ v ≤ b) → AW l E d mc ms M nxt ls (vi 0 :: st) G σ Q) (hv : sk_in v := by (first | assumption | (unfold sk_in; omega))) (ha : sk_in a := by (first | assumption | (unfold sk_in; omega))) (hb : sk_in b := by (first | assumption | (unfold sk_in; omega))) : AW l E d mc ms M pc ls (vi b :: vi a :: vi v :: st) G σ Q :=
  AW_callS (d' := 0) h hL lcX10_in rfl hW rfl hd (Nat.zero_add mc).symm (Nat.zero_add ms).symm (c_in v a b hv ha hb kT kF)
end SKD0
/-- a number behind the model's tape -/
def sk_am (I : sk_SI) (c : Int) : sk_SI := sk_uI (sk_uI I 60 (I 59 2) c) 59 2 (I 59 2 + 1)
theorem sk_am_n (I : sk_SI) (c : Int) : sk_am I c 59 2 = I 59 2 + 1 := by
  unfold sk_am
  rw [sk_uI_s, sk_up_s]
def sk_bz (a s : Int) : Int := sk_and (sk_shr a s) 255
def sk_a4 (I : sk_SI) (a : Int) : sk_SI := sk_am (sk_am (sk_am (sk_am I (sk_bz a 24)) (sk_bz a 16)) (sk_bz a 8)) (sk_bz a 0)
theorem sk_a4_n (I : sk_SI) (a : Int) : sk_a4 I a 59 2 = I 59 2 + 4 := by
  unfold sk_a4
  rw [sk_am_n, sk_am_n, sk_am_n, sk_am_n]
  omega
section SKD1
variable {l : Launch} {E : sk_En} {d : Nat} {I : sk_SI} {L : sk_SL} {cu sp io rp tp fp : Nat} {Q : Option sk_V → List sk_Sh → sk_St → Prop}
theorem c_M_four (a : Int) (h0 : 0 ≤ I 59 2) (h1 : I 59 2 + 4 ≤ 1200) (hq : Q none sk_G (sk_a4 I a, L, sk_J cu sp io rp tp fp)) : AW l E d 0 0 mX10_four 0 [some (vr 59), some (vi a), none] [] sk_G (I, L, sk_J cu sp io rp tp fp) Q := by
  have e1 := sk_am_n I (sk_bz a 24)
  have e2 := sk_am_n (sk_am I (sk_bz a 24)) (sk_bz a 16)
  have e3 := sk_am_n (sk_am (sk_am I (sk_bz a 24)) (sk_bz a 16)) (sk_bz a 8)
  refine AW_run 80 rfl ?_
  refine AW_iflt rfl (fun h => by omega) (fun _ => ?_)
  refine AW_run 80 rfl ?_
  refine AW_iast rfl rfl ⟨by omega, by omega⟩ (by decide) ?_
  (refine AW_run 80 rfl ?_; (try simp only [sk_uI_s, sk_uI_o, sk_up_s, sk_up_o, sk_uL_s, sk_uL_o, ne_eq, Nat.reduceEqDiff, Nat.reduceAdd, Int.reduceEq, not_false_eq_true]))
  refine AW_iflt rfl (fun h => by omega) (fun _ => ?_)
  change AW l E d 0 0 mX10_four _ _ _ sk_G (sk_am I (sk_bz a 24), L, sk_J cu sp io rp tp fp) Q
  refine AW_run 80 rfl ?_
  refine AW_iast rfl rfl ⟨by omega, by omega⟩ (by decide) ?_
  (refine AW_run 80 rfl ?_; (try simp only [sk_uI_s, sk_uI_o, sk_up_s, sk_up_o, sk_uL_s, sk_uL_o, ne_eq, Nat.reduceEqDiff, Nat.reduceAdd, Int.reduceEq, not_false_eq_true]))
  refine AW_iflt rfl (fun h => by omega) (fun _ => ?_)
  change AW l E d 0 0 mX10_four _ _ _ sk_G (sk_am (sk_am I (sk_bz a 24)) (sk_bz a 16), L, sk_J cu sp io rp tp fp) Q
  refine AW_run 80 rfl ?_
  refine AW_iast rfl rfl ⟨by omega, by omega⟩ (by decide) ?_
  (refine AW_run 80 rfl ?_; (try simp only [sk_uI_s, sk_uI_o, sk_up_s, sk_up_o, sk_uL_s, sk_uL_o, ne_eq, Nat.reduceEqDiff, Nat.reduceAdd, Int.reduceEq, not_false_eq_true]))
  refine AW_iflt rfl (fun h => by omega) (fun _ => ?_)
  change AW l E d 0 0 mX10_four _ _ _ sk_G (sk_am (sk_am (sk_am I (sk_bz a 24)) (sk_bz a 16)) (sk_bz a 8), L, sk_J cu sp io rp tp fp) Q
  refine AW_run 80 rfl ?_
  refine AW_iast rfl rfl ⟨by omega, by omega⟩ (by decide) ?_
  (refine AW_run 80 rfl ?_; (try simp only [sk_uI_s, sk_uI_o, sk_up_s, sk_up_o, sk_uL_s, sk_uL_o, ne_eq, Nat.reduceEqDiff, Nat.reduceAdd, Int.reduceEq, not_false_eq_true]))
  refine AW_iflt rfl (fun _ => ?_) (fun h => by omega)
  exact AW_vret rfl rfl hq
theorem c_M_feed (a b c e f : Int) (ht : I 59 0 = 0) (h0 : 0 ≤ I 59 2) (h1 : I 59 2 ≤ 1200) (hF : 1180 < I 59 2 → Q (some (vi (-5))) sk_G (I, L, sk_J cu sp io rp tp fp)) (hT : I 59 2 ≤ 1180 → Q (some (vi (I 59 2 + 20))) sk_G (sk_a4 (sk_a4 (sk_a4 (sk_a4 (sk_a4 I a) b) c) e) f, L, sk_J cu sp io rp tp fp)) : AW l E (d + 1) 0 0 mX10_feed 0 [some (vr 59), some (vi a), some (vi b), some (vi c), some (vi e), some (vi f)] [] sk_G (I, L, sk_J cu sp io rp tp fp) Q := by
  refine AW_run 80 rfl ?_
  rw [sk_uI_id ht]
  refine AW_icle rfl (fun g => ?_) (fun g => ?_)
  · have e1 := sk_a4_n I a
    have e2 := sk_a4_n (sk_a4 I a) b
    have e3 := sk_a4_n (sk_a4 (sk_a4 I a) b) c
    have e4 := sk_a4_n (sk_a4 (sk_a4 (sk_a4 I a) b) c) e
    have e5 := sk_a4_n (sk_a4 (sk_a4 (sk_a4 (sk_a4 I a) b) c) e) f
    refine AW_run 80 rfl ?_
    refine AW_cV (M' := mX10_four) rfl kkX10_173 lcX10_four rfl rfl rfl rfl rfl rfl (Nat.le_refl _) ?_
    refine c_M_four _ (by omega) (by omega) ?_
    refine AW_run 80 rfl ?_
    refine AW_cV (M' := mX10_four) rfl kkX10_173 lcX10_four rfl rfl rfl rfl rfl rfl (Nat.le_refl _) ?_
    refine c_M_four _ (by omega) (by omega) ?_
    refine AW_run 80 rfl ?_
    refine AW_cV (M' := mX10_four) rfl kkX10_173 lcX10_four rfl rfl rfl rfl rfl rfl (Nat.le_refl _) ?_
    refine c_M_four _ (by omega) (by omega) ?_
    refine AW_run 80 rfl ?_
    refine AW_cV (M' := mX10_four) rfl kkX10_173 lcX10_four rfl rfl rfl rfl rfl rfl (Nat.le_refl _) ?_
    refine c_M_four _ (by omega) (by omega) ?_
    refine AW_run 80 rfl ?_
    refine AW_cV (M' := mX10_four) rfl kkX10_173 lcX10_four rfl rfl rfl rfl rfl rfl (Nat.le_refl _) ?_
    refine c_M_four _ (by omega) (by omega) ?_
    refine AW_run 80 rfl ?_
    refine AW_top (show _ = I 59 2 + 20 by omega) ?_
    exact AW_iret rfl rfl (hT (by omega))
  · refine AW_run 80 rfl ?_
    exact AW_iret rfl rfl (hF (by omega))
theorem c_M_trim (n : Int) (hn : sk_in n) (ht : I 59 0 = 0) (h0 : 0 ≤ I 59 2) (h1 : I 59 2 ≤ 1200) (hF : ¬ (0 ≤ n ∧ n ≤ I 59 2) → Q (some (vi (-3))) sk_G (I, L, sk_J cu sp io rp tp fp)) (hT : 0 ≤ n → n ≤ I 59 2 → Q (some (vi n)) sk_G (sk_uI I 59 2 n, L, sk_J cu sp io rp tp fp)) : AW l E (d + 1) 0 0 mX10_trim 0 [some (vr 59), some (vi n)] [] sk_G (I, L, sk_J cu sp io rp tp fp) Q := by
  refine AW_run 80 rfl ?_
  rw [sk_uI_id ht]
  refine AW_in rfl kkX10_177 rfl (by omega) (fun w1 w2 => ?_) (fun w3 => ?_)
  · refine AW_run 80 rfl ?_
    first | refine AW_e1 rfl ?_ | refine AW_e0 rfl ?_ | refine AW_n1 rfl ?_ | refine AW_n0 rfl ?_
    refine AW_run 80 rfl ?_
    exact AW_iret rfl rfl (hT w1 w2)
  · refine AW_run 80 rfl ?_
    first | refine AW_e1 rfl ?_ | refine AW_e0 rfl ?_ | refine AW_n1 rfl ?_ | refine AW_n0 rfl ?_
    refine AW_run 80 rfl ?_
    exact AW_iret rfl rfl (hF w3)
theorem c_M_rule (o k v : Int) (ho : sk_in o) (hk : sk_in k) (hv : sk_in v) (ht : I 59 0 = 0) (hF : ¬ (0 ≤ o ∧ o < 8 ∧ 0 ≤ k ∧ k < 8 ∧ -1 ≤ v ∧ v ≤ 9) → Q (some (vi (-3))) sk_G (I, L, sk_J cu sp io rp tp fp)) (hT : 0 ≤ o → o < 8 → 0 ≤ k → k < 8 → -1 ≤ v → v ≤ 9 → Q (some (vi (I 61 (8 * o + k)))) sk_G (sk_uI I 61 (8 * o + k) v, L, sk_J cu sp io rp tp fp)) : AW l E (d + 1) 0 0 mX10_rule 0 [some (vr 59), some (vi o), some (vi k), some (vi v), none] [] sk_G (I, L, sk_J cu sp io rp tp fp) Q := by
  refine AW_run 80 rfl ?_
  rw [sk_uI_id ht]
  refine AW_in rfl kkX10_177 rfl (by omega) (fun w1 w2 => ?_) (fun w3 => ?_)
  · refine AW_run 80 rfl ?_
    first | refine AW_e1 rfl ?_ | refine AW_e0 rfl ?_ | refine AW_n1 rfl ?_ | refine AW_n0 rfl ?_
    refine AW_run 80 rfl ?_
    refine AW_in rfl kkX10_177 rfl (by omega) (fun w4 w5 => ?_) (fun w6 => ?_)
    · refine AW_run 80 rfl ?_
      first | refine AW_e1 rfl ?_ | refine AW_e0 rfl ?_ | refine AW_n1 rfl ?_ | refine AW_n0 rfl ?_
      refine AW_run 80 rfl ?_
      refine AW_in rfl kkX10_177 rfl (by omega) (fun w7 w8 => ?_) (fun w9 => ?_)
      · refine AW_run 80 rfl ?_
        first | refine AW_e1 rfl ?_ | refine AW_e0 rfl ?_ | refine AW_n1 rfl ?_ | refine AW_n0 rfl ?_
        refine AW_run 80 rfl ?_
        refine AW_iald rfl rfl ⟨by omega, by omega⟩ (by decide) ?_
        refine AW_run 80 rfl ?_
        refine AW_iast rfl rfl ⟨by omega, by omega⟩ (by decide) ?_
        refine AW_run 80 rfl ?_
        exact AW_iret rfl rfl (hT (by omega) (by omega) (by omega) (by omega) (by omega) (by omega))
      · refine AW_run 80 rfl ?_
        first | refine AW_e1 rfl ?_ | refine AW_e0 rfl ?_ | refine AW_n1 rfl ?_ | refine AW_n0 rfl ?_
        refine AW_run 80 rfl ?_
        exact AW_iret rfl rfl (hF (by omega))
    · refine AW_run 80 rfl ?_
      first | refine AW_e1 rfl ?_ | refine AW_e0 rfl ?_ | refine AW_n1 rfl ?_ | refine AW_n0 rfl ?_
      refine AW_run 80 rfl ?_
      exact AW_iret rfl rfl (hF (by omega))
  · refine AW_run 80 rfl ?_
    first | refine AW_e1 rfl ?_ | refine AW_e0 rfl ?_ | refine AW_n1 rfl ?_ | refine AW_n0 rfl ?_
    refine AW_run 80 rfl ?_
    exact AW_iret rfl rfl (hF (by omega))
theorem c_M_has (o k v : Int) (ho : 0 ≤ o ∧ o < 8) (hk : 0 ≤ k ∧ k < 8) (hv : sk_in v) (hI : sk_in (I 61 (8 * o + k))) (hT : v ≤ I 61 (8 * o + k) → Q (some (vi 1)) sk_G (I, L, sk_J cu sp io rp tp fp)) (hF : I 61 (8 * o + k) < v → Q (some (vi 0)) sk_G (I, L, sk_J cu sp io rp tp fp)) : AW l E d 0 0 mX10_hasRight 0 [some (vr 59), some (vi o), some (vi k), some (vi v)] [] sk_G (I, L, sk_J cu sp io rp tp fp) Q := by
  refine AW_run 80 rfl ?_
  refine AW_iald rfl rfl ⟨by omega, by omega⟩ (by decide) ?_
  refine AW_run 80 rfl ?_
  refine AW_iclt rfl (fun h => ?_) (fun h => ?_)
  · refine AW_run 80 rfl ?_
    exact AW_zret rfl rfl (Or.inl rfl) (hF h)
  · refine AW_run 80 rfl ?_
    exact AW_zret rfl rfl (Or.inr rfl) (hT (by omega))
theorem c_M_forget (ht : I 59 0 = 0) (hq : Q (some (vi (I 59 5))) sk_G (sk_uI I 59 5 0, L, sk_J cu sp io rp tp fp)) : AW l E d 0 0 mX10_forget 0 [some (vr 59), none] [] sk_G (I, L, sk_J cu sp io rp tp fp) Q := by
  refine AW_run 80 rfl ?_
  rw [sk_uI_id ht]
  exact AW_iret rfl rfl hq
theorem c_M_fault (ht : I 59 0 = 0) (hq : Q (some (vi (I 59 6))) sk_G (I, L, sk_J cu sp io rp tp fp)) : AW l E d 0 0 mX10_fault 0 [some (vr 59)] [] sk_G (I, L, sk_J cu sp io rp tp fp) Q := by
  refine AW_run 80 rfl ?_
  rw [sk_uI_id ht]
  exact AW_iret rfl rfl hq
theorem c_M_note (i : Int) (hi : sk_in i) (ht : I 59 0 = 0) (h0 : 0 ≤ I 59 58) (h1 : I 59 58 ≤ 3000) (hT : 0 ≤ i → i < I 59 58 → Q (some (vi (I 90 i))) sk_G (I, L, sk_J cu sp io rp tp fp)) (hF : ¬ (0 ≤ i ∧ i < I 59 58) → Q (some (vi (-1))) sk_G (I, L, sk_J cu sp io rp tp fp)) : AW l E (d + 1) 0 0 mX10_note 0 [some (vr 59), some (vi i)] [] sk_G (I, L, sk_J cu sp io rp tp fp) Q := by
  refine AW_run 80 rfl ?_
  rw [sk_uI_id ht]
  refine AW_in rfl kkX10_177 rfl (by omega) (fun w1 w2 => ?_) (fun w3 => ?_)
  · refine AW_run 80 rfl ?_
    first | refine AW_e1 rfl ?_ | refine AW_e0 rfl ?_ | refine AW_n1 rfl ?_ | refine AW_n0 rfl ?_
    refine AW_run 80 rfl ?_
    refine AW_iald rfl rfl ⟨by omega, by omega⟩ (by decide) ?_
    refine AW_run 80 rfl ?_
    exact AW_iret rfl rfl (hT w1 (by omega))
  · refine AW_run 80 rfl ?_
    first | refine AW_e1 rfl ?_ | refine AW_e0 rfl ?_ | refine AW_n1 rfl ?_ | refine AW_n0 rfl ?_
    refine AW_run 80 rfl ?_
    exact AW_iret rfl rfl (hF (by omega))
theorem c_M_ran (w : Int) (hw : sk_in w) (ht : I 59 0 = 0) (h : I 59 50 = 0 ∨ I 59 50 = 1) (h1 : ¬ (0 ≤ w ∧ w < 8) → Q (some (vi (-3))) sk_G (I, L, sk_J cu sp io rp tp fp)) (h2 : 0 ≤ w → w < 8 → I 59 50 = 0 → Q (some (vi (-1))) sk_G (I, L, sk_J cu sp io rp tp fp)) (h3 : I 59 50 = 1 → ∀ v : Int, (w = 0 ∧ v = I 59 51 ∨ w = 1 ∧ v = I 59 48 ∨ w = 2 ∧ v = I 59 52 ∨ w = 3 ∧ v = I 59 53 ∨ w = 4 ∧ v = I 59 54 ∨ w = 5 ∧ v = I 59 55 ∨ w = 6 ∧ v = I 59 58 ∨ w = 7 ∧ v = I 59 56) → Q (some (vi v)) sk_G (I, L, sk_J cu sp io rp tp fp)) : AW l E (d + 1) 0 0 mX10_ran 0 [some (vr 59), some (vi w)] [] sk_G (I, L, sk_J cu sp io rp tp fp) Q := by
  refine AW_run 80 rfl ?_
  rw [sk_uI_id ht]
  refine AW_in rfl kkX10_177 rfl (by omega) (fun w1 w2 => ?_) (fun w3 => ?_)
  · refine AW_run 80 rfl ?_
    first | refine AW_e1 rfl ?_ | refine AW_e0 rfl ?_ | refine AW_n1 rfl ?_ | refine AW_n0 rfl ?_
    refine AW_run 80 rfl ?_
    refine AW_ifne rfl (fun g => ?_) (fun g => ?_)
    · refine AW_run 80 rfl ?_
      have g1 : I 59 50 = 1 := by omega
      rcases (show w = 0 ∨ w = 1 ∨ w = 2 ∨ w = 3 ∨ w = 4 ∨ w = 5 ∨ w = 6 ∨ w = 7 by omega) with e | e | e | e | e | e | e | e
      · refine AW_tin 0 rfl (by omega) rfl hw ?_
        refine AW_run 80 rfl ?_
        exact AW_iret rfl rfl (h3 g1 _ (by omega))
      · refine AW_tin 1 rfl (by omega) rfl hw ?_
        refine AW_run 80 rfl ?_
        exact AW_iret rfl rfl (h3 g1 _ (by omega))
      · refine AW_tin 2 rfl (by omega) rfl hw ?_
        refine AW_run 80 rfl ?_
        exact AW_iret rfl rfl (h3 g1 _ (by omega))
      · refine AW_tin 3 rfl (by omega) rfl hw ?_
        refine AW_run 80 rfl ?_
        exact AW_iret rfl rfl (h3 g1 _ (by omega))
      · refine AW_tin 4 rfl (by omega) rfl hw ?_
        refine AW_run 80 rfl ?_
        exact AW_iret rfl rfl (h3 g1 _ (by omega))
      · refine AW_tin 5 rfl (by omega) rfl hw ?_
        refine AW_run 80 rfl ?_
        exact AW_iret rfl rfl (h3 g1 _ (by omega))
      · refine AW_tin 6 rfl (by omega) rfl hw ?_
        refine AW_run 80 rfl ?_
        exact AW_iret rfl rfl (h3 g1 _ (by omega))
      · refine AW_tout rfl (by omega) hw ?_
        refine AW_run 80 rfl ?_
        exact AW_iret rfl rfl (h3 g1 _ (by omega))
    · refine AW_run 80 rfl ?_
      exact AW_iret rfl rfl (h2 w1 (by omega) g)
  · refine AW_run 80 rfl ?_
    first | refine AW_e1 rfl ?_ | refine AW_e0 rfl ?_ | refine AW_n1 rfl ?_ | refine AW_n0 rfl ?_
    refine AW_run 80 rfl ?_
    exact AW_iret rfl rfl (h1 (by omega))
theorem c_M_count (w : Int) (hw : sk_in w) (ht : I 59 0 = 0) (hI : ∀ i, 0 ≤ i → i < 64 → sk_in (I 61 i)) (h0 : w = 0 → Q (some (vi (I 59 2))) sk_G (I, L, sk_J cu sp io rp tp fp)) (h1 : w = 1 → Q (some (vi (I 59 5))) sk_G (I, L, sk_J cu sp io rp tp fp)) (h2 : w = 2 → Q (some (vi (I 59 58))) sk_G (I, L, sk_J cu sp io rp tp fp)) (h3 : w = 3 → Q (some (vi (sk_sum (sk_ng (I 61)) 64))) sk_G (I, L, sk_J cu sp io rp tp fp)) (h4 : ¬ (0 ≤ w ∧ w ≤ 3) → Q (some (vi (-3))) sk_G (I, L, sk_J cu sp io rp tp fp)) : AW l E (d + 1) 0 0 mX10_count 0 [some (vr 59), some (vi w), none, none] [] sk_G (I, L, sk_J cu sp io rp tp fp) Q := by
  have key : w = 3 → ∀ (m : Nat) (i : Int), 0 ≤ i → i + m = 64 → AW l E (d + 1) 0 0 mX10_count 60 [some (vr 59), some (vi w), some (vi (sk_sum (sk_ng (I 61)) i.toNat)), some (vi i)] [vi 64, vi i] sk_G (I, L, sk_J cu sp io rp tp fp) Q := by
    intro hw3 m
    induction m with
    | zero =>
      intro i g0 gi
      refine AW_icge rfl (fun h => ?_) (fun h => ?_)
      · refine AW_run 80 rfl ?_
        rw [show i.toNat = 64 by omega]
        exact AW_iret rfl rfl (h3 hw3)
      · omega
    | succ m ih =>
      intro i g0 gi
      refine AW_icge rfl (fun h => ?_) (fun h => ?_)
      · omega
      · refine AW_run 80 rfl ?_
        refine AW_iald rfl rfl ⟨by omega, by omega⟩ (by decide) ?_
        refine AW_run 80 rfl ?_
        refine AW_iceq rfl (fun g2 => ?_) (fun g2 => ?_) (hI i g0 (by omega))
        · refine AW_run 80 rfl ?_
          exact AW_lk (ih (i + 1) (by omega) (by omega)) ⟨rfl, rfl, by rw [sk_sum_s _ g0, sk_ng, if_pos g2], rfl, trivial⟩
        · refine AW_run 80 rfl ?_
          exact AW_lk (ih (i + 1) (by omega) (by omega)) ⟨rfl, rfl, by rw [sk_sum_s _ g0, sk_ng, if_neg g2], rfl, trivial⟩
  refine AW_run 80 rfl ?_
  rw [sk_uI_id ht]
  by_cases g : 0 ≤ w ∧ w ≤ 3
  · rcases (show w = 0 ∨ w = 1 ∨ w = 2 ∨ w = 3 by omega) with e | e | e | e
    · refine AW_tin 0 rfl (by omega) rfl hw ?_
      refine AW_run 80 rfl ?_
      exact AW_iret rfl rfl (h0 e)
    · refine AW_tin 1 rfl (by omega) rfl hw ?_
      refine AW_run 80 rfl ?_
      exact AW_iret rfl rfl (h1 e)
    · refine AW_tin 2 rfl (by omega) rfl hw ?_
      refine AW_run 80 rfl ?_
      exact AW_iret rfl rfl (h2 e)
    · refine AW_tin 3 rfl (by omega) rfl hw ?_
      refine AW_run 80 rfl ?_
      exact key e 64 0 (by omega) (by omega)
  · refine AW_tout rfl (by omega) hw ?_
    refine AW_run 80 rfl ?_
    exact AW_iret rfl rfl (h4 g)
end SKD1
end
section
/-! ===== bits, about, step, of both ===== -/
def sk_kb (I : sk_SI) (v : Int) : Nat → sk_SI
  | 0 => I
  | n + 1 => sk_ap (sk_kb I v n) 3 (sk_and (sk_ushr v n) 1)
theorem sk_kb_n (I : sk_SI) (v : Int) : ∀ n : Nat, sk_kb I v n 3 1 = I 3 1 + n
  | 0 => by simp [sk_kb]
  | n + 1 => by
    have := sk_kb_n I v n
    rw [sk_kb, sk_ap_n]
    omega
/-- a number behind the model's bits -/
def sk_mp (I : sk_SI) (c : Int) : sk_SI := sk_uI (sk_uI I 62 (I 59 5) c) 59 5 (I 59 5 + 1)
theorem sk_mp_n (I : sk_SI) (c : Int) : sk_mp I c 59 5 = I 59 5 + 1 := by
  unfold sk_mp
  rw [sk_uI_s, sk_up_s]
def sk_mb (I : sk_SI) (v : Int) : Nat → sk_SI
  | 0 => I
  | n + 1 => sk_mp (sk_mb I v n) (sk_and (sk_shr v n) 1)
theorem sk_mb_n (I : sk_SI) (v : Int) : ∀ n : Nat, sk_mb I v n 59 5 = I 59 5 + n
  | 0 => by simp [sk_mb]
  | n + 1 => by
    have := sk_mb_n I v n
    rw [sk_mb, sk_mp_n]
    omega
section SKE1
variable {l : Launch} {E : sk_En} {d : Nat} {I : sk_SI} {L : sk_SL} {cu sp io rp tp fp : Nat} {Q : Option sk_V → List sk_Sh → sk_St → Prop}
theorem c_K_bits (v n : Int) (hn : sk_in n) (h0 : 0 ≤ I 3 1) (h1 : I 3 1 ≤ 400) (hF : ¬ (1 ≤ n ∧ n ≤ 32) → Q (some (vi (-3))) sk_G (I, L, sk_J cu sp io rp tp fp)) (hG : 1 ≤ n → n ≤ 32 → 400 < I 3 1 + n → Q (some (vi (-5))) sk_G (I, L, sk_J cu sp io rp tp fp)) (hT : 1 ≤ n → n ≤ 32 → I 3 1 + n ≤ 400 → Q (some (vi (I 3 1 + n))) sk_G (sk_kb I v n.toNat, L, sk_J cu sp io rp tp fp)) : AW l E (d + 2) 0 0 mX9_bits 0 [some (vr 0), some (vi v), some (vi n), none] [] sk_G (I, L, sk_J cu sp io rp tp fp) Q := by
  have key : 1 ≤ n → n ≤ 32 → I 3 1 + n ≤ 400 → ∀ (m i : Nat), (i : Int) + m = n → AW l E (d + 2) 0 0 mX9_bits 32 [some (vr 0), some (vi v), some (vi n), some (vi i)] [vi n, vi i] sk_G (sk_kb I v i, L, sk_J cu sp io rp tp fp) Q := by
    intro g1 g2 g3 m
    induction m with
    | zero =>
      intro i hi
      have e := sk_kb_n I v i
      refine AW_icge rfl (fun h => ?_) (fun h => ?_)
      · refine AW_run 80 rfl ?_
        refine AW_top (show _ = I 3 1 + n by omega) ?_
        refine AW_iret rfl rfl ?_
        have := hT g1 g2 g3
        rw [show n.toNat = i by omega] at this
        exact this
      · omega
    | succ m ih =>
      intro i hi
      have e := sk_kb_n I v i
      refine AW_icge rfl (fun h => ?_) (fun h => ?_)
      · omega
      · refine AW_run 80 rfl ?_
        refine AW_cV (M' := mX4_add) rfl kkX9_79 lcX4_add rfl rfl rfl rfl rfl rfl (Nat.le_refl _) ?_
        refine c_Row_add (d := d) 3 400 (Or.inr (Or.inl ⟨rfl, rfl⟩)) _ (by omega) (by omega) ?_
        refine AW_run 80 rfl ?_
        exact ih (i + 1) (by omega)
  refine AW_run 80 rfl ?_
  refine AW_iclt rfl (fun g => ?_) (fun g => ?_)
  · refine AW_run 80 rfl ?_
    exact AW_iret rfl rfl (hF (by omega))
  · refine AW_run 80 rfl ?_
    refine AW_icle rfl (fun g2 => ?_) (fun g2 => ?_)
    · refine AW_run 80 rfl ?_
      refine AW_cV (M' := mX4_hasRoomFor) rfl kkX9_68 lcX4_hasRoomFor rfl rfl rfl rfl rfl rfl (Nat.le_refl _) ?_
      refine c_Row_room 3 400 (Or.inr (Or.inl ⟨rfl, rfl⟩)) n hn h0 h1 (fun g3 => ?_) (fun g3 => ?_)
      · refine AW_run 80 rfl ?_
        first | refine AW_e1 rfl ?_ | refine AW_e0 rfl ?_ | refine AW_n1 rfl ?_ | refine AW_n0 rfl ?_
        refine AW_run 80 rfl ?_
        exact key (by omega) g2 (by omega) n.toNat 0 (by omega)
      · refine AW_run 80 rfl ?_
        first | refine AW_e1 rfl ?_ | refine AW_e0 rfl ?_ | refine AW_n1 rfl ?_ | refine AW_n0 rfl ?_
        refine AW_run 80 rfl ?_
        exact AW_iret rfl rfl (hG (by omega) (by omega) (by omega))
    · refine AW_run 80 rfl ?_
      exact AW_iret rfl rfl (hF (by omega))
theorem c_M_bits (v n : Int) (hn : sk_in n) (ht : I 59 0 = 0) (h0 : 0 ≤ I 59 5) (h1 : I 59 5 ≤ 400) (hF : ¬ (1 ≤ n ∧ n ≤ 32) → Q (some (vi (-3))) sk_G (I, L, sk_J cu sp io rp tp fp)) (hG : 1 ≤ n → n ≤ 32 → 400 < I 59 5 + n → Q (some (vi (-5))) sk_G (I, L, sk_J cu sp io rp tp fp)) (hT : 1 ≤ n → n ≤ 32 → I 59 5 + n ≤ 400 → Q (some (vi (I 59 5 + n))) sk_G (sk_mb I v n.toNat, L, sk_J cu sp io rp tp fp)) : AW l E (d + 1) 0 0 mX10_bits 0 [some (vr 59), some (vi v), some (vi n), none] [] sk_G (I, L, sk_J cu sp io rp tp fp) Q := by
  have key : 1 ≤ n → n ≤ 32 → I 59 5 + n ≤ 400 → ∀ (m i : Nat), (i : Int) + m = n → AW l E (d + 1) 0 0 mX10_bits 37 [some (vr 59), some (vi v), some (vi n), some (vi i)] [vi n, vi i] sk_G (sk_mb I v i, L, sk_J cu sp io rp tp fp) Q := by
    intro g1 g2 g3 m
    induction m with
    | zero =>
      intro i hi
      have e := sk_mb_n I v i
      refine AW_icge rfl (fun h => ?_) (fun h => ?_)
      · refine AW_run 80 rfl ?_
        refine AW_top (show _ = I 59 5 + n by omega) ?_
        refine AW_iret rfl rfl ?_
        have := hT g1 g2 g3
        rw [show n.toNat = i by omega] at this
        exact this
      · omega
    | succ m ih =>
      intro i hi
      have e := sk_mb_n I v i
      refine AW_icge rfl (fun h => ?_) (fun h => ?_)
      · omega
      · refine AW_run 80 rfl ?_
        refine AW_iast rfl rfl ⟨by omega, by omega⟩ (by decide) ?_
        (refine AW_run 80 rfl ?_; (try simp only [sk_uI_s, sk_uI_o, sk_up_s, sk_up_o, sk_uL_s, sk_uL_o, ne_eq, Nat.reduceEqDiff, Nat.reduceAdd, Int.reduceEq, not_false_eq_true]))
        exact ih (i + 1) (by omega)
  refine AW_run 80 rfl ?_
  rw [sk_uI_id ht]
  refine AW_in rfl kkX10_177 rfl (by omega) (fun w1 w2 => ?_) (fun w3 => ?_)
  · refine AW_run 80 rfl ?_
    first | refine AW_e1 rfl ?_ | refine AW_e0 rfl ?_ | refine AW_n1 rfl ?_ | refine AW_n0 rfl ?_
    refine AW_run 80 rfl ?_
    refine AW_icle rfl (fun g2 => ?_) (fun g2 => ?_)
    · refine AW_run 80 rfl ?_
      exact key w1 w2 g2 n.toNat 0 (by omega)
    · refine AW_run 80 rfl ?_
      exact AW_iret rfl rfl (hG (by omega) (by omega) (by omega))
  · refine AW_run 80 rfl ?_
    first | refine AW_e1 rfl ?_ | refine AW_e0 rfl ?_ | refine AW_n1 rfl ?_ | refine AW_n0 rfl ?_
    refine AW_run 80 rfl ?_
    exact AW_iret rfl rfl (hF (by omega))
theorem c_K_about (w : Int) (hw : sk_in w) (hc : sk_pg cu) (hm : 0 ≤ I cu 9 ∧ I cu 9 ≤ 20) (hs : 0 ≤ I cu 10 ∧ I cu 10 ≤ 200) (hI : ∀ i, 0 ≤ i → i < I cu 10 → sk_in (I (cu + 3) i)) (h1 : ¬ (0 ≤ w ∧ w < 4) → Q (some (vi (-3))) sk_G (I, L, sk_J cu sp io rp tp fp)) (h2 : 0 ≤ w → w < 4 → I cu 9 = 0 → Q (some (vi (-4))) sk_G (I, L, sk_J cu sp io rp tp fp)) (h3 : 0 < I cu 9 → ∀ v : Int, (w = 0 ∧ v = I cu 9 ∨ w = 1 ∧ v = I cu 10 ∨ w = 2 ∧ v = sk_nw2 I cu 0 ∨ w = 3 ∧ v = I cu 11) → Q (some (vi v)) sk_G (I, L, sk_J cu sp io rp tp fp)) : AW l E (d + 1) 0 0 mX9_about 0 [some (vr 0), some (vi w)] [] sk_G (I, L, sk_J cu sp io rp tp fp) Q := by
  refine AW_run 80 rfl ?_
  refine AW_withinS rfl kkX9_82 rfl (by omega) (fun w1 w2 => ?_) (fun w3 => ?_)
  · refine AW_run 80 rfl ?_
    first | refine AW_e1 rfl ?_ | refine AW_e0 rfl ?_ | refine AW_n1 rfl ?_ | refine AW_n0 rfl ?_
    refine AW_run 80 rfl ?_
    refine AW_cV (M' := mX9_hasProgram) rfl kkX9_113 lcX9_hasProgram rfl rfl rfl rfl rfl rfl (Nat.le_refl _) ?_
    refine c_K_has hc hm (fun g => ?_) (fun g => ?_)
    · refine AW_run 80 rfl ?_
      first | refine AW_e1 rfl ?_ | refine AW_e0 rfl ?_ | refine AW_n1 rfl ?_ | refine AW_n0 rfl ?_
      rcases hc with rfl | rfl <;>
      · refine AW_run 80 rfl ?_
        rcases (show w = 0 ∨ w = 1 ∨ w = 2 ∨ w = 3 by omega) with e | e | e | e
        · refine AW_tin 0 rfl (by omega) rfl hw ?_
          refine AW_run 80 rfl ?_
          exact AW_iret rfl rfl (h3 g _ (Or.inl ⟨e, rfl⟩))
        · refine AW_tin 1 rfl (by omega) rfl hw ?_
          refine AW_run 80 rfl ?_
          exact AW_iret rfl rfl (h3 g _ (Or.inr (Or.inl ⟨e, rfl⟩)))
        · refine AW_tin 2 rfl (by omega) rfl hw ?_
          refine AW_run 80 rfl ?_
          refine AW_cV (M' := mX2_countOf) rfl kkX9_120 lcX2_countOf rfl rfl rfl rfl rfl rfl (Nat.le_refl _) ?_
          refine c_Pg_count _ (by first | exact Or.inl rfl | exact Or.inr rfl) 0 sk_in0 hs hI ?_
          exact AW_iret rfl rfl (h3 g _ (Or.inr (Or.inr (Or.inl ⟨e, rfl⟩))))
        · refine AW_tout rfl (by omega) hw ?_
          refine AW_run 80 rfl ?_
          exact AW_iret rfl rfl (h3 g _ (Or.inr (Or.inr (Or.inr ⟨e, rfl⟩))))
    · refine AW_run 80 rfl ?_
      first | refine AW_e1 rfl ?_ | refine AW_e0 rfl ?_ | refine AW_n1 rfl ?_ | refine AW_n0 rfl ?_
      refine AW_run 80 rfl ?_
      exact AW_iret rfl rfl (h2 w1 w2 g)
  · refine AW_run 80 rfl ?_
    first | refine AW_e1 rfl ?_ | refine AW_e0 rfl ?_ | refine AW_n1 rfl ?_ | refine AW_n0 rfl ?_
    refine AW_run 80 rfl ?_
    exact AW_iret rfl rfl (h1 w3)
theorem c_K_step (s w : Int) (hsi : sk_in s) (hw : sk_in w) (hc : sk_pg cu) (hm : 0 ≤ I cu 9 ∧ I cu 9 ≤ 20) (hs : 0 ≤ I cu 10 ∧ I cu 10 ≤ 200) (h1 : I cu 9 = 0 → Q (some (vi (-4))) sk_G (I, L, sk_J cu sp io rp tp fp)) (h2 : 0 < I cu 9 → ¬ (0 ≤ s ∧ s < I cu 10 ∧ 0 ≤ w ∧ w < 4) → Q (some (vi (-3))) sk_G (I, L, sk_J cu sp io rp tp fp)) (h3 : 0 < I cu 9 → 0 ≤ s → s < I cu 10 → ∀ v : Int, (w = 0 ∧ v = I (cu + 3) s ∨ w = 1 ∧ v = I (cu + 4) s ∨ w = 2 ∧ v = I (cu + 5) s ∨ w = 3 ∧ v = I (cu + 6) s) → Q (some (vi v)) sk_G (I, L, sk_J cu sp io rp tp fp)) : AW l E (d + 1) 0 0 mX9_step 0 [some (vr 0), some (vi s), some (vi w)] [] sk_G (I, L, sk_J cu sp io rp tp fp) Q := by
  refine AW_run 80 rfl ?_
  refine AW_cV (M' := mX9_hasProgram) rfl kkX9_113 lcX9_hasProgram rfl rfl rfl rfl rfl rfl (Nat.le_refl _) ?_
  refine c_K_has hc hm (fun g => ?_) (fun g => ?_)
  · refine AW_run 80 rfl ?_
    first | refine AW_e1 rfl ?_ | refine AW_e0 rfl ?_ | refine AW_n1 rfl ?_ | refine AW_n0 rfl ?_
    rcases hc with rfl | rfl <;>
    · refine AW_run 80 rfl ?_
      refine AW_withinS rfl kkX9_82 rfl (by omega) (fun w1 w2 => ?_) (fun w3 => ?_)
      · refine AW_run 80 rfl ?_
        first | refine AW_e1 rfl ?_ | refine AW_e0 rfl ?_ | refine AW_n1 rfl ?_ | refine AW_n0 rfl ?_
        refine AW_run 80 rfl ?_
        refine AW_withinS rfl kkX9_82 rfl (by omega) (fun w4 w5 => ?_) (fun w6 => ?_)
        · refine AW_run 80 rfl ?_
          first | refine AW_e1 rfl ?_ | refine AW_e0 rfl ?_ | refine AW_n1 rfl ?_ | refine AW_n0 rfl ?_
          refine AW_run 80 rfl ?_
          rcases (show w = 0 ∨ w = 1 ∨ w = 2 ∨ w = 3 by omega) with e | e | e | e
          · refine AW_tin 0 rfl (by omega) rfl hw ?_
            refine AW_run 80 rfl ?_
            refine AW_iald rfl rfl ⟨by omega, by omega⟩ (by decide) ?_
            exact AW_iret rfl rfl (h3 g w1 w2 _ (Or.inl ⟨e, rfl⟩))
          · refine AW_tin 1 rfl (by omega) rfl hw ?_
            refine AW_run 80 rfl ?_
            refine AW_iald rfl rfl ⟨by omega, by omega⟩ (by decide) ?_
            exact AW_iret rfl rfl (h3 g w1 w2 _ (Or.inr (Or.inl ⟨e, rfl⟩)))
          · refine AW_tin 2 rfl (by omega) rfl hw ?_
            refine AW_run 80 rfl ?_
            refine AW_iald rfl rfl ⟨by omega, by omega⟩ (by decide) ?_
            exact AW_iret rfl rfl (h3 g w1 w2 _ (Or.inr (Or.inr (Or.inl ⟨e, rfl⟩))))
          · refine AW_tout rfl (by omega) hw ?_
            refine AW_run 80 rfl ?_
            refine AW_iald rfl rfl ⟨by omega, by omega⟩ (by decide) ?_
            exact AW_iret rfl rfl (h3 g w1 w2 _ (Or.inr (Or.inr (Or.inr ⟨e, rfl⟩))))
        · refine AW_run 80 rfl ?_
          first | refine AW_e1 rfl ?_ | refine AW_e0 rfl ?_ | refine AW_n1 rfl ?_ | refine AW_n0 rfl ?_
          refine AW_run 80 rfl ?_
          exact AW_iret rfl rfl (h2 g (by omega))
      · refine AW_run 80 rfl ?_
        first | refine AW_e1 rfl ?_ | refine AW_e0 rfl ?_ | refine AW_n1 rfl ?_ | refine AW_n0 rfl ?_
        refine AW_run 80 rfl ?_
        exact AW_iret rfl rfl (h2 g (by omega))
  · refine AW_run 80 rfl ?_
    first | refine AW_e1 rfl ?_ | refine AW_e0 rfl ?_ | refine AW_n1 rfl ?_ | refine AW_n0 rfl ?_
    refine AW_run 80 rfl ?_
    exact AW_iret rfl rfl (h1 g)
theorem c_M_about (w : Int) (hw : sk_in w) (ht : I 59 0 = 0) (hh : I 59 7 = 0 ∨ I 59 7 = 1) (hs : I 59 7 = 1 → 0 ≤ I 66 0 ∧ I 66 0 ≤ 200) (hI : ∀ i, 0 ≤ i → i < I 66 0 → sk_in (I 67 i)) (h1 : ¬ (0 ≤ w ∧ w < 4) → Q (some (vi (-3))) sk_G (I, L, sk_J cu sp io rp tp fp)) (h2 : 0 ≤ w → w < 4 → I 59 7 = 0 → Q (some (vi (-4))) sk_G (I, L, sk_J cu sp io rp tp fp)) (h3 : I 59 7 = 1 → ∀ v : Int, (w = 0 ∧ v = I 63 0 ∨ w = 1 ∧ v = I 66 0 ∨ w = 2 ∧ v = sk_sum (sk_eqc (I 67) 0) (I 66 0).toNat ∨ w = 3 ∧ v = I 74 0) → Q (some (vi v)) sk_G (I, L, sk_J cu sp io rp tp fp)) : AW l E (d + 1) 0 0 mX10_about 0 [some (vr 59), some (vi w), none, none] [] sk_G (I, L, sk_J cu sp io rp tp fp) Q := by
  refine AW_run 80 rfl ?_
  rw [sk_uI_id ht]
  refine AW_in rfl kkX10_177 rfl (by omega) (fun w1 w2 => ?_) (fun w3 => ?_)
  · refine AW_run 80 rfl ?_
    first | refine AW_e1 rfl ?_ | refine AW_e0 rfl ?_ | refine AW_n1 rfl ?_ | refine AW_n0 rfl ?_
    refine AW_run 80 rfl ?_
    refine AW_ifne rfl (fun g => ?_) (fun g => ?_)
    · have g1 : I 59 7 = 1 := by omega
      have hs := hs g1
      have key : ∀ (m : Nat) (i : Int), 0 ≤ i → i + m = I 66 0 → AW l E (d + 1) 0 0 mX10_about 38 [some (vr 59), some (vi w), some (vi (sk_sum (sk_eqc (I 67) 0) i.toNat)), some (vi i)] [vi (I 66 0), vi i] sk_G (I, L, sk_J cu sp io rp tp fp) Q := by
        intro m
        induction m with
        | zero =>
          intro i g0 gi
          have ei : i = I 66 0 := by omega
          subst ei
          refine AW_icge rfl (fun h => ?_) (fun h => ?_)
          · refine AW_run 80 rfl ?_
            refine AW_ifne rfl (fun e1 => ?_) (fun e1 => ?_)
            · refine AW_run 80 rfl ?_
              refine AW_icne rfl (fun e2 => ?_) (fun e2 => ?_)
              · refine AW_run 80 rfl ?_
                refine AW_icne rfl (fun e3 => ?_) (fun e3 => ?_)
                · refine AW_run 80 rfl ?_
                  refine AW_iald rfl rfl ⟨by omega, by omega⟩ (by decide) ?_
                  exact AW_iret rfl rfl (h3 g1 _ (Or.inr (Or.inr (Or.inr ⟨by omega, rfl⟩))))
                · refine AW_run 80 rfl ?_
                  exact AW_iret rfl rfl (h3 g1 _ (Or.inr (Or.inr (Or.inl ⟨by omega, rfl⟩))))
              · refine AW_run 80 rfl ?_
                refine AW_iald rfl rfl ⟨by omega, by omega⟩ (by decide) ?_
                refine AW_run 80 rfl ?_
                exact AW_iret rfl rfl (h3 g1 _ (Or.inr (Or.inl ⟨by omega, rfl⟩)))
            · refine AW_run 80 rfl ?_
              refine AW_iald rfl rfl ⟨by omega, by omega⟩ (by decide) ?_
              refine AW_run 80 rfl ?_
              exact AW_iret rfl rfl (h3 g1 _ (Or.inl ⟨by omega, rfl⟩))
          · omega
        | succ m ih =>
          intro i g0 gi
          refine AW_icge rfl (fun h => ?_) (fun h => ?_)
          · omega
          · refine AW_run 80 rfl ?_
            refine AW_iald rfl rfl ⟨by omega, by omega⟩ (by decide) ?_
            refine AW_run 80 rfl ?_
            refine AW_ifne rfl (fun e1 => ?_) (fun e1 => ?_) (hI i g0 (by omega))
            · refine AW_run 80 rfl ?_
              refine AW_iald rfl rfl ⟨by omega, by omega⟩ (by decide) ?_
              exact AW_lk (ih (i + 1) (by omega) (by omega)) ⟨rfl, rfl, by rw [sk_sum_s _ g0, sk_eqc, if_neg e1], rfl, trivial⟩
            · refine AW_run 80 rfl ?_
              refine AW_iald rfl rfl ⟨by omega, by omega⟩ (by decide) ?_
              exact AW_lk (ih (i + 1) (by omega) (by omega)) ⟨rfl, rfl, by rw [sk_sum_s _ g0, sk_eqc, if_pos e1], rfl, trivial⟩
      refine AW_run 80 rfl ?_
      refine AW_iald rfl rfl ⟨by omega, by omega⟩ (by decide) ?_
      exact key (I 66 0).toNat 0 (by omega) (by omega)
    · refine AW_run 80 rfl ?_
      exact AW_iret rfl rfl (h2 w1 (by omega) g)
  · refine AW_run 80 rfl ?_
    first | refine AW_e1 rfl ?_ | refine AW_e0 rfl ?_ | refine AW_n1 rfl ?_ | refine AW_n0 rfl ?_
    refine AW_run 80 rfl ?_
    exact AW_iret rfl rfl (h1 (by omega))
theorem c_M_step (s w : Int) (hsi : sk_in s) (hw : sk_in w) (ht : I 59 0 = 0) (hh : I 59 7 = 0 ∨ I 59 7 = 1) (hs : I 59 7 = 1 → 0 ≤ I 66 0 ∧ I 66 0 ≤ 200) (h1 : I 59 7 = 0 → Q (some (vi (-4))) sk_G (I, L, sk_J cu sp io rp tp fp)) (h2 : I 59 7 = 1 → ¬ (0 ≤ s ∧ s < I 66 0 ∧ 0 ≤ w ∧ w < 4) → Q (some (vi (-3))) sk_G (I, L, sk_J cu sp io rp tp fp)) (h3 : I 59 7 = 1 → 0 ≤ s → s < I 66 0 → ∀ v : Int, (w = 0 ∧ v = I 67 s ∨ w = 1 ∧ v = I 68 s ∨ w = 2 ∧ v = I 69 s ∨ w = 3 ∧ v = I 70 s) → Q (some (vi v)) sk_G (I, L, sk_J cu sp io rp tp fp)) : AW l E (d + 1) 0 0 mX10_step_ 0 [some (vr 59), some (vi s), some (vi w)] [] sk_G (I, L, sk_J cu sp io rp tp fp) Q := by
  refine AW_run 80 rfl ?_
  rw [sk_uI_id ht]
  refine AW_ifne rfl (fun g => ?_) (fun g => ?_)
  · have g1 : I 59 7 = 1 := by omega
    have hs := hs g1
    refine AW_run 80 rfl ?_
    refine AW_iald rfl rfl ⟨by omega, by omega⟩ (by decide) ?_
    refine AW_run 80 rfl ?_
    refine AW_in rfl kkX10_177 rfl (by omega) (fun w1 w2 => ?_) (fun w3 => ?_)
    · refine AW_run 80 rfl ?_
      first | refine AW_e1 rfl ?_ | refine AW_e0 rfl ?_ | refine AW_n1 rfl ?_ | refine AW_n0 rfl ?_
      refine AW_run 80 rfl ?_
      refine AW_in rfl kkX10_177 rfl (by omega) (fun w4 w5 => ?_) (fun w6 => ?_)
      · refine AW_run 80 rfl ?_
        first | refine AW_e1 rfl ?_ | refine AW_e0 rfl ?_ | refine AW_n1 rfl ?_ | refine AW_n0 rfl ?_
        refine AW_run 80 rfl ?_
        refine AW_ifne rfl (fun e1 => ?_) (fun e1 => ?_)
        · refine AW_run 80 rfl ?_
          refine AW_icne rfl (fun e2 => ?_) (fun e2 => ?_)
          · refine AW_run 80 rfl ?_
            refine AW_icne rfl (fun e3 => ?_) (fun e3 => ?_)
            · refine AW_run 80 rfl ?_
              refine AW_iald rfl rfl ⟨by omega, by omega⟩ (by decide) ?_
              exact AW_iret rfl rfl (h3 g1 w1 (by omega) _ (Or.inr (Or.inr (Or.inr ⟨by omega, rfl⟩))))
            · refine AW_run 80 rfl ?_
              refine AW_iald rfl rfl ⟨by omega, by omega⟩ (by decide) ?_
              refine AW_run 80 rfl ?_
              exact AW_iret rfl rfl (h3 g1 w1 (by omega) _ (Or.inr (Or.inr (Or.inl ⟨by omega, rfl⟩))))
          · refine AW_run 80 rfl ?_
            refine AW_iald rfl rfl ⟨by omega, by omega⟩ (by decide) ?_
            refine AW_run 80 rfl ?_
            exact AW_iret rfl rfl (h3 g1 w1 (by omega) _ (Or.inr (Or.inl ⟨by omega, rfl⟩)))
        · refine AW_run 80 rfl ?_
          refine AW_iald rfl rfl ⟨by omega, by omega⟩ (by decide) ?_
          refine AW_run 80 rfl ?_
          exact AW_iret rfl rfl (h3 g1 w1 (by omega) _ (Or.inl ⟨by omega, rfl⟩))
      · refine AW_run 80 rfl ?_
        first | refine AW_e1 rfl ?_ | refine AW_e0 rfl ?_ | refine AW_n1 rfl ?_ | refine AW_n0 rfl ?_
        refine AW_run 80 rfl ?_
        exact AW_iret rfl rfl (h2 g1 (by omega))
    · refine AW_run 80 rfl ?_
      first | refine AW_e1 rfl ?_ | refine AW_e0 rfl ?_ | refine AW_n1 rfl ?_ | refine AW_n0 rfl ?_
      refine AW_run 80 rfl ?_
      exact AW_iret rfl rfl (h2 g1 (by omega))
  · refine AW_run 80 rfl ?_
    exact AW_iret rfl rfl (h1 g)
end SKE1
end
section
/-! ===== the JDK's String methods that are reached ===== -/
def mJ0_length_8abf5 : sk_M := (yJ0_length_8abf5, cJ0_length_8abf5, 1, (some .int), [(10, [(0, .aload_n 0, 1, 1, []), (4, .arraylength, 1, 5, []), (5, .aload_n 0, 1, 6, []), (6, .invokevirtual 335, 3, 9, []), (9, .ishr, 1, 10, []), (10, .ireturn, 1, 11, [])])])
theorem okJ0_length_8abf5 : sk_ok mJ0_length_8abf5 := show ∀ c ∈ mJ0_length_8abf5.2.2.2.2, ∀ e ∈ c.2, sk_okI mJ0_length_8abf5 e = true from by decide +kernel
set_option maxRecDepth 100000 in
theorem lcJ0_length_8abf5 : sk_lC 0 mJ0_length_8abf5 := ⟨okJ0_length_8abf5, sk_wd (q := 509) rfl rfl, sk_wd (q := 87) (by decide +kernel) rfl, by decide, by decide, by decide, by decide, by decide +kernel⟩
def mJ0_charAt_5068e : sk_M := (yJ0_charAt_5068e, cJ0_charAt_5068e, 2, (some .char), [(24, [(0, .aload_n 0, 1, 1, []), (1, .invokevirtual 492, 3, 4, []), (4, .ifCond .eq 12, 3, 7, [16]), (7, .aload_n 0, 1, 8, []), (11, .iload_n 1, 1, 12, []), (12, .invokestatic 495, 3, 15, []), (15, .ireturn, 1, 16, []), (16, .aload_n 0, 1, 17, []), (20, .iload_n 1, 1, 21, []), (21, .invokestatic 498, 3, 24, []), (24, .ireturn, 1, 25, [])])])
theorem okJ0_charAt_5068e : sk_ok mJ0_charAt_5068e := show ∀ c ∈ mJ0_charAt_5068e.2.2.2.2, ∀ e ∈ c.2, sk_okI mJ0_charAt_5068e e = true from by decide +kernel
set_option maxRecDepth 100000 in
theorem lcJ0_charAt_5068e : sk_lC 1 mJ0_charAt_5068e := ⟨okJ0_charAt_5068e, sk_wd (q := 520) rfl rfl, sk_wd (q := 87) (by decide +kernel) rfl, by decide, by decide, by decide, by decide, by decide +kernel⟩
def mJ0_coder_7d493 : sk_M := (yJ0_coder_7d493, cJ0_coder_7d493, 1, (some .byte), [(14, [(3, .ifCond .eq 10, 3, 6, [13]), (6, .aload_n 0, 1, 7, []), (10, .goto 4, 3, 13, [14]), (13, .iconst 1, 1, 14, []), (14, .ireturn, 1, 15, [])])])
theorem okJ0_coder_7d493 : sk_ok mJ0_coder_7d493 := show ∀ c ∈ mJ0_coder_7d493.2.2.2.2, ∀ e ∈ c.2, sk_okI mJ0_coder_7d493 e = true from by decide +kernel
set_option maxRecDepth 100000 in
theorem lcJ0_coder_7d493 : sk_lC 0 mJ0_coder_7d493 := ⟨okJ0_coder_7d493, sk_wd (q := 513) rfl rfl, sk_wd (q := 87) (by decide +kernel) rfl, by decide, by decide, by decide, by decide, by decide +kernel⟩
def mJ0_isLatin1_aae02 : sk_M := (yJ0_isLatin1_aae02, cJ0_isLatin1_aae02, 1, (some .boolean), [(18, [(3, .ifCond .eq 14, 3, 6, [17]), (6, .aload_n 0, 1, 7, []), (10, .ifCond .ne 7, 3, 13, [17]), (13, .iconst 1, 1, 14, []), (14, .goto 4, 3, 17, [18]), (17, .iconst 0, 1, 18, []), (18, .ireturn, 1, 19, [])])])
theorem okJ0_isLatin1_aae02 : sk_ok mJ0_isLatin1_aae02 := show ∀ c ∈ mJ0_isLatin1_aae02.2.2.2.2, ∀ e ∈ c.2, sk_okI mJ0_isLatin1_aae02 e = true from by decide +kernel
set_option maxRecDepth 100000 in
theorem lcJ0_isLatin1_aae02 : sk_lC 0 mJ0_isLatin1_aae02 := ⟨okJ0_isLatin1_aae02, sk_wd (q := 524) rfl rfl, sk_wd (q := 87) (by decide +kernel) rfl, by decide, by decide, by decide, by decide, by decide +kernel⟩
def mJ0_checkIndex_df160 : sk_M := (yJ0_checkIndex_df160, cJ0_checkIndex_df160, 2, none, [(9, [(0, .iload_n 0, 1, 1, []), (1, .iload_n 1, 1, 2, []), (5, .invokestatic 1059, 3, 8, []), (8, .pop, 1, 9, []), (9, .return_, 1, 10, [])])])
theorem okJ0_checkIndex_df160 : sk_ok mJ0_checkIndex_df160 := show ∀ c ∈ mJ0_checkIndex_df160.2.2.2.2, ∀ e ∈ c.2, sk_okI mJ0_checkIndex_df160 e = true from by decide +kernel
set_option maxRecDepth 100000 in
theorem lcJ0_checkIndex_df160 : sk_lC 2 mJ0_checkIndex_df160 := ⟨okJ0_checkIndex_df160, sk_wd (q := 530) rfl rfl, sk_wd (q := 87) (by decide +kernel) rfl, by decide, by decide, by decide, by decide, by decide +kernel⟩
def mJ1_charAt_3b067 : sk_M := (yJ1_charAt_3b067, cJ1_charAt_3b067, 2, (some .char), [(14, [(0, .iload_n 1, 1, 1, []), (1, .aload_n 0, 1, 2, []), (2, .arraylength, 1, 3, []), (3, .invokestatic 9, 3, 6, []), (6, .aload_n 0, 1, 7, []), (7, .iload_n 1, 1, 8, []), (8, .baload, 1, 9, []), (9, .sipush 255, 3, 12, []), (12, .iand, 1, 13, []), (13, .i2c, 1, 14, []), (14, .ireturn, 1, 15, [])])])
theorem okJ1_charAt_3b067 : sk_ok mJ1_charAt_3b067 := show ∀ c ∈ mJ1_charAt_3b067.2.2.2.2, ∀ e ∈ c.2, sk_okI mJ1_charAt_3b067 e = true from by decide +kernel
set_option maxRecDepth 100000 in
theorem lcJ1_charAt_3b067 : sk_lC 2 mJ1_charAt_3b067 := ⟨okJ1_charAt_3b067, sk_wd (q := 527) rfl rfl, sk_wd (q := 88) (by decide +kernel) rfl, by decide, by decide, by decide, by decide, by decide +kernel⟩
def mJ3_checkIndex_8e157 : sk_M := (yJ3_checkIndex_8e157, cJ3_checkIndex_8e157, 3, (some .int), [(17, [(0, .iload_n 0, 1, 1, []), (1, .ifCond .lt 8, 3, 4, [9]), (4, .iload_n 0, 1, 5, []), (5, .iload_n 1, 1, 6, []), (6, .if_icmp .lt 10, 3, 9, [16]), (9, .aload_n 2, 1, 10, []), (10, .iload_n 0, 1, 11, []), (11, .iload_n 1, 1, 12, []), (12, .invokestatic 95, 3, 15, []), (16, .iload_n 0, 1, 17, []), (17, .ireturn, 1, 18, [])])])
theorem okJ3_checkIndex_8e157 : sk_ok mJ3_checkIndex_8e157 := show ∀ c ∈ mJ3_checkIndex_8e157.2.2.2.2, ∀ e ∈ c.2, sk_okI mJ3_checkIndex_8e157 e = true from by decide +kernel
set_option maxRecDepth 100000 in
theorem lcJ3_checkIndex_8e157 : sk_lC 3 mJ3_checkIndex_8e157 := ⟨okJ3_checkIndex_8e157, sk_wd (q := 535) rfl rfl, sk_wd (q := 89) (by decide +kernel) rfl, by decide, by decide, by decide, by decide, by decide +kernel⟩
theorem kkJ0_335 : sk_lV RJ0 335 mJ0_coder_7d493 := ⟨sk_wd (q := 510) (by decide +kernel) rfl, sk_wd (q := 511) (by decide +kernel) rfl, sk_wd (q := 512) (by decide +kernel) rfl⟩
theorem kkJ0_492 : sk_lV RJ0 492 mJ0_isLatin1_aae02 := ⟨sk_wd (q := 521) (by decide +kernel) rfl, sk_wd (q := 522) (by decide +kernel) rfl, sk_wd (q := 523) (by decide +kernel) rfl⟩
theorem kkJ0_495 : sk_lS RJ0 495 mJ1_charAt_3b067 := ⟨sk_wd (q := 525) (by decide +kernel) rfl, sk_wd (q := 526) (by decide +kernel) rfl⟩
theorem kkJ1_9 : sk_lS RJ1 9 mJ0_checkIndex_df160 := ⟨sk_wd (q := 528) (by decide +kernel) rfl, sk_wd (q := 529) (by decide +kernel) rfl⟩
theorem kkJ0_1059 : sk_lS RJ0 1059 mJ3_checkIndex_8e157 := ⟨sk_wd (q := 533) (by decide +kernel) rfl, sk_wd (q := 534) (by decide +kernel) rfl⟩
theorem kkX8_66 : sk_lV RX8 66 mJ0_length_8abf5 := ⟨sk_wd (q := 506) (by decide +kernel) rfl, sk_wd (q := 507) (by decide +kernel) rfl, sk_wd (q := 508) (by decide +kernel) rfl⟩
theorem kkX8_72 : sk_lV RX8 72 mJ0_charAt_5068e := ⟨sk_wd (q := 517) (by decide +kernel) rfl, sk_wd (q := 518) (by decide +kernel) rfl, sk_wd (q := 519) (by decide +kernel) rfl⟩
theorem kkX10_184 : sk_lV RX10 184 mJ0_length_8abf5 := ⟨sk_wd (q := 1270) (by decide +kernel) rfl, sk_wd (q := 507) (by decide +kernel) rfl, sk_wd (q := 508) (by decide +kernel) rfl⟩
theorem kkX10_194 : sk_lV RX10 194 mJ0_charAt_5068e := ⟨sk_wd (q := 1271) (by decide +kernel) rfl, sk_wd (q := 518) (by decide +kernel) rfl, sk_wd (q := 519) (by decide +kernel) rfl⟩
theorem kf_val : Cond.fieldLink RJ0 9 "java/lang/String" "value" "[B" ∈ sk_gw := sk_wd (q := 1415) (by decide +kernel) rfl
theorem kf_cod : Cond.fieldLink RJ0 15 "java/lang/String" "coder" "B" ∈ sk_gw := sk_wd (q := 1416) (by decide +kernel) rfl
theorem kf_cmp : Cond.fieldLink RJ0 38 "java/lang/String" "COMPACT_STRINGS" "Z" ∈ sk_gw := sk_wd (q := 514) (by decide +kernel) rfl
theorem kf_fmt : Cond.fieldLink RJ0 1053 "jdk/internal/util/Preconditions" "SIOOBE_FORMATTER" "Ljava/util/function/BiFunction;" ∈ sk_gw := sk_wd (q := 531) (by decide +kernel) rfl
end
section
/-! ===== Strings: length, charAt of the constants ===== -/
section SKS1
variable {l : Launch} {E : sk_En} {d mc ms : Nat} {M : sk_M} {pc pc0 len nxt idx x : Nat} {aux : List Nat} {ls : List (Option sk_V)} {st : List sk_V} {G : List sk_Sh} {σ : sk_St} {Q : Option sk_V → List sk_Sh → sk_St → Prop}
theorem sk_sv (x : Nat) : sk_v E (vr (1000 + x)) = .ref (E.2.2.2.1 x) := by
  show Value.ref (sk_ad E (1000 + x)) = _
  unfold sk_ad
  rw [if_neg (by omega), Nat.add_sub_cancel_left]
theorem sk_sb2 (x : Nat) : sk_v E (vr (1100 + x)) = .ref (E.2.2.2.1 (100 + x)) := by
  show Value.ref (sk_ad E (1100 + x)) = _
  unfold sk_ad
  rw [if_neg (by omega), show 1100 + x - 1000 = 100 + x by omega]
theorem AW_callX {M' : sk_M} {n d' : Nat} {as rest : List sk_V} (h : sk_find pc M.2.2.2.2 = some (pc0, (.invokevirtual idx), len, nxt, aux)) (hL : sk_lV M.1.cls idx M') (hC : sk_lC n M') (hp : sk_pop (n + 1) st [] = some (vr (1000 + x) :: as, rest)) (hx : x < 17) (hci : M'.1.cls = "java/lang/String") (hW : Nat.ble (sk_cs rest) 8 = true) (hen : (sk_sl (vr (1000 + x) :: as)).length ≤ M'.2.2.1) (hd : d' + 1 ≤ d)
    (kk : AW l E d' 0 0 M' 0 (sk_en M'.2.2.1 (vr (1000 + x) :: as)) [] G σ (fun v G' σ' => AW l E d mc ms M nxt ls (v.toList ++ rest) G' σ' Q)) : AW l E d mc ms M pc ls st G σ Q := by
  intro hM p e R s m args below meth c H locs cells slots Qf ar hF hR hl hc hs hfin
  obtain ⟨hdc, rfl, hA, hlen⟩ := sk_dec hM h
  obtain rfl : 3 = len := hlen.resolve_left (by simp [sk_il])
  obtain ⟨rfl, has⟩ := sk_pop_st hp
  have has : as.length = n := by simpa using has
  have hmet := sk_met hC hen kk
  have hts := hF.2.2.2.2.2.2.2.1
  intro T hT X
  have hsz := X.heapSize
  obtain ⟨cell, c1, c2, c3⟩ := vk_recv hF.2.2.2.2.2.2.2.2.1.2.2.2.1.1 hx hR.2.2
  refine sk_behind (d := d) (mc := mc) (ms := ms) (mc' := 0) (ms' := 0) (rest := rest) (va_runV (cc := M.2.1) (nL := M.2.2.1) (Ts := sk_gw) (own := M.1.cls) (C := M'.1.cls) (index := idx) (bytes := M'.2.1) (maxL := M'.2.2.1) (ret := M'.2.2.2.1) (n := n) (b := E.2.2.2.1 x) (As := as.map (sk_v E)) (rest := rest.map (sk_v E)) ⟨hF.1, hF.2.1, hF.2.2.2.1, hF.2.2.2.2.1, hts⟩ hmet ?_ ⟨sk_Pc_blind E _ _ _, ⟨cell, c1, c2, by rw [hci]; exact c3⟩, fun U hU hWm => ⟨?_, sk_cx_move hF.2.2.2.2.2.2.2.2.1 hWm (by rw [hU]; exact hR.2.2), by rw [hU]; exact hR.1, ?_, hR.2.1⟩⟩ rfl (by simpa using has) hl.1 ?_ ?_ hdc ⟨by omega, by omega⟩) hM hF hR.2.2 ?_ hl (by omega) (by omega) (fun v G' σ' pc' ar' H' locs' slots' q1 q2 q3 q4 q5 => ?_) T hT X
  · refine ⟨callB_of n hts (sk_gG hC.2.1) rfl rfl rfl (hts _ hC.2.2.1) (hts _ hL.1) hC.2.2.2.2.2 ⟨?_, ?_⟩, hts _ hL.2.1, hts _ hL.2.2⟩
    · have := hF.2.2.2.2.2.2.2.2.2.1
      show d' + 1 ≤ R.frames
      omega
    · have := hF.2.2.2.2.2.2.2.2.2.2
      have := hC.2.2.2.2.1
      show 8 + (M'.2.2.1 + 11) + 41 * d' ≤ R.locals
      omega
  · rw [List.map_cons, sk_sv]
  · rw [hU, ← hT]; omega
  · show ((vr (1000 + x) :: as).reverse ++ rest).map (sk_v E) = _
    simp only [List.reverse_cons, List.map_append, List.map_reverse, List.map_cons, List.map_nil, List.append_assoc, List.singleton_append, List.cons_append, List.nil_append]
    rw [sk_sv]
  · show 2 * 0 + ((rest.map (sk_v E)).map fun v => v.category).sum ≤ 8
    rw [sk_cs_eq]
    have := Nat.le_of_ble_eq_true hW
    omega
  · have := sk_low hR.1 (Nat.le_trans hF.2.2.2.2.2.2.2.2.1.2.2.2.2.2.2 hR.2.2.1)
    omega
  · rw [Nat.zero_add] at q4 ⊢
    exact hfin v G' σ' pc' ar' H' locs' slots' q1 q2 q3 q4 q5
theorem AW_xval (hd : decode M.2.1 pc = .ok (.getfield idx, 3)) (hw : Cond.fieldLink M.1.cls idx "java/lang/String" "value" "[B" ∈ sk_gw) (hx : x < 17) (hn : nxt = pc + 3) (k : AW l E d mc ms M nxt ls (vr (1100 + x) :: st) G σ Q) : AW l E d mc ms M pc ls (vr (1000 + x) :: st) G σ Q := by
  subst hn
  intro hM p e R s m args below meth c H locs cells slots Qf ar hF hR hl hc hs hfin
  have k1 := k hM p e R s m args below meth c H locs cells slots Qf ar hF hR hl hc hs hfin
  have hcx := hF.2.2.2.2.2.2.2.2.1
  show W p l e R s m args below meth c H locs cells slots Qf (F0 m pc ar (sk_v E (vr (1000 + x)) :: st.map (sk_v E)))
  rw [sk_sv]
  rw [List.map_cons, sk_sb2, ← hcx.2.2.2.1.2.2.2.2 x] at k1
  exact vk_getf hF.1 hF.2.1 (hcx.2.2.2.1.1.1 x hx).2.2.1 hR.2.2 hF.2.2.2.2.1 (hF.2.2.2.2.2.2.2.1 _ hw) (fun _ h => h) hd k1
theorem AW_xcod (hd : decode M.2.1 pc = .ok (.getfield idx, 3)) (hw : Cond.fieldLink M.1.cls idx "java/lang/String" "coder" "B" ∈ sk_gw) (hx : x < 17) (hn : nxt = pc + 3) (k : AW l E d mc ms M nxt ls (vi 0 :: st) G σ Q) : AW l E d mc ms M pc ls (vr (1000 + x) :: st) G σ Q := by
  subst hn
  intro hM p e R s m args below meth c H locs cells slots Qf ar hF hR hl hc hs hfin
  have k1 := k hM p e R s m args below meth c H locs cells slots Qf ar hF hR hl hc hs hfin
  have hcx := hF.2.2.2.2.2.2.2.2.1
  show W p l e R s m args below meth c H locs cells slots Qf (F0 m pc ar (sk_v E (vr (1000 + x)) :: st.map (sk_v E)))
  rw [sk_sv]
  exact vk_getf hF.1 hF.2.1 (hcx.2.2.2.1.1.1 x hx).2.1 hR.2.2 hF.2.2.2.2.1 (hF.2.2.2.2.2.2.2.1 _ hw) (fun _ h => h) hd k1
theorem AW_xcmp (hd : decode M.2.1 pc = .ok (.getstatic idx, 3)) (hw : Cond.fieldLink M.1.cls idx "java/lang/String" "COMPACT_STRINGS" "Z" ∈ sk_gw) (hn : nxt = pc + 3) (k : AW l E d mc ms M nxt ls (vi 1 :: st) G σ Q) : AW l E d mc ms M pc ls st G σ Q := by
  subst hn
  intro hM p e R s m args below meth c H locs cells slots Qf ar hF hR hl hc hs hfin
  have k1 := k hM p e R s m args below meth c H locs cells slots Qf ar hF hR hl hc hs hfin
  have hcx := hF.2.2.2.2.2.2.2.2.1
  exact va_gets hF.1 hF.2.1 hcx.2.2.2.1.2.2.1 hR.2.2 hF.2.2.2.2.1 (hF.2.2.2.2.2.2.2.1 _ hw) (fun _ h => h) hd k1
theorem AW_xfmt (hd : decode M.2.1 pc = .ok (.getstatic idx, 3)) (hw : Cond.fieldLink M.1.cls idx "jdk/internal/util/Preconditions" "SIOOBE_FORMATTER" "Ljava/util/function/BiFunction;" ∈ sk_gw) (hn : nxt = pc + 3) (k : ∀ r : Option Nat, AW l E d mc ms M nxt ls (.inr (.inr r) :: st) G σ Q) : AW l E d mc ms M pc ls st G σ Q := by
  subst hn
  intro hM p e R s m args below meth c H locs cells slots Qf ar hF hR hl hc hs hfin
  have hcx := hF.2.2.2.2.2.2.2.2.1
  rcases hcx.2.2.2.1.2.2.2.1 with hz | hz
  · have k1 := k none hM p e R s m args below meth c H locs cells slots Qf ar hF hR hl hc hs hfin
    exact va_gets hF.1 hF.2.1 hz hR.2.2 hF.2.2.2.2.1 (hF.2.2.2.2.2.2.2.1 _ hw) (fun _ h => h) hd k1
  · have k1 := k (some 1040) hM p e R s m args below meth c H locs cells slots Qf ar hF hR hl hc hs hfin
    have e1 : sk_v E (.inr (.inr (some 1040))) = .ref (E.2.2.2.1 40) := sk_sv 40
    rw [List.map_cons, e1] at k1
    exact va_gets hF.1 hF.2.1 hz hR.2.2 hF.2.2.2.2.1 (hF.2.2.2.2.2.2.2.1 _ hw) (fun _ h => h) hd k1
theorem AW_xbl (h : sk_find pc M.2.2.2.2 = some (pc0, .arraylength, len, nxt, aux)) (hx : x < 17) (k : AW l E d mc ms M nxt ls (vi (sk_len.getD x 0 : Nat) :: st) G σ Q) : AW l E d mc ms M pc ls (vr (1100 + x) :: st) G σ Q := by
  intro hM p e R s m args below meth c H locs cells slots Qf ar hF hR hl hc hs hfin
  obtain ⟨hd, rfl, hA, hlen⟩ := sk_dec hM h
  obtain rfl : 1 = len := hlen.resolve_left (by simp [sk_il])
  have k1 := k hM p e R s m args below meth c H locs cells slots Qf ar hF hR hl hc hs hfin
  have hcx := hF.2.2.2.2.2.2.2.2.1
  show W p l e R s m args below meth c H locs cells slots Qf (F0 m pc ar (sk_v E (vr (1100 + x)) :: st.map (sk_v E)))
  rw [sk_sb2, ← hcx.2.2.2.1.2.2.2.2 x]
  exact va_tlen hF.1 hF.2.1 (hcx.2.2.2.1.1.1 x hx).2.2.2 hR.2.2 (v := Int32.ofInt ((sk_len.getD x 0 : Nat) : Int)) (Int32.ofInt_eq_ofNat ▸ rfl) hd k1
theorem sk_len_b : ∀ x, x < 17 → sk_len.getD x 0 < 100 := by decide +kernel
theorem AW_xbd {i : Int} (h : sk_find pc M.2.2.2.2 = some (pc0, .baload, len, nxt, aux)) (hx : x < 17) (hi : 0 ≤ i ∧ i < (sk_len.getD x 0 : Nat)) (k : AW l E d mc ms M nxt ls (vi ((sk_byt.getD x []).getD i.toNat 0).toInt :: st) G σ Q) : AW l E d mc ms M pc ls (vi i :: vr (1100 + x) :: st) G σ Q := by
  intro hM p e R s m args below meth c H locs cells slots Qf ar hF hR hl hc hs hfin
  obtain ⟨hd, rfl, hA, hlen⟩ := sk_dec hM h
  obtain rfl : 1 = len := hlen.resolve_left (by simp [sk_il])
  have k1 := k hM p e R s m args below meth c H locs cells slots Qf ar hF hR hl hc hs hfin
  have hcx := hF.2.2.2.2.2.2.2.2.1
  have hb := sk_len_b x hx
  show W p l e R s m args below meth c H locs cells slots Qf (F0 m pc ar (.int (Int32.ofInt i) :: sk_v E (vr (1100 + x)) :: st.map (sk_v E)))
  rw [sk_sb2, ← hcx.2.2.2.1.2.2.2.2 x]
  refine va_tb hF.1 hF.2.1 (hcx.2.2.2.1.1.1 x hx).2.2.2 hR.2.2 (sk_vin hi.1 hi.2 (by omega)) (v := .int ((sk_byt.getD x []).getD i.toNat 0)) ?_ hd ?_
  · have := sk_nat hi.1 (by omega)
    rw [show (Int32.ofInt i).toNatClampNeg = i.toNat by omega]
  · rw [List.map_cons] at k1
    simp only [sk_v, sk_oi] at k1
    exact k1
theorem AW_i2c {a : Int} (h : sk_find pc M.2.2.2.2 = some (pc0, .i2c, len, nxt, aux)) (ha : 0 ≤ a ∧ a < 65536) (k : AW l E d mc ms M nxt ls (vi a :: st) G σ Q) : AW l E d mc ms M pc ls (vi a :: st) G σ Q := by
  intro hM p e R s m args below meth c H locs cells slots Qf ar hF hR hl hc hs hfin
  obtain ⟨hd, rfl, hA, hlen⟩ := sk_dec hM h
  obtain rfl : 1 = len := hlen.resolve_left (by simp [sk_il])
  have k1 := k hM p e R s m args below meth c H locs cells slots Qf ar hF hR hl hc hs hfin
  refine lv_i2c hF.1 hF.2.1 hd (v := Int32.ofInt a) ?_ k1
  rw [sk_nI_of ha.1, pk_char, pk_tn (by omega), Nat.mod_eq_of_lt (by omega)]
/-- the char of a constant -/
def sk_chr (x : Nat) (i : Int) : Int := ((sk_byt.getD x []).getD i.toNat 0).toInt
theorem sk_chr_b : ∀ x, x < 17 → ∀ j, j < 100 → 0 ≤ ((sk_byt.getD x []).getD j 0).toInt ∧ ((sk_byt.getD x []).getD j 0).toInt < 128 := by decide +kernel
theorem c_S_coder (hx : x < 17) (hq : Q (some (vi 0)) G σ) : AW l E d 0 0 mJ0_coder_7d493 0 [some (vr (1000 + x))] [] G σ Q := by
  refine AW_xcmp (by decide +kernel) kf_cmp rfl ?_
  first | refine AW_e1 rfl ?_ | refine AW_e0 rfl ?_ | refine AW_n1 rfl ?_ | refine AW_n0 rfl ?_
  refine AW_run 80 rfl ?_
  refine AW_xcod (by decide +kernel) kf_cod hx rfl ?_
  refine AW_run 80 rfl ?_
  refine sk_retA (v := some (vi 0)) (fun hM => ⟨?_, .byte, rfl, rfl⟩) rfl hq
  decide +kernel
theorem c_S_latin (hx : x < 17) (hq : Q (some (vi 1)) G σ) : AW l E d 0 0 mJ0_isLatin1_aae02 0 [some (vr (1000 + x))] [] G σ Q := by
  refine AW_xcmp (by decide +kernel) kf_cmp rfl ?_
  first | refine AW_e1 rfl ?_ | refine AW_e0 rfl ?_ | refine AW_n1 rfl ?_ | refine AW_n0 rfl ?_
  refine AW_run 80 rfl ?_
  refine AW_xcod (by decide +kernel) kf_cod hx rfl ?_
  first | refine AW_e1 rfl ?_ | refine AW_e0 rfl ?_ | refine AW_n1 rfl ?_ | refine AW_n0 rfl ?_
  refine AW_run 80 rfl ?_
  exact AW_zret rfl rfl (Or.inr rfl) hq
theorem sk_shr0' (a : Int) (h : 0 ≤ a ∧ a < 100) : sk_shr a 0 = a := by
  unfold sk_shr
  have : Int32.ofInt a >>> (Int32.ofInt 0 &&& 31) = Int32.ofInt a := sb_shr0 _
  rw [this]
  exact sk_toInt ⟨by omega, by omega⟩
theorem c_S_length (hx : x < 17) (hq : Q (some (vi (sk_len.getD x 0 : Nat))) G σ) : AW l E (d + 1) 0 0 mJ0_length_8abf5 0 [some (vr (1000 + x))] [] G σ Q := by
  refine AW_run 80 rfl ?_
  refine AW_xval (by decide +kernel) kf_val hx rfl ?_
  refine AW_xbl rfl hx ?_
  refine AW_run 80 rfl ?_
  refine AW_callX (M' := mJ0_coder_7d493) rfl kkJ0_335 lcJ0_coder_7d493 rfl hx rfl rfl (Nat.le_refl 1) (Nat.le_refl _) ?_
  refine c_S_coder hx ?_
  refine AW_run 80 rfl ?_
  have hb := sk_len_b x hx
  refine AW_top (sk_shr0' _ ⟨by omega, by omega⟩) ?_
  exact AW_iret rfl rfl hq
theorem c_S_pcheck (i n : Int) (r : Option Nat) (hi : 0 ≤ i ∧ i < n) (hn : n ≤ 1000) (hq : Q (some (vi i)) G σ) : AW l E d 0 0 mJ3_checkIndex_8e157 0 [some (vi i), some (vi n), some (.inr (.inr r))] [] G σ Q := by
  refine AW_run 80 rfl ?_
  refine AW_iflt rfl (fun h => ?_) (fun h => ?_)
  · omega
  · refine AW_run 80 rfl ?_
    refine AW_iclt rfl (fun h2 => ?_) (fun h2 => ?_)
    · refine AW_run 80 rfl ?_
      exact AW_iret rfl rfl hq
    · omega
theorem c_S_check (i n : Int) (hi : 0 ≤ i ∧ i < n) (hn : n ≤ 1000) (hq : Q none G σ) : AW l E (d + 1) 0 0 mJ0_checkIndex_df160 0 [some (vi i), some (vi n)] [] G σ Q := by
  refine AW_run 80 rfl ?_
  refine AW_xfmt (by decide +kernel) kf_fmt rfl (fun r => ?_)
  refine AW_cS (M' := mJ3_checkIndex_8e157) rfl kkJ0_1059 lcJ3_checkIndex_8e157 rfl rfl rfl (Nat.le_refl _) ?_
  refine c_S_pcheck i n r hi hn ?_
  refine AW_run 80 rfl ?_
  exact AW_vret rfl rfl hq
theorem sk_and255 (a : Int) (h : 0 ≤ a ∧ a < 128) : sk_and a 255 = a := by
  unfold sk_and
  have e : Int32.ofInt a &&& Int32.ofInt 255 = Int32.ofInt a := by
    rw [sk_nI_of h.1]
    have := pk_andN (n := a.toNat) (by omega) (m := Int32.ofInt 255) 8 (by decide)
    rw [this, Nat.mod_eq_of_lt (by omega)]
  rw [e]
  exact sk_toInt ⟨by omega, by omega⟩
theorem sk_rchar (a : Int) (h : 0 ≤ a ∧ a < 128) : narrow .char (.int (Int32.ofInt a)) = .int (Int32.ofInt a) := by
  rw [sk_nI_of h.1]
  exact (pk_charN (by omega)).1
theorem c_S_lcharAt (i : Int) (hx : x < 17) (hi : 0 ≤ i ∧ i < (sk_len.getD x 0 : Nat)) (hq : Q (some (vi (sk_chr x i))) G σ) : AW l E (d + 2) 0 0 mJ1_charAt_3b067 0 [some (vr (1100 + x)), some (vi i)] [] G σ Q := by
  have hb := sk_len_b x hx
  have hc : 0 ≤ sk_chr x i ∧ sk_chr x i < 128 := sk_chr_b x hx i.toNat (by omega)
  refine AW_run 2 rfl ?_
  refine AW_xbl rfl hx ?_
  refine AW_cS (M' := mJ0_checkIndex_df160) rfl kkJ1_9 lcJ0_checkIndex_df160 rfl rfl rfl (Nat.le_refl _) ?_
  refine c_S_check i _ hi (by omega) ?_
  refine AW_run 80 rfl ?_
  refine AW_xbd rfl hx hi ?_
  refine AW_run 80 rfl ?_
  refine AW_top (sk_and255 _ hc) ?_
  refine AW_i2c rfl ⟨hc.1, Int.lt_trans hc.2 (by decide)⟩ ?_
  refine sk_retA (v := some (vi (sk_chr x i))) (fun hM => ⟨?_, .char, rfl, sk_rchar _ hc⟩) rfl hq
  decide +kernel
theorem c_S_charAt (i : Int) (hx : x < 17) (hi : 0 ≤ i ∧ i < (sk_len.getD x 0 : Nat)) (hq : Q (some (vi (sk_chr x i))) G σ) : AW l E (d + 3) 0 0 mJ0_charAt_5068e 0 [some (vr (1000 + x)), some (vi i)] [] G σ Q := by
  have hb := sk_len_b x hx
  have hc : 0 ≤ sk_chr x i ∧ sk_chr x i < 128 := sk_chr_b x hx i.toNat (by omega)
  refine AW_run 80 rfl ?_
  refine AW_callX (M' := mJ0_isLatin1_aae02) rfl kkJ0_492 lcJ0_isLatin1_aae02 rfl hx rfl rfl (Nat.le_refl 1) (Nat.le_refl _) ?_
  refine c_S_latin hx ?_
  first | refine AW_e1 rfl ?_ | refine AW_e0 rfl ?_ | refine AW_n1 rfl ?_ | refine AW_n0 rfl ?_
  refine AW_run 80 rfl ?_
  refine AW_xval (by decide +kernel) kf_val hx rfl ?_
  refine AW_run 80 rfl ?_
  refine AW_cS (M' := mJ1_charAt_3b067) rfl kkJ0_495 lcJ1_charAt_3b067 rfl rfl rfl (Nat.le_refl _) ?_
  refine c_S_lcharAt i hx hi ?_
  refine sk_retA (v := some (vi (sk_chr x i))) (fun hM => ⟨?_, .char, rfl, sk_rchar _ hc⟩) rfl hq
  decide +kernel
end SKS1
end
section
/-! ===== Tokens ===== -/
def sk_ext (p : Int → Bool) (n : Int) : Nat → Int → Int
  | 0, i => i
  | m + 1, i => if i < n ∧ p i = true then sk_ext p n m (i + 1) else i
/-- how far a word or number goes -/
def sk_end (p : Int → Bool) (n i : Int) : Int := sk_ext p n (n - i).toNat i
theorem sk_end_s {p : Int → Bool} {n i : Int} (h : i < n) (hp : p i = true) : sk_end p n i = sk_end p n (i + 1) := by
  unfold sk_end
  rw [show (n - i).toNat = (n - (i + 1)).toNat + 1 by omega, sk_ext, if_pos ⟨h, hp⟩]
theorem sk_end_x {p : Int → Bool} {n i : Int} (h : ¬ (i < n ∧ p i = true)) : sk_end p n i = i := by
  unfold sk_end
  cases hm : (n - i).toNat with
  | zero => rfl
  | succ m => rw [sk_ext, if_neg h]
theorem sk_ext_b (p : Int → Bool) (n : Int) : ∀ (m : Nat) (i : Int), i ≤ sk_ext p n m i ∧ (i ≤ n → sk_ext p n m i ≤ n)
  | 0, i => ⟨Int.le_refl _, fun h => h⟩
  | m + 1, i => by
    unfold sk_ext
    split
    · have := sk_ext_b p n m (i + 1)
      exact ⟨by omega, fun _ => this.2 (by omega)⟩
    · exact ⟨Int.le_refl _, fun h => h⟩
theorem sk_end_b (p : Int → Bool) {n i : Int} (h : i ≤ n) : i ≤ sk_end p n i ∧ sk_end p n i ≤ n := ⟨(sk_ext_b p n _ i).1, (sk_ext_b p n _ i).2 h⟩
theorem sk_ext_in (p : Int → Bool) (n : Int) : ∀ (m : Nat) (i j : Int), i ≤ j → j < sk_ext p n m i → p j = true
  | 0, i, j, h1, h2 => by simp only [sk_ext] at h2; omega
  | m + 1, i, j, h1, h2 => by
    unfold sk_ext at h2
    split at h2
    · rename_i hc
      by_cases hj : j = i
      · rw [hj]; exact hc.2
      · exact sk_ext_in p n m (i + 1) j (by omega) h2
    · omega
theorem sk_end_in {p : Int → Bool} {n i j : Int} (h1 : i ≤ j) (h2 : j < sk_end p n i) : p j = true := sk_ext_in p n _ i j h1 h2
def sk_ltr (t : Int → Int) : Int → Bool := fun i => decide (97 ≤ t i ∧ t i ≤ 122)
def sk_dgt (t : Int → Int) : Int → Bool := fun i => decide (48 ≤ t i ∧ t i ≤ 57)
def sk_nm (t : Int → Int) (f : Int) : Nat → Int
  | 0 => 0
  | k + 1 => sk_nm t f k * 10 + t (f + k) - 48
def sk_sgn (b : Int) : Int := if b = 123 then 16 else if b = 125 then 17 else if b = 59 then 18 else 19
def sk_pad (t : Int → Int) (f e i : Int) : Int := if f + i < e then t (f + i) else 32
def sk_isw (t : Int → Int) (f e w : Int) : Prop := ∀ i : Int, 0 ≤ i → i < 6 → sk_chr 0 (w * 6 + i) = sk_pad t f e i
/-- a token behind the others -/
def sk_ta (I : sk_SI) (tok pl : Int) : sk_SI := sk_uI (sk_uI (sk_uI I 31 (I 30 2) tok) 32 (I 30 2) pl) 30 2 (I 30 2 + 1)
/-- the tape is as it should be -/
def sk_tp (I : sk_SI) : Prop := 0 ≤ I 1 1 ∧ I 1 1 ≤ 1200 ∧ ∀ i, 0 ≤ i → i < I 1 1 → 0 ≤ I 2 i ∧ I 2 i ≤ 255
section SKT1
variable {l : Launch} {E : sk_En} {d : Nat} {I : sk_SI} {L : sk_SL} {cu sp io rp tp fp : Nat} {Q : Option sk_V → List sk_Sh → sk_St → Prop} {G : List sk_Sh} {σ : sk_St}
theorem c_tape_at (i : Int) (ht : sk_tp I) (hi : 0 ≤ i ∧ i < I 1 1) (hq : Q (some (vi (I 2 i))) sk_G (I, L, sk_J cu sp io rp tp fp)) : AW l E d 0 0 mX4_at 0 [some (vr 1), some (vi i)] [] sk_G (I, L, sk_J cu sp io rp tp fp) Q := by
  obtain ⟨t0, t1, t2⟩ := ht
  exact c_Row_at 1 1200 (Or.inl ⟨rfl, rfl⟩) i (by unfold sk_in; omega) t1 t0 (fun _ _ => hq) (fun g => by omega)
theorem c_T_letter (b : Int) (hb : sk_in b) (hT : 97 ≤ b → b ≤ 122 → Q (some (vi 1)) G σ) (hF : ¬ (97 ≤ b ∧ b ≤ 122) → Q (some (vi 0)) G σ) : AW l E d 0 0 mX8_isLetter 0 [some (vi b)] [] G σ Q := by
  refine AW_run 80 rfl ?_
  refine AW_iclt rfl (fun h => ?_) (fun h => ?_)
  · refine AW_run 80 rfl ?_
    exact AW_zret rfl rfl (Or.inl rfl) (hF (by omega))
  · refine AW_run 80 rfl ?_
    refine AW_icgt rfl (fun h2 => ?_) (fun h2 => ?_)
    · refine AW_run 80 rfl ?_
      exact AW_zret rfl rfl (Or.inl rfl) (hF (by omega))
    · refine AW_run 80 rfl ?_
      exact AW_zret rfl rfl (Or.inr rfl) (hT (by omega) (by omega))
theorem c_T_digit (b : Int) (hb : sk_in b) (hT : 48 ≤ b → b ≤ 57 → Q (some (vi 1)) G σ) (hF : ¬ (48 ≤ b ∧ b ≤ 57) → Q (some (vi 0)) G σ) : AW l E d 0 0 mX8_isDigit 0 [some (vi b)] [] G σ Q := by
  refine AW_run 80 rfl ?_
  refine AW_iclt rfl (fun h => ?_) (fun h => ?_)
  · refine AW_run 80 rfl ?_
    exact AW_zret rfl rfl (Or.inl rfl) (hF (by omega))
  · refine AW_run 80 rfl ?_
    refine AW_icgt rfl (fun h2 => ?_) (fun h2 => ?_)
    · refine AW_run 80 rfl ?_
      exact AW_zret rfl rfl (Or.inl rfl) (hF (by omega))
    · refine AW_run 80 rfl ?_
      exact AW_zret rfl rfl (Or.inr rfl) (hT (by omega) (by omega))
theorem c_T_sign (b : Int) (hb : sk_in b) (hq : Q (some (vi (sk_sgn b))) G σ) : AW l E d 0 0 mX8_signOf 0 [some (vi b)] [] G σ Q := by
  unfold sk_sgn at hq
  refine AW_run 80 rfl ?_
  by_cases h1 : b = 123
  · subst h1
    refine AW_lsw (t := 36) rfl (by decide) rfl rfl hb ?_
    refine AW_run 80 rfl ?_
    exact AW_iret rfl rfl hq
  · rw [if_neg h1] at hq
    by_cases h2 : b = 125
    · subst h2
      refine AW_lsw (t := 39) rfl (by decide) rfl rfl hb ?_
      refine AW_run 80 rfl ?_
      exact AW_iret rfl rfl hq
    · rw [if_neg h2] at hq
      by_cases h3 : b = 59
      · subst h3
        refine AW_lsw (t := 42) rfl (by decide) rfl rfl hb ?_
        refine AW_run 80 rfl ?_
        exact AW_iret rfl rfl hq
      · rw [if_neg h3] at hq
        refine AW_lsw (t := 45) (off := 44) rfl (by decide) ?_ rfl hb ?_
        · show Op.lookupswitch.offset [(59, 41), (123, 35), (125, 38)] 44 b = 44
          rw [Op.lookupswitch.offset_cons, if_neg (fun e => h3 e.symm), Op.lookupswitch.offset_cons, if_neg (fun e => h1 e.symm), Op.lookupswitch.offset_cons, if_neg (fun e => h2 e.symm)]
          rfl
        · refine AW_run 80 rfl ?_
          exact AW_iret rfl rfl hq
theorem c_T_tokenAt (i : Int) (hi : sk_in i) (hn : 0 ≤ I 30 2 ∧ I 30 2 ≤ 1201) (hT : 0 ≤ i → i < I 30 2 → Q (some (vi (I 31 i))) sk_G (I, L, sk_J cu sp io rp tp fp)) (hF : ¬ (0 ≤ i ∧ i < I 30 2) → Q (some (vi 20)) sk_G (I, L, sk_J cu sp io rp tp fp)) : AW l E d 0 0 mX8_tokenAt 0 [some (vr 30), some (vi i)] [] sk_G (I, L, sk_J cu sp io rp tp fp) Q := by
  refine AW_run 80 rfl ?_
  refine AW_iflt rfl (fun h => ?_) (fun h => ?_)
  · refine AW_run 80 rfl ?_
    exact AW_iret rfl rfl (hF (by omega))
  · refine AW_run 80 rfl ?_
    refine AW_icge rfl (fun h2 => ?_) (fun h2 => ?_)
    · refine AW_run 80 rfl ?_
      exact AW_iret rfl rfl (hF (by omega))
    · refine AW_run 80 rfl ?_
      refine AW_iald rfl rfl ⟨by omega, by omega⟩ (by decide) ?_
      refine AW_run 80 rfl ?_
      exact AW_iret rfl rfl (hT (by omega) (by omega))
theorem c_T_placeOf (i : Int) (hi : sk_in i) (hn : 0 ≤ I 30 2 ∧ I 30 2 ≤ 1201) (hT : 0 ≤ i → i < I 30 2 → Q (some (vi (I 32 i))) sk_G (I, L, sk_J cu sp io rp tp fp)) (hF : ¬ (0 ≤ i ∧ i < I 30 2) → Q (some (vi 0)) sk_G (I, L, sk_J cu sp io rp tp fp)) : AW l E d 0 0 mX8_placeOf 0 [some (vr 30), some (vi i)] [] sk_G (I, L, sk_J cu sp io rp tp fp) Q := by
  refine AW_run 80 rfl ?_
  refine AW_iflt rfl (fun h => ?_) (fun h => ?_)
  · refine AW_run 80 rfl ?_
    exact AW_iret rfl rfl (hF (by omega))
  · refine AW_run 80 rfl ?_
    refine AW_icge rfl (fun h2 => ?_) (fun h2 => ?_)
    · refine AW_run 80 rfl ?_
      exact AW_iret rfl rfl (hF (by omega))
    · refine AW_run 80 rfl ?_
      refine AW_iald rfl rfl ⟨by omega, by omega⟩ (by decide) ?_
      refine AW_run 80 rfl ?_
      exact AW_iret rfl rfl (hT (by omega) (by omega))
theorem c_T_add (k p : Int) (hn : 0 ≤ I 30 2 ∧ I 30 2 < 1201) (hq : Q none sk_G (sk_ta I k p, L, sk_J cu sp io rp tp fp)) : AW l E (d + 1) 0 0 mX8_add 0 [some (vr 30), some (vi k), some (vi p)] [] sk_G (I, L, sk_J cu sp io rp tp fp) Q := by
  refine AW_run 80 rfl ?_
  refine AW_within rfl kkX8_56 rfl (by omega) (fun w1 w2 => ?_) (fun w3 => ?_)
  · refine AW_run 80 rfl ?_
    first | refine AW_e1 rfl ?_ | refine AW_e0 rfl ?_ | refine AW_n1 rfl ?_ | refine AW_n0 rfl ?_
    refine AW_run 80 rfl ?_
    refine AW_iast rfl rfl ⟨by omega, by omega⟩ (by decide) ?_
    (refine AW_run 80 rfl ?_; (try simp only [sk_uI_s, sk_uI_o, sk_up_s, sk_up_o, sk_uL_s, sk_uL_o, ne_eq, Nat.reduceEqDiff, Nat.reduceAdd, Int.reduceEq, not_false_eq_true]))
    refine AW_iast rfl rfl ⟨by omega, by omega⟩ (by decide) ?_
    (refine AW_run 80 rfl ?_; (try simp only [sk_uI_s, sk_uI_o, sk_up_s, sk_up_o, sk_uL_s, sk_uL_o, ne_eq, Nat.reduceEqDiff, Nat.reduceAdd, Int.reduceEq, not_false_eq_true]))
    exact AW_vret rfl rfl hq
  · omega
theorem c_T_eow (f : Int) (ht : sk_tp I) (hf : 0 ≤ f ∧ f ≤ I 1 1) (hq : Q (some (vi (sk_end (sk_ltr (I 2)) (I 1 1) f))) sk_G (I, L, sk_J cu sp io rp tp fp)) : AW l E (d + 1) 0 0 mX8_endOfWord 0 [some (vr 1), some (vi f), none] [] sk_G (I, L, sk_J cu sp io rp tp fp) Q := by
  obtain ⟨t0, t1, t2⟩ := ht
  have key : ∀ (m : Nat) (i : Int), f ≤ i → i + m = I 1 1 → sk_end (sk_ltr (I 2)) (I 1 1) i = sk_end (sk_ltr (I 2)) (I 1 1) f → AW l E (d + 1) 0 0 mX8_endOfWord 7 [some (vr 1), some (vi f), some (vi i)] [vi (I 1 1), vi i] sk_G (I, L, sk_J cu sp io rp tp fp) Q := by
    intro m
    induction m with
    | zero =>
      intro i h0 hi he
      refine AW_icge rfl (fun h => ?_) (fun h => ?_)
      · refine AW_run 80 rfl ?_
        rw [← he, sk_end_x (by omega)] at hq
        exact AW_iret rfl rfl hq
      · omega
    | succ m ih =>
      intro i h0 hi he
      refine AW_icge rfl (fun h => ?_) (fun h => ?_)
      · omega
      · refine AW_run 80 rfl ?_
        refine AW_cV (M' := mX4_at) rfl kkX8_25 lcX4_at rfl rfl rfl rfl rfl rfl (Nat.le_refl _) ?_
        refine c_tape_at i ⟨t0, t1, t2⟩ (by omega) ?_
        have hb := t2 i (by omega) (by omega)
        refine AW_run 80 rfl ?_
        refine AW_cS (M' := mX8_isLetter) rfl kkX8_28 lcX8_isLetter rfl rfl rfl (Nat.le_refl _) ?_
        refine c_T_letter _ (by unfold sk_in; omega) (fun g1 g2 => ?_) (fun g => ?_)
        · refine AW_run 80 rfl ?_
          first | refine AW_e1 rfl ?_ | refine AW_e0 rfl ?_ | refine AW_n1 rfl ?_ | refine AW_n0 rfl ?_
          refine AW_run 80 rfl ?_
          exact ih (i + 1) (by omega) (by omega) (by rw [← he]; exact (sk_end_s (by omega) (by simp [sk_ltr, g1, g2])).symm)
        · refine AW_run 80 rfl ?_
          first | refine AW_e1 rfl ?_ | refine AW_e0 rfl ?_ | refine AW_n1 rfl ?_ | refine AW_n0 rfl ?_
          refine AW_run 80 rfl ?_
          rw [← he, sk_end_x (by simp only [sk_ltr, decide_eq_true_eq]; omega)] at hq
          exact AW_iret rfl rfl hq
  refine AW_run 80 rfl ?_
  exact key (I 1 1 - f).toNat f (Int.le_refl _) (by omega) rfl
theorem c_T_eon (f : Int) (ht : sk_tp I) (hf : 0 ≤ f ∧ f ≤ I 1 1) (hq : Q (some (vi (sk_end (sk_dgt (I 2)) (I 1 1) f))) sk_G (I, L, sk_J cu sp io rp tp fp)) : AW l E (d + 1) 0 0 mX8_endOfNumber 0 [some (vr 1), some (vi f), none] [] sk_G (I, L, sk_J cu sp io rp tp fp) Q := by
  obtain ⟨t0, t1, t2⟩ := ht
  have key : ∀ (m : Nat) (i : Int), f ≤ i → i + m = I 1 1 → sk_end (sk_dgt (I 2)) (I 1 1) i = sk_end (sk_dgt (I 2)) (I 1 1) f → AW l E (d + 1) 0 0 mX8_endOfNumber 7 [some (vr 1), some (vi f), some (vi i)] [vi (I 1 1), vi i] sk_G (I, L, sk_J cu sp io rp tp fp) Q := by
    intro m
    induction m with
    | zero =>
      intro i h0 hi he
      refine AW_icge rfl (fun h => ?_) (fun h => ?_)
      · refine AW_run 80 rfl ?_
        rw [← he, sk_end_x (by omega)] at hq
        exact AW_iret rfl rfl hq
      · omega
    | succ m ih =>
      intro i h0 hi he
      refine AW_icge rfl (fun h => ?_) (fun h => ?_)
      · omega
      · refine AW_run 80 rfl ?_
        refine AW_cV (M' := mX4_at) rfl kkX8_25 lcX4_at rfl rfl rfl rfl rfl rfl (Nat.le_refl _) ?_
        refine c_tape_at i ⟨t0, t1, t2⟩ (by omega) ?_
        have hb := t2 i (by omega) (by omega)
        refine AW_run 80 rfl ?_
        refine AW_cS (M' := mX8_isDigit) rfl kkX8_44 lcX8_isDigit rfl rfl rfl (Nat.le_refl _) ?_
        refine c_T_digit _ (by unfold sk_in; omega) (fun g1 g2 => ?_) (fun g => ?_)
        · refine AW_run 80 rfl ?_
          first | refine AW_e1 rfl ?_ | refine AW_e0 rfl ?_ | refine AW_n1 rfl ?_ | refine AW_n0 rfl ?_
          refine AW_run 80 rfl ?_
          exact ih (i + 1) (by omega) (by omega) (by rw [← he]; exact (sk_end_s (by omega) (by simp [sk_dgt, g1, g2])).symm)
        · refine AW_run 80 rfl ?_
          first | refine AW_e1 rfl ?_ | refine AW_e0 rfl ?_ | refine AW_n1 rfl ?_ | refine AW_n0 rfl ?_
          refine AW_run 80 rfl ?_
          rw [← he, sk_end_x (by simp only [sk_dgt, decide_eq_true_eq]; omega)] at hq
          exact AW_iret rfl rfl hq
  refine AW_run 80 rfl ?_
  exact key (I 1 1 - f).toNat f (Int.le_refl _) (by omega) rfl
theorem c_T_num (f e : Int) (ht : sk_tp I) (hf : 0 ≤ f ∧ f ≤ e ∧ e ≤ I 1 1) (h1 : 3 < e - f → Q (some (vi 19)) sk_G (I, L, sk_J cu sp io rp tp fp)) (h2 : e - f ≤ 3 → Q (some (vi (100 + sk_nm (I 2) f (e - f).toNat))) sk_G (I, L, sk_J cu sp io rp tp fp)) : AW l E (d + 1) 0 0 mX8_numberOf 0 [some (vr 1), some (vi f), some (vi e), none, none] [] sk_G (I, L, sk_J cu sp io rp tp fp) Q := by
  have ht' := ht
  obtain ⟨t0, t1, t2⟩ := ht
  have key : e - f ≤ 3 → ∀ (m : Nat) (i : Int), f ≤ i → i + m = e → AW l E (d + 1) 0 0 mX8_numberOf 18 [some (vr 1), some (vi f), some (vi e), some (vi (sk_nm (I 2) f (i - f).toNat)), some (vi i)] [vi e, vi i] sk_G (I, L, sk_J cu sp io rp tp fp) Q := by
    intro he m
    induction m with
    | zero =>
      intro i h0 hi
      have ei : i = e := by omega
      subst ei
      refine AW_icge rfl (fun h => ?_) (fun h => ?_)
      · refine AW_run 80 rfl ?_
        exact AW_iret rfl rfl (h2 he)
      · omega
    | succ m ih =>
      intro i h0 hi
      refine AW_icge rfl (fun h => ?_) (fun h => ?_)
      · omega
      · refine AW_run 80 rfl ?_
        refine AW_cV (M' := mX4_at) rfl kkX8_25 lcX4_at rfl rfl rfl rfl rfl rfl (Nat.le_refl _) ?_
        refine c_tape_at i ht' (by omega) ?_
        refine AW_run 80 rfl ?_
        refine AW_lk (ih (i + 1) (by omega) (by omega)) ⟨rfl, rfl, rfl, ?_, rfl, trivial⟩
        rw [show (i + 1 - f).toNat = (i - f).toNat + 1 by omega, sk_nm, show f + ((i - f).toNat : Int) = i by omega]
  refine AW_run 80 rfl ?_
  refine AW_icle rfl (fun h => ?_) (fun h => ?_)
  · refine AW_run 80 rfl ?_
    refine AW_lk (key h (e - f).toNat f (Int.le_refl _) (by omega)) ⟨rfl, rfl, rfl, ?_, rfl, trivial⟩
    rw [Int.sub_self]; rfl
  · refine AW_run 80 rfl ?_
    exact AW_iret rfl rfl (h1 (by omega))
theorem c_T_isw (w f e : Int) (ht : sk_tp I) (hw : 0 ≤ w ∧ w < 16) (hf : 0 ≤ f ∧ f ≤ e ∧ e ≤ I 1 1) (hT : sk_isw (I 2) f e w → Q (some (vi 1)) sk_G (I, L, sk_J cu sp io rp tp fp)) (hF : ¬ sk_isw (I 2) f e w → Q (some (vi 0)) sk_G (I, L, sk_J cu sp io rp tp fp)) : AW l E (d + 4) 0 0 mX8_isWord 0 [some (vi w), some (vr 1), some (vi f), some (vi e), none, none, none] [] sk_G (I, L, sk_J cu sp io rp tp fp) Q := by
  have ht' := ht
  obtain ⟨t0, t1, t2⟩ := ht
  have cmp : ∀ (i c : Int), 0 ≤ i → i < 6 → sk_in c → c = sk_pad (I 2) f e i → (sk_chr 0 (w * 6 + i) = sk_pad (I 2) f e i → AW l E (d + 4) 0 0 mX8_isWord 7 [some (vi w), some (vr 1), some (vi f), some (vi e), some (vi (i + 1)), none, none] [vi 6, vi (i + 1)] sk_G (I, L, sk_J cu sp io rp tp fp) Q) → AW l E (d + 4) 0 0 mX8_isWord 40 [some (vi w), some (vr 1), some (vi f), some (vi e), some (vi i), some (vi (w * 6 + i)), none] [vi c] sk_G (I, L, sk_J cu sp io rp tp fp) Q := by
    intro i c h0 h6 hc ec kk
    have hchr : 0 ≤ sk_chr 0 (w * 6 + i) ∧ sk_chr 0 (w * 6 + i) < 128 := sk_chr_b 0 (by decide) _ (by omega)
    refine AW_run 80 rfl ?_
    refine AW_ldcS (x := 0) rfl rfl ⟨rfl, rfl⟩ ?_
    refine AW_callX (x := 0) (M' := mJ0_length_8abf5) rfl kkX8_66 lcJ0_length_8abf5 rfl (by decide) rfl rfl (Nat.le_refl 1) (Nat.le_refl _) ?_
    refine c_S_length (by decide) ?_
    refine AW_run 80 rfl ?_
    have e96 : ((sk_len.getD 0 0 : Nat) : Int) = 96 := rfl
    refine AW_within rfl kkX8_56 rfl (by omega) (fun w1 w2 => ?_) (fun w3 => ?_)
    · refine AW_run 80 rfl ?_
      first | refine AW_e1 rfl ?_ | refine AW_e0 rfl ?_ | refine AW_n1 rfl ?_ | refine AW_n0 rfl ?_
      refine AW_ldcS (x := 0) rfl rfl ⟨rfl, rfl⟩ ?_
      refine AW_run 80 rfl ?_
      refine AW_callX (x := 0) (M' := mJ0_charAt_5068e) rfl kkX8_72 lcJ0_charAt_5068e rfl (by decide) rfl rfl (Nat.le_refl 2) (Nat.le_refl _) ?_
      refine c_S_charAt (d := d) _ (by decide) ⟨w1, by omega⟩ ?_
      refine AW_run 80 rfl ?_
      refine AW_iceq rfl (fun g => ?_) (fun g => ?_) (by unfold sk_in; omega) hc
      · refine AW_run 80 rfl ?_
        exact AW_lk (kk (by rw [← ec]; exact g)) ⟨rfl, rfl, rfl, rfl, rfl, trivial⟩
      · refine AW_run 80 rfl ?_
        exact AW_zret rfl rfl (Or.inl rfl) (hF (fun z => g (by rw [ec]; exact z i h0 h6)))
    · omega
  have key : ∀ (m : Nat) (i : Int), 0 ≤ i → i + m = 6 → (∀ j, 0 ≤ j → j < i → sk_chr 0 (w * 6 + j) = sk_pad (I 2) f e j) → AW l E (d + 4) 0 0 mX8_isWord 7 [some (vi w), some (vr 1), some (vi f), some (vi e), some (vi i), none, none] [vi 6, vi i] sk_G (I, L, sk_J cu sp io rp tp fp) Q := by
    intro m
    induction m with
    | zero =>
      intro i h0 hi hj
      refine AW_icge rfl (fun h => ?_) (fun h => ?_)
      · refine AW_run 80 rfl ?_
        exact AW_zret rfl rfl (Or.inr rfl) (hT (fun j g1 g2 => hj j g1 (by omega)))
      · omega
    | succ m ih =>
      intro i h0 hi hj
      have nxt : sk_chr 0 (w * 6 + i) = sk_pad (I 2) f e i → AW l E (d + 4) 0 0 mX8_isWord 7 [some (vi w), some (vr 1), some (vi f), some (vi e), some (vi (i + 1)), none, none] [vi 6, vi (i + 1)] sk_G (I, L, sk_J cu sp io rp tp fp) Q := fun g => ih (i + 1) (by omega) (by omega) (fun j g1 g2 => by
        by_cases hji : j = i
        · rw [hji]; exact g
        · exact hj j g1 (by omega))
      refine AW_icge rfl (fun h => ?_) (fun h => ?_)
      · omega
      · refine AW_run 80 rfl ?_
        refine AW_icge rfl (fun h2 => ?_) (fun h2 => ?_)
        · refine AW_run 1 rfl ?_
          refine cmp i 32 h0 (by omega) (by unfold sk_in; omega) ?_ nxt
          rw [sk_pad, if_neg (by omega)]
        · refine AW_run 80 rfl ?_
          refine AW_cV (M' := mX4_at) rfl kkX8_25 lcX4_at rfl rfl rfl rfl rfl rfl (Nat.le_refl _) ?_
          refine c_tape_at (f + i) ht' (by omega) ?_
          have hb := t2 (f + i) (by omega) (by omega)
          refine AW_run 1 rfl ?_
          refine cmp i (I 2 (f + i)) h0 (by omega) (by unfold sk_in; omega) ?_ nxt
          rw [sk_pad, if_pos (by omega)]
  refine AW_run 80 rfl ?_
  exact key 6 0 (by omega) (by omega) (fun j g1 g2 => by omega)
theorem c_T_word (f e : Int) (ht : sk_tp I) (hf : 0 ≤ f ∧ f ≤ e ∧ e ≤ I 1 1) (h1 : 6 < e - f → Q (some (vi 19)) sk_G (I, L, sk_J cu sp io rp tp fp)) (h2 : e - f ≤ 6 → ∀ w, 0 ≤ w → w < 16 → sk_isw (I 2) f e w → (∀ v, 0 ≤ v → v < w → ¬ sk_isw (I 2) f e v) → Q (some (vi w)) sk_G (I, L, sk_J cu sp io rp tp fp)) (h3 : e - f ≤ 6 → (∀ v, 0 ≤ v → v < 16 → ¬ sk_isw (I 2) f e v) → Q (some (vi 19)) sk_G (I, L, sk_J cu sp io rp tp fp)) : AW l E (d + 5) 0 0 mX8_wordOf 0 [some (vr 1), some (vi f), some (vi e), none] [] sk_G (I, L, sk_J cu sp io rp tp fp) Q := by
  have ht' := ht
  obtain ⟨t0, t1, t2⟩ := ht
  have key : e - f ≤ 6 → ∀ (m : Nat) (i : Int), 0 ≤ i → i + m = 16 → (∀ v, 0 ≤ v → v < i → ¬ sk_isw (I 2) f e v) → AW l E (d + 5) 0 0 mX8_wordOf 16 [some (vr 1), some (vi f), some (vi e), some (vi i)] [vi 16, vi i] sk_G (I, L, sk_J cu sp io rp tp fp) Q := by
    intro he m
    induction m with
    | zero =>
      intro i h0 hi hj
      refine AW_icge rfl (fun h => ?_) (fun h => ?_)
      · refine AW_run 80 rfl ?_
        exact AW_iret rfl rfl (h3 he (fun v g1 g2 => hj v g1 (by omega)))
      · omega
    | succ m ih =>
      intro i h0 hi hj
      refine AW_icge rfl (fun h => ?_) (fun h => ?_)
      · omega
      · refine AW_run 80 rfl ?_
        refine AW_cS (M' := mX8_isWord) rfl kkX8_60 lcX8_isWord rfl rfl rfl (Nat.le_refl _) ?_
        refine c_T_isw (d := d) i f e ht' (by omega) hf (fun g => ?_) (fun g => ?_)
        · refine AW_run 80 rfl ?_
          first | refine AW_e1 rfl ?_ | refine AW_e0 rfl ?_ | refine AW_n1 rfl ?_ | refine AW_n0 rfl ?_
          refine AW_run 80 rfl ?_
          exact AW_iret rfl rfl (h2 he i h0 (by omega) g hj)
        · refine AW_run 80 rfl ?_
          first | refine AW_e1 rfl ?_ | refine AW_e0 rfl ?_ | refine AW_n1 rfl ?_ | refine AW_n0 rfl ?_
          refine AW_run 80 rfl ?_
          exact ih (i + 1) (by omega) (by omega) (fun v g1 g2 => by
            by_cases hv : v = i
            · rw [hv]; exact g
            · exact hj v g1 (by omega))
  refine AW_run 80 rfl ?_
  refine AW_icle rfl (fun h => ?_) (fun h => ?_)
  · refine AW_run 80 rfl ?_
    exact key h 16 0 (by omega) (by omega) (fun v g1 g2 => by omega)
  · refine AW_run 80 rfl ?_
    exact AW_iret rfl rfl (h1 (by omega))
end SKT1
end
section
/-! ===== a text cut into tokens ===== -/
def sk_iswb (t : Int → Int) (f e w : Int) : Bool := decide (sk_chr 0 (w * 6) = sk_pad t f e 0) && (decide (sk_chr 0 (w * 6 + 1) = sk_pad t f e 1) && (decide (sk_chr 0 (w * 6 + 2) = sk_pad t f e 2) && (decide (sk_chr 0 (w * 6 + 3) = sk_pad t f e 3) && (decide (sk_chr 0 (w * 6 + 4) = sk_pad t f e 4) && decide (sk_chr 0 (w * 6 + 5) = sk_pad t f e 5)))))
theorem sk_isw_iff (t : Int → Int) (f e w : Int) : sk_isw t f e w ↔ sk_iswb t f e w = true := by
  simp only [sk_iswb, Bool.and_eq_true, decide_eq_true_eq]
  constructor
  · intro h
    refine ⟨?_, h 1 (by omega) (by omega), h 2 (by omega) (by omega), h 3 (by omega) (by omega), h 4 (by omega) (by omega), h 5 (by omega) (by omega)⟩
    have := h 0 (by omega) (by omega)
    rwa [Int.add_zero] at this
  · rintro ⟨h0, h1, h2, h3, h4, h5⟩ i g1 g2
    rcases (show i = 0 ∨ i = 1 ∨ i = 2 ∨ i = 3 ∨ i = 4 ∨ i = 5 by omega) with rfl | rfl | rfl | rfl | rfl | rfl
    · rw [Int.add_zero]; exact h0
    · exact h1
    · exact h2
    · exact h3
    · exact h4
    · exact h5
def sk_fw (t : Int → Int) (f e : Int) : Nat → Int → Int
  | 0, _ => 19
  | m + 1, w => if sk_iswb t f e w = true then w else sk_fw t f e m (w + 1)
theorem sk_fw_1 (t : Int → Int) (f e w : Int) (hw : sk_isw t f e w) : ∀ (m : Nat) (i : Int), i ≤ w → w < i + m → (∀ v, i ≤ v → v < w → ¬ sk_isw t f e v) → sk_fw t f e m i = w
  | 0, i, h1, h2, _ => by omega
  | m + 1, i, h1, h2, h3 => by
    unfold sk_fw
    by_cases hi : i = w
    · rw [if_pos (by rw [hi]; exact (sk_isw_iff t f e w).mp hw)]; exact hi
    · rw [if_neg (fun z => h3 i (Int.le_refl _) (by omega) ((sk_isw_iff t f e i).mpr z))]
      exact sk_fw_1 t f e w hw m (i + 1) (by omega) (by omega) (fun v g1 g2 => h3 v (by omega) g2)
theorem sk_fw_0 (t : Int → Int) (f e : Int) : ∀ (m : Nat) (i : Int), (∀ v, i ≤ v → v < i + m → ¬ sk_isw t f e v) → sk_fw t f e m i = 19
  | 0, _, _ => rfl
  | m + 1, i, h => by
    unfold sk_fw
    rw [if_neg (fun z => h i (Int.le_refl _) (by omega) ((sk_isw_iff t f e i).mpr z))]
    exact sk_fw_0 t f e m (i + 1) (fun v g1 g2 => h v (by omega) (by omega))
/-- the token of a word, of a number -/
def sk_wt (t : Int → Int) (f e : Int) : Int := if 6 < e - f then 19 else sk_fw t f e 16 0
def sk_nt (t : Int → Int) (f e : Int) : Int := if 3 < e - f then 19 else 100 + sk_nm t f (e - f).toNat
/-- where the token at a place ends, and which it is -/
def sk_te (t : Int → Int) (n p : Int) : Int := if sk_ltr t p = true then sk_end (sk_ltr t) n p else if sk_dgt t p = true then sk_end (sk_dgt t) n p else p + 1
def sk_tk (t : Int → Int) (n p : Int) : Int := if sk_ltr t p = true then sk_wt t p (sk_end (sk_ltr t) n p) else if sk_dgt t p = true then sk_nt t p (sk_end (sk_dgt t) n p) else sk_sgn (t p)
def sk_spb (t : Int → Int) : Int → Bool := fun i => decide (t i = 32 ∨ t i = 10)
def sk_clp : Nat → Int → sk_SI → sk_SI
  | 0, _, I => I
  | m + 1, p, I => if p < I 1 1 then (if sk_spb (I 2) p = true then sk_clp m (p + 1) I else sk_clp m (sk_te (I 2) (I 1 1) p) (sk_ta I (sk_tk (I 2) (I 1 1) p) p)) else I
/-- what Tokens.cut leaves -/
def sk_cut (I : sk_SI) : sk_SI := sk_ta (sk_clp 1300 0 (sk_uI I 30 2 0)) 20 (I 1 1)
theorem sk_te_b (t : Int → Int) {n p : Int} (h : p < n) : p < sk_te t n p ∧ sk_te t n p ≤ n := by
  unfold sk_te
  split
  · rename_i hc
    rw [sk_end_s h hc]
    have := sk_end_b (sk_ltr t) (n := n) (i := p + 1) (by omega)
    omega
  · split
    · rename_i hc
      rw [sk_end_s h hc]
      have := sk_end_b (sk_dgt t) (n := n) (i := p + 1) (by omega)
      omega
    · omega
theorem sk_ta_o (I : sk_SI) (a b : Int) (k : Nat) (h1 : k ≠ 30) (h2 : k ≠ 31) (h3 : k ≠ 32) : sk_ta I a b k = I k := by
  unfold sk_ta
  rw [sk_uI_o h1, sk_uI_o h3, sk_uI_o h2]
theorem sk_ta_n (I : sk_SI) (a b : Int) : sk_ta I a b 30 2 = I 30 2 + 1 := by
  unfold sk_ta
  rw [sk_uI_s, sk_up_s]
section SKT2
variable {l : Launch} {E : sk_En} {d : Nat} {I : sk_SI} {L : sk_SL} {cu sp io rp tp fp : Nat} {Q : Option sk_V → List sk_Sh → sk_St → Prop}
theorem c_T_wordF (f e : Int) (ht : sk_tp I) (hf : 0 ≤ f ∧ f ≤ e ∧ e ≤ I 1 1) (hq : Q (some (vi (sk_wt (I 2) f e))) sk_G (I, L, sk_J cu sp io rp tp fp)) : AW l E (d + 5) 0 0 mX8_wordOf 0 [some (vr 1), some (vi f), some (vi e), none] [] sk_G (I, L, sk_J cu sp io rp tp fp) Q := by
  unfold sk_wt at hq
  refine c_T_word f e ht hf (fun h => ?_) (fun h w h0 h1 h2 h3 => ?_) (fun h h2 => ?_)
  · rwa [if_pos h] at hq
  · rwa [if_neg (by omega), sk_fw_1 _ f e w h2 16 0 h0 (by omega) h3] at hq
  · rwa [if_neg (by omega), sk_fw_0 _ f e 16 0 (fun v g1 g2 => h2 v g1 (by omega))] at hq
theorem c_T_numF (f e : Int) (ht : sk_tp I) (hf : 0 ≤ f ∧ f ≤ e ∧ e ≤ I 1 1) (hq : Q (some (vi (sk_nt (I 2) f e))) sk_G (I, L, sk_J cu sp io rp tp fp)) : AW l E (d + 1) 0 0 mX8_numberOf 0 [some (vr 1), some (vi f), some (vi e), none, none] [] sk_G (I, L, sk_J cu sp io rp tp fp) Q := by
  unfold sk_nt at hq
  refine c_T_num f e ht hf (fun h => ?_) (fun h => ?_)
  · rwa [if_pos h] at hq
  · rwa [if_neg (by omega)] at hq
theorem c_T_cut (ht : sk_tp I) (hq : Q none sk_G (sk_cut I, L, sk_J cu sp io rp tp fp)) : AW l E (d + 6) 0 0 mX8_cut 0 [some (vr 30), some (vr 1), none, none, none, none] [] sk_G (I, L, sk_J cu sp io rp tp fp) Q := by
  obtain ⟨t0, t1, t2⟩ := ht
  have key : ∀ (m : Nat) (p i : Int) (I' : sk_SI), I' 1 1 = I 1 1 → I' 2 = I 2 → 0 ≤ i → i ≤ p → p ≤ I 1 1 → I 1 1 - p ≤ m → 0 ≤ I' 30 2 → I' 30 2 ≤ p → sk_cut I = sk_ta (sk_clp m p I') 20 (I 1 1) → AW l E (d + 6) 0 0 mX8_cut 13 [some (vr 30), some (vr 1), some (vi p), some (vi i), none, none] [vi 1200, vi i] sk_G (I', L, sk_J cu sp io rp tp fp) Q := by
    intro m
    have fin : ∀ (p i : Int) (I' : sk_SI) (ls : List (Option sk_V)), I' 1 1 = I 1 1 → 0 ≤ I' 30 2 → I' 30 2 ≤ 1200 → sk_cut I = sk_ta I' 20 (I 1 1) → ls = [some (vr 30), some (vr 1), some (vi p), some (vi i), none, none] → AW l E (d + 6) 0 0 mX8_cut 129 ls [] sk_G (I', L, sk_J cu sp io rp tp fp) Q := by
      intro p i I' ls e1 g1 g2 g3 hls
      subst hls
      refine AW_run 80 rfl ?_
      refine AW_cV (M' := mX8_add) rfl kkX8_40 lcX8_add rfl rfl rfl rfl rfl rfl (Nat.le_refl _) ?_
      refine c_T_add 20 _ (by omega) ?_
      rw [e1]
      rw [g3] at hq
      exact AW_vret rfl rfl hq
    induction m with
    | zero =>
      intro p i I' e1 e2 h0 h1 h2 h3 h4 h5 h6
      refine AW_icge rfl (fun h => ?_) (fun h => ?_)
      · exact fin p i I' _ e1 h4 (by omega) h6 rfl
      · refine AW_run 80 rfl ?_
        rw [e1]
        refine AW_icge rfl (fun h7 => ?_) (fun h7 => ?_)
        · exact fin p i I' _ e1 h4 (by omega) h6 rfl
        · omega
    | succ m ih =>
      intro p i I' e1 e2 h0 h1 h2 h3 h4 h5 h6
      unfold sk_clp at h6
      rw [e1, e2] at h6
      refine AW_icge rfl (fun h => ?_) (fun h => ?_)
      · rw [if_neg (by omega)] at h6
        exact fin p i I' _ e1 h4 (by omega) h6 rfl
      · refine AW_run 80 rfl ?_
        refine AW_icge rfl (fun h7 => ?_) (fun h7 => ?_) (by unfold sk_in; omega) (by unfold sk_in; omega)
        · rw [if_neg (by omega)] at h6
          exact fin p i I' _ e1 h4 (by omega) h6 rfl
        · rw [if_pos (by omega)] at h6
          have tp' : sk_tp I' := ⟨by omega, by omega, fun j g1 g2 => by rw [e2]; exact t2 j g1 (by omega)⟩
          have hb := t2 p (by omega) (by omega)
          have hbk := sk_te_b (I 2) (n := I 1 1) (p := p) (by omega)
          refine AW_run 80 rfl ?_
          refine AW_cV (M' := mX4_at) rfl kkX8_25 lcX4_at rfl rfl rfl rfl rfl rfl (Nat.le_refl _) ?_
          refine c_tape_at p tp' (by omega) ?_
          rw [e2]
          refine AW_run 80 rfl ?_
          refine AW_cS (M' := mX8_isLetter) rfl kkX8_28 lcX8_isLetter rfl rfl rfl (Nat.le_refl _) ?_
          refine c_T_letter _ (by unfold sk_in; omega) (fun g1 g2 => ?_) (fun g => ?_)
          · have hl : sk_ltr (I 2) p = true := by simp [sk_ltr, g1, g2]
            have hs : sk_spb (I 2) p = false := by simp only [sk_spb, decide_eq_false_iff_not]; omega
            rw [if_neg (by rw [hs]; decide)] at h6
            have ete : sk_te (I 2) (I 1 1) p = sk_end (sk_ltr (I 2)) (I 1 1) p := by rw [sk_te, if_pos hl]
            have etk : sk_tk (I 2) (I 1 1) p = sk_wt (I 2) p (sk_end (sk_ltr (I 2)) (I 1 1) p) := by rw [sk_tk, if_pos hl]
            rw [ete] at hbk
            rw [ete, etk] at h6
            refine AW_run 80 rfl ?_
            first | refine AW_e1 rfl ?_ | refine AW_e0 rfl ?_ | refine AW_n1 rfl ?_ | refine AW_n0 rfl ?_
            refine AW_run 80 rfl ?_
            refine AW_cS (M' := mX8_endOfWord) rfl kkX8_32 lcX8_endOfWord rfl rfl rfl (Nat.le_refl _) ?_
            refine c_T_eow (d := d + 4) p tp' (by omega) ?_
            rw [e1, e2]
            refine AW_run 80 rfl ?_
            refine AW_cS (M' := mX8_wordOf) rfl kkX8_36 lcX8_wordOf rfl rfl rfl (Nat.le_refl _) ?_
            refine c_T_wordF (d := d) p _ tp' (by omega) ?_
            rw [e2]
            refine AW_run 80 rfl ?_
            refine AW_cV (M' := mX8_add) rfl kkX8_40 lcX8_add rfl rfl rfl rfl rfl rfl (Nat.le_refl _) ?_
            refine c_T_add _ _ (by omega) ?_
            refine AW_run 80 rfl ?_
            refine AW_lk (ih (sk_end (sk_ltr (I 2)) (I 1 1) p) (i + 1) _ (by rw [sk_ta_o _ _ _ 1 (by decide) (by decide) (by decide)]; exact e1) (by rw [sk_ta_o _ _ _ 2 (by decide) (by decide) (by decide)]; exact e2) (by omega) (by omega) (by omega) (by omega) (by rw [sk_ta_n]; omega) (by rw [sk_ta_n]; omega) h6) ⟨rfl, rfl, rfl, rfl, trivial⟩
          · have hl : ¬ sk_ltr (I 2) p = true := by simp only [sk_ltr, decide_eq_true_eq]; exact g
            refine AW_run 80 rfl ?_
            first | refine AW_e1 rfl ?_ | refine AW_e0 rfl ?_ | refine AW_n1 rfl ?_ | refine AW_n0 rfl ?_
            refine AW_run 80 rfl ?_
            refine AW_cS (M' := mX8_isDigit) rfl kkX8_44 lcX8_isDigit rfl rfl rfl (Nat.le_refl _) ?_
            refine c_T_digit _ (by unfold sk_in; omega) (fun g1 g2 => ?_) (fun g5 => ?_)
            · have hdg : sk_dgt (I 2) p = true := by simp [sk_dgt, g1, g2]
              have hs : sk_spb (I 2) p = false := by simp only [sk_spb, decide_eq_false_iff_not]; omega
              rw [if_neg (by rw [hs]; decide)] at h6
              have ete : sk_te (I 2) (I 1 1) p = sk_end (sk_dgt (I 2)) (I 1 1) p := by rw [sk_te, if_neg hl, if_pos hdg]
              have etk : sk_tk (I 2) (I 1 1) p = sk_nt (I 2) p (sk_end (sk_dgt (I 2)) (I 1 1) p) := by rw [sk_tk, if_neg hl, if_pos hdg]
              rw [ete] at hbk
              rw [ete, etk] at h6
              refine AW_run 80 rfl ?_
              first | refine AW_e1 rfl ?_ | refine AW_e0 rfl ?_ | refine AW_n1 rfl ?_ | refine AW_n0 rfl ?_
              refine AW_run 80 rfl ?_
              refine AW_cS (M' := mX8_endOfNumber) rfl kkX8_47 lcX8_endOfNumber rfl rfl rfl (Nat.le_refl _) ?_
              refine c_T_eon (d := d + 4) p tp' (by omega) ?_
              rw [e1, e2]
              refine AW_run 80 rfl ?_
              refine AW_cS (M' := mX8_numberOf) rfl kkX8_50 lcX8_numberOf rfl rfl rfl (Nat.le_refl _) ?_
              refine c_T_numF (d := d + 4) p _ tp' (by omega) ?_
              rw [e2]
              refine AW_run 80 rfl ?_
              refine AW_cV (M' := mX8_add) rfl kkX8_40 lcX8_add rfl rfl rfl rfl rfl rfl (Nat.le_refl _) ?_
              refine c_T_add _ _ (by omega) ?_
              refine AW_run 80 rfl ?_
              refine AW_lk (ih (sk_end (sk_dgt (I 2)) (I 1 1) p) (i + 1) _ (by rw [sk_ta_o _ _ _ 1 (by decide) (by decide) (by decide)]; exact e1) (by rw [sk_ta_o _ _ _ 2 (by decide) (by decide) (by decide)]; exact e2) (by omega) (by omega) (by omega) (by omega) (by rw [sk_ta_n]; omega) (by rw [sk_ta_n]; omega) h6) ⟨rfl, rfl, rfl, rfl, trivial⟩
            · have hdg : ¬ sk_dgt (I 2) p = true := by simp only [sk_dgt, decide_eq_true_eq]; exact g5
              have ete : sk_te (I 2) (I 1 1) p = p + 1 := by rw [sk_te, if_neg hl, if_neg hdg]
              have etk : sk_tk (I 2) (I 1 1) p = sk_sgn (I 2 p) := by rw [sk_tk, if_neg hl, if_neg hdg]
              refine AW_run 80 rfl ?_
              first | refine AW_e1 rfl ?_ | refine AW_e0 rfl ?_ | refine AW_n1 rfl ?_ | refine AW_n0 rfl ?_
              refine AW_run 80 rfl ?_
              refine AW_iceq rfl (fun g6 => ?_) (fun g6 => ?_) (by unfold sk_in; omega)
              · rw [if_pos (by simp only [sk_spb, decide_eq_true_eq]; omega)] at h6
                refine AW_run 80 rfl ?_
                refine AW_lk (ih (p + 1) (i + 1) I' e1 e2 (by omega) (by omega) (by omega) (by omega) h4 (by omega) h6) ⟨rfl, rfl, rfl, rfl, trivial⟩
              · refine AW_run 80 rfl ?_
                refine AW_iceq rfl (fun g7 => ?_) (fun g7 => ?_) (by unfold sk_in; omega)
                · rw [if_pos (by simp only [sk_spb, decide_eq_true_eq]; omega)] at h6
                  refine AW_run 80 rfl ?_
                  refine AW_lk (ih (p + 1) (i + 1) I' e1 e2 (by omega) (by omega) (by omega) (by omega) h4 (by omega) h6) ⟨rfl, rfl, rfl, rfl, trivial⟩
                · rw [if_neg (by simp only [sk_spb, decide_eq_true_eq]; omega), ete, etk] at h6
                  refine AW_run 80 rfl ?_
                  refine AW_cS (M' := mX8_signOf) rfl kkX8_53 lcX8_signOf rfl rfl rfl (Nat.le_refl _) ?_
                  refine c_T_sign _ (by unfold sk_in; omega) ?_
                  refine AW_run 80 rfl ?_
                  refine AW_cV (M' := mX8_add) rfl kkX8_40 lcX8_add rfl rfl rfl rfl rfl rfl (Nat.le_refl _) ?_
                  refine c_T_add _ _ (by omega) ?_
                  refine AW_run 80 rfl ?_
                  refine AW_lk (ih (p + 1) (i + 1) _ (by rw [sk_ta_o _ _ _ 1 (by decide) (by decide) (by decide)]; exact e1) (by rw [sk_ta_o _ _ _ 2 (by decide) (by decide) (by decide)]; exact e2) (by omega) (by omega) (by omega) (by omega) (by rw [sk_ta_n]; omega) (by rw [sk_ta_n]; omega) h6) ⟨rfl, rfl, rfl, rfl, trivial⟩
  refine AW_run 80 rfl ?_
  exact key 1300 0 0 (sk_uI I 30 2 0) (by rw [sk_uI_o (by decide)]) (sk_uI_o (by decide)) (Int.le_refl _) (Int.le_refl _) t0 (by omega) (by rw [sk_uI_s, sk_up_s]; omega) (by rw [sk_uI_s, sk_up_s]; omega) rfl
end SKT2
end
section
/-! ===== the model's reading of tokens (from is slot 22, to 23, token 24, number 25, textEnd 21; the tape is cell 60) ===== -/
/-- the word from f to e is the model's word w -/
def sk_mw (t : Int → Int) (f e w : Int) : Prop := ((sk_len.getD (1 + w.toNat) 0 : Nat) : Int) = e - f ∧ ∀ k : Int, 0 ≤ k → k < e - f → sk_chr (1 + w.toNat) k = t (f + k)
/-- the model's text is as it should be -/
def sk_tm (I : sk_SI) : Prop := 0 ≤ I 59 21 ∧ I 59 21 ≤ 1200 ∧ ∀ i, 0 ≤ i → i < I 59 21 → 0 ≤ I 60 i ∧ I 60 i ≤ 255
theorem sk_J75 {cu sp io rp tp fp : Nat} {w : Int} (h : 0 ≤ w ∧ w < 16) : sk_J cu sp io rp tp fp 75 w = some (1000 + (1 + w.toNat)) := by
  have : decide (0 ≤ w ∧ w < 16) = true := decide_eq_true h
  show (bif decide (0 ≤ w ∧ w < 16) then some (1001 + w.toNat) else none) = _
  rw [this, cond_true, show 1001 + w.toNat = 1000 + (1 + w.toNat) by omega]
section SKM1
variable {l : Launch} {E : sk_En} {d : Nat} {I : sk_SI} {L : sk_SL} {cu sp io rp tp fp : Nat} {Q : Option sk_V → List sk_Sh → sk_St → Prop} {G : List sk_Sh} {σ : sk_St}
theorem c_M_small (b : Int) (hb : sk_in b) (hT : 97 ≤ b → b ≤ 122 → Q (some (vi 1)) G σ) (hF : ¬ (97 ≤ b ∧ b ≤ 122) → Q (some (vi 0)) G σ) : AW l E d 0 0 mX10_isSmall 0 [some (vi b)] [] G σ Q := by
  refine AW_run 80 rfl ?_
  refine AW_iclt rfl (fun h => ?_) (fun h => ?_)
  · refine AW_run 80 rfl ?_
    exact AW_zret rfl rfl (Or.inl rfl) (hF (by omega))
  · refine AW_run 80 rfl ?_
    refine AW_icgt rfl (fun h2 => ?_) (fun h2 => ?_)
    · refine AW_run 80 rfl ?_
      exact AW_zret rfl rfl (Or.inl rfl) (hF (by omega))
    · refine AW_run 80 rfl ?_
      exact AW_zret rfl rfl (Or.inr rfl) (hT (by omega) (by omega))
theorem c_M_digit (b : Int) (hb : sk_in b) (hT : 48 ≤ b → b ≤ 57 → Q (some (vi 1)) G σ) (hF : ¬ (48 ≤ b ∧ b ≤ 57) → Q (some (vi 0)) G σ) : AW l E d 0 0 mX10_isDigit 0 [some (vi b)] [] G σ Q := by
  refine AW_run 80 rfl ?_
  refine AW_iclt rfl (fun h => ?_) (fun h => ?_)
  · refine AW_run 80 rfl ?_
    exact AW_zret rfl rfl (Or.inl rfl) (hF (by omega))
  · refine AW_run 80 rfl ?_
    refine AW_icgt rfl (fun h2 => ?_) (fun h2 => ?_)
    · refine AW_run 80 rfl ?_
      exact AW_zret rfl rfl (Or.inl rfl) (hF (by omega))
    · refine AW_run 80 rfl ?_
      exact AW_zret rfl rfl (Or.inr rfl) (hT (by omega) (by omega))
theorem c_M_word (ht : sk_tm I) (hf : 0 ≤ I 59 22 ∧ I 59 22 ≤ I 59 23 ∧ I 59 23 ≤ I 59 21) (h1 : ∀ w, 0 ≤ w → w < 16 → sk_mw (I 60) (I 59 22) (I 59 23) w → (∀ v, 0 ≤ v → v < w → ¬ sk_mw (I 60) (I 59 22) (I 59 23) v) → Q (some (vi w)) sk_G (I, L, sk_J cu sp io rp tp fp)) (h2 : (∀ v, 0 ≤ v → v < 16 → ¬ sk_mw (I 60) (I 59 22) (I 59 23) v) → Q (some (vi 25)) sk_G (I, L, sk_J cu sp io rp tp fp)) : AW l E (d + 4) 0 0 mX10_wordOf 0 [some (vr 59), none, none, none] [] sk_G (I, L, sk_J cu sp io rp tp fp) Q := by
  obtain ⟨t0, t1, t2⟩ := ht
  have key : ∀ (m : Nat) (w : Int), 0 ≤ w → w + m = 16 → (∀ v, 0 ≤ v → v < w → ¬ sk_mw (I 60) (I 59 22) (I 59 23) v) → AW l E (d + 4) 0 0 mX10_wordOf 8 [some (vr 59), some (vi w), none, none] [vi 16, vi w] sk_G (I, L, sk_J cu sp io rp tp fp) Q := by
    intro m
    induction m with
    | zero =>
      intro w g0 gw hv
      refine AW_icge rfl (fun h => ?_) (fun h => ?_)
      · refine AW_run 80 rfl ?_
        exact AW_iret rfl rfl (h2 (fun v a b => hv v a (by omega)))
      · omega
    | succ m ih =>
      intro w g0 gw hv
      have hx : 1 + w.toNat < 17 := by omega
      have hj : sk_J cu sp io rp tp fp 75 w = some (1000 + (1 + w.toNat)) := sk_J75 ⟨g0, by omega⟩
      have hln := sk_len_b (1 + w.toNat) hx
      have more : ¬ sk_mw (I 60) (I 59 22) (I 59 23) w → ∀ k : Int, sk_in k → AW l E (d + 4) 0 0 mX10_wordOf 50 [some (vr 59), some (vi w), some (vi 0), some (vi k)] [vi (I 59 23 - I 59 22), vi k] sk_G (I, L, sk_J cu sp io rp tp fp) Q := by
        intro hn k hk
        have nx := ih (w + 1) (by omega) (by omega) (fun v a b => by
          by_cases e : v = w
          · rw [e]; exact hn
          · exact hv v a (by omega))
        refine AW_icge rfl (fun h => ?_) (fun h => ?_)
        · refine AW_run 80 rfl ?_
          first | refine AW_e1 rfl ?_ | refine AW_e0 rfl ?_ | refine AW_n1 rfl ?_ | refine AW_n0 rfl ?_
          refine AW_run 80 rfl ?_
          exact AW_lk nx ⟨rfl, rfl, trivial⟩
        · refine AW_run 80 rfl ?_
          first | refine AW_e1 rfl ?_ | refine AW_e0 rfl ?_ | refine AW_n1 rfl ?_ | refine AW_n0 rfl ?_
          refine AW_run 80 rfl ?_
          first | refine AW_e1 rfl ?_ | refine AW_e0 rfl ?_ | refine AW_n1 rfl ?_ | refine AW_n0 rfl ?_
          refine AW_run 80 rfl ?_
          exact AW_lk nx ⟨rfl, rfl, trivial⟩
      have yes : ((sk_len.getD (1 + w.toNat) 0 : Nat) : Int) = I 59 23 - I 59 22 → ∀ (q : Nat) (k : Int), 0 ≤ k → k + q = I 59 23 - I 59 22 → (∀ j, 0 ≤ j → j < k → sk_chr (1 + w.toNat) j = I 60 (I 59 22 + j)) → AW l E (d + 4) 0 0 mX10_wordOf 50 [some (vr 59), some (vi w), some (vi 1), some (vi k)] [vi (I 59 23 - I 59 22), vi k] sk_G (I, L, sk_J cu sp io rp tp fp) Q := by
        intro hle q
        induction q with
        | zero =>
          intro k k0 kq ka
          refine AW_icge rfl (fun h => ?_) (fun h => ?_)
          · refine AW_run 80 rfl ?_
            first | refine AW_e1 rfl ?_ | refine AW_e0 rfl ?_ | refine AW_n1 rfl ?_ | refine AW_n0 rfl ?_
            refine AW_run 80 rfl ?_
            exact AW_iret rfl rfl (h1 w g0 (by omega) ⟨hle, fun j a b => ka j a (by omega)⟩ hv)
          · omega
        | succ q iq =>
          intro k k0 kq ka
          have hc := sk_chr_b (1 + w.toNat) hx k.toNat (by omega)
          have hc : 0 ≤ sk_chr (1 + w.toNat) k ∧ sk_chr (1 + w.toNat) k < 128 := hc
          have hb := t2 (I 59 22 + k) (by omega) (by omega)
          refine AW_icge rfl (fun h => ?_) (fun h => ?_)
          · omega
          · refine AW_run 80 rfl ?_
            first | refine AW_e1 rfl ?_ | refine AW_e0 rfl ?_ | refine AW_n1 rfl ?_ | refine AW_n0 rfl ?_
            refine AW_run 80 rfl ?_
            refine AW_aald rfl rfl ⟨by omega, by omega⟩ (by decide) hj ?_
            refine AW_run 80 rfl ?_
            refine AW_callX (x := 1 + w.toNat) (M' := mJ0_charAt_5068e) rfl kkX10_194 lcJ0_charAt_5068e rfl hx rfl rfl (Nat.le_refl 2) (Nat.le_refl _) ?_
            refine c_S_charAt (d := d) k hx ⟨k0, by omega⟩ ?_
            refine AW_run 80 rfl ?_
            refine AW_iald rfl rfl ⟨by omega, by omega⟩ (by decide) ?_
            refine AW_icne rfl (fun g => ?_) (fun g => ?_) (by unfold sk_in; omega) (by unfold sk_in; omega)
            · refine AW_run 80 rfl ?_
              exact more (fun z => g (z.2 k k0 (by omega))) (k + 1) (by unfold sk_in; omega)
            · refine AW_run 80 rfl ?_
              exact iq (k + 1) (by omega) (by omega) (fun j a b => by
                by_cases e : j = k
                · rw [e]; exact g
                · exact ka j a (by omega))
      refine AW_icge rfl (fun h => ?_) (fun h => ?_)
      · omega
      · refine AW_run 80 rfl ?_
        refine AW_aald rfl rfl ⟨by omega, by omega⟩ (by decide) hj ?_
        refine AW_callX (x := 1 + w.toNat) (M' := mJ0_length_8abf5) rfl kkX10_184 lcJ0_length_8abf5 rfl hx rfl rfl (Nat.le_refl 1) (Nat.le_refl _) ?_
        refine c_S_length (d := d + 2) hx ?_
        refine AW_run 80 rfl ?_
        refine AW_icne rfl (fun g => ?_) (fun g => ?_) (by unfold sk_in; omega) (by unfold sk_in; omega)
        · refine AW_run 80 rfl ?_
          exact more (fun z => g z.1) 0 sk_in0
        · refine AW_run 80 rfl ?_
          exact yes g (I 59 23 - I 59 22).toNat 0 (Int.le_refl _) (by omega) (fun j a b => by omega)
  refine AW_run 80 rfl ?_
  exact key 16 0 (Int.le_refl _) (by omega) (fun v a b => by omega)
end SKM1
end
section
/-! ===== the model's next() ===== -/
theorem sk_uI_2 {I : sk_SI} {k : Nat} {j a b : Int} : sk_uI (sk_uI I k j a) k j b = sk_uI I k j b := by
  funext k' j'
  by_cases hk : k' = k
  · subst hk
    rw [sk_uI_s, sk_uI_s, sk_uI_s]
    by_cases hj : j' = j
    · subst hj; rw [sk_up_s, sk_up_s]
    · rw [sk_up_o hj, sk_up_o hj, sk_up_o hj]
  · rw [sk_uI_o hk, sk_uI_o hk, sk_uI_o hk]
def sk_mall (t : Int → Int) (f : Int) (x : Nat) : Nat → Bool
  | 0 => true
  | k + 1 => sk_mall t f x k && decide (sk_chr x k = t (f + k))
theorem sk_mall_iff (t : Int → Int) (f : Int) (x : Nat) : ∀ n : Nat, sk_mall t f x n = true ↔ ∀ k : Int, 0 ≤ k → k < n → sk_chr x k = t (f + k)
  | 0 => by
    simp only [sk_mall, true_iff]
    intro k h1 h2
    omega
  | n + 1 => by
    have := sk_mall_iff t f x n
    simp only [sk_mall, Bool.and_eq_true, decide_eq_true_eq, this]
    constructor
    · rintro ⟨h1, h2⟩ k g1 g2
      by_cases e : k = n
      · rw [e]; exact h2
      · exact h1 k g1 (by omega)
    · intro h
      exact ⟨fun k g1 g2 => h k g1 (by omega), h n (by omega) (by omega)⟩
def sk_mwb (t : Int → Int) (f e w : Int) : Bool := decide (((sk_len.getD (1 + w.toNat) 0 : Nat) : Int) = e - f) && sk_mall t f (1 + w.toNat) (e - f).toNat
theorem sk_mw_iff (t : Int → Int) (f e w : Int) (h : f ≤ e) : sk_mw t f e w ↔ sk_mwb t f e w = true := by
  simp only [sk_mw, sk_mwb, Bool.and_eq_true, decide_eq_true_eq, sk_mall_iff]
  constructor
  · rintro ⟨h1, h2⟩
    exact ⟨h1, fun k g1 g2 => h2 k g1 (by omega)⟩
  · rintro ⟨h1, h2⟩
    exact ⟨h1, fun k g1 g2 => h2 k g1 (by omega)⟩
def sk_mfw (t : Int → Int) (f e : Int) : Nat → Int → Int
  | 0, _ => 25
  | m + 1, w => if sk_mwb t f e w = true then w else sk_mfw t f e m (w + 1)
theorem sk_mfw_1 (t : Int → Int) (f e w : Int) (hfe : f ≤ e) (hw : sk_mw t f e w) : ∀ (m : Nat) (i : Int), i ≤ w → w < i + m → (∀ v, i ≤ v → v < w → ¬ sk_mw t f e v) → sk_mfw t f e m i = w
  | 0, i, h1, h2, _ => by omega
  | m + 1, i, h1, h2, h3 => by
    unfold sk_mfw
    by_cases hi : i = w
    · rw [if_pos (by rw [hi]; exact (sk_mw_iff t f e w hfe).mp hw)]; exact hi
    · rw [if_neg (fun z => h3 i (Int.le_refl _) (by omega) ((sk_mw_iff t f e i hfe).mpr z))]
      exact sk_mfw_1 t f e w hfe hw m (i + 1) (by omega) (by omega) (fun v g1 g2 => h3 v (by omega) g2)
theorem sk_mfw_0 (t : Int → Int) (f e : Int) (hfe : f ≤ e) : ∀ (m : Nat) (i : Int), (∀ v, i ≤ v → v < i + m → ¬ sk_mw t f e v) → sk_mfw t f e m i = 25
  | 0, _, _ => rfl
  | m + 1, i, h => by
    unfold sk_mfw
    rw [if_neg (fun z => h i (Int.le_refl _) (by omega) ((sk_mw_iff t f e i hfe).mpr z))]
    exact sk_mfw_0 t f e hfe m (i + 1) (fun v g1 g2 => h v (by omega) (by omega))
/-- the model's token at a place that isn't a space -/
def sk_mtk (t : Int → Int) (n p : Int) : Int := if sk_ltr t p = true then sk_mfw t p (sk_end (sk_ltr t) n p) 16 0 else if sk_dgt t p = true then (if sk_end (sk_dgt t) n p - p ≤ 3 then 20 else 25) else if t p = 123 then 21 else if t p = 125 then 22 else if t p = 59 then 23 else 25
/-- its number -/
def sk_mnu (t : Int → Int) (n p old : Int) : Int := if sk_ltr t p = true then old else if sk_dgt t p = true then (if sk_end (sk_dgt t) n p - p ≤ 3 then sk_nm t p (sk_end (sk_dgt t) n p - p).toNat else 0) else old
/-- the model's cells but 22 .. 25 of its object are as they were -/
def sk_m22 (I I' : sk_SI) : Prop := (∀ j : Int, j ≠ 22 → j ≠ 23 → j ≠ 24 → j ≠ 25 → I' 59 j = I 59 j) ∧ ∀ k : Nat, k ≠ 59 → I' k = I k
/-- what next() leaves -/
def sk_nxs (I I' : sk_SI) : Prop := sk_m22 I I' ∧ I' 59 22 = sk_end (sk_spb (I 60)) (I 59 21) (I 59 23) ∧
  (I' 59 22 = I 59 21 → I' 59 23 = I 59 21 ∧ I' 59 24 = 24 ∧ I' 59 25 = I 59 25) ∧
  (I' 59 22 < I 59 21 → I' 59 23 = sk_te (I 60) (I 59 21) (I' 59 22) ∧ I' 59 24 = sk_mtk (I 60) (I 59 21) (I' 59 22) ∧ I' 59 25 = sk_mnu (I 60) (I 59 21) (I' 59 22) (I 59 25))
section SKM2
variable {l : Launch} {E : sk_En} {d : Nat} {I : sk_SI} {L : sk_SL} {cu sp io rp tp fp : Nat} {Q : Option sk_V → List sk_Sh → sk_St → Prop}
theorem c_M_wordF (ht : sk_tm I) (hf : 0 ≤ I 59 22 ∧ I 59 22 ≤ I 59 23 ∧ I 59 23 ≤ I 59 21) (hq : Q (some (vi (sk_mfw (I 60) (I 59 22) (I 59 23) 16 0))) sk_G (I, L, sk_J cu sp io rp tp fp)) : AW l E (d + 4) 0 0 mX10_wordOf 0 [some (vr 59), none, none, none] [] sk_G (I, L, sk_J cu sp io rp tp fp) Q := by
  refine c_M_word ht hf (fun w h0 h1 h2 h3 => ?_) (fun h => ?_)
  · rwa [sk_mfw_1 _ _ _ w hf.2.1 h2 16 0 h0 (by omega) h3] at hq
  · rwa [sk_mfw_0 _ _ _ hf.2.1 16 0 (fun v g1 g2 => h v g1 (by omega))] at hq
theorem c_M_next (ht : sk_tm I) (hto : 0 ≤ I 59 23 ∧ I 59 23 ≤ I 59 21) (hq : ∀ I', sk_nxs I I' → Q none sk_G (I', L, sk_J cu sp io rp tp fp)) : AW l E (d + 5) 0 0 mX10_next 0 [some (vr 59), none, none] [] sk_G (I, L, sk_J cu sp io rp tp fp) Q := by
  obtain ⟨t0, t1, t2⟩ := ht
  have hfb := sk_end_b (sk_spb (I 60)) (n := I 59 21) (i := I 59 23) hto.2
  generalize hfd : sk_end (sk_spb (I 60)) (I 59 21) (I 59 23) = f at hfb
  -- behind the first byte of a token
  have rest : f < I 59 21 → ∀ S : sk_SI, sk_m22 I S → S 59 22 = f → S 59 23 = f + 1 → S 59 25 = I 59 25 → AW l E (d + 5) 0 0 mX10_next 99 [some (vr 59), some (vi (I 60 f)), none] [vi (I 60 f)] sk_G (S, L, sk_J cu sp io rp tp fp) Q := by
    intro hlt S hS e22 e23 e25
    have e21 : S 59 21 = I 59 21 := hS.1 21 (by decide) (by decide) (by decide) (by decide)
    have e60 : S 60 = I 60 := hS.2 60 (by decide)
    have hb := t2 f (by omega) hlt
    have hte := sk_te_b (I 60) hlt
    refine AW_cS (M' := mX10_isSmall) rfl kkX10_204 lcX10_isSmall rfl rfl rfl (Nat.le_refl _) ?_
    refine c_M_small _ (by unfold sk_in; omega) (fun g1 g2 => ?_) (fun g => ?_)
    · have hl : sk_ltr (I 60) f = true := by simp [sk_ltr, g1, g2]
      have ete : sk_te (I 60) (I 59 21) f = sk_end (sk_ltr (I 60)) (I 59 21) f := by rw [sk_te, if_pos hl]
      have fin : AW l E (d + 5) 0 0 mX10_next 144 [some (vr 59), some (vi (I 60 f)), none] [] sk_G (sk_uI S 59 23 (sk_end (sk_ltr (I 60)) (I 59 21) f), L, sk_J cu sp io rp tp fp) Q := by
        (refine AW_run 80 rfl ?_; (try simp only [sk_uI_s, sk_uI_o, sk_up_s, sk_up_o, sk_uL_s, sk_uL_o, ne_eq, Nat.reduceEqDiff, Nat.reduceAdd, Int.reduceEq, not_false_eq_true]))
        refine AW_cV (M' := mX10_wordOf) rfl kkX10_208 lcX10_wordOf rfl rfl rfl rfl rfl rfl (Nat.le_refl _) ?_
        refine c_M_wordF (d := d) ⟨?_, ?_, ?_⟩ ?_ ?_
        · (try simp only [sk_uI_s, sk_uI_o, sk_up_s, sk_up_o, sk_uL_s, sk_uL_o, ne_eq, Nat.reduceEqDiff, Nat.reduceAdd, Int.reduceEq, not_false_eq_true]); omega
        · (try simp only [sk_uI_s, sk_uI_o, sk_up_s, sk_up_o, sk_uL_s, sk_uL_o, ne_eq, Nat.reduceEqDiff, Nat.reduceAdd, Int.reduceEq, not_false_eq_true]); omega
        · (try simp only [sk_uI_s, sk_uI_o, sk_up_s, sk_up_o, sk_uL_s, sk_uL_o, ne_eq, Nat.reduceEqDiff, Nat.reduceAdd, Int.reduceEq, not_false_eq_true]); rw [e21, e60]; exact t2
        · (try simp only [sk_uI_s, sk_uI_o, sk_up_s, sk_up_o, sk_uL_s, sk_uL_o, ne_eq, Nat.reduceEqDiff, Nat.reduceAdd, Int.reduceEq, not_false_eq_true]); omega
        · (try simp only [sk_uI_s, sk_uI_o, sk_up_s, sk_up_o, sk_uL_s, sk_uL_o, ne_eq, Nat.reduceEqDiff, Nat.reduceAdd, Int.reduceEq, not_false_eq_true])
          refine AW_run 80 rfl ?_
          refine AW_vret rfl rfl (hq _ ⟨⟨fun j a b c e => ?_, fun k hk => ?_⟩, ?_, fun h => ?_, fun h => ?_⟩)
          · (try simp only [sk_uI_s, sk_uI_o, sk_up_s, sk_up_o, sk_uL_s, sk_uL_o, ne_eq, Nat.reduceEqDiff, Nat.reduceAdd, Int.reduceEq, not_false_eq_true])
            rw [sk_up_o c, sk_up_o b]
            exact hS.1 j a b c e
          · rw [sk_uI_o hk, sk_uI_o hk]; exact hS.2 k hk
          · (try simp only [sk_uI_s, sk_uI_o, sk_up_s, sk_up_o, sk_uL_s, sk_uL_o, ne_eq, Nat.reduceEqDiff, Nat.reduceAdd, Int.reduceEq, not_false_eq_true]); rw [e22, hfd]
          · revert h; (try simp only [sk_uI_s, sk_uI_o, sk_up_s, sk_up_o, sk_uL_s, sk_uL_o, ne_eq, Nat.reduceEqDiff, Nat.reduceAdd, Int.reduceEq, not_false_eq_true]); intro h; omega
          · (try simp only [sk_uI_s, sk_uI_o, sk_up_s, sk_up_o, sk_uL_s, sk_uL_o, ne_eq, Nat.reduceEqDiff, Nat.reduceAdd, Int.reduceEq, not_false_eq_true])
            rw [e22, e25, e60]
            refine ⟨by rw [ete], ?_, ?_⟩
            · rw [sk_mtk, if_pos hl]
            · rw [sk_mnu, if_pos hl]
      have key : ∀ (m : Nat) (i : Int), f + 1 ≤ i → i + m = I 59 21 → sk_end (sk_ltr (I 60)) (I 59 21) i = sk_end (sk_ltr (I 60)) (I 59 21) f → AW l E (d + 5) 0 0 mX10_next 113 [some (vr 59), some (vi (I 60 f)), none] [vi (I 59 21), vi i] sk_G (sk_uI S 59 23 i, L, sk_J cu sp io rp tp fp) Q := by
        intro m
        induction m with
        | zero =>
          intro i h0 hi he
          refine AW_icge rfl (fun h => ?_) (fun h => ?_)
          · rw [← he, sk_end_x (by omega)] at fin
            exact fin
          · omega
        | succ m ih =>
          intro i h0 hi he
          refine AW_icge rfl (fun h => ?_) (fun h => ?_)
          · omega
          · have hbi := t2 i (by omega) (by omega)
            (refine AW_run 80 rfl ?_; (try simp only [sk_uI_s, sk_uI_o, sk_up_s, sk_up_o, sk_uL_s, sk_uL_o, ne_eq, Nat.reduceEqDiff, Nat.reduceAdd, Int.reduceEq, not_false_eq_true]))
            refine AW_iald rfl rfl ⟨by omega, by omega⟩ (by decide) ?_
            (try simp only [sk_uI_s, sk_uI_o, sk_up_s, sk_up_o, sk_uL_s, sk_uL_o, ne_eq, Nat.reduceEqDiff, Nat.reduceAdd, Int.reduceEq, not_false_eq_true])
            rw [e60]
            refine AW_cS (M' := mX10_isSmall) rfl kkX10_204 lcX10_isSmall rfl rfl rfl (Nat.le_refl _) ?_
            refine c_M_small _ (by unfold sk_in; omega) (fun k1 k2 => ?_) (fun k3 => ?_)
            · refine AW_run 80 rfl ?_
              first | refine AW_e1 rfl ?_ | refine AW_e0 rfl ?_ | refine AW_n1 rfl ?_ | refine AW_n0 rfl ?_
              (refine AW_run 80 rfl ?_; (try simp only [sk_uI_s, sk_uI_o, sk_up_s, sk_up_o, sk_uL_s, sk_uL_o, ne_eq, Nat.reduceEqDiff, Nat.reduceAdd, Int.reduceEq, not_false_eq_true]))
              rw [sk_uI_2, e21]
              exact ih (i + 1) (by omega) (by omega) (by rw [← he]; exact (sk_end_s (by omega) (by simp [sk_ltr, k1, k2])).symm)
            · refine AW_run 80 rfl ?_
              first | refine AW_e1 rfl ?_ | refine AW_e0 rfl ?_ | refine AW_n1 rfl ?_ | refine AW_n0 rfl ?_
              rw [← he, sk_end_x (by simp only [sk_ltr, decide_eq_true_eq]; omega)] at fin
              exact fin
      refine AW_run 80 rfl ?_
      first | refine AW_e1 rfl ?_ | refine AW_e0 rfl ?_ | refine AW_n1 rfl ?_ | refine AW_n0 rfl ?_
      refine AW_run 80 rfl ?_
      rw [e21, e23]
      have k0 := key (I 59 21 - (f + 1)).toNat (f + 1) (Int.le_refl _) (by omega) (sk_end_s hlt hl).symm
      rw [sk_uI_id e23] at k0
      exact k0
    · have hl : ¬ sk_ltr (I 60) f = true := by simp only [sk_ltr, decide_eq_true_eq]; exact g
      refine AW_run 80 rfl ?_
      first | refine AW_e1 rfl ?_ | refine AW_e0 rfl ?_ | refine AW_n1 rfl ?_ | refine AW_n0 rfl ?_
      refine AW_run 80 rfl ?_
      refine AW_cS (M' := mX10_isDigit) rfl kkX10_211 lcX10_isDigit rfl rfl rfl (Nat.le_refl _) ?_
      refine c_M_digit _ (by unfold sk_in; omega) (fun g1 g2 => ?_) (fun g5 => ?_)
      · have hg : sk_dgt (I 60) f = true := by simp [sk_dgt, g1, g2]
        have ete : sk_te (I 60) (I 59 21) f = sk_end (sk_dgt (I 60)) (I 59 21) f := by rw [sk_te, if_neg hl, if_pos hg]
        rw [ete] at hte
        generalize hed : sk_end (sk_dgt (I 60)) (I 59 21) f = e at ete hte
        -- the end, with the number in its place
        have fin : ∀ v : Int, v = sk_mnu (I 60) (I 59 21) f (I 59 25) → ∀ ls, ls = [some (vr 59), some (vi (I 60 f)), none] → AW l E (d + 5) 0 0 mX10_next 259 ls [] sk_G (sk_uI (sk_uI S 59 23 e) 59 25 v, L, sk_J cu sp io rp tp fp) Q := by
          intro v hv ls hls
          subst hls
          have fin2 : ∀ c : Int, c = sk_mtk (I 60) (I 59 21) f → Q none sk_G (sk_uI (sk_uI (sk_uI S 59 23 e) 59 25 v) 59 24 c, L, sk_J cu sp io rp tp fp) := by
            intro c hc
            refine hq _ ⟨⟨fun j a b c e => ?_, fun k hk => ?_⟩, ?_, fun h => ?_, fun h => ?_⟩
            · (try simp only [sk_uI_s, sk_uI_o, sk_up_s, sk_up_o, sk_uL_s, sk_uL_o, ne_eq, Nat.reduceEqDiff, Nat.reduceAdd, Int.reduceEq, not_false_eq_true])
              rw [sk_up_o c, sk_up_o e, sk_up_o b]
              exact hS.1 j a b c e
            · rw [sk_uI_o hk, sk_uI_o hk, sk_uI_o hk]; exact hS.2 k hk
            · (try simp only [sk_uI_s, sk_uI_o, sk_up_s, sk_up_o, sk_uL_s, sk_uL_o, ne_eq, Nat.reduceEqDiff, Nat.reduceAdd, Int.reduceEq, not_false_eq_true]); rw [e22, hfd]
            · revert h; (try simp only [sk_uI_s, sk_uI_o, sk_up_s, sk_up_o, sk_uL_s, sk_uL_o, ne_eq, Nat.reduceEqDiff, Nat.reduceAdd, Int.reduceEq, not_false_eq_true]); intro h; omega
            · (try simp only [sk_uI_s, sk_uI_o, sk_up_s, sk_up_o, sk_uL_s, sk_uL_o, ne_eq, Nat.reduceEqDiff, Nat.reduceAdd, Int.reduceEq, not_false_eq_true])
              rw [e22]
              exact ⟨ete.symm, hc, hv⟩
          (refine AW_run 80 rfl ?_; (try simp only [sk_uI_s, sk_uI_o, sk_up_s, sk_up_o, sk_uL_s, sk_uL_o, ne_eq, Nat.reduceEqDiff, Nat.reduceAdd, Int.reduceEq, not_false_eq_true]))
          rw [e22]
          refine AW_icgt rfl (fun h => ?_) (fun h => ?_) (by unfold sk_in; omega)
          · refine AW_run 80 rfl ?_
            refine AW_vret rfl rfl (fin2 25 ?_)
            rw [sk_mtk, if_neg hl, if_pos hg, hed, if_neg (by omega)]
          · refine AW_run 80 rfl ?_
            refine AW_vret rfl rfl (fin2 20 ?_)
            rw [sk_mtk, if_neg hl, if_pos hg, hed, if_pos (by omega)]
        have num : e - f ≤ 3 → ∀ (m : Nat) (k : Int), f ≤ k → k + m = e → AW l E (d + 5) 0 0 mX10_next 216 [some (vr 59), some (vi (I 60 f)), some (vi k)] [vi e, vi k] sk_G (sk_uI (sk_uI S 59 23 e) 59 25 (sk_nm (I 60) f (k - f).toNat), L, sk_J cu sp io rp tp fp) Q := by
          intro h3 m
          induction m with
          | zero =>
            intro k h0 hk
            have ek : k = e := by omega
            subst ek
            refine AW_icge rfl (fun h => ?_) (fun h => ?_)
            · refine AW_ls ?_ (fin _ ?_ _ rfl)
              · exact ⟨rfl, rfl, trivial⟩
              · rw [sk_mnu, if_neg hl, if_pos hg, hed, if_pos (by omega)]
            · omega
          | succ m ih =>
            intro k h0 hk
            refine AW_icge rfl (fun h => ?_) (fun h => ?_)
            · omega
            · (refine AW_run 80 rfl ?_; (try simp only [sk_uI_s, sk_uI_o, sk_up_s, sk_up_o, sk_uL_s, sk_uL_o, ne_eq, Nat.reduceEqDiff, Nat.reduceAdd, Int.reduceEq, not_false_eq_true]))
              rw [e22]
              refine AW_icgt rfl (fun h => by omega) (fun h => ?_) (by unfold sk_in; omega)
              (refine AW_run 80 rfl ?_; (try simp only [sk_uI_s, sk_uI_o, sk_up_s, sk_up_o, sk_uL_s, sk_uL_o, ne_eq, Nat.reduceEqDiff, Nat.reduceAdd, Int.reduceEq, not_false_eq_true]))
              refine AW_iald rfl rfl ⟨by omega, by omega⟩ (by decide) ?_
              (try simp only [sk_uI_s, sk_uI_o, sk_up_s, sk_up_o, sk_uL_s, sk_uL_o, ne_eq, Nat.reduceEqDiff, Nat.reduceAdd, Int.reduceEq, not_false_eq_true])
              (refine AW_run 80 rfl ?_; (try simp only [sk_uI_s, sk_uI_o, sk_up_s, sk_up_o, sk_uL_s, sk_uL_o, ne_eq, Nat.reduceEqDiff, Nat.reduceAdd, Int.reduceEq, not_false_eq_true]))
              rw [sk_uI_2, e60]
              have hi := ih (k + 1) (by omega) (by omega)
              rw [show (k + 1 - f).toNat = (k - f).toNat + 1 by omega, sk_nm, show f + ((k - f).toNat : Int) = k by omega, Int.mul_comm] at hi
              exact hi
        have beg : AW l E (d + 5) 0 0 mX10_next 201 [some (vr 59), some (vi (I 60 f)), none] [] sk_G (sk_uI S 59 23 e, L, sk_J cu sp io rp tp fp) Q := by
          (refine AW_run 80 rfl ?_; (try simp only [sk_uI_s, sk_uI_o, sk_up_s, sk_up_o, sk_uL_s, sk_uL_o, ne_eq, Nat.reduceEqDiff, Nat.reduceAdd, Int.reduceEq, not_false_eq_true]))
          rw [e22]
          by_cases h3 : e - f ≤ 3
          · have k0 := num h3 (e - f).toNat f (Int.le_refl _) (by omega)
            rw [Int.sub_self] at k0
            exact k0
          · refine AW_icge rfl (fun h => by omega) (fun h => ?_) (by unfold sk_in; omega) (by unfold sk_in; omega)
            (refine AW_run 80 rfl ?_; (try simp only [sk_uI_s, sk_uI_o, sk_up_s, sk_up_o, sk_uL_s, sk_uL_o, ne_eq, Nat.reduceEqDiff, Nat.reduceAdd, Int.reduceEq, not_false_eq_true]))
            rw [e22]
            refine AW_icgt rfl (fun h => ?_) (fun h => by omega) (by unfold sk_in; omega)
            refine AW_ls ?_ (fin 0 ?_ _ rfl)
            · exact ⟨rfl, rfl, trivial⟩
            · rw [sk_mnu, if_neg hl, if_pos hg, hed, if_neg (by omega)]
        have key : ∀ (m : Nat) (i : Int), f + 1 ≤ i → i + m = I 59 21 → sk_end (sk_dgt (I 60)) (I 59 21) i = e → AW l E (d + 5) 0 0 mX10_next 170 [some (vr 59), some (vi (I 60 f)), none] [vi (I 59 21), vi i] sk_G (sk_uI S 59 23 i, L, sk_J cu sp io rp tp fp) Q := by
          intro m
          induction m with
          | zero =>
            intro i h0 hi he
            refine AW_icge rfl (fun h => ?_) (fun h => ?_)
            · rw [← he, sk_end_x (by omega)] at beg
              exact beg
            · omega
          | succ m ih =>
            intro i h0 hi he
            refine AW_icge rfl (fun h => ?_) (fun h => ?_)
            · omega
            · have hbi := t2 i (by omega) (by omega)
              (refine AW_run 80 rfl ?_; (try simp only [sk_uI_s, sk_uI_o, sk_up_s, sk_up_o, sk_uL_s, sk_uL_o, ne_eq, Nat.reduceEqDiff, Nat.reduceAdd, Int.reduceEq, not_false_eq_true]))
              refine AW_iald rfl rfl ⟨by omega, by omega⟩ (by decide) ?_
              (try simp only [sk_uI_s, sk_uI_o, sk_up_s, sk_up_o, sk_uL_s, sk_uL_o, ne_eq, Nat.reduceEqDiff, Nat.reduceAdd, Int.reduceEq, not_false_eq_true])
              rw [e60]
              refine AW_cS (M' := mX10_isDigit) rfl kkX10_211 lcX10_isDigit rfl rfl rfl (Nat.le_refl _) ?_
              refine c_M_digit _ (by unfold sk_in; omega) (fun k1 k2 => ?_) (fun k3 => ?_)
              · refine AW_run 80 rfl ?_
                first | refine AW_e1 rfl ?_ | refine AW_e0 rfl ?_ | refine AW_n1 rfl ?_ | refine AW_n0 rfl ?_
                (refine AW_run 80 rfl ?_; (try simp only [sk_uI_s, sk_uI_o, sk_up_s, sk_up_o, sk_uL_s, sk_uL_o, ne_eq, Nat.reduceEqDiff, Nat.reduceAdd, Int.reduceEq, not_false_eq_true]))
                rw [sk_uI_2, e21]
                exact ih (i + 1) (by omega) (by omega) (by rw [← he]; exact (sk_end_s (by omega) (by simp [sk_dgt, k1, k2])).symm)
              · refine AW_run 80 rfl ?_
                first | refine AW_e1 rfl ?_ | refine AW_e0 rfl ?_ | refine AW_n1 rfl ?_ | refine AW_n0 rfl ?_
                rw [← he, sk_end_x (by simp only [sk_dgt, decide_eq_true_eq]; omega)] at beg
                exact beg
        refine AW_run 80 rfl ?_
        first | refine AW_e1 rfl ?_ | refine AW_e0 rfl ?_ | refine AW_n1 rfl ?_ | refine AW_n0 rfl ?_
        refine AW_run 80 rfl ?_
        rw [e21, e23]
        have k0 := key (I 59 21 - (f + 1)).toNat (f + 1) (Int.le_refl _) (by omega) (by rw [← hed]; exact (sk_end_s hlt hg).symm)
        rw [sk_uI_id e23] at k0
        exact k0
      · have hg : ¬ sk_dgt (I 60) f = true := by simp only [sk_dgt, decide_eq_true_eq]; exact g5
        have ete : sk_te (I 60) (I 59 21) f = f + 1 := by rw [sk_te, if_neg hl, if_neg hg]
        have fin2 : ∀ c : Int, c = sk_mtk (I 60) (I 59 21) f → Q none sk_G (sk_uI S 59 24 c, L, sk_J cu sp io rp tp fp) := by
          intro c hc
          refine hq _ ⟨⟨fun j a b c e => ?_, fun k hk => ?_⟩, ?_, fun h => ?_, fun h => ?_⟩
          · (try simp only [sk_uI_s, sk_uI_o, sk_up_s, sk_up_o, sk_uL_s, sk_uL_o, ne_eq, Nat.reduceEqDiff, Nat.reduceAdd, Int.reduceEq, not_false_eq_true])
            rw [sk_up_o c]
            exact hS.1 j a b c e
          · rw [sk_uI_o hk]; exact hS.2 k hk
          · (try simp only [sk_uI_s, sk_uI_o, sk_up_s, sk_up_o, sk_uL_s, sk_uL_o, ne_eq, Nat.reduceEqDiff, Nat.reduceAdd, Int.reduceEq, not_false_eq_true]); rw [e22, hfd]
          · revert h; (try simp only [sk_uI_s, sk_uI_o, sk_up_s, sk_up_o, sk_uL_s, sk_uL_o, ne_eq, Nat.reduceEqDiff, Nat.reduceAdd, Int.reduceEq, not_false_eq_true]); intro h; omega
          · (try simp only [sk_uI_s, sk_uI_o, sk_up_s, sk_up_o, sk_uL_s, sk_uL_o, ne_eq, Nat.reduceEqDiff, Nat.reduceAdd, Int.reduceEq, not_false_eq_true])
            rw [e22, e23, e25]
            exact ⟨ete.symm, hc, by rw [sk_mnu, if_neg hl, if_neg hg]⟩
        have em : sk_mtk (I 60) (I 59 21) f = if I 60 f = 123 then 21 else if I 60 f = 125 then 22 else if I 60 f = 59 then 23 else 25 := by rw [sk_mtk, if_neg hl, if_neg hg]
        refine AW_run 80 rfl ?_
        first | refine AW_e1 rfl ?_ | refine AW_e0 rfl ?_ | refine AW_n1 rfl ?_ | refine AW_n0 rfl ?_
        refine AW_run 80 rfl ?_
        refine AW_icne rfl (fun h => ?_) (fun h => ?_) (by unfold sk_in; omega)
        · refine AW_run 80 rfl ?_
          refine AW_icne rfl (fun h2 => ?_) (fun h2 => ?_) (by unfold sk_in; omega)
          · refine AW_run 80 rfl ?_
            refine AW_icne rfl (fun h3 => ?_) (fun h3 => ?_) (by unfold sk_in; omega)
            · refine AW_run 80 rfl ?_
              exact AW_vret rfl rfl (fin2 25 (by rw [em, if_neg h, if_neg h2, if_neg h3]))
            · refine AW_run 80 rfl ?_
              exact AW_vret rfl rfl (fin2 23 (by rw [em, if_neg h, if_neg h2, if_pos h3]))
          · refine AW_run 80 rfl ?_
            exact AW_vret rfl rfl (fin2 22 (by rw [em, if_neg h, if_pos h2]))
        · refine AW_run 80 rfl ?_
          exact AW_vret rfl rfl (fin2 21 (by rw [em, if_pos h]))
  have beh : AW l E (d + 5) 0 0 mX10_next 52 [some (vr 59), none, none] [] sk_G (sk_uI I 59 23 f, L, sk_J cu sp io rp tp fp) Q := by
    (refine AW_run 80 rfl ?_; (try simp only [sk_uI_s, sk_uI_o, sk_up_s, sk_up_o, sk_uL_s, sk_uL_o, ne_eq, Nat.reduceEqDiff, Nat.reduceAdd, Int.reduceEq, not_false_eq_true]))
    refine AW_icne rfl (fun h => ?_) (fun h => ?_) (by unfold sk_in; omega) (by unfold sk_in; omega)
    · (refine AW_run 80 rfl ?_; (try simp only [sk_uI_s, sk_uI_o, sk_up_s, sk_up_o, sk_uL_s, sk_uL_o, ne_eq, Nat.reduceEqDiff, Nat.reduceAdd, Int.reduceEq, not_false_eq_true]))
      refine AW_iald rfl rfl ⟨by omega, by omega⟩ (by decide) ?_
      (try simp only [sk_uI_s, sk_uI_o, sk_up_s, sk_up_o, sk_uL_s, sk_uL_o, ne_eq, Nat.reduceEqDiff, Nat.reduceAdd, Int.reduceEq, not_false_eq_true])
      (refine AW_run 80 rfl ?_; (try simp only [sk_uI_s, sk_uI_o, sk_up_s, sk_up_o, sk_uL_s, sk_uL_o, ne_eq, Nat.reduceEqDiff, Nat.reduceAdd, Int.reduceEq, not_false_eq_true]))
      refine rest (by omega) _ ⟨fun j a b c e => ?_, fun k hk => ?_⟩ ?_ ?_ ?_
      · (try simp only [sk_uI_s, sk_uI_o, sk_up_s, sk_up_o, sk_uL_s, sk_uL_o, ne_eq, Nat.reduceEqDiff, Nat.reduceAdd, Int.reduceEq, not_false_eq_true])
        rw [sk_up_o b, sk_up_o a, sk_up_o b]
      · rw [sk_uI_o hk, sk_uI_o hk, sk_uI_o hk]
      · (try simp only [sk_uI_s, sk_uI_o, sk_up_s, sk_up_o, sk_uL_s, sk_uL_o, ne_eq, Nat.reduceEqDiff, Nat.reduceAdd, Int.reduceEq, not_false_eq_true])
      · (try simp only [sk_uI_s, sk_uI_o, sk_up_s, sk_up_o, sk_uL_s, sk_uL_o, ne_eq, Nat.reduceEqDiff, Nat.reduceAdd, Int.reduceEq, not_false_eq_true])
      · (try simp only [sk_uI_s, sk_uI_o, sk_up_s, sk_up_o, sk_uL_s, sk_uL_o, ne_eq, Nat.reduceEqDiff, Nat.reduceAdd, Int.reduceEq, not_false_eq_true])
    · (refine AW_run 80 rfl ?_; (try simp only [sk_uI_s, sk_uI_o, sk_up_s, sk_up_o, sk_uL_s, sk_uL_o, ne_eq, Nat.reduceEqDiff, Nat.reduceAdd, Int.reduceEq, not_false_eq_true]))
      refine AW_vret rfl rfl (hq _ ⟨⟨fun j a b c e => ?_, fun k hk => ?_⟩, ?_, fun _ => ?_, fun g => ?_⟩)
      · (try simp only [sk_uI_s, sk_uI_o, sk_up_s, sk_up_o, sk_uL_s, sk_uL_o, ne_eq, Nat.reduceEqDiff, Nat.reduceAdd, Int.reduceEq, not_false_eq_true])
        rw [sk_up_o c, sk_up_o a, sk_up_o b]
      · rw [sk_uI_o hk, sk_uI_o hk, sk_uI_o hk]
      · (try simp only [sk_uI_s, sk_uI_o, sk_up_s, sk_up_o, sk_uL_s, sk_uL_o, ne_eq, Nat.reduceEqDiff, Nat.reduceAdd, Int.reduceEq, not_false_eq_true]); rw [hfd]
      · (try simp only [sk_uI_s, sk_uI_o, sk_up_s, sk_up_o, sk_uL_s, sk_uL_o, ne_eq, Nat.reduceEqDiff, Nat.reduceAdd, Int.reduceEq, not_false_eq_true]); exact ⟨h, trivial, trivial⟩
      · revert g; (try simp only [sk_uI_s, sk_uI_o, sk_up_s, sk_up_o, sk_uL_s, sk_uL_o, ne_eq, Nat.reduceEqDiff, Nat.reduceAdd, Int.reduceEq, not_false_eq_true]); intro g; omega
  have skip : ∀ (m : Nat) (i : Int), I 59 23 ≤ i → i + m = I 59 21 → sk_end (sk_spb (I 60)) (I 59 21) i = f → AW l E (d + 5) 0 0 mX10_next 8 [some (vr 59), none, none] [vi (I 59 21), vi i] sk_G (sk_uI I 59 23 i, L, sk_J cu sp io rp tp fp) Q := by
    intro m
    induction m with
    | zero =>
      intro i h0 hi he
      refine AW_icge rfl (fun h => ?_) (fun h => ?_)
      · rw [← he, sk_end_x (by omega)] at beh
        exact beh
      · omega
    | succ m ih =>
      intro i h0 hi he
      refine AW_icge rfl (fun h => ?_) (fun h => ?_)
      · omega
      · have hbi := t2 i (by omega) (by omega)
        have adv : (I 60 i = 32 ∨ I 60 i = 10) → AW l E (d + 5) 0 0 mX10_next 39 [some (vr 59), none, none] [] sk_G (sk_uI I 59 23 i, L, sk_J cu sp io rp tp fp) Q := by
          intro hsp
          (refine AW_run 80 rfl ?_; (try simp only [sk_uI_s, sk_uI_o, sk_up_s, sk_up_o, sk_uL_s, sk_uL_o, ne_eq, Nat.reduceEqDiff, Nat.reduceAdd, Int.reduceEq, not_false_eq_true]))
          rw [sk_uI_2]
          exact ih (i + 1) (by omega) (by omega) (by rw [← he]; exact (sk_end_s (by omega) (by simp [sk_spb, hsp])).symm)
        (refine AW_run 80 rfl ?_; (try simp only [sk_uI_s, sk_uI_o, sk_up_s, sk_up_o, sk_uL_s, sk_uL_o, ne_eq, Nat.reduceEqDiff, Nat.reduceAdd, Int.reduceEq, not_false_eq_true]))
        refine AW_iald rfl rfl ⟨by omega, by omega⟩ (by decide) ?_
        (try simp only [sk_uI_s, sk_uI_o, sk_up_s, sk_up_o, sk_uL_s, sk_uL_o, ne_eq, Nat.reduceEqDiff, Nat.reduceAdd, Int.reduceEq, not_false_eq_true])
        refine AW_run 80 rfl ?_
        refine AW_iceq rfl (fun h1 => ?_) (fun h1 => ?_) (by unfold sk_in; omega)
        · exact adv (Or.inl h1)
        · (refine AW_run 80 rfl ?_; (try simp only [sk_uI_s, sk_uI_o, sk_up_s, sk_up_o, sk_uL_s, sk_uL_o, ne_eq, Nat.reduceEqDiff, Nat.reduceAdd, Int.reduceEq, not_false_eq_true]))
          refine AW_iald rfl rfl ⟨by omega, by omega⟩ (by decide) ?_
          (try simp only [sk_uI_s, sk_uI_o, sk_up_s, sk_up_o, sk_uL_s, sk_uL_o, ne_eq, Nat.reduceEqDiff, Nat.reduceAdd, Int.reduceEq, not_false_eq_true])
          refine AW_run 80 rfl ?_
          refine AW_icne rfl (fun h2 => ?_) (fun h2 => ?_) (by unfold sk_in; omega)
          · rw [← he, sk_end_x (by simp only [sk_spb, decide_eq_true_eq]; omega)] at beh
            exact beh
          · exact adv (Or.inr h2)
  refine AW_run 80 rfl ?_
  have k0 := skip (I 59 21 - I 59 23).toNat (I 59 23) (Int.le_refl _) (by omega) hfd
  rw [sk_uI_id rfl] at k0
  exact k0
end SKM2
end
section
/-! ===== Reader: broken, take, readNumber; the model's wrong, must, numberTo ===== -/
/-- the token at a number -/
def sk_tok (I : sk_SI) (i : Int) : Int := if 0 ≤ i ∧ i < I 30 2 then I 31 i else 20
/-- the tokens are as they should be, and the reader stands somewhere -/
def sk_tv (I : sk_SI) : Prop := 0 ≤ I 30 2 ∧ I 30 2 ≤ 1201 ∧ (∀ i, 0 ≤ i → i < I 30 2 → 0 ≤ I 31 i ∧ I 31 i ≤ 1099) ∧ 0 ≤ I 29 3 ∧ I 29 3 ≤ 1300
def sk_bk (I : sk_SI) (k t : Int) : sk_SI := sk_uI (sk_uI I 29 5 k) 29 4 t
theorem sk_tok_b {I : sk_SI} (h : sk_tv I) (i : Int) : 0 ≤ sk_tok I i ∧ sk_tok I i ≤ 1099 := by
  unfold sk_tok
  split
  · rename_i hc; exact h.2.2.1 i hc.1 hc.2
  · omega
section SKR1
variable {l : Launch} {E : sk_En} {d : Nat} {I : sk_SI} {L : sk_SL} {cu sp io rp tp fp : Nat} {Q : Option sk_V → List sk_Sh → sk_St → Prop}
theorem c_T_tok (i : Int) (h : sk_tv I) (hi : sk_in i) (hq : Q (some (vi (sk_tok I i))) sk_G (I, L, sk_J cu sp io rp tp fp)) : AW l E d 0 0 mX8_tokenAt 0 [some (vr 30), some (vi i)] [] sk_G (I, L, sk_J cu sp io rp tp fp) Q := by
  unfold sk_tok at hq
  refine c_T_tokenAt i hi ⟨h.1, h.2.1⟩ (fun a b => ?_) (fun a => ?_)
  · rwa [if_pos ⟨a, b⟩] at hq
  · rwa [if_neg a] at hq
theorem c_R_broken (k t : Int) (hq : Q (some (vi (-2))) sk_G (sk_bk I k t, L, sk_J cu sp io rp tp fp)) : AW l E d 0 0 mX3_broken 0 [some (vr 29), some (vi k), some (vi t)] [] sk_G (I, L, sk_J cu sp io rp tp fp) Q := by
  refine AW_run 80 rfl ?_
  exact AW_iret rfl rfl hq
theorem c_R_take (due : Int) (h : sk_tv I) (hd : sk_in due) (hT : sk_tok I (I 29 3) = due → Q (some (vi 1)) sk_G (sk_uI I 29 3 (I 29 3 + 1), L, sk_J cu sp io rp tp fp)) (hF : sk_tok I (I 29 3) ≠ due → Q (some (vi 0)) sk_G (sk_bk I 1 (I 29 3), L, sk_J cu sp io rp tp fp)) : AW l E (d + 1) 0 0 mX3_take 0 [some (vr 29), some (vi due)] [] sk_G (I, L, sk_J cu sp io rp tp fp) Q := by
  have hb := sk_tok_b h (I 29 3)
  have h3 := h.2.2.2
  refine AW_run 80 rfl ?_
  refine AW_cV (M' := mX8_tokenAt) rfl kkX3_46 lcX8_tokenAt rfl rfl rfl rfl rfl rfl (Nat.le_refl _) ?_
  refine c_T_tok _ h (by unfold sk_in; omega) ?_
  refine AW_run 80 rfl ?_
  refine AW_iceq rfl (fun g => ?_) (fun g => ?_) (by unfold sk_in; omega)
  · refine AW_run 80 rfl ?_
    exact AW_zret rfl rfl (Or.inr rfl) (hT g)
  · refine AW_run 80 rfl ?_
    refine AW_cV (M' := mX3_broken) rfl kkX3_69 lcX3_broken rfl rfl rfl rfl rfl rfl (Nat.le_refl _) ?_
    refine c_R_broken _ _ ?_
    refine AW_run 80 rfl ?_
    exact AW_zret rfl rfl (Or.inl rfl) (hF g)
theorem c_R_num (most : Int) (h : sk_tv I) (hm : 0 ≤ most ∧ most ≤ 999) (h1 : sk_tok I (I 29 3) < 100 → Q (some (vi (-2))) sk_G (sk_bk I 1 (I 29 3), L, sk_J cu sp io rp tp fp)) (h2 : 100 + most < sk_tok I (I 29 3) → Q (some (vi (-2))) sk_G (sk_bk I 2 (I 29 3), L, sk_J cu sp io rp tp fp)) (h3 : 100 ≤ sk_tok I (I 29 3) → sk_tok I (I 29 3) ≤ 100 + most → Q (some (vi (sk_tok I (I 29 3) - 100))) sk_G (sk_uI I 29 3 (I 29 3 + 1), L, sk_J cu sp io rp tp fp)) : AW l E (d + 1) 0 0 mX3_readNumber 0 [some (vr 29), some (vi most), none] [] sk_G (I, L, sk_J cu sp io rp tp fp) Q := by
  have hb := sk_tok_b h (I 29 3)
  have h4 := h.2.2.2
  refine AW_run 80 rfl ?_
  refine AW_cV (M' := mX8_tokenAt) rfl kkX3_46 lcX8_tokenAt rfl rfl rfl rfl rfl rfl (Nat.le_refl _) ?_
  refine c_T_tok _ h (by unfold sk_in; omega) ?_
  refine AW_run 80 rfl ?_
  refine AW_ifge rfl (fun g => ?_) (fun g => ?_) (by unfold sk_in; omega)
  · refine AW_run 80 rfl ?_
    refine AW_icle rfl (fun g2 => ?_) (fun g2 => ?_) (by unfold sk_in; omega) (by unfold sk_in; omega)
    · refine AW_run 80 rfl ?_
      exact AW_iret rfl rfl (h3 (by omega) (by omega))
    · refine AW_run 80 rfl ?_
      refine AW_cV (M' := mX3_broken) rfl kkX3_69 lcX3_broken rfl rfl rfl rfl rfl rfl (Nat.le_refl _) ?_
      refine c_R_broken _ _ ?_
      exact AW_iret rfl rfl (h2 (by omega))
  · refine AW_run 80 rfl ?_
    refine AW_cV (M' := mX3_broken) rfl kkX3_69 lcX3_broken rfl rfl rfl rfl rfl rfl (Nat.le_refl _) ?_
    refine c_R_broken _ _ ?_
    exact AW_iret rfl rfl (h1 (by omega))
/-- a fault of the model: only the first counts -/
def sk_mwr (I : sk_SI) (k : Int) : sk_SI := if I 59 26 = 0 then sk_uI (sk_uI I 59 26 k) 59 27 (I 59 22) else I
theorem c_M_wrong (k : Int) (h : sk_in (I 59 26)) (hq : Q none sk_G (sk_mwr I k, L, sk_J cu sp io rp tp fp)) : AW l E d 0 0 mX10_wrong 0 [some (vr 59), some (vi k)] [] sk_G (I, L, sk_J cu sp io rp tp fp) Q := by
  unfold sk_mwr at hq
  refine AW_run 80 rfl ?_
  refine AW_ifne rfl (fun g => ?_) (fun g => ?_) h
  · rw [if_neg g] at hq
    exact AW_vret rfl rfl hq
  · rw [if_pos g] at hq
    (refine AW_run 80 rfl ?_; (try simp only [sk_uI_s, sk_uI_o, sk_up_s, sk_up_o, sk_uL_s, sk_uL_o, ne_eq, Nat.reduceEqDiff, Nat.reduceAdd, Int.reduceEq, not_false_eq_true]))
    exact AW_vret rfl rfl hq
theorem c_M_must (k : Int) (ht : sk_tm I) (hto : 0 ≤ I 59 23 ∧ I 59 23 ≤ I 59 21) (h : sk_in (I 59 26)) (hk : sk_in k) (h24 : sk_in (I 59 24)) (h1 : I 59 26 = 0 → I 59 24 = k → ∀ I', sk_nxs I I' → Q none sk_G (I', L, sk_J cu sp io rp tp fp)) (h2 : ¬ (I 59 26 = 0 ∧ I 59 24 = k) → Q none sk_G (sk_mwr I 1, L, sk_J cu sp io rp tp fp)) : AW l E (d + 6) 0 0 mX10_must 0 [some (vr 59), some (vi k)] [] sk_G (I, L, sk_J cu sp io rp tp fp) Q := by
  have bad : ¬ (I 59 26 = 0 ∧ I 59 24 = k) → AW l E (d + 6) 0 0 mX10_must 22 [some (vr 59), some (vi k)] [] sk_G (I, L, sk_J cu sp io rp tp fp) Q := by
    intro g
    refine AW_run 80 rfl ?_
    refine AW_cV (M' := mX10_wrong) rfl kkX10_226 lcX10_wrong rfl rfl rfl rfl rfl rfl (Nat.le_refl _) ?_
    refine c_M_wrong 1 h ?_
    exact AW_vret rfl rfl (h2 g)
  refine AW_run 80 rfl ?_
  refine AW_ifne rfl (fun g => ?_) (fun g => ?_) h
  · exact bad (by omega)
  · refine AW_run 80 rfl ?_
    refine AW_icne rfl (fun g2 => ?_) (fun g2 => ?_) h24 hk
    · exact bad (by omega)
    · refine AW_run 80 rfl ?_
      refine AW_cV (M' := mX10_next) rfl kkX10_223 lcX10_next rfl rfl rfl rfl rfl rfl (Nat.le_refl _) ?_
      refine c_M_next (d := d) ht hto (fun I' hI => ?_)
      refine AW_run 80 rfl ?_
      exact AW_vret rfl rfl (h1 g g2 I' hI)
theorem c_M_num (most : Int) (ht : sk_tm I) (hto : 0 ≤ I 59 23 ∧ I 59 23 ≤ I 59 21) (h : sk_in (I 59 26)) (hm : sk_in most) (h24 : sk_in (I 59 24)) (h25 : sk_in (I 59 25)) (h1 : I 59 26 = 0 → I 59 24 = 20 → I 59 25 ≤ most → ∀ I', sk_nxs I I' → Q (some (vi (I 59 25))) sk_G (I', L, sk_J cu sp io rp tp fp)) (h2 : ¬ (I 59 26 = 0 ∧ I 59 24 = 20 ∧ I 59 25 ≤ most) → Q (some (vi 0)) sk_G (sk_mwr I (if I 59 24 = 20 then 2 else 1), L, sk_J cu sp io rp tp fp)) : AW l E (d + 6) 0 0 mX10_numberTo 0 [some (vr 59), some (vi most), none] [] sk_G (I, L, sk_J cu sp io rp tp fp) Q := by
  have bad : ¬ (I 59 26 = 0 ∧ I 59 24 = 20 ∧ I 59 25 ≤ most) → AW l E (d + 6) 0 0 mX10_numberTo 35 [some (vr 59), some (vi most), none] [] sk_G (I, L, sk_J cu sp io rp tp fp) Q := by
    intro g
    have h2 := h2 g
    refine AW_run 80 rfl ?_
    refine AW_icne rfl (fun g2 => ?_) (fun g2 => ?_) h24
    · rw [if_neg g2] at h2
      refine AW_run 80 rfl ?_
      refine AW_cV (M' := mX10_wrong) rfl kkX10_226 lcX10_wrong rfl rfl rfl rfl rfl rfl (Nat.le_refl _) ?_
      refine c_M_wrong 1 h ?_
      refine AW_run 80 rfl ?_
      exact AW_iret rfl rfl h2
    · rw [if_pos g2] at h2
      refine AW_run 80 rfl ?_
      refine AW_cV (M' := mX10_wrong) rfl kkX10_226 lcX10_wrong rfl rfl rfl rfl rfl rfl (Nat.le_refl _) ?_
      refine c_M_wrong 2 h ?_
      refine AW_run 80 rfl ?_
      exact AW_iret rfl rfl h2
  refine AW_run 80 rfl ?_
  refine AW_ifne rfl (fun g => ?_) (fun g => ?_) h
  · exact bad (by omega)
  · refine AW_run 80 rfl ?_
    refine AW_icne rfl (fun g2 => ?_) (fun g2 => ?_) h24
    · exact bad (by omega)
    · refine AW_run 80 rfl ?_
      refine AW_icgt rfl (fun g3 => ?_) (fun g3 => ?_) h25 hm
      · exact bad (by omega)
      · refine AW_run 80 rfl ?_
        refine AW_cV (M' := mX10_next) rfl kkX10_223 lcX10_next rfl rfl rfl rfl rfl rfl (Nat.le_refl _) ?_
        refine c_M_next (d := d) ht hto (fun I' hI => ?_)
        refine AW_run 80 rfl ?_
        exact AW_iret rfl rfl (h1 g g2 (by omega) I' hI)
end SKR1
end
section
/-! ===== both sides read the same tokens ===== -/
/-- the class's word in the model's numbering -/
def sk_wp (w : Int) : Int := if w = 13 then 14 else if w = 14 then 15 else if w = 15 then 13 else w
def sk_wpn (w : Nat) : Nat := if w = 13 then 14 else if w = 14 then 15 else if w = 15 then 13 else w
theorem sk_wp_n (w : Nat) : sk_wp w = (sk_wpn w : Nat) := by
  unfold sk_wp sk_wpn
  by_cases h1 : w = 13
  · subst h1; rfl
  · by_cases h2 : w = 14
    · subst h2; rfl
    · by_cases h3 : w = 15
      · subst h3; rfl
      · rw [if_neg (by omega), if_neg (by omega), if_neg (by omega), if_neg h1, if_neg h2, if_neg h3]
theorem sk_wtab : ∀ w, w < 16 → (1 ≤ sk_len.getD (1 + sk_wpn w) 0 ∧ sk_len.getD (1 + sk_wpn w) 0 ≤ 6 ∧ ∀ k, k < 6 → if k < sk_len.getD (1 + sk_wpn w) 0 then ((sk_byt.getD 0 []).getD (w * 6 + k) 0 = (sk_byt.getD (1 + sk_wpn w) []).getD k 0 ∧ (sk_byt.getD (1 + sk_wpn w) []).getD k 0 ≠ 32) else (sk_byt.getD 0 []).getD (w * 6 + k) 0 = 32) := by decide +kernel
theorem sk_wuni : ∀ v, v < 16 → ∀ w, w < 16 → v ≠ w → (sk_len.getD (1 + v) 0 ≠ sk_len.getD (1 + w) 0 ∨ ∃ k, k < 6 ∧ (k < sk_len.getD (1 + v) 0 ∧ (sk_byt.getD (1 + v) []).getD k 0 ≠ (sk_byt.getD (1 + w) []).getD k 0)) := by decide +kernel
theorem sk_isw_mw (t : Int → Int) (f e : Int) (hl : ∀ i, f ≤ i → i < e → 97 ≤ t i ∧ t i ≤ 122) (h0 : f ≤ e) (h6 : e - f ≤ 6) (w : Int) (hw : 0 ≤ w ∧ w < 16) : sk_isw t f e w ↔ sk_mw t f e (sk_wp w) := by
  obtain ⟨n, rfl⟩ := Int.eq_ofNat_of_zero_le hw.1
  have hn : n < 16 := by omega
  obtain ⟨l1, l2, tab⟩ := sk_wtab n hn
  rw [sk_wp_n]
  generalize hln : sk_len.getD (1 + sk_wpn n) 0 = len at l1 l2 tab
  have cA : ∀ k : Nat, k < 6 → k < len → sk_chr 0 ((n : Int) * 6 + k) = sk_chr (1 + sk_wpn n) k ∧ sk_chr (1 + sk_wpn n) k ≠ 32 := by
    intro k h1 h2
    have := tab k h1
    rw [if_pos h2] at this
    unfold sk_chr
    rw [show ((n : Int) * 6 + k).toNat = n * 6 + k by omega, Int.toNat_natCast, this.1]
    exact ⟨rfl, fun z => this.2 (Int32.toInt_inj.mp z)⟩
  have cB : ∀ k : Nat, k < 6 → ¬ k < len → sk_chr 0 ((n : Int) * 6 + k) = 32 := by
    intro k h1 h2
    have := tab k h1
    rw [if_neg h2] at this
    unfold sk_chr
    rw [show ((n : Int) * 6 + k).toNat = n * 6 + k by omega, this]
    rfl
  unfold sk_mw
  rw [Int.toNat_natCast, hln]
  constructor
  · intro h
    have hle : (len : Int) = e - f := by
      by_cases g : (len : Int) < e - f
      · have h1 := h len (by omega) (by omega)
        rw [cB len (by omega) (by omega), sk_pad, if_pos (by omega)] at h1
        have := hl (f + len) (by omega) (by omega)
        omega
      · by_cases g2 : e - f < len
        · have h1 := h (e - f) (by omega) (by omega)
          have h2 := cA (e - f).toNat (by omega) (by omega)
          rw [show (((e - f).toNat : Nat) : Int) = e - f by omega] at h2
          rw [sk_pad, if_neg (by omega)] at h1
          exact absurd (h2.1.symm.trans h1) h2.2
        · omega
    refine ⟨hle, fun k g1 g2 => ?_⟩
    have h1 := h k g1 (by omega)
    have h2 := cA k.toNat (by omega) (by omega)
    rw [show ((k.toNat : Nat) : Int) = k by omega] at h2
    rw [sk_pad, if_pos (by omega)] at h1
    rw [← h2.1, h1]
  · rintro ⟨hle, h⟩ k g1 g2
    by_cases g : k < len
    · have h2 := cA k.toNat (by omega) (by omega)
      rw [show ((k.toNat : Nat) : Int) = k by omega] at h2
      rw [sk_pad, if_pos (by omega), h2.1]
      exact h k g1 (by omega)
    · have h2 := cB k.toNat (by omega) (by omega)
      rw [show ((k.toNat : Nat) : Int) = k by omega] at h2
      rw [sk_pad, if_neg (by omega), h2]
theorem sk_mw_uni (t : Int → Int) (f e v w : Int) (hv : 0 ≤ v ∧ v < 16) (hw : 0 ≤ w ∧ w < 16) (h1 : sk_mw t f e v) (h2 : sk_mw t f e w) : v = w := by
  obtain ⟨a, rfl⟩ := Int.eq_ofNat_of_zero_le hv.1
  obtain ⟨b, rfl⟩ := Int.eq_ofNat_of_zero_le hw.1
  unfold sk_mw at h1 h2
  rw [Int.toNat_natCast] at h1 h2
  by_cases hab : a = b
  · rw [hab]
  · rcases sk_wuni a (by omega) b (by omega) hab with g | ⟨k, g1, g2, g3⟩
    · exact absurd (by omega) g
    · have e1 := h1.2 k (by omega) (by omega)
      have e2 := h2.2 k (by omega) (by omega)
      have e3 : sk_chr (1 + a) k = sk_chr (1 + b) k := e1.trans e2.symm
      unfold sk_chr at e3
      rw [Int.toNat_natCast] at e3
      exact absurd (Int32.toInt_inj.mp e3) g3
theorem sk_wp_b {w : Int} (h : 0 ≤ w ∧ w < 16) : 0 ≤ sk_wp w ∧ sk_wp w < 16 := by
  unfold sk_wp
  split
  · omega
  · split
    · omega
    · split <;> omega
/-- the class's token in the model's numbering -/
def sk_c2m (c : Int) : Int := if c < 16 then sk_wp c else if c = 16 then 21 else if c = 17 then 22 else if c = 18 then 23 else if c = 19 then 25 else if c = 20 then 24 else 20
theorem sk_word_rel (t : Int → Int) (f e : Int) (hl : ∀ i, f ≤ i → i < e → 97 ≤ t i ∧ t i ≤ 122) (h0 : f ≤ e) : sk_mfw t f e 16 0 = sk_c2m (sk_wt t f e) ∧ 0 ≤ sk_wt t f e ∧ sk_wt t f e ≤ 19 := by
  have none_ : (∀ v, 0 ≤ v → v < 16 → ¬ sk_mw t f e v) → sk_mfw t f e 16 0 = 25 := fun h => sk_mfw_0 t f e h0 16 0 (fun v a b => h v a (by omega))
  by_cases h6 : 6 < e - f
  · have : sk_wt t f e = 19 := by rw [sk_wt, if_pos h6]
    rw [this]
    refine ⟨none_ (fun v a b hm => ?_), by omega, by omega⟩
    obtain ⟨n, rfl⟩ := Int.eq_ofNat_of_zero_le a
    have hle := hm.1
    rw [Int.toNat_natCast] at hle
    have tb : ∀ n, n < 16 → sk_len.getD (1 + n) 0 ≤ 6 := by decide +kernel
    have := tb n (by omega)
    omega
  · have hwt : sk_wt t f e = sk_fw t f e 16 0 := by rw [sk_wt, if_neg h6]
    by_cases hx : ∃ w : Nat, w < 16 ∧ sk_isw t f e w
    · obtain ⟨w, ⟨hw1, hw2⟩, hmin⟩ := pk_least (fun w : Nat => w < 16 ∧ sk_isw t f e w) hx
      have efw : sk_fw t f e 16 0 = (w : Int) := sk_fw_1 t f e w hw2 16 0 (by omega) (by omega) (fun v a b hv => by
        obtain ⟨n, rfl⟩ := Int.eq_ofNat_of_zero_le a
        exact hmin n (by omega) ⟨by omega, hv⟩)
      have hmw := (sk_isw_mw t f e hl h0 (by omega) w ⟨by omega, by omega⟩).mp hw2
      have hb := sk_wp_b (w := w) ⟨by omega, by omega⟩
      rw [hwt, efw]
      refine ⟨?_, by omega, by omega⟩
      rw [sk_c2m, if_pos (by omega)]
      exact sk_mfw_1 t f e _ h0 hmw 16 0 hb.1 (by omega) (fun v a b hv => by
        have := sk_mw_uni t f e v (sk_wp w) ⟨a, by omega⟩ hb hv hmw
        omega)
    · have efw : sk_fw t f e 16 0 = 19 := sk_fw_0 t f e 16 0 (fun v a b hv => by
        obtain ⟨n, rfl⟩ := Int.eq_ofNat_of_zero_le a
        exact hx ⟨n, by omega, hv⟩)
      rw [hwt, efw]
      refine ⟨none_ (fun v a b hm => ?_), by omega, by omega⟩
      have inv : ∀ v : Int, 0 ≤ v → v < 16 → ∃ u : Int, 0 ≤ u ∧ u < 16 ∧ sk_wp u = v := by
        intro v a b
        by_cases e1 : v = 14
        · exact ⟨13, by omega, by omega, by rw [e1]; rfl⟩
        · by_cases e2 : v = 15
          · exact ⟨14, by omega, by omega, by rw [e2]; rfl⟩
          · by_cases e3 : v = 13
            · exact ⟨15, by omega, by omega, by rw [e3]; rfl⟩
            · exact ⟨v, a, b, by rw [sk_wp, if_neg e3, if_neg e1, if_neg e2]⟩
      obtain ⟨u, u1, u2, u3⟩ := inv v a b
      have := (sk_isw_mw t f e hl h0 (by omega) u ⟨u1, u2⟩).mpr (by rw [u3]; exact hm)
      obtain ⟨n, rfl⟩ := Int.eq_ofNat_of_zero_le u1
      exact hx ⟨n, by omega, this⟩
theorem sk_nm_b (t : Int → Int) (f : Int) (k : Nat) (hk : k ≤ 3) (hd : ∀ j : Nat, j < k → 48 ≤ t (f + j) ∧ t (f + j) ≤ 57) : 0 ≤ sk_nm t f k ∧ sk_nm t f k ≤ 999 := by
  match k, hk, hd with
  | 0, _, _ => exact ⟨Int.le_refl _, by show (0 : Int) ≤ 999; omega⟩
  | 1, _, hd =>
    have a := hd 0 (by omega)
    simp only [sk_nm]
    omega
  | 2, _, hd =>
    have a := hd 0 (by omega)
    have b := hd 1 (by omega)
    simp only [sk_nm]
    omega
  | 3, _, hd =>
    have a := hd 0 (by omega)
    have b := hd 1 (by omega)
    have c := hd 2 (by omega)
    simp only [sk_nm]
    omega
/-- the tokens at a place: the same for both -/
theorem sk_tk_rel (t : Int → Int) (n p old : Int) (hp : 0 ≤ p ∧ p < n) : sk_mtk t n p = sk_c2m (sk_tk t n p) ∧ 0 ≤ sk_tk t n p ∧ sk_tk t n p ≤ 1099 ∧ sk_tk t n p ≠ 20 ∧ (100 ≤ sk_tk t n p → sk_mnu t n p old = sk_tk t n p - 100) := by
  unfold sk_mtk sk_tk sk_mnu
  by_cases hl : sk_ltr t p = true
  · rw [if_pos hl, if_pos hl, if_pos hl]
    have hb := sk_end_b (sk_ltr t) (n := n) (i := p) (by omega)
    have := sk_word_rel t p (sk_end (sk_ltr t) n p) (fun i a b => by have := sk_end_in a b; simpa [sk_ltr] using this) hb.1
    exact ⟨this.1, this.2.1, by omega, by omega, fun h => by omega⟩
  · rw [if_neg hl, if_neg hl, if_neg hl]
    by_cases hd : sk_dgt t p = true
    · rw [if_pos hd, if_pos hd, if_pos hd]
      have hb := sk_end_b (sk_dgt t) (n := n) (i := p) (by omega)
      have hin : ∀ i, p ≤ i → i < sk_end (sk_dgt t) n p → 48 ≤ t i ∧ t i ≤ 57 := fun i a b => by have := sk_end_in a b; simpa [sk_dgt] using this
      generalize sk_end (sk_dgt t) n p = e at hb hin
      unfold sk_nt
      by_cases h3 : e - p ≤ 3
      · rw [if_pos h3, if_neg (by omega), if_pos h3]
        have := sk_nm_b t p (e - p).toNat (by omega) (fun j hj => hin _ (by omega) (by omega))
        refine ⟨?_, by omega, by omega, by omega, fun _ => by omega⟩
        rw [sk_c2m, if_neg (by omega), if_neg (by omega), if_neg (by omega), if_neg (by omega), if_neg (by omega), if_neg (by omega)]
      · rw [if_neg h3, if_pos (by omega)]
        exact ⟨rfl, by omega, by omega, by omega, fun h => by omega⟩
    · rw [if_neg hd, if_neg hd, if_neg hd]
      unfold sk_sgn
      by_cases h1 : t p = 123
      · rw [if_pos h1, if_pos h1]; exact ⟨rfl, by omega, by omega, by omega, fun h => by omega⟩
      · rw [if_neg h1, if_neg h1]
        by_cases h2 : t p = 125
        · rw [if_pos h2, if_pos h2]; exact ⟨rfl, by omega, by omega, by omega, fun h => by omega⟩
        · rw [if_neg h2, if_neg h2]
          by_cases h3 : t p = 59
          · rw [if_pos h3, if_pos h3]; exact ⟨rfl, by omega, by omega, by omega, fun h => by omega⟩
          · rw [if_neg h3, if_neg h3]; exact ⟨rfl, by omega, by omega, by omega, fun h => by omega⟩
end
section
/-! ===== the tokens of a text, one behind the other ===== -/
/-- where the i-th token is sought, where it begins -/
def sk_pos (t : Int → Int) (n : Int) : Nat → Int
  | 0 => 0
  | i + 1 => if sk_end (sk_spb t) n (sk_pos t n i) < n then sk_te t n (sk_end (sk_spb t) n (sk_pos t n i)) else n
def sk_fr (t : Int → Int) (n : Int) (i : Nat) : Int := sk_end (sk_spb t) n (sk_pos t n i)
theorem sk_pos_b (t : Int → Int) {n : Int} (hn : 0 ≤ n) : ∀ i : Nat, 0 ≤ sk_pos t n i ∧ sk_pos t n i ≤ n
  | 0 => ⟨Int.le_refl _, hn⟩
  | i + 1 => by
    have h := sk_pos_b t hn i
    have hb := sk_end_b (sk_spb t) h.2
    unfold sk_pos
    split
    · rename_i hc
      have := sk_te_b t hc
      omega
    · omega
theorem sk_fr_b (t : Int → Int) {n : Int} (hn : 0 ≤ n) (i : Nat) : sk_pos t n i ≤ sk_fr t n i ∧ sk_fr t n i ≤ n := sk_end_b (sk_spb t) (sk_pos_b t hn i).2
/-- the first c tokens lie in their rows -/
def sk_rows (t : Int → Int) (n : Int) (I : sk_SI) (c : Nat) : Prop := ∀ i : Nat, i < c → sk_fr t n i < n ∧ I 31 i = sk_tk t n (sk_fr t n i) ∧ I 32 i = sk_fr t n i
theorem sk_clp_spec (t : Int → Int) (n : Int) : ∀ (m : Nat) (p : Int) (I : sk_SI) (c : Nat), I 1 1 = n → I 2 = t → 0 ≤ p → p ≤ n → n - p ≤ m → I 30 2 = c → (c : Int) ≤ p → sk_end (sk_spb t) n p = sk_fr t n c → sk_rows t n I c →
    ∃ N : Nat, sk_clp m p I 30 2 = N ∧ (N : Int) ≤ n ∧ sk_fr t n N = n ∧ sk_rows t n (sk_clp m p I) N ∧ (∀ k, k ≠ 30 → k ≠ 31 → k ≠ 32 → sk_clp m p I k = I k) ∧ ∀ j, j ≠ 2 → sk_clp m p I 30 j = I 30 j
  | 0, p, I, c, e1, e2, h0, h1, h2, hc, hcp, hf, hr => by
    have ep : p = n := by omega
    subst ep
    refine ⟨c, hc, hcp, ?_, hr, fun k _ _ _ => rfl, fun j _ => rfl⟩
    rw [← hf, sk_end_x (by omega)]
  | m + 1, p, I, c, e1, e2, h0, h1, h2, hc, hcp, hf, hr => by
    unfold sk_clp
    rw [e1, e2]
    by_cases hlt : p < n
    · rw [if_pos hlt]
      by_cases hs : sk_spb t p = true
      · rw [if_pos hs]
        exact sk_clp_spec t n m (p + 1) I c e1 e2 (by omega) (by omega) (by omega) hc (by omega) (by rw [← hf]; exact (sk_end_s hlt hs).symm) hr
      · rw [if_neg hs]
        have hfc : sk_fr t n c = p := by rw [← hf, sk_end_x (by intro z; exact hs z.2)]
        have hb := sk_te_b t hlt
        have hpos : sk_pos t n (c + 1) = sk_te t n p := by
          show (if sk_fr t n c < n then sk_te t n (sk_fr t n c) else n) = _
          rw [hfc, if_pos hlt]
        have o31 : sk_ta I (sk_tk t n p) p 31 = sk_up (I 31) c (sk_tk t n p) := by
          unfold sk_ta
          rw [sk_uI_o (by decide), sk_uI_o (by decide), sk_uI_s, hc]
        have o32 : sk_ta I (sk_tk t n p) p 32 = sk_up (I 32) c p := by
          unfold sk_ta
          rw [sk_uI_o (by decide), sk_uI_s, sk_uI_o (by decide), hc]
        have hrow : sk_rows t n (sk_ta I (sk_tk t n p) p) (c + 1) := by
          intro i hi
          rw [o31, o32]
          by_cases hic : i = c
          · subst hic
            rw [sk_up_s, sk_up_s, hfc]
            exact ⟨hlt, rfl, rfl⟩
          · have hne : (i : Int) ≠ (c : Int) := by omega
            rw [sk_up_o hne, sk_up_o hne]
            exact hr i (by omega)
        obtain ⟨N, a1, a2, a3, a4, a5, a6⟩ := sk_clp_spec t n m (sk_te t n p) (sk_ta I (sk_tk t n p) p) (c + 1) (by rw [sk_ta_o _ _ _ 1 (by decide) (by decide) (by decide)]; exact e1) (by rw [sk_ta_o _ _ _ 2 (by decide) (by decide) (by decide)]; exact e2) (by omega) (by omega) (by omega) (by rw [sk_ta_n, hc]; omega) (by omega) (by unfold sk_fr; rw [hpos]) hrow
        refine ⟨N, a1, a2, a3, a4, fun k g1 g2 g3 => by rw [a5 k g1 g2 g3, sk_ta_o _ _ _ k g1 g2 g3], fun j hj => ?_⟩
        rw [a6 j hj]
        unfold sk_ta
        rw [sk_uI_s, sk_up_o hj, sk_uI_o (by decide), sk_uI_o (by decide)]
    · rw [if_neg hlt]
      have ep : p = n := by omega
      subst ep
      refine ⟨c, hc, hcp, ?_, hr, fun k _ _ _ => rfl, fun j _ => rfl⟩
      rw [← hf, sk_end_x (by omega)]
/-- what Tokens.cut leaves: N tokens, and the end behind them -/
theorem sk_cut_spec (I : sk_SI) (h : sk_tp I) : ∃ N : Nat, sk_cut I 30 2 = N + 1 ∧ (N : Int) ≤ I 1 1 ∧ sk_fr (I 2) (I 1 1) N = I 1 1 ∧ sk_rows (I 2) (I 1 1) (sk_cut I) N ∧ sk_cut I 31 N = 20 ∧ sk_cut I 32 N = I 1 1 ∧ (∀ k, k ≠ 30 → k ≠ 31 → k ≠ 32 → sk_cut I k = I k) ∧ ∀ j, j ≠ 2 → sk_cut I 30 j = I 30 j := by
  obtain ⟨t0, t1, t2⟩ := h
  obtain ⟨N, a1, a2, a3, a4, a5, a6⟩ := sk_clp_spec (I 2) (I 1 1) 1300 0 (sk_uI I 30 2 0) 0 (by rw [sk_uI_o (by decide)]) (sk_uI_o (by decide)) (Int.le_refl _) t0 (by omega) (by rw [sk_uI_s, sk_up_s]; rfl) (Int.le_refl _) rfl (fun i hi => by omega)
  have hc : sk_cut I = sk_ta (sk_clp 1300 0 (sk_uI I 30 2 0)) 20 (I 1 1) := rfl
  generalize sk_clp 1300 0 (sk_uI I 30 2 0) = S at *
  rw [hc]
  have o31 : sk_ta S 20 (I 1 1) 31 = sk_up (S 31) N 20 := by
    unfold sk_ta
    rw [sk_uI_o (by decide), sk_uI_o (by decide), sk_uI_s, a1]
  have o32 : sk_ta S 20 (I 1 1) 32 = sk_up (S 32) N (I 1 1) := by
    unfold sk_ta
    rw [sk_uI_o (by decide), sk_uI_s, sk_uI_o (by decide), a1]
  refine ⟨N, by rw [sk_ta_n, a1], a2, a3, fun i hi => ?_, by rw [o31, sk_up_s], by rw [o32, sk_up_s], fun k g1 g2 g3 => by rw [sk_ta_o _ _ _ k g1 g2 g3, a5 k g1 g2 g3, sk_uI_o g1], fun j hj => ?_⟩
  · have hne : (i : Int) ≠ (N : Int) := by omega
    rw [o31, o32, sk_up_o hne, sk_up_o hne]
    exact a4 i hi
  · unfold sk_ta
    rw [sk_uI_s, sk_up_o hj, sk_uI_o (by decide), sk_uI_o (by decide), a6 j hj, sk_uI_s, sk_up_o hj]
/-- the model stands at its i-th token -/
def sk_mat (t : Int → Int) (n : Int) (I : sk_SI) (i : Nat) : Prop := I 59 22 = sk_fr t n i ∧ I 59 23 = sk_pos t n (i + 1) ∧ I 59 24 = (if sk_fr t n i < n then sk_mtk t n (sk_fr t n i) else 24) ∧ (sk_fr t n i < n → 100 ≤ sk_tk t n (sk_fr t n i) → I 59 25 = sk_tk t n (sk_fr t n i) - 100)
theorem sk_mat_next {t : Int → Int} {n : Int} {I I' : sk_SI} {i : Nat} (hn : 0 ≤ n) (e1 : I 60 = t) (e2 : I 59 21 = n) (hto : I 59 23 = sk_pos t n i) (h : sk_nxs I I') : sk_mat t n I' i := by
  obtain ⟨-, h1, h2, h3⟩ := h
  rw [e1, e2, hto] at h1
  rw [e1, e2] at h3
  rw [e2] at h2
  have hfr : I' 59 22 = sk_fr t n i := h1
  have hb := sk_fr_b t hn i
  have hp := sk_pos_b t hn i
  rw [hfr] at h2 h3
  have hpos : sk_pos t n (i + 1) = if sk_fr t n i < n then sk_te t n (sk_fr t n i) else n := rfl
  by_cases hlt : sk_fr t n i < n
  · obtain ⟨g1, g2, g3⟩ := h3 hlt
    refine ⟨hfr, by rw [hpos, if_pos hlt]; exact g1, by rw [if_pos hlt]; exact g2, fun _ hk => ?_⟩
    rw [g3]
    exact (sk_tk_rel t n (sk_fr t n i) (I 59 25) ⟨by omega, hlt⟩).2.2.2.2 hk
  · obtain ⟨g1, g2, g3⟩ := h2 (by omega)
    exact ⟨hfr, by rw [hpos, if_neg hlt]; exact g1, by rw [if_neg hlt]; exact g2, fun z => absurd z hlt⟩
end
section
/-! ===== the reader as functions of its cells: a fault (kind, token), or an answer and the cells ===== -/
abbrev sk_PR : Type := (Int × Int) ⊕ (Int × sk_SI)
def sk_mf (w : Int) : Int := ([7, 99, 7, 7, 3, 3, 99, -1, 99, 999, 7, -1, -1] : List Int).getD w.toNat 0
def sk_ms (w : Int) : Int := ([9, -1, 9, -1, -1, -1, -1, -1, -1, -1, 9, -1, -1] : List Int).getD w.toNat 0
def sk_bs (w : Int) : Int := ([0, 0, 1, 1, 0, 1, 0, 2, 1, 0, 2, 2, 0] : List Int).getD w.toNat 0
def sk_tkI (due : Int) (I : sk_SI) : sk_PR := if sk_tok I (I 29 3) = due then .inr (0, sk_uI I 29 3 (I 29 3 + 1)) else .inl (1, I 29 3)
def sk_nuI (most : Int) (I : sk_SI) : sk_PR := if sk_tok I (I 29 3) < 100 then .inl (1, I 29 3) else if 100 + most < sk_tok I (I 29 3) then .inl (2, I 29 3) else .inr (sk_tok I (I 29 3) - 100, sk_uI I 29 3 (I 29 3 + 1))
/-- a number, if one is due, into a row at s -/
def sk_n1I (most : Int) (a : Nat) (s : Int) (I : sk_SI) : sk_PR := if most = -1 then .inr (0, I) else match sk_nuI most I with
  | .inl e => .inl e
  | .inr x => .inr (0, sk_uI x.2 a s x.1)
def sk_rnI (p : Nat) (s w : Int) (I : sk_SI) : sk_PR := match sk_n1I (sk_mf w) (p + 5) s (sk_uI I 33 s (I 29 3)) with
  | .inl e => .inl e
  | .inr x => sk_n1I (sk_ms w) (p + 6) s x.2
def sk_rrI (bl : sk_SI → sk_PR) (p : Nat) (s w : Int) (I : sk_SI) : sk_PR := if sk_bs w = 0 then sk_tkI 18 I else match bl I with
  | .inl e => .inl e
  | .inr x => if sk_bs w = 1 then .inr (0, sk_uI x.2 (p + 8) s x.1) else match sk_tkI (if w = 11 then 14 else 13) (sk_uI x.2 (p + 8) s x.1) with
    | .inl e => .inl e
    | .inr y => match bl y.2 with
      | .inl e => .inl e
      | .inr z => .inr (0, sk_uI z.2 (p + 9) s z.1)
/-- a step's cells as it is added -/
def sk_asI (p : Nat) (w : Int) (I : sk_SI) : sk_SI := sk_uI (sk_uI (sk_uI (sk_uI (sk_uI (sk_uI (sk_uI (sk_uI I (p + 3) (I p 10) w) (p + 4) (I p 10) (I p 9 - 1)) (p + 5) (I p 10) (-1)) (p + 6) (I p 10) (-1)) (p + 7) (I p 10) (-1)) (p + 8) (I p 10) (-1)) (p + 9) (I p 10) (-1)) p 10 (I p 10 + 1)
def sk_stI (bl : sk_SI → sk_PR) (p : Nat) (I : sk_SI) : sk_PR :=
  if 12 < sk_tok I (I 29 3) then .inl (1, I 29 3) else if 200 ≤ I p 10 then .inl (4, I 29 3) else
  match sk_rnI p (I p 10) (sk_tok I (I 29 3)) (sk_uI (sk_asI p (sk_tok I (I 29 3)) I) 29 3 (I 29 3 + 1)) with
  | .inl e => .inl e
  | .inr x => match sk_rrI bl p (I p 10) (sk_tok I (I 29 3)) x.2 with
    | .inl e => .inl e
    | .inr y => .inr (I p 10, y.2)
def sk_lpI (ps : sk_SI → sk_PR) (p : Nat) : Nat → Int → Int → sk_SI → sk_PR
  | 0, f, _, I => match sk_tkI 17 I with
    | .inl e => .inl e
    | .inr x => .inr (f, x.2)
  | m + 1, f, la, I => if sk_tok I (I 29 3) = 17 then .inr (f, sk_uI I 29 3 (I 29 3 + 1)) else match ps I with
    | .inl e => .inl e
    | .inr x => if 0 ≤ la then sk_lpI ps p m f x.1 (sk_uI x.2 (p + 7) la x.1) else sk_lpI ps p m x.1 x.1 x.2
/-- a block within 12 - k others: k + 1 more may lie one within the other -/
def sk_blI (p : Nat) : Nat → sk_SI → sk_PR
  | 0, I => match sk_tkI 16 I with
    | .inl e => .inl e
    | .inr x => .inl (3, x.2 29 3 - 1)
  | k + 1, I => match sk_tkI 16 I with
    | .inl e => .inl e
    | .inr x => sk_lpI (sk_stI (sk_blI p k) p) p 201 (-1) (-1) (sk_uI x.2 p 11 (max (x.2 p 11) (12 - k)))
/-- what the reader leaves alone -/
def sk_fp (p : Nat) (I I' : sk_SI) : Prop := (∀ k, k ≠ 29 → k ≠ 33 → ¬ (p ≤ k ∧ k ≤ p + 9) → I' k = I k) ∧ ∀ j, j ≠ 3 → j ≠ 4 → j ≠ 5 → I' 29 j = I 29 j
def sk_flt (p : Nat) (I : sk_SI) (e : Int × Int) (I' : sk_SI) : Prop := sk_fp p I I' ∧ I' 29 5 = e.1 ∧ I' 29 4 = e.2
theorem sk_fp_rf (p : Nat) (I : sk_SI) : sk_fp p I I := ⟨fun _ _ _ _ => rfl, fun _ _ _ _ => rfl⟩
theorem sk_fp_tr {p : Nat} {I I1 I2 : sk_SI} (h1 : sk_fp p I I1) (h2 : sk_fp p I1 I2) : sk_fp p I I2 := ⟨fun k a b c => (h2.1 k a b c).trans (h1.1 k a b c), fun j a b c => (h2.2 j a b c).trans (h1.2 j a b c)⟩
theorem sk_flt_tr {p : Nat} {I I1 I2 : sk_SI} {e : Int × Int} (h1 : sk_fp p I I1) (h2 : sk_flt p I1 e I2) : sk_flt p I e I2 := ⟨sk_fp_tr h1 h2.1, h2.2⟩
theorem sk_fp_29 (p : Nat) (hp : sk_pg p) (I : sk_SI) (j v : Int) (hj : j = 3 ∨ j = 4 ∨ j = 5) : sk_fp p I (sk_uI I 29 j v) := by
  refine ⟨fun k a b c => sk_uI_o a, fun i a b c => ?_⟩
  rw [sk_uI_s, sk_up_o (by omega)]
theorem sk_fp_pg (p : Nat) (hp : sk_pg p) (I : sk_SI) (k : Nat) (j v : Int) (hk : k = 33 ∨ (p ≤ k ∧ k ≤ p + 9)) : sk_fp p I (sk_uI I k j v) := by
  have h29 : k ≠ 29 := by rcases hp with rfl | rfl <;> omega
  refine ⟨fun k' a b c => sk_uI_o (by omega), fun i a b c => ?_⟩
  rw [sk_uI_o (Ne.symm h29)]
theorem sk_flt_bk (p : Nat) (hp : sk_pg p) (I : sk_SI) (k t : Int) : sk_flt p I (k, t) (sk_bk I k t) := by
  unfold sk_bk
  refine ⟨sk_fp_tr (sk_fp_29 p hp I 5 k (by omega)) (sk_fp_29 p hp _ 4 t (by omega)), ?_, ?_⟩
  · rw [sk_uI_s, sk_up_o (by decide), sk_uI_s, sk_up_s]
  · rw [sk_uI_s, sk_up_s]
theorem sk_flt_pg {p : Nat} {I I' : sk_SI} {e : Int × Int} (hp : sk_pg p) (h : sk_flt p I e I') (k : Nat) (j v : Int) (hk : k = 33 ∨ (p ≤ k ∧ k ≤ p + 9)) : sk_flt p I e (sk_uI I' k j v) := by
  have h29 : 29 ≠ k := by rcases hp with rfl | rfl <;> omega
  refine ⟨sk_fp_tr h.1 (sk_fp_pg p hp I' k j v hk), ?_, ?_⟩
  · rw [sk_uI_o h29]; exact h.2.1
  · rw [sk_uI_o h29]; exact h.2.2
/-- the tokens stay valid -/
theorem sk_tv_fp {p : Nat} {I I' : sk_SI} (hp : sk_pg p) (h : sk_tv I) (hf : sk_fp p I I') (hn : 0 ≤ I' 29 3 ∧ I' 29 3 ≤ 1300) : sk_tv I' := by
  have e30 : I' 30 = I 30 := hf.1 30 (by decide) (by decide) (by rcases hp with rfl | rfl <;> omega)
  have e31 : I' 31 = I 31 := hf.1 31 (by decide) (by decide) (by rcases hp with rfl | rfl <;> omega)
  unfold sk_tv
  rw [e30, e31]
  exact ⟨h.1, h.2.1, h.2.2.1, hn⟩
theorem sk_tok_fp {p : Nat} {I I' : sk_SI} (hp : sk_pg p) (hf : sk_fp p I I') (i : Int) : sk_tok I' i = sk_tok I i := by
  have e30 : I' 30 = I 30 := hf.1 30 (by decide) (by decide) (by rcases hp with rfl | rfl <;> omega)
  have e31 : I' 31 = I 31 := hf.1 31 (by decide) (by decide) (by rcases hp with rfl | rfl <;> omega)
  unfold sk_tok
  rw [e30, e31]
end
section
/-! ===== Reader.readNumbers ===== -/
theorem sk_mf_b {w : Int} (h : 0 ≤ w ∧ w ≤ 12) : sk_mf w = -1 ∨ (0 ≤ sk_mf w ∧ sk_mf w ≤ 999) := by
  rcases (show w = 0 ∨ w = 1 ∨ w = 2 ∨ w = 3 ∨ w = 4 ∨ w = 5 ∨ w = 6 ∨ w = 7 ∨ w = 8 ∨ w = 9 ∨ w = 10 ∨ w = 11 ∨ w = 12 by omega) with rfl | rfl | rfl | rfl | rfl | rfl | rfl | rfl | rfl | rfl | rfl | rfl | rfl <;> decide
theorem sk_ms_b {w : Int} (h : 0 ≤ w ∧ w ≤ 12) : sk_ms w = -1 ∨ (0 ≤ sk_ms w ∧ sk_ms w ≤ 999) := by
  rcases (show w = 0 ∨ w = 1 ∨ w = 2 ∨ w = 3 ∨ w = 4 ∨ w = 5 ∨ w = 6 ∨ w = 7 ∨ w = 8 ∨ w = 9 ∨ w = 10 ∨ w = 11 ∨ w = 12 by omega) with rfl | rfl | rfl | rfl | rfl | rfl | rfl | rfl | rfl | rfl | rfl | rfl | rfl <;> decide
theorem sk_nuI_r {most : Int} {I : sk_SI} {x : Int × sk_SI} (h : sk_nuI most I = .inr x) : x.2 = sk_uI I 29 3 (I 29 3 + 1) ∧ x.1 = sk_tok I (I 29 3) - 100 ∧ 100 ≤ sk_tok I (I 29 3) ∧ sk_tok I (I 29 3) ≤ 100 + most := by
  unfold sk_nuI at h
  split at h
  · cases h
  · split at h
    · cases h
    · cases h
      exact ⟨rfl, rfl, by omega, by omega⟩
theorem sk_bk_o (I : sk_SI) (k t : Int) (c : Nat) (h : c ≠ 29) : sk_bk I k t c = I c := by
  unfold sk_bk
  rw [sk_uI_o h, sk_uI_o h]
section SKR2
variable {l : Launch} {E : sk_En} {d : Nat} {I : sk_SI} {L : sk_SL} {cu sp io rp tp fp : Nat} {Q : Option sk_V → List sk_Sh → sk_St → Prop}
/-- readNumber, by its function -/
theorem c_R_numF (most : Int) (h : sk_tv I) (hm : 0 ≤ most ∧ most ≤ 999) (h1 : ∀ e, sk_nuI most I = .inl e → Q (some (vi (-2))) sk_G (sk_bk I e.1 e.2, L, sk_J cu sp io rp tp fp)) (h2 : ∀ x, sk_nuI most I = .inr x → 0 ≤ x.1 → x.1 ≤ 999 → Q (some (vi x.1)) sk_G (x.2, L, sk_J cu sp io rp tp fp)) : AW l E (d + 1) 0 0 mX3_readNumber 0 [some (vr 29), some (vi most), none] [] sk_G (I, L, sk_J cu sp io rp tp fp) Q := by
  have hb := sk_tok_b h (I 29 3)
  refine c_R_num most h hm (fun g => ?_) (fun g => ?_) (fun g1 g2 => ?_)
  · exact h1 (1, I 29 3) (by unfold sk_nuI; rw [if_pos g])
  · exact h1 (2, I 29 3) (by unfold sk_nuI; rw [if_neg (by omega), if_pos g])
  · exact h2 (sk_tok I (I 29 3) - 100, sk_uI I 29 3 (I 29 3 + 1)) (by unfold sk_nuI; rw [if_neg (by omega), if_neg (by omega)]) (by show 0 ≤ sk_tok I (I 29 3) - 100; omega) (by show sk_tok I (I 29 3) - 100 ≤ 999; omega)
end SKR2
end
section
/-! ===== Reader.readNumbers, by its function ===== -/
section SKR3
variable {l : Launch} {E : sk_En} {d : Nat} {I : sk_SI} {L : sk_SL} {cu sp rp tp fp : Nat} {Q : Option sk_V → List sk_Sh → sk_St → Prop}
theorem c_R_numbers (p : Nat) (hp : sk_pg p) (s w : Int) (hs : 0 ≤ s ∧ s < 200) (hw : 0 ≤ w ∧ w ≤ 12) (h : sk_tv I) (hnow : I 29 3 ≤ 1290) (h5 : I (p + 5) s = -1) (h6 : I (p + 6) s = -1) (h1 : ∀ e, sk_rnI p s w I = .inl e → ∀ I', sk_flt p I e I' → Q (some (vi 0)) sk_G (I', L, sk_J cu sp p rp tp fp)) (h2 : ∀ x, sk_rnI p s w I = .inr x → Q (some (vi 1)) sk_G (x.2, L, sk_J cu sp p rp tp fp)) : AW l E (d + 2) 0 0 mX3_readNumbers 0 [some (vr 29), some (vi s), some (vi w)] [] sk_G (I, L, sk_J cu sp p rp tp fp) Q := by
  have hmf := sk_mf_b hw
  have hms := sk_ms_b hw
  have hp' := hp
  -- the end, where both are good
  have good : ∀ S : sk_SI, -1 ≤ S (p + 5) s ∧ S (p + 5) s ≤ 999 → -1 ≤ S (p + 6) s ∧ S (p + 6) s ≤ 999 → Q (some (vi 1)) sk_G (S, L, sk_J cu sp p rp tp fp) → AW l E (d + 2) 0 0 mX3_readNumbers 114 [some (vr 29), some (vi s), some (vi w)] [] sk_G (S, L, sk_J cu sp p rp tp fp) Q := by
    intro S a b hq
    rcases hp with rfl | rfl <;>
    · simp only [Nat.reduceAdd] at a b
      refine AW_run 80 rfl ?_
      refine AW_iald rfl rfl ⟨by omega, by omega⟩ (by decide) ?_
      refine AW_run 80 rfl ?_
      refine AW_iceq rfl (fun g => by omega) (fun g => ?_) (by unfold sk_in; omega)
      refine AW_run 80 rfl ?_
      refine AW_iald rfl rfl ⟨by omega, by omega⟩ (by decide) ?_
      refine AW_run 80 rfl ?_
      refine AW_iceq rfl (fun g => by omega) (fun g => ?_) (by unfold sk_in; omega)
      refine AW_run 80 rfl ?_
      exact AW_zret rfl rfl (Or.inr rfl) hq
  have bad : ∀ S : sk_SI, S (p + 5) s = -2 ∨ (-1 ≤ S (p + 5) s ∧ S (p + 5) s ≤ 999 ∧ S (p + 6) s = -2) → Q (some (vi 0)) sk_G (S, L, sk_J cu sp p rp tp fp) → AW l E (d + 2) 0 0 mX3_readNumbers 114 [some (vr 29), some (vi s), some (vi w)] [] sk_G (S, L, sk_J cu sp p rp tp fp) Q := by
    intro S a hq
    rcases hp with rfl | rfl <;>
    · simp only [Nat.reduceAdd] at a
      refine AW_run 80 rfl ?_
      refine AW_iald rfl rfl ⟨by omega, by omega⟩ (by decide) ?_
      refine AW_run 80 rfl ?_
      refine AW_iceq rfl (fun g => ?_) (fun g => ?_) (by unfold sk_in; omega)
      · refine AW_run 80 rfl ?_
        exact AW_zret rfl rfl (Or.inl rfl) hq
      · refine AW_run 80 rfl ?_
        refine AW_iald rfl rfl ⟨by omega, by omega⟩ (by decide) ?_
        refine AW_run 80 rfl ?_
        refine AW_iceq rfl (fun g => ?_) (fun g => by omega) (by unfold sk_in; omega)
        refine AW_run 80 rfl ?_
        exact AW_zret rfl rfl (Or.inl rfl) hq
  -- the second number
  have sec : ∀ S : sk_SI, sk_tv S → sk_fp p I S → -1 ≤ S (p + 5) s ∧ S (p + 5) s ≤ 999 → S (p + 6) s = -1 → sk_rnI p s w I = sk_n1I (sk_ms w) (p + 6) s S → AW l E (d + 2) 0 0 mX3_readNumbers 73 [some (vr 29), some (vi s), some (vi w)] [] sk_G (S, L, sk_J cu sp p rp tp fp) Q := by
    intro S hv hf a b hr
    have fin : ∀ c : Int, sk_ms w = -1 → AW l E (d + 2) 0 0 mX3_readNumbers 114 [some (vr 29), some (vi s), some (vi w)] [] sk_G (S, L, sk_J cu sp p rp tp fp) Q := by
      intro _ hc
      refine good S a (by omega) (h2 (0, S) ?_)
      rw [hr, sk_n1I, if_pos hc]
    rcases hp with rfl | rfl <;>
    · simp only [Nat.reduceAdd] at a b
      refine AW_run 80 rfl ?_
      refine AW_iald rfl rfl ⟨by omega, by omega⟩ (by decide) ?_
      refine AW_run 80 rfl ?_
      refine AW_iceq rfl (fun g => by omega) (fun g => ?_) (by unfold sk_in; omega)
      refine AW_gets rfl ?_
      refine AW_run 80 rfl ?_
      refine AW_xld (x := 1) rfl rfl ⟨hw.1, by omega⟩ ?_
      change AW l E (d + 2) 0 0 mX3_readNumbers _ _ [vi (sk_ms w)] sk_G _ Q
      refine AW_run 80 rfl ?_
      refine AW_iceq rfl (fun g2 => ?_) (fun g2 => ?_) (by unfold sk_in; omega)
      · exact fin 0 g2
      · refine AW_run 80 rfl ?_
        refine AW_gets rfl ?_
        refine AW_run 80 rfl ?_
        refine AW_xld (x := 1) rfl rfl ⟨hw.1, by omega⟩ ?_
        refine AW_cV (M' := mX3_readNumber) rfl kkX3_73 lcX3_readNumber rfl rfl rfl rfl rfl rfl (Nat.le_refl _) ?_
        refine c_R_numF (sk_ms w) hv (by omega) (fun e he => ?_) (fun x hx x1 x2 => ?_)
        · refine AW_run 80 rfl ?_
          refine AW_iast rfl rfl ⟨by omega, by omega⟩ (by decide) ?_
          refine bad _ (Or.inr ?_) (h1 e ?_ _ ?_)
          · simp only [Nat.reduceAdd]
            rw [sk_uI_o (by decide), sk_uI_s, sk_up_s, sk_bk_o _ _ _ _ (by decide)]
            exact ⟨a.1, a.2, rfl⟩
          · rw [hr, sk_n1I, if_neg g2, he]
          · exact sk_flt_pg hp' (sk_flt_tr hf (sk_flt_bk _ hp' S e.1 e.2)) _ _ _ (by omega)
        · obtain ⟨q1, q2, q3, q4⟩ := sk_nuI_r hx
          refine AW_run 80 rfl ?_
          refine AW_iast rfl rfl ⟨by omega, by omega⟩ (by decide) ?_
          refine good _ ?_ ?_ (h2 (0, sk_uI x.2 _ s x.1) ?_)
          · simp only [Nat.reduceAdd]
            rw [sk_uI_o (by decide), q1, sk_uI_o (by decide)]
            exact a
          · simp only [Nat.reduceAdd]
            rw [sk_uI_s, sk_up_s]
            omega
          · rw [hr, sk_n1I, if_neg g2, hx]
  have hf0 : sk_fp p I (sk_uI I 33 s (I 29 3)) := sk_fp_pg p hp I 33 s _ (Or.inl rfl)
  have hv0 : sk_tv (sk_uI I 33 s (I 29 3)) := sk_tv_fp hp h hf0 (by rw [sk_uI_o (by decide)]; exact h.2.2.2)
  have h29 := h.2.2.2
  rcases hp with rfl | rfl <;>
  · simp only [Nat.reduceAdd] at h5 h6
    refine AW_run 80 rfl ?_
    refine AW_gets rfl ?_
    refine AW_xlen rfl (by decide) ?_
    refine AW_within rfl kkX3_82 rfl (by omega) (fun w1 w2 => ?_) (fun w3 => by omega)
    refine AW_run 80 rfl ?_
    first | refine AW_e1 rfl ?_ | refine AW_e0 rfl ?_ | refine AW_n1 rfl ?_ | refine AW_n0 rfl ?_
    refine AW_run 80 rfl ?_
    refine AW_gets rfl ?_
    refine AW_xlen rfl (by decide) ?_
    refine AW_within rfl kkX3_82 rfl (by omega) (fun w1 w2 => ?_) (fun w3 => by omega)
    refine AW_run 80 rfl ?_
    first | refine AW_e1 rfl ?_ | refine AW_e0 rfl ?_ | refine AW_n1 rfl ?_ | refine AW_n0 rfl ?_
    refine AW_run 80 rfl ?_
    refine AW_within rfl kkX3_82 rfl (by omega) (fun w1 w2 => ?_) (fun w3 => by omega)
    refine AW_run 80 rfl ?_
    first | refine AW_e1 rfl ?_ | refine AW_e0 rfl ?_ | refine AW_n1 rfl ?_ | refine AW_n0 rfl ?_
    refine AW_run 80 rfl ?_
    refine AW_iast rfl rfl ⟨by omega, by omega⟩ (by decide) ?_
    refine AW_gets rfl ?_
    refine AW_run 80 rfl ?_
    refine AW_xld (x := 0) rfl rfl ⟨hw.1, by omega⟩ ?_
    change AW l E (d + 2) 0 0 mX3_readNumbers _ _ [vi (sk_mf w)] sk_G _ Q
    refine AW_run 80 rfl ?_
    refine AW_iceq rfl (fun g2 => ?_) (fun g2 => ?_) (by unfold sk_in; omega)
    · refine sec _ hv0 hf0 ?_ ?_ ?_
      · simp only [Nat.reduceAdd]; rw [sk_uI_o (by decide)]; omega
      · simp only [Nat.reduceAdd]; rw [sk_uI_o (by decide)]; exact h6
      · rw [sk_rnI, sk_n1I, if_pos g2]
    · refine AW_run 80 rfl ?_
      refine AW_gets rfl ?_
      refine AW_run 80 rfl ?_
      refine AW_xld (x := 0) rfl rfl ⟨hw.1, by omega⟩ ?_
      refine AW_cV (M' := mX3_readNumber) rfl kkX3_73 lcX3_readNumber rfl rfl rfl rfl rfl rfl (Nat.le_refl _) ?_
      refine c_R_numF (sk_mf w) hv0 (by omega) (fun e he => ?_) (fun x hx x1 x2 => ?_)
      · refine AW_run 80 rfl ?_
        refine AW_iast rfl rfl ⟨by omega, by omega⟩ (by decide) ?_
        have hQ := h1 e (by rw [sk_rnI, sk_n1I, if_neg g2, he]) _ (sk_flt_pg hp' (sk_flt_tr hf0 (sk_flt_bk _ hp' (sk_uI I 33 s (I 29 3)) e.1 e.2)) _ s (-2) (Or.inr ⟨Nat.le_add_right _ 5, by omega⟩))
        have hB := bad _ (Or.inl (by rw [sk_uI_s, sk_up_s])) hQ
        refine AW_run 80 rfl ?_
        refine AW_iald rfl rfl ⟨by omega, by omega⟩ (by decide) ?_
        (try simp only [sk_uI_s, sk_uI_o, sk_up_s, sk_up_o, sk_uL_s, sk_uL_o, ne_eq, Nat.reduceEqDiff, Nat.reduceAdd, Int.reduceEq, not_false_eq_true])
        refine AW_run 80 rfl ?_
        refine AW_iceq rfl (fun g => ?_) (fun g => by omega)
        exact hB
      · obtain ⟨q1, q2, q3, q4⟩ := sk_nuI_r hx
        have hx' : x = (x.1, x.2) := rfl
        rw [q1] at hx'
        refine AW_run 80 rfl ?_
        refine AW_iast rfl rfl ⟨by omega, by omega⟩ (by decide) ?_
        refine sec _ ?_ ?_ ?_ ?_ ?_
        · refine sk_tv_fp hp' hv0 (sk_fp_tr (by rw [q1]; exact sk_fp_29 _ hp' _ 3 _ (by omega)) (sk_fp_pg _ hp' x.2 _ s x.1 (Or.inr ⟨Nat.le_add_right _ 5, by omega⟩))) ?_
          rw [sk_uI_o (by decide), q1, sk_uI_s, sk_up_s, sk_uI_o (by decide)]
          omega
        · exact sk_fp_tr hf0 (sk_fp_tr (by rw [q1]; exact sk_fp_29 _ hp' _ 3 _ (by omega)) (sk_fp_pg _ hp' x.2 _ s x.1 (Or.inr ⟨Nat.le_add_right _ 5, by omega⟩)))
        · simp only [Nat.reduceAdd]; rw [sk_uI_s, sk_up_s]; omega
        · simp only [Nat.reduceAdd]; rw [sk_uI_o (by decide), q1, sk_uI_o (by decide), sk_uI_o (by decide)]; exact h6
        · rw [sk_rnI, sk_n1I, if_neg g2, hx]
end SKR3
end
section
/-! ===== what the reader keeps while it reads ===== -/
def sk_iv (p : Nat) (I : sk_SI) : Prop := sk_tv I ∧ I 29 3 < I 30 2 ∧ I 31 (I 30 2 - 1) = 20 ∧ (0 ≤ I p 10 ∧ I p 10 ≤ 200) ∧ (0 ≤ I p 9 ∧ I p 9 ≤ 20) ∧ 0 ≤ I p 11 ∧ I p 11 ≤ 12
def sk_gd (p : Nat) (I I' : sk_SI) : Prop := sk_iv p I' ∧ sk_fp p I I' ∧ I p 10 ≤ I' p 10 ∧ I' p 9 = I p 9
theorem sk_gd_tr {p : Nat} {I I1 I2 : sk_SI} (h1 : sk_gd p I I1) (h2 : sk_gd p I1 I2) : sk_gd p I I2 := ⟨h2.1, sk_fp_tr h1.2.1 h2.2.1, Int.le_trans h1.2.2.1 h2.2.2.1, h2.2.2.2.trans h1.2.2.2⟩
theorem sk_gd_rf {p : Nat} {I : sk_SI} (h : sk_iv p I) : sk_gd p I I := ⟨h, sk_fp_rf p I, Int.le_refl _, rfl⟩
/-- a store into a row of the program, or of the first numbers' tokens -/
theorem sk_gd_row {p : Nat} {I : sk_SI} (hp : sk_pg p) (h : sk_iv p I) (k : Nat) (j v : Int) (hk : k = 33 ∨ (p + 1 ≤ k ∧ k ≤ p + 9)) : sk_gd p I (sk_uI I k j v) := by
  have o : ∀ c, c = 29 ∨ c = 30 ∨ c = 31 ∨ c = p → sk_uI I k j v c = I c := fun c hc => sk_uI_o (by rcases hp with rfl | rfl <;> omega)
  have hf := sk_fp_pg p hp I k j v (by omega)
  obtain ⟨a1, a2, a3, a4, a5, a6⟩ := h
  refine ⟨⟨sk_tv_fp hp a1 hf (by rw [o 29 (by omega)]; exact a1.2.2.2), ?_, ?_, ?_, ?_, ?_⟩, hf, ?_, ?_⟩
  · rw [o 29 (by omega), o 30 (by omega)]; exact a2
  · rw [o 30 (by omega), o 31 (by omega)]; exact a3
  · rw [o p (by omega)]; exact a4
  · rw [o p (by omega)]; exact a5
  · rw [o p (by omega)]; exact a6
  · rw [o p (by omega)]; exact Int.le_refl _
  · rw [o p (by omega)]
/-- a token taken that isn't the end -/
theorem sk_gd_adv {p : Nat} {I : sk_SI} (hp : sk_pg p) (h : sk_iv p I) (ht : sk_tok I (I 29 3) ≠ 20) : sk_gd p I (sk_uI I 29 3 (I 29 3 + 1)) := by
  have o : ∀ c, c ≠ 29 → sk_uI I 29 3 (I 29 3 + 1) c = I c := fun c hc => sk_uI_o hc
  have hp29 : p ≠ 29 := by rcases hp with rfl | rfl <;> omega
  have e : sk_uI I 29 3 (I 29 3 + 1) 29 3 = I 29 3 + 1 := by rw [sk_uI_s, sk_up_s]
  have hf := sk_fp_29 p hp I 3 (I 29 3 + 1) (by omega)
  obtain ⟨a1, a2, a3, a4, a5, a6⟩ := h
  have hn := a1.2.2.2
  have hN := a1.2.1
  have hne : I 29 3 ≠ I 30 2 - 1 := by
    intro z
    apply ht
    unfold sk_tok
    rw [if_pos ⟨hn.1, a2⟩, z]
    exact a3
  refine ⟨⟨sk_tv_fp hp a1 hf (by rw [e]; omega), ?_, ?_, ?_, ?_, ?_⟩, hf, ?_, ?_⟩
  · rw [e, o 30 (by decide)]; omega
  · rw [o 30 (by decide), o 31 (by decide)]; exact a3
  · rw [o p hp29]; exact a4
  · rw [o p hp29]; exact a5
  · rw [o p hp29]; exact a6
  · rw [o p hp29]; exact Int.le_refl _
  · rw [o p hp29]
theorem sk_gd_tk {p : Nat} {I : sk_SI} (hp : sk_pg p) (h : sk_iv p I) {due : Int} (hd : due ≠ 20) {x : Int × sk_SI} (hx : sk_tkI due I = .inr x) : sk_gd p I x.2 := by
  unfold sk_tkI at hx
  split at hx
  · rename_i hc
    cases hx
    exact sk_gd_adv hp h (by rw [hc]; exact hd)
  · cases hx
theorem sk_gd_n1 {p : Nat} {I : sk_SI} (hp : sk_pg p) (h : sk_iv p I) {most : Int} (a : Nat) (ha : p + 1 ≤ a ∧ a ≤ p + 9) {s : Int} {x : Int × sk_SI} (hx : sk_n1I most a s I = .inr x) : sk_gd p I x.2 := by
  unfold sk_n1I at hx
  split at hx
  · cases hx; exact sk_gd_rf h
  · split at hx
    · cases hx
    · rename_i y hy
      cases hx
      obtain ⟨q1, q2, q3, q4⟩ := sk_nuI_r hy
      have g1 := sk_gd_adv hp h (by omega)
      rw [← q1] at g1
      exact sk_gd_tr g1 (sk_gd_row hp g1.1 a s y.1 (Or.inr ha))
theorem sk_gd_rn {p : Nat} {I : sk_SI} (hp : sk_pg p) (h : sk_iv p I) {s w : Int} {x : Int × sk_SI} (hx : sk_rnI p s w I = .inr x) : sk_gd p I x.2 := by
  unfold sk_rnI at hx
  have g0 := sk_gd_row hp h 33 s (I 29 3) (Or.inl rfl)
  split at hx
  · cases hx
  · rename_i y hy
    have g1 := sk_gd_n1 hp g0.1 (p + 5) (by omega) hy
    exact sk_gd_tr g0 (sk_gd_tr g1 (sk_gd_n1 hp g1.1 (p + 6) (by omega) hx))
theorem sk_gd_rr {p : Nat} {bl : sk_SI → sk_PR} (hp : sk_pg p) (hbl : ∀ I x, sk_iv p I → bl I = .inr x → sk_gd p I x.2) {I : sk_SI} (h : sk_iv p I) {s w : Int} {x : Int × sk_SI} (hx : sk_rrI bl p s w I = .inr x) : sk_gd p I x.2 := by
  unfold sk_rrI at hx
  split at hx
  · exact sk_gd_tk hp h (by decide) hx
  · split at hx
    · cases hx
    · rename_i y hy
      have g1 := hbl I y h hy
      have g2 := sk_gd_tr g1 (sk_gd_row hp g1.1 (p + 8) s y.1 (Or.inr (by omega)))
      split at hx
      · cases hx; exact g2
      · split at hx
        · cases hx
        · rename_i z hz
          have g3 := sk_gd_tr g2 (sk_gd_tk hp g2.1 (by split <;> decide) hz)
          split at hx
          · cases hx
          · rename_i u hu
            cases hx
            have g4 := sk_gd_tr g3 (hbl _ u g3.1 hu)
            exact sk_gd_tr g4 (sk_gd_row hp g4.1 (p + 9) s u.1 (Or.inr (by omega)))
end
section
/-! ===== what the reader keeps: steps, blocks ===== -/
theorem sk_iv_10 {p : Nat} {I : sk_SI} (hp : sk_pg p) (h : sk_iv p I) (v : Int) (hv : I p 10 ≤ v ∧ v ≤ 200) : sk_gd p I (sk_uI I p 10 v) := by
  have o : ∀ c, c ≠ p → sk_uI I p 10 v c = I c := fun c hc => sk_uI_o hc
  have h29 : 29 ≠ p := by rcases hp with rfl | rfl <;> omega
  have h30 : 30 ≠ p := by rcases hp with rfl | rfl <;> omega
  have h31 : 31 ≠ p := by rcases hp with rfl | rfl <;> omega
  have hf := sk_fp_pg p hp I p 10 v (by omega)
  obtain ⟨a1, a2, a3, a4, a5, a6⟩ := h
  refine ⟨⟨sk_tv_fp hp a1 hf (by rw [o 29 h29]; exact a1.2.2.2), ?_, ?_, ?_, ?_, ?_⟩, hf, ?_, ?_⟩
  · rw [o 29 h29, o 30 h30]; exact a2
  · rw [o 30 h30, o 31 h31]; exact a3
  · rw [sk_uI_s, sk_up_s]; omega
  · rw [sk_uI_s, sk_up_o (by decide)]; exact a5
  · rw [sk_uI_s, sk_up_o (by decide)]; exact a6
  · rw [sk_uI_s, sk_up_s]; omega
  · rw [sk_uI_s, sk_up_o (by decide)]
theorem sk_iv_11 {p : Nat} {I : sk_SI} (hp : sk_pg p) (h : sk_iv p I) (v : Int) (hv : 0 ≤ v ∧ v ≤ 12) : sk_gd p I (sk_uI I p 11 v) := by
  have o : ∀ c, c ≠ p → sk_uI I p 11 v c = I c := fun c hc => sk_uI_o hc
  have h29 : 29 ≠ p := by rcases hp with rfl | rfl <;> omega
  have h30 : 30 ≠ p := by rcases hp with rfl | rfl <;> omega
  have h31 : 31 ≠ p := by rcases hp with rfl | rfl <;> omega
  have hf := sk_fp_pg p hp I p 11 v (by omega)
  obtain ⟨a1, a2, a3, a4, a5, a6⟩ := h
  refine ⟨⟨sk_tv_fp hp a1 hf (by rw [o 29 h29]; exact a1.2.2.2), ?_, ?_, ?_, ?_, ?_⟩, hf, ?_, ?_⟩
  · rw [o 29 h29, o 30 h30]; exact a2
  · rw [o 30 h30, o 31 h31]; exact a3
  · rw [sk_uI_s, sk_up_o (by decide)]; exact a4
  · rw [sk_uI_s, sk_up_o (by decide)]; exact a5
  · rw [sk_uI_s, sk_up_s]; exact hv
  · rw [sk_uI_s, sk_up_o (by decide)]; exact Int.le_refl _
  · rw [sk_uI_s, sk_up_o (by decide)]
theorem sk_gd_as {p : Nat} {I : sk_SI} (hp : sk_pg p) (h : sk_iv p I) (hs : I p 10 < 200) (w : Int) : sk_gd p I (sk_asI p w I) ∧ sk_asI p w I p 10 = I p 10 + 1 := by
  have g1 := sk_gd_row hp h (p + 3) (I p 10) w (by omega)
  have g2 := sk_gd_tr g1 (sk_gd_row hp g1.1 (p + 4) (I p 10) (I p 9 - 1) (by omega))
  have g3 := sk_gd_tr g2 (sk_gd_row hp g2.1 (p + 5) (I p 10) (-1) (by omega))
  have g4 := sk_gd_tr g3 (sk_gd_row hp g3.1 (p + 6) (I p 10) (-1) (by omega))
  have g5 := sk_gd_tr g4 (sk_gd_row hp g4.1 (p + 7) (I p 10) (-1) (by omega))
  have g6 := sk_gd_tr g5 (sk_gd_row hp g5.1 (p + 8) (I p 10) (-1) (by omega))
  have g7 := sk_gd_tr g6 (sk_gd_row hp g6.1 (p + 9) (I p 10) (-1) (by omega))
  have e : sk_uI (sk_uI (sk_uI (sk_uI (sk_uI (sk_uI (sk_uI I (p + 3) (I p 10) w) (p + 4) (I p 10) (I p 9 - 1)) (p + 5) (I p 10) (-1)) (p + 6) (I p 10) (-1)) (p + 7) (I p 10) (-1)) (p + 8) (I p 10) (-1)) (p + 9) (I p 10) (-1) p = I p := by
    rw [sk_uI_o (by omega), sk_uI_o (by omega), sk_uI_o (by omega), sk_uI_o (by omega), sk_uI_o (by omega), sk_uI_o (by omega), sk_uI_o (by omega)]
  refine ⟨sk_gd_tr g7 (sk_iv_10 hp g7.1 (I p 10 + 1) (by rw [e]; omega)), ?_⟩
  unfold sk_asI
  rw [sk_uI_s, sk_up_s]
theorem sk_gd_st {p : Nat} {bl : sk_SI → sk_PR} (hp : sk_pg p) (hbl : ∀ I x, sk_iv p I → bl I = .inr x → sk_gd p I x.2) {I : sk_SI} (h : sk_iv p I) {x : Int × sk_SI} (hx : sk_stI bl p I = .inr x) : sk_gd p I x.2 ∧ x.1 = I p 10 ∧ x.1 < x.2 p 10 := by
  unfold sk_stI at hx
  split at hx
  · cases hx
  · split at hx
    · cases hx
    · rename_i h12 h200
      split at hx
      · cases hx
      · rename_i y hy
        split at hx
        · cases hx
        · rename_i z hz
          cases hx
          have g1 := sk_gd_as hp h (by omega) (sk_tok I (I 29 3))
          have e3 : sk_asI p (sk_tok I (I 29 3)) I 29 3 = I 29 3 := by
            unfold sk_asI
            have : (29 : Nat) ≠ p ∧ 29 ≠ p + 9 ∧ 29 ≠ p + 8 ∧ 29 ≠ p + 7 ∧ 29 ≠ p + 6 ∧ 29 ≠ p + 5 ∧ 29 ≠ p + 4 ∧ 29 ≠ p + 3 := by rcases hp with rfl | rfl <;> omega
            rw [sk_uI_o this.1, sk_uI_o this.2.1, sk_uI_o this.2.2.1, sk_uI_o this.2.2.2.1, sk_uI_o this.2.2.2.2.1, sk_uI_o this.2.2.2.2.2.1, sk_uI_o this.2.2.2.2.2.2.1, sk_uI_o this.2.2.2.2.2.2.2]
          have g2 := sk_gd_adv hp g1.1.1 (by rw [e3, sk_tok_fp hp g1.1.2.1]; omega)
          rw [e3] at g2
          have g3 := sk_gd_rn hp g2.1 hy
          have g4 := sk_gd_rr hp hbl g3.1 hz
          refine ⟨sk_gd_tr g1.1 (sk_gd_tr g2 (sk_gd_tr g3 g4)), rfl, ?_⟩
          have q1 := g2.2.2.1
          have q2 := g3.2.2.1
          have q3 := g4.2.2.1
          have q4 := g1.2
          show I p 10 < z.2 p 10
          omega
theorem sk_gd_lp {p : Nat} {ps : sk_SI → sk_PR} (hp : sk_pg p) (hps : ∀ I x, sk_iv p I → ps I = .inr x → sk_gd p I x.2 ∧ x.1 = I p 10 ∧ x.1 < x.2 p 10) : ∀ (m : Nat) (f la : Int) (I : sk_SI) (x : Int × sk_SI), sk_iv p I → -1 ≤ f ∧ f < I p 10 → sk_lpI ps p m f la I = .inr x → sk_gd p I x.2 ∧ -1 ≤ x.1 ∧ x.1 < x.2 p 10
  | 0, f, la, I, x, h, hf, hx => by
    unfold sk_lpI at hx
    split at hx
    · cases hx
    · rename_i y hy
      cases hx
      have g := sk_gd_tk hp h (by decide) hy
      have := g.2.2.1
      exact ⟨g, hf.1, by show f < y.2 p 10; omega⟩
  | m + 1, f, la, I, x, h, hf, hx => by
    unfold sk_lpI at hx
    split at hx
    · rename_i ht
      cases hx
      have g := sk_gd_adv hp h (by rw [ht]; decide)
      have := g.2.2.1
      exact ⟨g, hf.1, by show f < sk_uI I 29 3 (I 29 3 + 1) p 10; omega⟩
    · split at hx
      · cases hx
      · rename_i y hy
        obtain ⟨g, e1, e2⟩ := hps I y h hy
        have g0 := g.2.2.1
        have h10 := h.2.2.2.1
        split at hx
        · have g2 := sk_gd_row hp g.1 (p + 7) la y.1 (by omega)
          have g3 := g2.2.2.1
          obtain ⟨r1, r2, r3⟩ := sk_gd_lp hp hps m f y.1 _ x g2.1 ⟨hf.1, by omega⟩ hx
          exact ⟨sk_gd_tr g (sk_gd_tr g2 r1), r2, r3⟩
        · obtain ⟨r1, r2, r3⟩ := sk_gd_lp hp hps m y.1 y.1 _ x g.1 ⟨by omega, e2⟩ hx
          exact ⟨sk_gd_tr g r1, r2, r3⟩
theorem sk_gd_bl {p : Nat} (hp : sk_pg p) : ∀ (k : Nat), k ≤ 12 → ∀ (I : sk_SI) (x : Int × sk_SI), sk_iv p I → sk_blI p k I = .inr x → sk_gd p I x.2 ∧ -1 ≤ x.1 ∧ x.1 < x.2 p 10
  | 0, _, I, x, h, hx => by
    unfold sk_blI at hx
    split at hx <;> cases hx
  | k + 1, hk, I, x, h, hx => by
    unfold sk_blI at hx
    split at hx
    · cases hx
    · rename_i y hy
      have g1 := sk_gd_tk hp h (by decide) hy
      have h11 := g1.1.2.2.2.2.2
      have g2 := sk_iv_11 hp g1.1 (max (y.2 p 11) (12 - k)) (by omega)
      have h10 := g2.1.2.2.2.1
      obtain ⟨r1, r2, r3⟩ := sk_gd_lp hp (fun J z hJ hz => sk_gd_st hp (fun A u hA hu => (sk_gd_bl hp k (by omega) A u hA hu).1) hJ hz) 201 (-1) (-1) _ x g2.1 ⟨Int.le_refl _, by omega⟩ hx
      exact ⟨sk_gd_tr g1 (sk_gd_tr g2 r1), r2, r3⟩
end
section
/-! ===== Reader.readRest, over a reader of blocks ===== -/
/-- readBlock at k more blocks, by its function -/
def sk_RB (l : Launch) (E : sk_En) (d k p : Nat) (L : sk_SL) (J : sk_SR) : Prop := ∀ (I : sk_SI) (Q : Option sk_V → List sk_Sh → sk_St → Prop), sk_iv p I → (∀ e, sk_blI p k I = .inl e → ∀ I', sk_flt p I e I' → Q (some (vi (-2))) sk_G (I', L, J)) → (∀ x, sk_blI p k I = .inr x → Q (some (vi x.1)) sk_G (x.2, L, J)) → AW l E (d + (3 * k + 6)) 0 0 mX3_readBlock 0 [some (vr 29), some (vi (13 - k)), none, none, none, none] [] sk_G (I, L, J) Q
theorem sk_bs_b {w : Int} (h : 0 ≤ w ∧ w ≤ 12) : sk_bs w = 0 ∨ sk_bs w = 1 ∨ sk_bs w = 2 := by
  rcases (show w = 0 ∨ w = 1 ∨ w = 2 ∨ w = 3 ∨ w = 4 ∨ w = 5 ∨ w = 6 ∨ w = 7 ∨ w = 8 ∨ w = 9 ∨ w = 10 ∨ w = 11 ∨ w = 12 by omega) with rfl | rfl | rfl | rfl | rfl | rfl | rfl | rfl | rfl | rfl | rfl | rfl | rfl <;> decide
section SKR4
variable {l : Launch} {E : sk_En} {d : Nat} {I : sk_SI} {L : sk_SL} {cu sp rp tp fp : Nat} {Q : Option sk_V → List sk_Sh → sk_St → Prop}
theorem c_R_takeF (p : Nat) (hp : sk_pg p) {J : sk_SR} {io : Nat} (hJ : J = sk_J cu sp io rp tp fp) (due : Int) (h : sk_tv I) (hd : sk_in due) (h1 : ∀ e, sk_tkI due I = .inl e → ∀ I', sk_flt p I e I' → Q (some (vi 0)) sk_G (I', L, J)) (h2 : ∀ x, sk_tkI due I = .inr x → Q (some (vi 1)) sk_G (x.2, L, J)) : AW l E (d + 1) 0 0 mX3_take 0 [some (vr 29), some (vi due)] [] sk_G (I, L, J) Q := by
  subst hJ
  refine c_R_take due h hd (fun g => ?_) (fun g => ?_)
  · exact h2 (0, sk_uI I 29 3 (I 29 3 + 1)) (by unfold sk_tkI; rw [if_pos g])
  · exact h1 (1, I 29 3) (by unfold sk_tkI; rw [if_neg g]) _ (sk_flt_bk p hp I 1 _)
theorem c_R_rest (p k : Nat) (hp : sk_pg p) (hk : k ≤ 12) (s w : Int) (hs : 0 ≤ s ∧ s < 200) (hw : 0 ≤ w ∧ w ≤ 12) (h : sk_iv p I) (hRB : sk_RB l E d k p L (sk_J cu sp p rp tp fp)) (h1 : ∀ e, sk_rrI (sk_blI p k) p s w I = .inl e → ∀ I', sk_flt p I e I' → Q (some (vi 0)) sk_G (I', L, sk_J cu sp p rp tp fp)) (h2 : ∀ x, sk_rrI (sk_blI p k) p s w I = .inr x → Q (some (vi 1)) sk_G (x.2, L, sk_J cu sp p rp tp fp)) : AW l E (d + (3 * k + 7)) 0 0 mX3_readRest 0 [some (vr 29), some (vi s), some (vi w), some (vi (12 - k)), none] [] sk_G (I, L, sk_J cu sp p rp tp fp) Q := by
  have hbs := sk_bs_b hw
  have hp' := hp
  have ek : (12 - (k : Int)) + 1 = 13 - k := by omega
  have two : sk_bs w = 2 → ∀ x, sk_blI p k I = .inr x → ∀ due : Int, due = (if w = 11 then 14 else 13) → AW l E (d + (3 * k + 7)) 0 0 mX3_readRest 104 [some (vr 29), some (vi s), some (vi w), some (vi (12 - k)), some (vi (sk_bs w))] [vi due, vr 29] sk_G (sk_uI x.2 (p + 8) s x.1, L, sk_J cu sp p rp tp fp) Q := by
    intro hb2 x hx due hdue
    have g : ¬ sk_bs w = 0 := by omega
    obtain ⟨gd, gx1, gx2⟩ := sk_gd_bl hp' k hk I x h hx
    have gS := sk_gd_tr gd (sk_gd_row hp' gd.1 (p + 8) s x.1 (Or.inr (by omega)))
    rcases hp with rfl | rfl <;>
    · have hdi : sk_in due := by rw [hdue]; unfold sk_in; split <;> omega
      have hd20 : due ≠ 20 := by rw [hdue]; split <;> omega
      refine AW_cV (M' := mX3_take) rfl kkX3_62 lcX3_take rfl rfl rfl rfl rfl rfl (Nat.le_refl _) ?_
      refine c_R_takeF _ hp' rfl due gS.1.1 hdi (fun e he I' hI' => ?_) (fun y hy => ?_)
      · refine AW_run 80 rfl ?_
        first | refine AW_e1 rfl ?_ | refine AW_e0 rfl ?_ | refine AW_n1 rfl ?_ | refine AW_n0 rfl ?_
        refine AW_run 80 rfl ?_
        refine AW_zret rfl rfl (Or.inl rfl) (h1 e ?_ I' (sk_flt_tr gS.2.1 hI'))
        unfold sk_rrI
        rw [if_neg g, hx]
        dsimp only
        rw [if_neg (by omega), ← hdue, he]
      · have gy := sk_gd_tr gS (sk_gd_tk hp' gS.1 hd20 hy)
        refine AW_run 80 rfl ?_
        first | refine AW_e1 rfl ?_ | refine AW_e0 rfl ?_ | refine AW_n1 rfl ?_ | refine AW_n0 rfl ?_
        refine AW_run 80 rfl ?_
        rw [ek]
        refine AW_cV (M' := mX3_readBlock) (d' := d + (3 * k + 6)) rfl kkX3_79 lcX3_readBlock rfl rfl rfl rfl rfl rfl (by omega) ?_
        refine hRB y.2 _ gy.1 (fun e he I' hI' => ?_) (fun z hz => ?_)
        · have hQ := h1 e (by
            unfold sk_rrI
            rw [if_neg g, hx]
            dsimp only
            rw [if_neg (by omega), ← hdue, hy]
            dsimp only
            rw [he]) _ (sk_flt_pg hp' (sk_flt_tr gy.2.1 hI') _ s (-2) (Or.inr ⟨Nat.le_add_right _ 9, Nat.le_refl _⟩))
          refine AW_run 80 rfl ?_
          refine AW_iast rfl rfl ⟨by omega, by omega⟩ (by decide) ?_
          refine AW_run 80 rfl ?_
          refine AW_iald rfl rfl ⟨by omega, by omega⟩ (by decide) ?_
          (try simp only [sk_uI_s, sk_uI_o, sk_up_s, sk_up_o, sk_uL_s, sk_uL_o, ne_eq, Nat.reduceEqDiff, Nat.reduceAdd, Int.reduceEq, not_false_eq_true])
          refine AW_run 80 rfl ?_
          refine AW_iceq rfl (fun g3 => ?_) (fun g3 => by omega)
          refine AW_run 80 rfl ?_
          exact AW_zret rfl rfl (Or.inl rfl) hQ
        · obtain ⟨gz, gz1, gz2⟩ := sk_gd_bl hp' k hk y.2 z gy.1 hz
          have hz10 := gz.1.2.2.2.1
          have hQ := h2 (0, sk_uI z.2 _ s z.1) (by
            unfold sk_rrI
            rw [if_neg g, hx]
            dsimp only
            rw [if_neg (by omega), ← hdue, hy]
            dsimp only
            rw [hz])
          refine AW_run 80 rfl ?_
          refine AW_iast rfl rfl ⟨by omega, by omega⟩ (by decide) ?_
          refine AW_run 80 rfl ?_
          refine AW_iald rfl rfl ⟨by omega, by omega⟩ (by decide) ?_
          (try simp only [sk_uI_s, sk_uI_o, sk_up_s, sk_up_o, sk_uL_s, sk_uL_o, ne_eq, Nat.reduceEqDiff, Nat.reduceAdd, Int.reduceEq, not_false_eq_true])
          refine AW_run 80 rfl ?_
          refine AW_iceq rfl (fun g3 => by omega) (fun g3 => ?_) (by unfold sk_in; omega)
          refine AW_run 80 rfl ?_
          exact AW_zret rfl rfl (Or.inr rfl) hQ
  rcases hp with rfl | rfl <;>
  · refine AW_run 80 rfl ?_
    refine AW_gets rfl ?_
    refine AW_xlen rfl (by decide) ?_
    refine AW_within rfl kkX3_82 rfl (by omega) (fun w1 w2 => ?_) (fun w3 => by omega)
    refine AW_run 80 rfl ?_
    first | refine AW_e1 rfl ?_ | refine AW_e0 rfl ?_ | refine AW_n1 rfl ?_ | refine AW_n0 rfl ?_
    refine AW_gets rfl ?_
    refine AW_run 80 rfl ?_
    refine AW_xld (x := 2) rfl rfl ⟨hw.1, by omega⟩ ?_
    change AW l E (d + (3 * k + 7)) 0 0 mX3_readRest _ _ [vi (sk_bs w)] sk_G _ Q
    refine AW_run 80 rfl ?_
    refine AW_ifne rfl (fun g => ?_) (fun g => ?_) (by unfold sk_in; omega)
    · refine AW_run 80 rfl ?_
      rw [ek]
      refine AW_cV (M' := mX3_readBlock) (d' := d + (3 * k + 6)) rfl kkX3_79 lcX3_readBlock rfl rfl rfl rfl rfl rfl (by omega) ?_
      refine hRB I _ h (fun e he I' hI' => ?_) (fun x hx => ?_)
      · have hQ := h1 e (by unfold sk_rrI; rw [if_neg g, he]) _ (sk_flt_pg hp' hI' _ s (-2) (Or.inr ⟨Nat.le_add_right _ 8, by omega⟩))
        refine AW_run 80 rfl ?_
        refine AW_iast rfl rfl ⟨by omega, by omega⟩ (by decide) ?_
        refine AW_run 80 rfl ?_
        refine AW_iceq rfl (fun g2 => ?_) (fun g2 => ?_) (by unfold sk_in; omega)
        · refine AW_run 80 rfl ?_
          refine AW_iald rfl rfl ⟨by omega, by omega⟩ (by decide) ?_
          (try simp only [sk_uI_s, sk_uI_o, sk_up_s, sk_up_o, sk_uL_s, sk_uL_o, ne_eq, Nat.reduceEqDiff, Nat.reduceAdd, Int.reduceEq, not_false_eq_true])
          refine AW_run 80 rfl ?_
          refine AW_iceq rfl (fun g3 => ?_) (fun g3 => by omega)
          refine AW_run 80 rfl ?_
          exact AW_zret rfl rfl (Or.inl rfl) hQ
        · refine AW_run 80 rfl ?_
          refine AW_iald rfl rfl ⟨by omega, by omega⟩ (by decide) ?_
          (try simp only [sk_uI_s, sk_uI_o, sk_up_s, sk_up_o, sk_uL_s, sk_uL_o, ne_eq, Nat.reduceEqDiff, Nat.reduceAdd, Int.reduceEq, not_false_eq_true])
          refine AW_run 80 rfl ?_
          refine AW_icne rfl (fun g3 => by omega) (fun g3 => ?_)
          refine AW_run 80 rfl ?_
          refine AW_iald rfl rfl ⟨by omega, by omega⟩ (by decide) ?_
          (try simp only [sk_uI_s, sk_uI_o, sk_up_s, sk_up_o, sk_uL_s, sk_uL_o, ne_eq, Nat.reduceEqDiff, Nat.reduceAdd, Int.reduceEq, not_false_eq_true])
          refine AW_run 80 rfl ?_
          refine AW_iceq rfl (fun g3 => ?_) (fun g3 => by omega)
          refine AW_run 80 rfl ?_
          exact AW_zret rfl rfl (Or.inl rfl) hQ
      · obtain ⟨gd, gx1, gx2⟩ := sk_gd_bl hp' k hk I x h hx
        have hx10 := gd.1.2.2.2.1
        refine AW_run 80 rfl ?_
        refine AW_iast rfl rfl ⟨by omega, by omega⟩ (by decide) ?_
        refine AW_run 80 rfl ?_
        refine AW_iceq rfl (fun g2 => ?_) (fun g2 => ?_) (by unfold sk_in; omega)
        · have hQ := h2 (0, sk_uI x.2 _ s x.1) (by
            unfold sk_rrI
            rw [if_neg g, hx]
            dsimp only
            rw [if_pos g2])
          refine AW_run 80 rfl ?_
          refine AW_iald rfl rfl ⟨by omega, by omega⟩ (by decide) ?_
          (try simp only [sk_uI_s, sk_uI_o, sk_up_s, sk_up_o, sk_uL_s, sk_uL_o, ne_eq, Nat.reduceEqDiff, Nat.reduceAdd, Int.reduceEq, not_false_eq_true])
          refine AW_run 80 rfl ?_
          refine AW_iceq rfl (fun g3 => by omega) (fun g3 => ?_) (by unfold sk_in; omega)
          refine AW_run 80 rfl ?_
          exact AW_zret rfl rfl (Or.inr rfl) hQ
        · refine AW_run 80 rfl ?_
          refine AW_iald rfl rfl ⟨by omega, by omega⟩ (by decide) ?_
          (try simp only [sk_uI_s, sk_uI_o, sk_up_s, sk_up_o, sk_uL_s, sk_uL_o, ne_eq, Nat.reduceEqDiff, Nat.reduceAdd, Int.reduceEq, not_false_eq_true])
          refine AW_run 80 rfl ?_
          refine AW_icne rfl (fun g3 => ?_) (fun g3 => by omega) (by unfold sk_in; omega)
          refine AW_run 80 rfl ?_
          refine AW_icne rfl (fun g4 => ?_) (fun g4 => ?_) (by unfold sk_in; omega)
          · refine AW_run 80 rfl ?_
            exact two (by omega) x hx 13 (by rw [if_neg g4])
          · refine AW_run 80 rfl ?_
            exact two (by omega) x hx 14 (by rw [if_pos g4])
    · refine AW_run 80 rfl ?_
      refine AW_cV (M' := mX3_take) rfl kkX3_62 lcX3_take rfl rfl rfl rfl rfl rfl (Nat.le_refl _) ?_
      refine c_R_takeF _ hp' rfl 18 h.1 (by unfold sk_in; omega) (fun e he I' hI' => ?_) (fun x hx => ?_)
      · exact AW_zret rfl rfl (Or.inl rfl) (h1 e (by unfold sk_rrI; rw [if_pos g]; exact he) I' hI')
      · exact AW_zret rfl rfl (Or.inr rfl) (h2 x (by unfold sk_rrI; rw [if_pos g]; exact hx))
end SKR4
end
section
/-! ===== Reader.readStep, by its function ===== -/
theorem sk_asI_29 {p : Nat} (hp : sk_pg p) (w : Int) (I : sk_SI) : sk_asI p w I 29 = I 29 := by
  unfold sk_asI
  have : (29 : Nat) ≠ p ∧ 29 ≠ p + 9 ∧ 29 ≠ p + 8 ∧ 29 ≠ p + 7 ∧ 29 ≠ p + 6 ∧ 29 ≠ p + 5 ∧ 29 ≠ p + 4 ∧ 29 ≠ p + 3 := by rcases hp with rfl | rfl <;> omega
  rw [sk_uI_o this.1, sk_uI_o this.2.1, sk_uI_o this.2.2.1, sk_uI_o this.2.2.2.1, sk_uI_o this.2.2.2.2.1, sk_uI_o this.2.2.2.2.2.1, sk_uI_o this.2.2.2.2.2.2.1, sk_uI_o this.2.2.2.2.2.2.2]
theorem sk_asI_5 (p : Nat) (w : Int) (I : sk_SI) : sk_asI p w I (p + 5) (I p 10) = -1 := by
  unfold sk_asI
  rw [sk_uI_o (by omega), sk_uI_o (by omega), sk_uI_o (by omega), sk_uI_o (by omega), sk_uI_o (by omega), sk_uI_s, sk_up_s]
theorem sk_asI_6 (p : Nat) (w : Int) (I : sk_SI) : sk_asI p w I (p + 6) (I p 10) = -1 := by
  unfold sk_asI
  rw [sk_uI_o (by omega), sk_uI_o (by omega), sk_uI_o (by omega), sk_uI_o (by omega), sk_uI_s, sk_up_s]
section SKR5
variable {l : Launch} {E : sk_En} {d : Nat} {I : sk_SI} {L : sk_SL} {cu sp rp tp fp : Nat} {Q : Option sk_V → List sk_Sh → sk_St → Prop}
theorem c_R_step (p k : Nat) (hp : sk_pg p) (hk : k ≤ 12) (h : sk_iv p I) (hRB : sk_RB l E d k p L (sk_J cu sp p rp tp fp)) (h1 : ∀ e, sk_stI (sk_blI p k) p I = .inl e → ∀ I', sk_flt p I e I' → Q (some (vi (-2))) sk_G (I', L, sk_J cu sp p rp tp fp)) (h2 : ∀ x, sk_stI (sk_blI p k) p I = .inr x → Q (some (vi x.1)) sk_G (x.2, L, sk_J cu sp p rp tp fp)) : AW l E (d + (3 * k + 8)) 0 0 mX3_readStep 0 [some (vr 29), some (vi (12 - k)), none, none] [] sk_G (I, L, sk_J cu sp p rp tp fp) Q := by
  have hp' := hp
  have hb := sk_tok_b h.1 (I 29 3)
  have hn := h.1.2.2.2
  have h10 := h.2.2.2.1
  generalize hw : sk_tok I (I 29 3) = w at hb
  have tail : w ≤ 12 → I p 10 < 200 → AW l E (d + (3 * k + 8)) 0 0 mX3_readStep 79 [some (vr 29), some (vi (12 - k)), some (vi w), some (vi (I p 10))] [vi (I p 10), vr p] sk_G (sk_uI (sk_asI p w I) 29 3 (I 29 3 + 1), L, sk_J cu sp p rp tp fp) Q := by
    intro g1 g2
    obtain ⟨ga, gb⟩ := sk_gd_as hp' h g2 w
    have e29 := sk_asI_29 hp' w I
    have gc := sk_gd_adv hp' ga.1 (by rw [e29, sk_tok_fp hp' ga.2.1, hw]; omega)
    rw [e29] at gc
    have gS := sk_gd_tr ga gc
    have p29 : p ≠ 29 := by rcases hp' with rfl | rfl <;> omega
    have e10 : sk_uI (sk_asI p w I) 29 3 (I 29 3 + 1) p 10 = I p 10 + 1 := by rw [sk_uI_o p29]; exact gb
    have e5 : sk_uI (sk_asI p w I) 29 3 (I 29 3 + 1) (p + 5) (I p 10) = -1 := by rw [sk_uI_o (by rcases hp' with rfl | rfl <;> omega)]; exact sk_asI_5 p w I
    have e6 : sk_uI (sk_asI p w I) 29 3 (I 29 3 + 1) (p + 6) (I p 10) = -1 := by rw [sk_uI_o (by rcases hp' with rfl | rfl <;> omega)]; exact sk_asI_6 p w I
    have e3 : sk_uI (sk_asI p w I) 29 3 (I 29 3 + 1) 29 3 = I 29 3 + 1 := by rw [sk_uI_s, sk_up_s]
    have hu : sk_stI (sk_blI p k) p I = (match sk_rnI p (I p 10) w (sk_uI (sk_asI p w I) 29 3 (I 29 3 + 1)) with
      | .inl e => .inl e
      | .inr x => match sk_rrI (sk_blI p k) p (I p 10) w x.2 with
        | .inl e => .inl e
        | .inr y => .inr (I p 10, y.2)) := by
      unfold sk_stI
      rw [hw, if_neg (by omega), if_neg (by omega)]
      rfl
    generalize sk_uI (sk_asI p w I) 29 3 (I 29 3 + 1) = S at *
    have hN := gS.1.2.1
    have hN2 := gS.1.1.2.1
    generalize I p 10 = s at *
    rcases hp with rfl | rfl <;>
    · refine AW_cV (M' := mX2_hasStep) rfl kkX3_100 lcX2_hasStep rfl rfl rfl rfl rfl rfl (Nat.le_refl _) ?_
      refine c_Pg_has _ hp' s (by unfold sk_in; omega) gS.1.2.2.2.1 (fun _ _ => ?_) (fun z => by omega)
      refine AW_run 80 rfl ?_
      first | refine AW_e1 rfl ?_ | refine AW_e0 rfl ?_ | refine AW_n1 rfl ?_ | refine AW_n0 rfl ?_
      refine AW_run 80 rfl ?_
      refine AW_cV (M' := mX3_readNumbers) rfl kkX3_112 lcX3_readNumbers rfl rfl rfl rfl rfl rfl (Nat.le_refl _) ?_
      refine c_R_numbers _ hp' s w (by omega) (by omega) gS.1.1 (by omega) e5 e6 (fun e he I' hI' => ?_) (fun x hx => ?_)
      · refine AW_run 80 rfl ?_
        first | refine AW_e1 rfl ?_ | refine AW_e0 rfl ?_ | refine AW_n1 rfl ?_ | refine AW_n0 rfl ?_
        refine AW_run 80 rfl ?_
        exact AW_iret rfl rfl (h1 e (by rw [hu, he]) I' (sk_flt_tr gS.2.1 hI'))
      · have gx := sk_gd_rn hp' gS.1 hx
        refine AW_run 80 rfl ?_
        first | refine AW_e1 rfl ?_ | refine AW_e0 rfl ?_ | refine AW_n1 rfl ?_ | refine AW_n0 rfl ?_
        refine AW_run 80 rfl ?_
        refine AW_cV (M' := mX3_readRest) (d' := d + (3 * k + 7)) rfl kkX3_115 lcX3_readRest rfl rfl rfl rfl rfl rfl (by omega) ?_
        refine c_R_rest _ k hp' hk s w (by omega) (by omega) gx.1 hRB (fun e he I' hI' => ?_) (fun y hy => ?_)
        · refine AW_run 80 rfl ?_
          first | refine AW_e1 rfl ?_ | refine AW_e0 rfl ?_ | refine AW_n1 rfl ?_ | refine AW_n0 rfl ?_
          refine AW_run 80 rfl ?_
          refine AW_iret rfl rfl (h1 e ?_ I' (sk_flt_tr (sk_fp_tr gS.2.1 gx.2.1) hI'))
          rw [hu, hx]
          dsimp only
          rw [he]
        · refine AW_run 80 rfl ?_
          first | refine AW_e1 rfl ?_ | refine AW_e0 rfl ?_ | refine AW_n1 rfl ?_ | refine AW_n0 rfl ?_
          refine AW_run 80 rfl ?_
          refine AW_iret rfl rfl (h2 (s, y.2) ?_)
          rw [hu, hx]
          dsimp only
          rw [hy]
  rcases hp with rfl | rfl <;>
  · refine AW_run 80 rfl ?_
    refine AW_cV (M' := mX8_tokenAt) rfl kkX3_46 lcX8_tokenAt rfl rfl rfl rfl rfl rfl (Nat.le_refl _) ?_
    refine c_T_tok _ h.1 (by unfold sk_in; omega) ?_
    rw [hw]
    refine AW_run 80 rfl ?_
    refine AW_iflt rfl (fun g => by omega) (fun g => ?_) (by unfold sk_in; omega)
    refine AW_run 80 rfl ?_
    refine AW_icle rfl (fun g1 => ?_) (fun g1 => ?_) (by unfold sk_in; omega)
    · refine AW_run 80 rfl ?_
      refine AW_iclt rfl (fun g2 => ?_) (fun g2 => ?_) (by unfold sk_in; omega)
      · refine AW_run 80 rfl ?_
        refine AW_cV (M' := mX2_addStep) rfl kkX3_109 lcX2_addStep rfl rfl rfl rfl rfl rfl (Nat.le_refl _) ?_
        refine c_Pg_addStep _ hp' w (by omega) ?_
        have t := tail g1 g2
        have e29 := sk_asI_29 hp' w I
        rw [← congrFun e29 3] at t
        refine AW_run 80 rfl ?_
        exact t
      · refine AW_run 80 rfl ?_
        refine AW_cV (M' := mX3_broken) rfl kkX3_69 lcX3_broken rfl rfl rfl rfl rfl rfl (Nat.le_refl _) ?_
        refine c_R_broken _ _ ?_
        exact AW_iret rfl rfl (h1 (4, I 29 3) (by unfold sk_stI; rw [hw, if_neg (by omega), if_pos (by omega)]) _ (sk_flt_bk _ hp' I 4 _))
    · refine AW_run 80 rfl ?_
      refine AW_cV (M' := mX3_broken) rfl kkX3_69 lcX3_broken rfl rfl rfl rfl rfl rfl (Nat.le_refl _) ?_
      refine c_R_broken _ _ ?_
      exact AW_iret rfl rfl (h1 (1, I 29 3) (by unfold sk_stI; rw [hw, if_pos (by omega)]) _ (sk_flt_bk _ hp' I 1 _))
end SKR5
end
section
/-! ===== a number below 0 is no step's ===== -/
section SKR6n
variable {l : Launch} {E : sk_En} {d : Nat} {I : sk_SI} {L : sk_SL} {cu sp io rp tp fp : Nat} {Q : Option sk_V → List sk_Sh → sk_St → Prop} {G : List sk_Sh} {σ : sk_St}
theorem c_within_n (a b : Int) (ha : sk_in a) (h0 : a < 0) (hF : Q (some (vi 0)) G σ) : AW l E d 0 0 mX9_within 0 [some (vi a), some (vi b)] [] G σ Q := by
  refine AW_run 80 rfl ?_
  refine AW_iflt rfl (fun h => ?_) (fun h => ?_)
  · refine AW_run 80 rfl ?_
    exact AW_zret rfl rfl (Or.inl rfl) hF
  · omega
theorem c_Pg_hasN (p : Nat) (hp : sk_pg p) (s : Int) (hs : sk_in s) (h0 : s < 0) (hF : Q (some (vi 0)) sk_G (I, L, sk_J cu sp io rp tp fp)) : AW l E (d + 1) 0 0 mX2_hasStep 0 [some (vr p), some (vi s)] [] sk_G (I, L, sk_J cu sp io rp tp fp) Q := by
  rcases hp with rfl | rfl <;>
  · refine AW_run 80 rfl ?_
    refine AW_callSN (d' := 0) rfl kkX2_49 lcX9_within rfl rfl rfl (by omega) (Nat.zero_add 0).symm (Nat.zero_add 0).symm (c_within_n s _ hs h0 ?_)
    refine AW_run 80 rfl ?_
    exact AW_zret rfl rfl (Or.inl rfl) hF
end SKR6n
/-! ===== Reader.readBlock, by its function ===== -/
section SKR6
variable {l : Launch} {E : sk_En} {d : Nat} {L : sk_SL} {cu sp rp tp fp : Nat}
theorem c_R_loop (p k : Nat) (hp : sk_pg p) (hk : k + 1 ≤ 12) (hRB : sk_RB l E d k p L (sk_J cu sp p rp tp fp)) (Q : Option sk_V → List sk_Sh → sk_St → Prop) : ∀ (m : Nat) (i f la : Int) (S : sk_SI), 0 ≤ i → i + m = 201 → sk_iv p S → -1 ≤ f ∧ f ≤ 199 → -1 ≤ la ∧ la < S p 10 → (∀ e, sk_lpI (sk_stI (sk_blI p k) p) p m f la S = .inl e → ∀ I', sk_flt p S e I' → Q (some (vi (-2))) sk_G (I', L, sk_J cu sp p rp tp fp)) → (∀ x, sk_lpI (sk_stI (sk_blI p k) p) p m f la S = .inr x → Q (some (vi x.1)) sk_G (x.2, L, sk_J cu sp p rp tp fp)) →
    AW l E (d + (3 * k + 9)) 0 0 mX3_readBlock 60 [some (vr 29), some (vi (12 - k)), some (vi f), some (vi la), some (vi i), none] [vi 200, vi i] sk_G (S, L, sk_J cu sp p rp tp fp) Q := by
  intro m
  have fin : ∀ (f la i : Int) (S : sk_SI) (ls : List (Option sk_V)), sk_iv p S → ls = [some (vr 29), some (vi (12 - k)), some (vi f), some (vi la), some (vi i), none] → (∀ e, sk_tkI 17 S = .inl e → ∀ I', sk_flt p S e I' → Q (some (vi (-2))) sk_G (I', L, sk_J cu sp p rp tp fp)) → (∀ x, sk_tkI 17 S = .inr x → Q (some (vi f)) sk_G (x.2, L, sk_J cu sp p rp tp fp)) → AW l E (d + (3 * k + 9)) 0 0 mX3_readBlock 138 ls [] sk_G (S, L, sk_J cu sp p rp tp fp) Q := by
    intro f la i S ls h hls h1 h2
    subst hls
    refine AW_run 80 rfl ?_
    refine AW_cV (M' := mX3_take) rfl kkX3_62 lcX3_take rfl rfl rfl rfl rfl rfl (Nat.le_refl _) ?_
    refine c_R_takeF p hp rfl 17 h.1 (by unfold sk_in; omega) (fun e he I' hI' => ?_) (fun x hx => ?_)
    · refine AW_run 80 rfl ?_
      first | refine AW_e1 rfl ?_ | refine AW_e0 rfl ?_ | refine AW_n1 rfl ?_ | refine AW_n0 rfl ?_
      refine AW_run 80 rfl ?_
      exact AW_iret rfl rfl (h1 e he I' hI')
    · refine AW_run 80 rfl ?_
      first | refine AW_e1 rfl ?_ | refine AW_e0 rfl ?_ | refine AW_n1 rfl ?_ | refine AW_n0 rfl ?_
      refine AW_run 80 rfl ?_
      exact AW_iret rfl rfl (h2 x hx)
  induction m with
  | zero =>
    intro i f la S h0 hi hv hf hla h1 h2
    refine AW_icgt rfl (fun g => ?_) (fun g => ?_)
    · refine fin f la i S _ hv rfl (fun e he => h1 e (by unfold sk_lpI; rw [he])) (fun x hx => h2 (f, x.2) (by unfold sk_lpI; rw [hx]))
    · omega
  | succ m ih =>
    intro i f la S h0 hi hv hf hla h1 h2
    have hb := sk_tok_b hv.1 (S 29 3)
    have hn := hv.1.2.2.2
    have hp' := hp
    refine AW_icgt rfl (fun g => ?_) (fun g => ?_)
    · omega
    · refine AW_run 80 rfl ?_
      refine AW_cV (M' := mX8_tokenAt) rfl kkX3_46 lcX8_tokenAt rfl rfl rfl rfl rfl rfl (Nat.le_refl _) ?_
      refine c_T_tok _ hv.1 (by unfold sk_in; omega) ?_
      refine AW_run 80 rfl ?_
      refine AW_iceq rfl (fun g2 => ?_) (fun g2 => ?_) (by unfold sk_in; omega)
      · refine fin f la i S _ hv rfl (fun e he => ?_) (fun x hx => ?_)
        · unfold sk_tkI at he
          rw [if_pos g2] at he
          cases he
        · refine h2 (f, x.2) ?_
          unfold sk_tkI at hx
          rw [if_pos g2] at hx
          cases hx
          unfold sk_lpI
          rw [if_pos g2]
      · have hu : sk_lpI (sk_stI (sk_blI p k) p) p (m + 1) f la S = (match sk_stI (sk_blI p k) p S with
          | .inl e => .inl e
          | .inr x => if 0 ≤ la then sk_lpI (sk_stI (sk_blI p k) p) p m f x.1 (sk_uI x.2 (p + 7) la x.1) else sk_lpI (sk_stI (sk_blI p k) p) p m x.1 x.1 x.2) := by
          rw [sk_lpI, if_neg g2]
          rfl
        rw [hu] at h1 h2
        refine AW_run 80 rfl ?_
        refine AW_cV (M' := mX3_readStep) (d' := d + (3 * k + 8)) rfl kkX3_97 lcX3_readStep rfl rfl rfl rfl rfl rfl (by omega) ?_
        refine c_R_step p k hp (by omega) hv hRB (fun e he I' hI' => ?_) (fun x hx => ?_)
        · have hQ := h1 e (by rw [he]) I' hI'
          rcases hp with rfl | rfl <;>
          · refine AW_run 80 rfl ?_
            refine AW_cV (M' := mX2_hasStep) rfl kkX3_100 lcX2_hasStep rfl rfl rfl rfl rfl rfl (Nat.le_refl _) ?_
            refine c_Pg_hasN _ hp' (-2) (by unfold sk_in; omega) (by omega) ?_
            refine AW_run 80 rfl ?_
            first | refine AW_e1 rfl ?_ | refine AW_e0 rfl ?_ | refine AW_n1 rfl ?_ | refine AW_n0 rfl ?_
            refine AW_run 80 rfl ?_
            exact AW_iret rfl rfl hQ
        · obtain ⟨gx, ex1, ex2⟩ := sk_gd_st hp (fun A u hA hu => (sk_gd_bl hp k (by omega) A u hA hu).1) hv hx
          rw [hx] at h1 h2
          dsimp only at h1 h2
          have h10 := gx.1.2.2.2.1
          have hS10 := hv.2.2.2.1
          have gle := gx.2.2.1
          rcases hp with rfl | rfl <;>
          · refine AW_run 80 rfl ?_
            refine AW_cV (M' := mX2_hasStep) rfl kkX3_100 lcX2_hasStep rfl rfl rfl rfl rfl rfl (Nat.le_refl _) ?_
            refine c_Pg_has _ hp' x.1 (by unfold sk_in; omega) h10 (fun _ _ => ?_) (fun z => by omega)
            refine AW_run 80 rfl ?_
            first | refine AW_e1 rfl ?_ | refine AW_e0 rfl ?_ | refine AW_n1 rfl ?_ | refine AW_n0 rfl ?_
            refine AW_run 80 rfl ?_
            refine AW_cV (M' := mX2_hasStep) rfl kkX3_100 lcX2_hasStep rfl rfl rfl rfl rfl rfl (Nat.le_refl _) ?_
            refine c_Pg_has _ hp' la (by unfold sk_in; omega) h10 (fun a b => ?_) (fun z => ?_)
            · rw [if_pos a] at h1 h2
              have gr := sk_gd_row hp' gx.1 _ la x.1 (Or.inr ⟨Nat.le_add_right_of_le (k := 6) (Nat.le_refl _), Nat.le_succ_of_le (Nat.le_succ _)⟩)
              have gle2 := gr.2.2.1
              have ih2 := ih (i + 1) f x.1 _ (by omega) (by omega) gr.1 hf (by omega) (fun e he I' hI' => h1 e he I' (sk_flt_tr (sk_gd_tr gx gr).2.1 hI')) (fun y hy => h2 y hy)
              refine AW_run 80 rfl ?_
              first | refine AW_e1 rfl ?_ | refine AW_e0 rfl ?_ | refine AW_n1 rfl ?_ | refine AW_n0 rfl ?_
              refine AW_run 80 rfl ?_
              refine AW_iast rfl rfl ⟨by omega, by omega⟩ (by decide) ?_
              refine AW_run 80 rfl ?_
              exact AW_lk ih2 ⟨rfl, rfl, rfl, rfl, rfl, trivial⟩
            · rw [if_neg (by omega)] at h1 h2
              have ih2 := ih (i + 1) x.1 x.1 x.2 (by omega) (by omega) gx.1 (by omega) (by omega) (fun e he I' hI' => h1 e he I' (sk_flt_tr gx.2.1 hI')) (fun y hy => h2 y hy)
              refine AW_run 80 rfl ?_
              first | refine AW_e1 rfl ?_ | refine AW_e0 rfl ?_ | refine AW_n1 rfl ?_ | refine AW_n0 rfl ?_
              refine AW_run 80 rfl ?_
              exact AW_lk ih2 ⟨rfl, rfl, rfl, rfl, rfl, trivial⟩
end SKR6
section SKR7
variable {l : Launch} {E : sk_En} {d : Nat} {L : sk_SL} {cu sp rp tp fp : Nat}
theorem c_R_block (p : Nat) (hp : sk_pg p) : ∀ (k : Nat), k ≤ 12 → sk_RB l E d k p L (sk_J cu sp p rp tp fp)
  | 0, hk => by
    intro I Q h h1 h2
    refine AW_run 80 rfl ?_
    refine AW_cV (M' := mX3_take) rfl kkX3_62 lcX3_take rfl rfl rfl rfl rfl rfl (Nat.le_refl _) ?_
    refine c_R_takeF p hp rfl 16 h.1 (by unfold sk_in; omega) (fun e he I' hI' => ?_) (fun x hx => ?_)
    · refine AW_run 80 rfl ?_
      first | refine AW_e1 rfl ?_ | refine AW_e0 rfl ?_ | refine AW_n1 rfl ?_ | refine AW_n0 rfl ?_
      refine AW_run 80 rfl ?_
      exact AW_iret rfl rfl (h1 e (by unfold sk_blI; rw [he]) I' hI')
    · have gx := sk_gd_tk hp h (by decide) hx
      have hn := gx.1.1.2.2.2
      refine AW_run 80 rfl ?_
      first | refine AW_e1 rfl ?_ | refine AW_e0 rfl ?_ | refine AW_n1 rfl ?_ | refine AW_n0 rfl ?_
      refine AW_run 80 rfl ?_
      refine AW_icle rfl (fun g => by omega) (fun g => ?_) (by unfold sk_in; omega)
      refine AW_run 80 rfl ?_
      refine AW_cV (M' := mX3_broken) rfl kkX3_69 lcX3_broken rfl rfl rfl rfl rfl rfl (Nat.le_refl _) ?_
      refine c_R_broken _ _ ?_
      exact AW_iret rfl rfl (h1 (3, x.2 29 3 - 1) (by unfold sk_blI; rw [hx]) _ (sk_flt_tr gx.2.1 (sk_flt_bk _ hp x.2 3 _)))
  | k + 1, hk => by
    intro I Q h h1 h2
    have ih := c_R_block p hp k (by omega)
    refine AW_run 80 rfl ?_
    refine AW_cV (M' := mX3_take) rfl kkX3_62 lcX3_take rfl rfl rfl rfl rfl rfl (Nat.le_refl _) ?_
    refine c_R_takeF p hp rfl 16 h.1 (by unfold sk_in; omega) (fun e he I' hI' => ?_) (fun x hx => ?_)
    · refine AW_run 80 rfl ?_
      first | refine AW_e1 rfl ?_ | refine AW_e0 rfl ?_ | refine AW_n1 rfl ?_ | refine AW_n0 rfl ?_
      refine AW_run 80 rfl ?_
      exact AW_iret rfl rfl (h1 e (by unfold sk_blI; rw [he]) I' hI')
    · have gx := sk_gd_tk hp h (by decide) hx
      have hn := gx.1.1.2.2.2
      have h11 := gx.1.2.2.2.2.2
      have hm : 0 ≤ max (x.2 p 11) (12 - (k : Int)) ∧ max (x.2 p 11) (12 - (k : Int)) ≤ 12 := by omega
      have g11 := sk_iv_11 hp gx.1 _ hm
      have h10 := g11.1.2.2.2.1
      have lp := c_R_loop (l := l) (E := E) (d := d) (L := L) (cu := cu) (sp := sp) (rp := rp) (tp := tp) (fp := fp) p k hp hk ih Q 201 0 (-1) (-1) _ (by omega) (by omega) g11.1 (by omega) (by omega) (fun e he I' hI' => h1 e (by unfold sk_blI; rw [hx]; exact he) I' (sk_flt_tr (sk_fp_tr gx.2.1 g11.2.1) hI')) (fun y hy => h2 y (by unfold sk_blI; rw [hx]; exact hy))
      have ek : (13 : Int) - ((k + 1 : Nat) : Int) = 12 - k := by omega
      have ed : d + (3 * (k + 1) + 6) = d + (3 * k + 9) := by omega
      rw [ed]
      rcases hp with rfl | rfl <;>
      · refine AW_run 80 rfl ?_
        first | refine AW_e1 rfl ?_ | refine AW_e0 rfl ?_ | refine AW_n1 rfl ?_ | refine AW_n0 rfl ?_
        refine AW_run 80 rfl ?_
        refine AW_icle rfl (fun g => ?_) (fun g => by omega) (by unfold sk_in; omega)
        refine AW_run 80 rfl ?_
        refine AW_max rfl kw_pX3_92 (by omega) rfl (by unfold sk_in; omega) (by unfold sk_in; omega) ?_
        rw [ek]
        refine AW_run 80 rfl ?_
        exact AW_lk lp ⟨rfl, rfl, rfl, rfl, rfl, trivial⟩
end SKR7
end
section
/-! ===== what is read is well formed: the steps are a tree, at most 12 deep ===== -/
def sk_no (m v : Int) : Prop := (m = -1 ∧ v = -1) ∨ (0 ≤ v ∧ v ≤ m)
def sk_w1 (n ms : Int) (D : Int → Int) (s w m a b x i o : Int) : Prop :=
  (0 ≤ w ∧ w ≤ 12) ∧ (0 ≤ m ∧ m < ms) ∧ sk_no (sk_mf w) a ∧ sk_no (sk_ms w) b ∧ (x = -1 ∨ (s < x ∧ x < n ∧ D x = D s)) ∧ (i = -1 ∨ (s < i ∧ i < n ∧ D i = D s + 1)) ∧ (o = -1 ∨ (s < o ∧ o < n ∧ D o = D s + 1)) ∧ (sk_bs w = 0 → i = -1) ∧ (sk_bs w ≠ 2 → o = -1) ∧ (1 ≤ D s ∧ D s ≤ 12) ∧ (sk_bs w ≠ 0 → D s ≤ 11)
def sk_wl (p : Nat) (I : sk_SI) (D : Int → Int) : Prop := ∀ s, 0 ≤ s → s < I p 10 → sk_w1 (I p 10) (I p 9) D s (I (p + 3) s) (I (p + 4) s) (I (p + 5) s) (I (p + 6) s) (I (p + 7) s) (I (p + 8) s) (I (p + 9) s)
theorem sk_w1_mono {n n' ms : Int} {D D' : Int → Int} {s w m a b x i o : Int} (h : sk_w1 n ms D s w m a b x i o) (hn : n ≤ n') (h0 : 0 ≤ s) (hs : s < n) (hD : ∀ j, 0 ≤ j → j < n → D' j = D j) : sk_w1 n' ms D' s w m a b x i o := by
  obtain ⟨a1, a2, a3, a4, a5, a6, a7, a8, a9, b1, b2⟩ := h
  have hs' := hD s h0 hs
  refine ⟨a1, a2, a3, a4, ?_, ?_, ?_, a8, a9, by omega, fun z => by have := b2 z; omega⟩
  · rcases a5 with a5 | a5
    · exact Or.inl a5
    · have := hD x (by omega) a5.2.1
      exact Or.inr ⟨a5.1, by omega, by omega⟩
  · rcases a6 with a6 | a6
    · exact Or.inl a6
    · have := hD i (by omega) a6.2.1
      exact Or.inr ⟨a6.1, by omega, by omega⟩
  · rcases a7 with a7 | a7
    · exact Or.inl a7
    · have := hD o (by omega) a7.2.1
      exact Or.inr ⟨a7.1, by omega, by omega⟩
theorem sk_wl_cg {p : Nat} {I I' : sk_SI} {D : Int → Int} (h : sk_wl p I D) (h10 : I' p 10 = I p 10) (h9 : I' p 9 = I p 9) (hr : ∀ c, p + 3 ≤ c → c ≤ p + 9 → I' c = I c) : sk_wl p I' D := by
  intro s h0 hs
  rw [h10] at hs
  rw [h10, h9, hr (p + 3) (by omega) (by omega), hr (p + 4) (by omega) (by omega), hr (p + 5) (by omega) (by omega), hr (p + 6) (by omega) (by omega), hr (p + 7) (by omega) (by omega), hr (p + 8) (by omega) (by omega), hr (p + 9) (by omega) (by omega)]
  exact h s h0 hs
theorem sk_wl_29 {p : Nat} (hp : sk_pg p) {I : sk_SI} {D : Int → Int} (h : sk_wl p I D) (j v : Int) : sk_wl p (sk_uI I 29 j v) D :=
  sk_wl_cg h (by rw [sk_uI_o (by rcases hp with rfl | rfl <;> omega)]) (by rw [sk_uI_o (by rcases hp with rfl | rfl <;> omega)]) (fun c h1 h2 => sk_uI_o (by rcases hp with rfl | rfl <;> omega))
theorem sk_wl_tk {p : Nat} (hp : sk_pg p) {I : sk_SI} {D : Int → Int} (h : sk_wl p I D) {due : Int} {x : Int × sk_SI} (hx : sk_tkI due I = .inr x) : sk_wl p x.2 D ∧ x.2 p = I p := by
  unfold sk_tkI at hx
  split at hx
  · cases hx
    exact ⟨sk_wl_29 hp h _ _, sk_uI_o (by rcases hp with rfl | rfl <;> omega)⟩
  · cases hx
theorem sk_wl_7 {p : Nat} {I : sk_SI} {D : Int → Int} (h : sk_wl p I D) {s v : Int} (h0 : 0 ≤ s) (hs : s < I p 10) (hv : s < v ∧ v < I p 10 ∧ D v = D s) : sk_wl p (sk_uI I (p + 7) s v) D := by
  intro t t0 ht
  have ep : sk_uI I (p + 7) s v p = I p := sk_uI_o (by omega)
  rw [ep] at ht ⊢
  rw [sk_uI_o (k := p + 7) (by omega), sk_uI_o (k := p + 7) (by omega), sk_uI_o (k := p + 7) (by omega), sk_uI_o (k := p + 7) (by omega), sk_uI_s, sk_uI_o (k := p + 7) (by omega), sk_uI_o (k := p + 7) (by omega)]
  obtain ⟨a1, a2, a3, a4, a5, a6⟩ := h t t0 ht
  by_cases e : t = s
  · subst e
    rw [sk_up_s]
    exact ⟨a1, a2, a3, a4, Or.inr hv, a6⟩
  · rw [sk_up_o e]
    exact ⟨a1, a2, a3, a4, a5, a6⟩
theorem sk_wl_8 {p : Nat} {I : sk_SI} {D : Int → Int} (h : sk_wl p I D) {s v : Int} (h0 : 0 ≤ s) (hs : s < I p 10) (hv : v = -1 ∨ (s < v ∧ v < I p 10 ∧ D v = D s + 1)) (hb : sk_bs (I (p + 3) s) ≠ 0) : sk_wl p (sk_uI I (p + 8) s v) D := by
  intro t t0 ht
  have ep : sk_uI I (p + 8) s v p = I p := sk_uI_o (by omega)
  rw [ep] at ht ⊢
  rw [sk_uI_o (k := p + 8) (by omega), sk_uI_o (k := p + 8) (by omega), sk_uI_o (k := p + 8) (by omega), sk_uI_o (k := p + 8) (by omega), sk_uI_o (k := p + 8) (by omega), sk_uI_s, sk_uI_o (k := p + 8) (by omega)]
  obtain ⟨a1, a2, a3, a4, a5, a6, a7, a8, a9⟩ := h t t0 ht
  by_cases e : t = s
  · subst e
    rw [sk_up_s]
    exact ⟨a1, a2, a3, a4, a5, hv, a7, fun z => absurd z hb, a9⟩
  · rw [sk_up_o e]
    exact ⟨a1, a2, a3, a4, a5, a6, a7, a8, a9⟩
theorem sk_wl_9 {p : Nat} {I : sk_SI} {D : Int → Int} (h : sk_wl p I D) {s v : Int} (h0 : 0 ≤ s) (hs : s < I p 10) (hv : v = -1 ∨ (s < v ∧ v < I p 10 ∧ D v = D s + 1)) (hb : sk_bs (I (p + 3) s) = 2) : sk_wl p (sk_uI I (p + 9) s v) D := by
  intro t t0 ht
  have ep : sk_uI I (p + 9) s v p = I p := sk_uI_o (by omega)
  rw [ep] at ht ⊢
  rw [sk_uI_o (k := p + 9) (by omega), sk_uI_o (k := p + 9) (by omega), sk_uI_o (k := p + 9) (by omega), sk_uI_o (k := p + 9) (by omega), sk_uI_o (k := p + 9) (by omega), sk_uI_o (k := p + 9) (by omega), sk_uI_s]
  obtain ⟨a1, a2, a3, a4, a5, a6, a7, a8, a9, b1⟩ := h t t0 ht
  by_cases e : t = s
  · subst e
    rw [sk_up_s]
    exact ⟨a1, a2, a3, a4, a5, a6, hv, a8, fun z => absurd hb z, b1⟩
  · rw [sk_up_o e]
    exact ⟨a1, a2, a3, a4, a5, a6, a7, a8, a9, b1⟩
/-- a number, if one is due: it is as it should be, and nothing else of the program is touched -/
theorem sk_n1_w {p a : Nat} (hp : sk_pg p) (ha : p + 1 ≤ a ∧ a ≤ p + 9) {most s : Int} {I : sk_SI} (hI : most = -1 → I a s = -1) {x : Int × sk_SI} (hx : sk_n1I most a s I = .inr x) : sk_no most (x.2 a s) ∧ (∀ j, j ≠ s → x.2 a j = I a j) ∧ ∀ c, c ≠ a → c ≠ 29 → x.2 c = I c := by
  unfold sk_n1I at hx
  split at hx
  · rename_i hm
    cases hx
    exact ⟨Or.inl ⟨hm, hI hm⟩, fun _ _ => rfl, fun _ _ _ => rfl⟩
  · split at hx
    · cases hx
    · rename_i y hy
      cases hx
      obtain ⟨q1, q2, q3, q4⟩ := sk_nuI_r hy
      have h29 : a ≠ 29 := by rcases hp with rfl | rfl <;> omega
      refine ⟨?_, fun j hj => ?_, fun c hc h2 => ?_⟩
      · show sk_no most (sk_uI y.2 a s y.1 a s)
        rw [sk_uI_s, sk_up_s]
        exact Or.inr ⟨by omega, by omega⟩
      · show sk_uI y.2 a s y.1 a j = _
        rw [sk_uI_s, sk_up_o hj, q1, sk_uI_o h29]
      · show sk_uI y.2 a s y.1 c = _
        rw [sk_uI_o hc, q1, sk_uI_o h2]
theorem sk_rn_w {p : Nat} (hp : sk_pg p) {s w : Int} {I : sk_SI} (h5 : I (p + 5) s = -1) (h6 : I (p + 6) s = -1) {x : Int × sk_SI} (hx : sk_rnI p s w I = .inr x) : sk_no (sk_mf w) (x.2 (p + 5) s) ∧ sk_no (sk_ms w) (x.2 (p + 6) s) ∧ (∀ j, j ≠ s → x.2 (p + 5) j = I (p + 5) j ∧ x.2 (p + 6) j = I (p + 6) j) ∧ (∀ c, c ≠ p + 5 → c ≠ p + 6 → c ≠ 29 → c ≠ 33 → x.2 c = I c) ∧ x.2 33 = sk_up (I 33) s (I 29 3) := by
  unfold sk_rnI at hx
  have p33 : p + 5 ≠ 33 ∧ p + 6 ≠ 33 ∧ p + 5 ≠ 29 ∧ p + 6 ≠ 29 := by rcases hp with rfl | rfl <;> omega
  split at hx
  · cases hx
  · rename_i y hy
    obtain ⟨a1, a2, a3⟩ := sk_n1_w hp ⟨by omega, by omega⟩ (fun _ => by rw [sk_uI_o p33.1]; exact h5) hy
    have e6 : y.2 (p + 6) = I (p + 6) := by rw [a3 (p + 6) (by omega) p33.2.2.2, sk_uI_o p33.2.1]
    obtain ⟨b1, b2, b3⟩ := sk_n1_w hp ⟨by omega, by omega⟩ (fun _ => by rw [e6]; exact h6) hx
    have e5 : x.2 (p + 5) = y.2 (p + 5) := b3 (p + 5) (by omega) p33.2.2.1
    refine ⟨by rw [e5]; exact a1, b1, fun j hj => ⟨by rw [e5, a2 j hj, sk_uI_o p33.1], by rw [b2 j hj, e6]⟩, fun c c1 c2 c3 c4 => by rw [b3 c c2 c3, a3 c c1 c3, sk_uI_o c4], ?_⟩
    rw [b3 33 (by omega) (by decide), a3 33 (by omega) (by decide), sk_uI_s]
end
section
/-! ===== what is read is well formed: steps and blocks ===== -/
theorem sk_asI_rows (p : Nat) (w : Int) (I : sk_SI) : sk_asI p w I (p + 3) = sk_up (I (p + 3)) (I p 10) w ∧ sk_asI p w I (p + 4) = sk_up (I (p + 4)) (I p 10) (I p 9 - 1) ∧ sk_asI p w I (p + 5) = sk_up (I (p + 5)) (I p 10) (-1) ∧ sk_asI p w I (p + 6) = sk_up (I (p + 6)) (I p 10) (-1) ∧ sk_asI p w I (p + 7) = sk_up (I (p + 7)) (I p 10) (-1) ∧ sk_asI p w I (p + 8) = sk_up (I (p + 8)) (I p 10) (-1) ∧ sk_asI p w I (p + 9) = sk_up (I (p + 9)) (I p 10) (-1) ∧ sk_asI p w I p = sk_up (I p) 10 (I p 10 + 1) ∧ ∀ c, c ≠ p → ¬ (p + 3 ≤ c ∧ c ≤ p + 9) → sk_asI p w I c = I c := by
  unfold sk_asI
  refine ⟨?_, ?_, ?_, ?_, ?_, ?_, ?_, ?_, fun c h1 h2 => ?_⟩
  · rw [sk_uI_o (by omega), sk_uI_o (by omega), sk_uI_o (by omega), sk_uI_o (by omega), sk_uI_o (by omega), sk_uI_o (by omega), sk_uI_o (by omega), sk_uI_s]
  · rw [sk_uI_o (by omega), sk_uI_o (by omega), sk_uI_o (by omega), sk_uI_o (by omega), sk_uI_o (by omega), sk_uI_o (by omega), sk_uI_s, sk_uI_o (by omega)]
  · rw [sk_uI_o (by omega), sk_uI_o (by omega), sk_uI_o (by omega), sk_uI_o (by omega), sk_uI_o (by omega), sk_uI_s, sk_uI_o (by omega), sk_uI_o (by omega)]
  · rw [sk_uI_o (by omega), sk_uI_o (by omega), sk_uI_o (by omega), sk_uI_o (by omega), sk_uI_s, sk_uI_o (by omega), sk_uI_o (by omega), sk_uI_o (by omega)]
  · rw [sk_uI_o (by omega), sk_uI_o (by omega), sk_uI_o (by omega), sk_uI_s, sk_uI_o (by omega), sk_uI_o (by omega), sk_uI_o (by omega), sk_uI_o (by omega)]
  · rw [sk_uI_o (by omega), sk_uI_o (by omega), sk_uI_s, sk_uI_o (by omega), sk_uI_o (by omega), sk_uI_o (by omega), sk_uI_o (by omega), sk_uI_o (by omega)]
  · rw [sk_uI_o (by omega), sk_uI_s, sk_uI_o (by omega), sk_uI_o (by omega), sk_uI_o (by omega), sk_uI_o (by omega), sk_uI_o (by omega), sk_uI_o (by omega)]
  · rw [sk_uI_s, sk_uI_o (by omega), sk_uI_o (by omega), sk_uI_o (by omega), sk_uI_o (by omega), sk_uI_o (by omega), sk_uI_o (by omega), sk_uI_o (by omega)]
  · rw [sk_uI_o (by omega), sk_uI_o (by omega), sk_uI_o (by omega), sk_uI_o (by omega), sk_uI_o (by omega), sk_uI_o (by omega), sk_uI_o (by omega), sk_uI_o (by omega)]
theorem sk_tk_o {due : Int} {I : sk_SI} {x : Int × sk_SI} (hx : sk_tkI due I = .inr x) (c : Nat) (hc : c ≠ 29) : x.2 c = I c := by
  unfold sk_tkI at hx
  split at hx
  · cases hx
    exact sk_uI_o hc
  · cases hx
/-- blocks at k more give well formed programs -/
def sk_wb (p : Nat) (k : Nat) (bl : sk_SI → sk_PR) : Prop := ∀ (I : sk_SI) (D : Int → Int) (x : Int × sk_SI), sk_iv p I → sk_wl p I D → 1 ≤ I p 9 → bl I = .inr x → ∃ D', sk_wl p x.2 D' ∧ (∀ j, j < I p 10 → D' j = D j) ∧ (x.1 = -1 ∨ (I p 10 ≤ x.1 ∧ D' x.1 = 13 - k)) ∧ ∀ j, 0 ≤ j → j < I p 10 → x.2 (p + 3) j = I (p + 3) j
theorem sk_wl_rr {p k : Nat} (hp : sk_pg p) (hk : k ≤ 12) {bl : sk_SI → sk_PR} (hg : ∀ I x, sk_iv p I → bl I = .inr x → sk_gd p I x.2 ∧ -1 ≤ x.1 ∧ x.1 < x.2 p 10) (hb : sk_wb p k bl) {I : sk_SI} {D : Int → Int} {s w : Int} (h : sk_iv p I) (hm : 1 ≤ I p 9) (hl : sk_wl p I D) (h0 : 0 ≤ s) (hs : s < I p 10) (hw : I (p + 3) s = w) (hD : D s = 12 - k) {x : Int × sk_SI} (hx : sk_rrI bl p s w I = .inr x) : ∃ D', sk_wl p x.2 D' ∧ (∀ j, j < I p 10 → D' j = D j) ∧ ∀ j, 0 ≤ j → j < I p 10 → x.2 (p + 3) j = I (p + 3) j := by
  unfold sk_rrI at hx
  split at hx
  · unfold sk_tkI at hx
    split at hx
    · cases hx
      exact ⟨D, sk_wl_29 hp hl _ _, fun _ _ => rfl, fun j _ _ => by show sk_uI I 29 3 _ (p + 3) j = _; rw [sk_uI_o (by rcases hp with rfl | rfl <;> omega)]⟩
    · cases hx
  · rename_i hb0
    split at hx
    · cases hx
    · rename_i y hy
      obtain ⟨D1, d1, d2, d3, d4⟩ := hb I D y h hl hm hy
      obtain ⟨g1, g2, g3⟩ := hg I y h hy
      have gle := g1.2.2.1
      have e1 : sk_wl p (sk_uI y.2 (p + 8) s y.1) D1 := by
        refine sk_wl_8 d1 h0 (by omega) ?_ (by rw [d4 s h0 hs, hw]; exact hb0)
        rcases d3 with d3 | d3
        · exact Or.inl d3
        · have := d2 s hs
          exact Or.inr ⟨by omega, by omega, by omega⟩
      have r1 : ∀ j, 0 ≤ j → j < I p 10 → sk_uI y.2 (p + 8) s y.1 (p + 3) j = I (p + 3) j := fun j a b => by rw [sk_uI_o (by omega)]; exact d4 j a b
      have gS := sk_gd_tr g1 (sk_gd_row hp g1.1 (p + 8) s y.1 (Or.inr (by omega)))
      split at hx
      · cases hx
        exact ⟨D1, e1, d2, r1⟩
      · rename_i hb1
        split at hx
        · cases hx
        · rename_i z hz
          have gz := sk_gd_tr gS (sk_gd_tk hp gS.1 (by split <;> decide) hz)
          obtain ⟨ez, epz⟩ := sk_wl_tk hp e1 hz
          have rz : z.2 (p + 3) = sk_uI y.2 (p + 8) s y.1 (p + 3) := sk_tk_o hz _ (by rcases hp with rfl | rfl <;> omega)
          split at hx
          · cases hx
          · rename_i u hu
            cases hx
            obtain ⟨D2, f1, f2, f3, f4⟩ := hb z.2 D1 u gz.1 ez (by rw [gz.2.2.2]; exact hm) hu
            obtain ⟨k1, k2, k3⟩ := hg z.2 u gz.1 hu
            have gl2 := gz.2.2.1
            have gl3 := k1.2.2.1
            have hbs : sk_bs w = 2 := by
              have := sk_bs_b (hl s h0 hs).1
              rw [hw] at this
              omega
            have r2 : ∀ j, 0 ≤ j → j < I p 10 → u.2 (p + 3) j = I (p + 3) j := fun j a b => by rw [f4 j a (by omega), rz]; exact r1 j a b
            refine ⟨D2, ?_, fun j hj => by rw [f2 j (by omega), d2 j hj], fun j a b => ?_⟩
            · refine sk_wl_9 f1 h0 (by omega) ?_ (by rw [r2 s h0 hs, hw]; exact hbs)
              rcases f3 with f3 | f3
              · exact Or.inl f3
              · have q1 := f2 s (by omega)
                have q2 := d2 s hs
                exact Or.inr ⟨by omega, by omega, by omega⟩
            · show sk_uI u.2 (p + 9) s u.1 (p + 3) j = _
              rw [sk_uI_o (by omega)]
              exact r2 j a b
theorem sk_wl_st {p k : Nat} (hp : sk_pg p) (hk : k ≤ 11) {bl : sk_SI → sk_PR} (hg : ∀ I x, sk_iv p I → bl I = .inr x → sk_gd p I x.2 ∧ -1 ≤ x.1 ∧ x.1 < x.2 p 10) (hb : sk_wb p k bl) (hz0 : k = 0 → ∀ A u, bl A = .inr u → False) {I : sk_SI} {D : Int → Int} (h : sk_iv p I) (hm : 1 ≤ I p 9) (hl : sk_wl p I D) {x : Int × sk_SI} (hx : sk_stI bl p I = .inr x) : ∃ D', sk_wl p x.2 D' ∧ (∀ j, j < I p 10 → D' j = D j) ∧ D' x.1 = 12 - k ∧ ∀ j, 0 ≤ j → j < I p 10 → x.2 (p + 3) j = I (p + 3) j := by
  have hx0 := hx
  unfold sk_stI at hx
  have hb2 := sk_tok_b h.1 (I 29 3)
  split at hx
  · cases hx
  · split at hx
    · cases hx
    · rename_i h12 h200
      have h10 := h.2.2.2.1
      obtain ⟨ga, gb⟩ := sk_gd_as hp h (by omega) (sk_tok I (I 29 3))
      have e29 := sk_asI_29 hp (sk_tok I (I 29 3)) I
      have gc := sk_gd_adv hp ga.1 (by rw [e29, sk_tok_fp hp ga.2.1]; omega)
      rw [e29] at gc
      obtain ⟨r3, r4, r5, r6, r7, r8, r9, r0, rr⟩ := sk_asI_rows p (sk_tok I (I 29 3)) I
      generalize hw : sk_tok I (I 29 3) = w at *
      split at hx
      · cases hx
      · rename_i y hy
        split at hx
        · cases hx
        · rename_i z hz
          cases hx
          have o29 : ∀ c, p ≤ c → c ≤ p + 9 → sk_uI (sk_asI p w I) 29 3 (I 29 3 + 1) c = sk_asI p w I c := fun c c1 c2 => sk_uI_o (by rcases hp with rfl | rfl <;> omega)
          have gn := sk_gd_rn hp gc.1 hy
          have n29 : ∀ c, p ≤ c → c ≤ p + 9 → c ≠ 29 ∧ c ≠ 33 := fun c c1 c2 => by rcases hp with rfl | rfl <;> omega
          obtain ⟨n1, n2, n3, n4, -⟩ := sk_rn_w hp (by rw [o29 (p + 5) (by omega) (by omega), r5, sk_up_s]) (by rw [o29 (p + 6) (by omega) (by omega), r6, sk_up_s]) hy
          have yo : ∀ c, p ≤ c → c ≤ p + 9 → c ≠ p + 5 → c ≠ p + 6 → y.2 c = sk_asI p w I c := fun c c1 c2 c3 c4 => by rw [n4 c c3 c4 (n29 c c1 c2).1 (n29 c c1 c2).2, o29 c c1 c2]
          have y3 : y.2 (p + 3) = sk_up (I (p + 3)) (I p 10) w := by rw [yo _ (by omega) (by omega) (by omega) (by omega), r3]
          have y10 : y.2 p 10 = I p 10 + 1 := by rw [yo _ (by omega) (by omega) (by omega) (by omega)]; exact gb
          have y9 : y.2 p 9 = I p 9 := by rw [yo _ (by omega) (by omega) (by omega) (by omega), r0, sk_up_o (by decide)]
          have hkb : sk_bs w = 0 ∨ 1 ≤ k := by
            by_cases e : sk_bs w = 0
            · exact Or.inl e
            · right
              rcases Nat.eq_zero_or_pos k with k0 | k0
              · exfalso
                unfold sk_rrI at hz
                rw [if_neg e] at hz
                cases hbl : bl y.2 with
                | inl u => rw [hbl] at hz; cases hz
                | inr u => exact hz0 k0 _ u hbl
              · exact k0
          have hl2 : sk_wl p y.2 (sk_up D (I p 10) (12 - k)) := by
            intro t t0 ht
            rw [y10] at ht
            rw [y10, y9, y3, yo (p + 4) (by omega) (by omega) (by omega) (by omega), r4, yo (p + 7) (by omega) (by omega) (by omega) (by omega), r7, yo (p + 8) (by omega) (by omega) (by omega) (by omega), r8, yo (p + 9) (by omega) (by omega) (by omega) (by omega), r9]
            by_cases e : t = I p 10
            · subst e
              rw [sk_up_s, sk_up_s, sk_up_s, sk_up_s, sk_up_s]
              refine ⟨by omega, by omega, n1, n2, Or.inl rfl, Or.inl rfl, Or.inl rfl, fun _ => rfl, fun _ => rfl, ?_, fun z => ?_⟩
              · rw [sk_up_s]; omega
              · rw [sk_up_s]; omega
            · rw [sk_up_o e, sk_up_o e, sk_up_o e, sk_up_o e, sk_up_o e, (n3 t e).1, (n3 t e).2, o29 (p + 5) (by omega) (by omega), o29 (p + 6) (by omega) (by omega), r5, r6, sk_up_o e, sk_up_o e]
              exact sk_w1_mono (hl t t0 (by omega)) (by omega) t0 (by omega) (fun j j0 hj => sk_up_o (by omega))
          obtain ⟨D', a1, a2, a3⟩ := sk_wl_rr hp (by omega) hg hb gn.1 (by rw [y9]; exact hm) hl2 h10.1 (by omega) (by rw [y3, sk_up_s]) (by rw [sk_up_s]) hz
          refine ⟨D', a1, fun j hj => ?_, ?_, fun j j0 hj => ?_⟩
          · rw [a2 j (by omega), sk_up_o (by omega)]
          · show D' (I p 10) = _
            rw [a2 (I p 10) (by omega), sk_up_s]
          · rw [a3 j j0 (by omega), y3, sk_up_o (by omega)]
theorem sk_wl_lp {p k : Nat} (hp : sk_pg p) (hk : k ≤ 11) {bl : sk_SI → sk_PR} (hg : ∀ I x, sk_iv p I → bl I = .inr x → sk_gd p I x.2 ∧ -1 ≤ x.1 ∧ x.1 < x.2 p 10) (hb : sk_wb p k bl) (hz0 : k = 0 → ∀ A u, bl A = .inr u → False) (n0 : Int) (h00 : 0 ≤ n0) : ∀ (m : Nat) (f la : Int) (I : sk_SI) (D : Int → Int) (x : Int × sk_SI), sk_iv p I → 1 ≤ I p 9 → sk_wl p I D → n0 ≤ I p 10 → ((f = -1 ∧ la = -1) ∨ (n0 ≤ f ∧ f < I p 10 ∧ D f = 12 - k ∧ 0 ≤ la ∧ la < I p 10 ∧ D la = 12 - k)) → sk_lpI (sk_stI bl p) p m f la I = .inr x → ∃ D', sk_wl p x.2 D' ∧ (∀ j, j < I p 10 → D' j = D j) ∧ (x.1 = -1 ∨ (n0 ≤ x.1 ∧ D' x.1 = 12 - k)) ∧ ∀ j, 0 ≤ j → j < I p 10 → x.2 (p + 3) j = I (p + 3) j
  | 0, f, la, I, D, x, h, hm, hl, hn, hf, hx => by
    unfold sk_lpI at hx
    split at hx
    · cases hx
    · rename_i y hy
      cases hx
      have p3 : p + 3 ≠ 29 := by rcases hp with rfl | rfl <;> omega
      refine ⟨D, (sk_wl_tk hp hl hy).1, fun _ _ => rfl, ?_, fun j _ _ => by rw [sk_tk_o hy _ p3]⟩
      rcases hf with hf | hf
      · exact Or.inl hf.1
      · exact Or.inr ⟨hf.1, hf.2.2.1⟩
  | m + 1, f, la, I, D, x, h, hm, hl, hn, hf, hx => by
    unfold sk_lpI at hx
    split at hx
    · cases hx
      have p3 : p + 3 ≠ 29 := by rcases hp with rfl | rfl <;> omega
      refine ⟨D, sk_wl_29 hp hl _ _, fun _ _ => rfl, ?_, fun j _ _ => by show sk_uI I 29 3 _ (p + 3) j = _; rw [sk_uI_o p3]⟩
      rcases hf with hf | hf
      · exact Or.inl hf.1
      · exact Or.inr ⟨hf.1, hf.2.2.1⟩
    · split at hx
      · cases hx
      · rename_i y hy
        obtain ⟨D1, a1, a2, a3, a4⟩ := sk_wl_st hp hk hg hb hz0 h hm hl hy
        obtain ⟨g, e1, e2⟩ := sk_gd_st hp (fun A u hA hu => (hg A u hA hu).1) h hy
        have g0 := g.2.2.1
        have h10 := h.2.2.2.1
        have gm : 1 ≤ y.2 p 9 := by rw [g.2.2.2]; exact hm
        split at hx
        · have g2 := sk_gd_row hp g.1 (p + 7) la y.1 (by omega)
          have hfl : n0 ≤ f ∧ f < I p 10 ∧ D f = 12 - k ∧ 0 ≤ la ∧ la < I p 10 ∧ D la = 12 - k := by
            rcases hf with hf | hf
            · omega
            · exact hf
          have q1 := a2 f hfl.2.1
          have q2 := a2 la hfl.2.2.2.2.1
          have w7 := sk_wl_7 a1 hfl.2.2.2.1 (by omega) (v := y.1) ⟨by omega, by omega, by omega⟩
          have e10 : sk_uI y.2 (p + 7) la y.1 p = y.2 p := sk_uI_o (by omega)
          have e3 : sk_uI y.2 (p + 7) la y.1 (p + 3) = y.2 (p + 3) := sk_uI_o (by omega)
          obtain ⟨D2, b1, b2, b3, b4⟩ := sk_wl_lp hp hk hg hb hz0 n0 h00 m f y.1 _ D1 x g2.1 (by rw [e10]; exact gm) w7 (by rw [e10]; omega) (Or.inr (by rw [e10]; omega)) hx
          rw [e10] at b2 b4
          rw [e3] at b4
          exact ⟨D2, b1, fun j hj => by rw [b2 j (by omega), a2 j hj], b3, fun j j0 hj => by rw [b4 j j0 (by omega), a4 j j0 hj]⟩
        · obtain ⟨D2, b1, b2, b3, b4⟩ := sk_wl_lp hp hk hg hb hz0 n0 h00 m y.1 y.1 _ D1 x g.1 gm a1 (by omega) (Or.inr (by omega)) hx
          exact ⟨D2, b1, fun j hj => by rw [b2 j (by omega), a2 j hj], b3, fun j j0 hj => by rw [b4 j j0 (by omega), a4 j j0 hj]⟩
theorem sk_wl_bl {p : Nat} (hp : sk_pg p) : ∀ (k : Nat), k ≤ 12 → sk_wb p k (sk_blI p k)
  | 0, _ => by
    intro I D x h hl hm hx
    unfold sk_blI at hx
    split at hx <;> cases hx
  | k + 1, hk => by
    intro I D x h hl hm hx
    unfold sk_blI at hx
    split at hx
    · cases hx
    · rename_i y hy
      have g1 := sk_gd_tk hp h (by decide) hy
      obtain ⟨l1, l2⟩ := sk_wl_tk hp hl hy
      have p3 : p + 3 ≠ 29 := by rcases hp with rfl | rfl <;> omega
      have y3 := sk_tk_o hy (p + 3) p3
      have h11 := g1.1.2.2.2.2.2
      have g2 := sk_iv_11 hp g1.1 (max (y.2 p 11) (12 - k)) (by omega)
      have h10 := h.2.2.2.1
      have e10 : ∀ v, sk_uI y.2 p 11 v p 10 = I p 10 := fun v => by rw [sk_uI_s, sk_up_o (by decide), l2]
      have e9 : ∀ v, sk_uI y.2 p 11 v p 9 = I p 9 := fun v => by rw [sk_uI_s, sk_up_o (by decide), l2]
      have w11 : sk_wl p (sk_uI y.2 p 11 (max (y.2 p 11) (12 - k))) D := sk_wl_cg l1 (by rw [e10, l2]) (by rw [e9, l2]) (fun c c1 c2 => sk_uI_o (by omega))
      obtain ⟨D2, b1, b2, b3, b4⟩ := sk_wl_lp hp (by omega) (fun A u hA hu => sk_gd_bl hp k (by omega) A u hA hu) (sk_wl_bl hp k (by omega)) (fun k0 A u hu => by
        subst k0
        unfold sk_blI at hu
        split at hu <;> cases hu) (I p 10) h10.1 201 (-1) (-1) _ D x g2.1 (by rw [e9]; exact hm) w11 (by rw [e10]; omega) (Or.inl ⟨rfl, rfl⟩) hx
      rw [e10] at b2 b4
      refine ⟨D2, b1, b2, ?_, fun j j0 hj => ?_⟩
      · rcases b3 with b3 | b3
        · exact Or.inl b3
        · exact Or.inr ⟨b3.1, by have := b3.2; omega⟩
      · rw [b4 j j0 hj, sk_uI_o (by omega), y3]
end
section
/-! ===== Reader.readMethod, allMethodsAreThere ===== -/
def sk_amS (p : Nat) (o : Int) (I : sk_SI) : sk_SI := sk_uI (sk_uI (sk_uI I (p + 1) (I p 9) o) (p + 2) (I p 9) (-1)) p 9 (I p 9 + 1)
def sk_mdI (p : Nat) (I : sk_SI) : sk_PR := match sk_tkI 15 I with
  | .inl e => .inl e
  | .inr x => if 20 ≤ x.2 p 9 then .inl (4, x.2 29 3 - 1) else match sk_nuI 7 x.2 with
    | .inl e => .inl e
    | .inr y => match sk_blI p 12 (sk_amS p y.1 y.2) with
      | .inl e => .inl e
      | .inr z => .inr (0, sk_uI z.2 (p + 2) (y.2 p 9) z.1)
theorem sk_iv_9 {p : Nat} {I : sk_SI} (hp : sk_pg p) (h : sk_iv p I) (v : Int) (hv : 0 ≤ v ∧ v ≤ 20) : sk_iv p (sk_uI I p 9 v) ∧ sk_fp p I (sk_uI I p 9 v) := by
  have o : ∀ c, c ≠ p → sk_uI I p 9 v c = I c := fun c hc => sk_uI_o hc
  have h29 : 29 ≠ p := by rcases hp with rfl | rfl <;> omega
  have h30 : 30 ≠ p := by rcases hp with rfl | rfl <;> omega
  have h31 : 31 ≠ p := by rcases hp with rfl | rfl <;> omega
  have hf := sk_fp_pg p hp I p 9 v (by omega)
  obtain ⟨a1, a2, a3, a4, a5, a6⟩ := h
  refine ⟨⟨sk_tv_fp hp a1 hf (by rw [o 29 h29]; exact a1.2.2.2), ?_, ?_, ?_, ?_, ?_⟩, hf⟩
  · rw [o 29 h29, o 30 h30]; exact a2
  · rw [o 30 h30, o 31 h31]; exact a3
  · rw [sk_uI_s, sk_up_o (by decide)]; exact a4
  · rw [sk_uI_s, sk_up_s]; exact hv
  · rw [sk_uI_s, sk_up_o (by decide)]; exact a6
theorem sk_iv_am {p : Nat} {I : sk_SI} (hp : sk_pg p) (h : sk_iv p I) (o : Int) (h9 : I p 9 < 20) : sk_iv p (sk_amS p o I) ∧ sk_fp p I (sk_amS p o I) ∧ sk_amS p o I p 9 = I p 9 + 1 ∧ sk_amS p o I p 10 = I p 10 ∧ (∀ c, p + 3 ≤ c → sk_amS p o I c = I c) ∧ sk_amS p o I (p + 1) = sk_up (I (p + 1)) (I p 9) o ∧ sk_amS p o I (p + 2) = sk_up (I (p + 2)) (I p 9) (-1) := by
  have g1 := sk_gd_row hp h (p + 1) (I p 9) o (by omega)
  have g2 := sk_gd_tr g1 (sk_gd_row hp g1.1 (p + 2) (I p 9) (-1) (by omega))
  have h0 := h.2.2.2.2.1
  have g3 := sk_iv_9 hp g2.1 (I p 9 + 1) (by omega)
  unfold sk_amS
  refine ⟨g3.1, sk_fp_tr g2.2.1 g3.2, ?_, ?_, fun c hc => ?_, ?_, ?_⟩
  · rw [sk_uI_s, sk_up_s]
  · rw [sk_uI_s, sk_up_o (by decide), sk_uI_o (by omega), sk_uI_o (by omega)]
  · rw [sk_uI_o (by omega), sk_uI_o (by omega), sk_uI_o (by omega)]
  · rw [sk_uI_o (by omega), sk_uI_o (by omega), sk_uI_s]
  · rw [sk_uI_o (by omega), sk_uI_s, sk_uI_o (by omega)]
section SKR8
variable {l : Launch} {E : sk_En} {d : Nat} {I : sk_SI} {L : sk_SL} {cu sp rp tp fp : Nat} {Q : Option sk_V → List sk_Sh → sk_St → Prop}
theorem c_R_method (p : Nat) (hp : sk_pg p) (h : sk_iv p I) (h1 : ∀ e, sk_mdI p I = .inl e → ∀ I', sk_flt p I e I' → Q (some (vi 0)) sk_G (I', L, sk_J cu sp p rp tp fp)) (h2 : ∀ x, sk_mdI p I = .inr x → Q (some (vi 1)) sk_G (x.2, L, sk_J cu sp p rp tp fp)) : AW l E (d + 43) 0 0 mX3_readMethod 0 [some (vr 29), none, none, none] [] sk_G (I, L, sk_J cu sp p rp tp fp) Q := by
  have hp' := hp
  have blk := c_R_block (l := l) (E := E) (d := d) (L := L) (cu := cu) (sp := sp) (rp := rp) (tp := tp) (fp := fp) p hp 12 (by omega)
  unfold sk_mdI at h1 h2
  refine AW_run 80 rfl ?_
  refine AW_cV (M' := mX3_take) rfl kkX3_62 lcX3_take rfl rfl rfl rfl rfl rfl (Nat.le_refl _) ?_
  refine c_R_takeF p hp rfl 15 h.1 (by unfold sk_in; omega) (fun e he I' hI' => ?_) (fun x hx => ?_)
  · rw [he] at h1
    refine AW_run 80 rfl ?_
    first | refine AW_e1 rfl ?_ | refine AW_e0 rfl ?_ | refine AW_n1 rfl ?_ | refine AW_n0 rfl ?_
    refine AW_run 80 rfl ?_
    exact AW_zret rfl rfl (Or.inl rfl) (h1 e rfl I' hI')
  · have gx := sk_gd_tk hp h (by decide) hx
    rw [hx] at h1 h2
    dsimp only at h1 h2
    have hn := gx.1.1.2.2.2
    have h9 := gx.1.2.2.2.2.1
    have many : 20 ≤ x.2 p 9 → Q (some (vi 0)) sk_G (sk_bk x.2 4 (x.2 29 3 - 1), L, sk_J cu sp p rp tp fp) := by
      intro g
      rw [if_pos g] at h1
      exact h1 _ rfl _ (sk_flt_tr gx.2.1 (sk_flt_bk _ hp x.2 4 _))
    have rest : ∀ y, ¬ 20 ≤ x.2 p 9 → sk_nuI 7 x.2 = .inr y → 0 ≤ y.1 → AW l E (d + 43) 0 0 mX3_readMethod 63 [some (vr 29), some (vi y.1), some (vi (y.2 p 9)), none] [vi 1, vr 29] sk_G (sk_amS p y.1 y.2, L, sk_J cu sp p rp tp fp) Q := by
      intro y g hy hy0
      rw [if_neg g, hy] at h1 h2
      dsimp only at h1 h2
      obtain ⟨q1, q2, q3, q4⟩ := sk_nuI_r hy
      have gy := sk_gd_adv hp gx.1 (by omega)
      rw [← q1] at gy
      have e9 := gy.2.2.2
      obtain ⟨a1, a2, a3, a4, a5⟩ := sk_iv_am hp gy.1 y.1 (by omega)
      refine AW_cV (M' := mX3_readBlock) (d' := d + 42) rfl kkX3_79 lcX3_readBlock rfl rfl rfl rfl rfl rfl (by omega) ?_
      refine blk (sk_amS p y.1 y.2) _ a1 (fun e he I' hI' => ?_) (fun z hz => ?_)
      · refine AW_run 80 rfl ?_
        refine AW_iceq rfl (fun g3 => ?_) (fun g3 => by omega)
        refine AW_run 80 rfl ?_
        exact AW_zret rfl rfl (Or.inl rfl) (h1 e (by rw [he]) I' (sk_flt_tr (sk_fp_tr (sk_gd_tr gx gy).2.1 a2) hI'))
      · obtain ⟨gz, gz1, gz2⟩ := sk_gd_bl hp' 12 (by omega) _ z a1 hz
        rw [hz] at h2
        have h2 := h2 _ rfl
        have h10 := gz.1.2.2.2.1
        rcases hp with rfl | rfl <;>
        · refine AW_run 80 rfl ?_
          refine AW_iceq rfl (fun g3 => by omega) (fun g3 => ?_) (by unfold sk_in; omega)
          refine AW_run 80 rfl ?_
          refine AW_within rfl kkX3_82 rfl (by omega) (fun w1 w2 => ?_) (fun w3 => by omega)
          refine AW_run 80 rfl ?_
          first | refine AW_e1 rfl ?_ | refine AW_e0 rfl ?_ | refine AW_n1 rfl ?_ | refine AW_n0 rfl ?_
          refine AW_run 80 rfl ?_
          refine AW_iast rfl rfl ⟨by omega, by omega⟩ (by decide) ?_
          refine AW_run 80 rfl ?_
          exact AW_zret rfl rfl (Or.inr rfl) h2
    have num : ¬ 20 ≤ x.2 p 9 → AW l E (d + 43) 0 0 mX3_readMethod 40 [some (vr 29), none, none, none] [vi 7, vr 29] sk_G (x.2, L, sk_J cu sp p rp tp fp) Q := by
      intro g
      have rest := fun y hy hy0 => rest y g hy hy0
      rw [if_neg g] at h1
      refine AW_cV (M' := mX3_readNumber) rfl kkX3_73 lcX3_readNumber rfl rfl rfl rfl rfl rfl (Nat.le_refl _) ?_
      refine c_R_numF (I := x.2) 7 gx.1.1 (by omega) (fun e he => ?_) (fun y hy y0 y1 => ?_)
      · refine AW_run 80 rfl ?_
        refine AW_icne rfl (fun g3 => by omega) (fun g3 => ?_)
        refine AW_run 80 rfl ?_
        refine AW_zret rfl rfl (Or.inl rfl) (h1 e (by rw [he]) _ (sk_flt_tr gx.2.1 (sk_flt_bk _ hp' x.2 e.1 e.2)))
      · have rest := rest y hy y0
        obtain ⟨q1, q2, q3, q4⟩ := sk_nuI_r hy
        have gy := sk_gd_adv hp gx.1 (by omega)
        rw [← q1] at gy
        have e9 := gy.2.2.2
        rcases hp with rfl | rfl <;>
        · refine AW_run 80 rfl ?_
          refine AW_icne rfl (fun g3 => ?_) (fun g3 => by omega) (by unfold sk_in; omega)
          refine AW_run 80 rfl ?_
          refine AW_cV (M' := mX2_addMethod) rfl kkX3_76 lcX2_addMethod rfl rfl rfl rfl rfl rfl (Nat.le_refl _) ?_
          refine c_Pg_addMethod _ hp' y.1 (by omega) ?_
          refine AW_run 80 rfl ?_
          exact rest
    rcases hp with rfl | rfl <;>
    · refine AW_run 80 rfl ?_
      first | refine AW_e1 rfl ?_ | refine AW_e0 rfl ?_ | refine AW_n1 rfl ?_ | refine AW_n0 rfl ?_
      refine AW_run 80 rfl ?_
      refine AW_iclt rfl (fun g => ?_) (fun g => ?_) (by unfold sk_in; omega)
      · refine AW_run 80 rfl ?_
        exact num (by omega)
      · have many := many (by omega)
        refine AW_run 80 rfl ?_
        refine AW_cV (M' := mX3_broken) rfl kkX3_69 lcX3_broken rfl rfl rfl rfl rfl rfl (Nat.le_refl _) ?_
        refine c_R_broken _ _ ?_
        refine AW_run 80 rfl ?_
        exact AW_zret rfl rfl (Or.inl rfl) many
/-- the first step that names a method that isn't there -/
def sk_amI (p : Nat) (I : sk_SI) : Nat → Int → Option (Int × Int)
  | 0, _ => none
  | n + 1, s => if (I (p + 3) s = 1 ∨ I (p + 3) s = 6) ∧ I p 9 ≤ I (p + 5) s then some (5, I 33 s) else sk_amI p I n (s + 1)
theorem c_R_there_lp (p : Nat) (hp : sk_pg p) (hs : 0 ≤ I p 10 ∧ I p 10 ≤ 200) (hm : sk_in (I p 9)) (hw : ∀ s, 0 ≤ s → s < I p 10 → sk_in (I (p + 3) s) ∧ sk_in (I (p + 5) s)) : ∀ (n : Nat) (s : Int) (ls : List (Option sk_V)), 0 ≤ s → s + n = I p 10 → ls.take 2 = [some (vr 29), some (vi s)] → ls.length = 3 → (∀ e, sk_amI p I n s = some e → Q (some (vi 0)) sk_G (sk_bk I e.1 e.2, L, sk_J cu sp p rp tp fp)) → (sk_amI p I n s = none → Q (some (vi 1)) sk_G (I, L, sk_J cu sp p rp tp fp)) → AW l E (d + 1) 0 0 mX3_allMethodsAreThere 10 ls [vi (I p 10), vi s] sk_G (I, L, sk_J cu sp p rp tp fp) Q := by
  intro n
  induction n with
  | zero =>
    intro s ls h0 hn hl hl3 h1 h2
    obtain ⟨a, b, c, rfl⟩ : ∃ a b c, ls = [a, b, c] := by
      match ls, hl3 with
      | [a, b, c], _ => exact ⟨a, b, c, rfl⟩
    simp only [List.take, List.cons.injEq, and_true] at hl
    obtain ⟨rfl, rfl⟩ := hl
    refine AW_icge rfl (fun g => ?_) (fun g => by omega)
    refine AW_run 80 rfl ?_
    exact AW_zret rfl rfl (Or.inr rfl) (h2 rfl)
  | succ n ih =>
    intro s ls h0 hn hl hl3 h1 h2
    obtain ⟨a, b, c, rfl⟩ : ∃ a b c, ls = [a, b, c] := by
      match ls, hl3 with
      | [a, b, c], _ => exact ⟨a, b, c, rfl⟩
    simp only [List.take, List.cons.injEq, and_true] at hl
    obtain ⟨rfl, rfl⟩ := hl
    have hws := hw s h0 (by omega)
    have ih2 := fun c (h : ¬ ((I (p + 3) s = 1 ∨ I (p + 3) s = 6) ∧ I p 9 ≤ I (p + 5) s)) => ih (s + 1) [some (vr 29), some (vi (s + 1)), c] (by omega) (by omega) rfl rfl (fun e he => h1 e (by unfold sk_amI; rw [if_neg h]; exact he)) (fun he => h2 (by unfold sk_amI; rw [if_neg h]; exact he))
    have bad : ((I (p + 3) s = 1 ∨ I (p + 3) s = 6) ∧ I p 9 ≤ I (p + 5) s) → Q (some (vi 0)) sk_G (sk_bk I 5 (I 33 s), L, sk_J cu sp p rp tp fp) := fun h => h1 (5, I 33 s) (by unfold sk_amI; rw [if_pos h])
    have named : (I (p + 3) s = 1 ∨ I (p + 3) s = 6) → AW l E (d + 1) 0 0 mX3_allMethodsAreThere 47 [some (vr 29), some (vi s), some (vi 1)] [vi 1] sk_G (I, L, sk_J cu sp p rp tp fp) Q := by
      intro hnm
      rcases hp with rfl | rfl <;>
      · first | refine AW_e1 rfl ?_ | refine AW_e0 rfl ?_ | refine AW_n1 rfl ?_ | refine AW_n0 rfl ?_
        refine AW_run 80 rfl ?_
        refine AW_iald rfl rfl ⟨by omega, by omega⟩ (by decide) ?_
        refine AW_run 80 rfl ?_
        refine AW_iclt rfl (fun g => ?_) (fun g => ?_) hws.2 hm
        · have ih2 := ih2 (some (vi 1)) (fun z => absurd z.2 (Int.not_le.mpr g))
          refine AW_run 80 rfl ?_
          exact ih2
        · have bad := bad ⟨hnm, Int.not_lt.mp g⟩
          refine AW_run 80 rfl ?_
          refine AW_iald rfl rfl ⟨by omega, by omega⟩ (by decide) ?_
          refine AW_run 80 rfl ?_
          refine AW_cV (M' := mX3_broken) rfl kkX3_69 lcX3_broken rfl rfl rfl rfl rfl rfl (Nat.le_refl _) ?_
          refine c_R_broken _ _ ?_
          refine AW_run 80 rfl ?_
          exact AW_zret rfl rfl (Or.inl rfl) bad
    refine AW_icge rfl (fun g => by omega) (fun g => ?_)
    rcases hp with rfl | rfl <;>
    · refine AW_run 80 rfl ?_
      refine AW_iald rfl rfl ⟨by omega, by omega⟩ (by decide) ?_
      refine AW_run 80 rfl ?_
      refine AW_iceq rfl (fun g => ?_) (fun g => ?_) hws.1
      · refine AW_run 80 rfl ?_
        exact named (Or.inl g)
      · refine AW_run 80 rfl ?_
        refine AW_iald rfl rfl ⟨by omega, by omega⟩ (by decide) ?_
        refine AW_run 80 rfl ?_
        refine AW_icne rfl (fun g2 => ?_) (fun g2 => ?_) hws.1
        · have ih2 := ih2 (some (vi 0)) (fun z => z.1.elim (fun y => g y) (fun y => g2 y))
          refine AW_run 80 rfl ?_
          first | refine AW_e1 rfl ?_ | refine AW_e0 rfl ?_ | refine AW_n1 rfl ?_ | refine AW_n0 rfl ?_
          refine AW_run 80 rfl ?_
          exact ih2
        · refine AW_run 80 rfl ?_
          exact named (Or.inr g2)
theorem c_R_there (p : Nat) (hp : sk_pg p) (hs : 0 ≤ I p 10 ∧ I p 10 ≤ 200) (hm : sk_in (I p 9)) (hw : ∀ s, 0 ≤ s → s < I p 10 → sk_in (I (p + 3) s) ∧ sk_in (I (p + 5) s)) (h1 : ∀ e, sk_amI p I (I p 10).toNat 0 = some e → Q (some (vi 0)) sk_G (sk_bk I e.1 e.2, L, sk_J cu sp p rp tp fp)) (h2 : sk_amI p I (I p 10).toNat 0 = none → Q (some (vi 1)) sk_G (I, L, sk_J cu sp p rp tp fp)) : AW l E (d + 1) 0 0 mX3_allMethodsAreThere 0 [some (vr 29), none, none] [] sk_G (I, L, sk_J cu sp p rp tp fp) Q := by
  have lp := c_R_there_lp (l := l) (E := E) (d := d) (L := L) (cu := cu) (sp := sp) (rp := rp) (tp := tp) (fp := fp) (Q := Q) p hp hs hm hw (I p 10).toNat 0 [some (vr 29), some (vi 0), none] (by omega) (by omega) rfl rfl h1 h2
  rcases hp with rfl | rfl <;>
  · refine AW_run 80 rfl ?_
    exact lp
end SKR8
end
section
/-! ===== a fault's token is one of the text's; so are the tokens of the steps' first numbers ===== -/
def sk_w33 (p : Nat) (I : sk_SI) : Prop := ∀ s, 0 ≤ s → s < I p 10 → 0 ≤ I 33 s ∧ I 33 s < I 30 2
def sk_fb (I : sk_SI) (e : Int × Int) : Prop := 0 ≤ e.2 ∧ e.2 < I 30 2
def sk_fk (p : Nat) (f : sk_SI → sk_PR) : Prop := ∀ I, sk_iv p I → sk_w33 p I → (∀ e, f I = .inl e → sk_fb I e) ∧ ∀ x, f I = .inr x → sk_w33 p x.2
theorem sk_w33_cg {p : Nat} {I I' : sk_SI} (h : sk_w33 p I) (h1 : I' p 10 = I p 10) (h2 : I' 33 = I 33) (h3 : I' 30 = I 30) : sk_w33 p I' := by
  intro s a b
  rw [h1] at b
  rw [h2, h3]
  exact h s a b
theorem sk_iv_fb {p : Nat} {I : sk_SI} (h : sk_iv p I) {e : Int × Int} (he : e.2 = I 29 3) : sk_fb I e := by
  have a := h.1.2.2.2.1
  have b := h.2.1
  exact ⟨by omega, by omega⟩
theorem sk_fb_30 {I I' : sk_SI} {e : Int × Int} (h : sk_fb I' e) (h0 : I' 30 = I 30) : sk_fb I e := by
  unfold sk_fb at h ⊢
  rw [← h0]; exact h
theorem sk_fp_30 {p : Nat} {I I' : sk_SI} (hp : sk_pg p) (hf : sk_fp p I I') : I' 30 = I 30 := hf.1 30 (by decide) (by decide) (by rcases hp with rfl | rfl <;> omega)
theorem sk_fe_nu {most : Int} {I : sk_SI} {e : Int × Int} (h : sk_nuI most I = .inl e) : e.2 = I 29 3 := by
  unfold sk_nuI at h
  split at h
  · cases h; rfl
  · split at h <;> cases h
    rfl
theorem sk_fe_tk {due : Int} {I : sk_SI} {e : Int × Int} (h : sk_tkI due I = .inl e) : e.2 = I 29 3 := by
  unfold sk_tkI at h
  split at h <;> cases h
  rfl
theorem sk_tk_r {due : Int} {I : sk_SI} {x : Int × sk_SI} (h : sk_tkI due I = .inr x) : x.2 = sk_uI I 29 3 (I 29 3 + 1) ∧ sk_tok I (I 29 3) = due := by
  unfold sk_tkI at h
  split at h <;> cases h
  rename_i hc
  exact ⟨rfl, hc⟩
theorem sk_w33_29 {p : Nat} {I : sk_SI} (hp : sk_pg p) (h : sk_w33 p I) (j v : Int) : sk_w33 p (sk_uI I 29 j v) :=
  sk_w33_cg h (by rw [sk_uI_o (by rcases hp with rfl | rfl <;> omega)]) (sk_uI_o (by decide)) (sk_uI_o (by decide))
theorem sk_w33_row {p : Nat} {I : sk_SI} (hp : sk_pg p) (h : sk_w33 p I) (k : Nat) (hk : p + 1 ≤ k ∧ k ≤ p + 9) (j v : Int) : sk_w33 p (sk_uI I k j v) :=
  sk_w33_cg h (by rw [sk_uI_o (by omega)]) (sk_uI_o (by rcases hp with rfl | rfl <;> omega)) (sk_uI_o (by rcases hp with rfl | rfl <;> omega))
theorem sk_fk_tk {p : Nat} (hp : sk_pg p) (due : Int) : sk_fk p (sk_tkI due) := by
  intro I h hw
  refine ⟨fun e he => sk_iv_fb h (sk_fe_tk he), fun x hx => ?_⟩
  rw [(sk_tk_r hx).1]
  exact sk_w33_29 hp hw _ _
theorem sk_fe_n1 {most s : Int} {a : Nat} {I : sk_SI} {e : Int × Int} (h : sk_n1I most a s I = .inl e) : e.2 = I 29 3 := by
  unfold sk_n1I at h
  split at h
  · cases h
  · split at h <;> cases h
    rename_i he
    exact sk_fe_nu he
theorem sk_n1_o {most s : Int} {a : Nat} {I : sk_SI} {x : Int × sk_SI} (h : sk_n1I most a s I = .inr x) : ∀ c, c ≠ a → c ≠ 29 → x.2 c = I c := by
  intro c hc h2
  unfold sk_n1I at h
  split at h
  · cases h; rfl
  · split at h
    · cases h
    · rename_i y hy
      cases h
      show sk_uI y.2 a s y.1 c = _
      rw [sk_uI_o hc, (sk_nuI_r hy).1, sk_uI_o h2]
theorem sk_fk_rn {p : Nat} (hp : sk_pg p) {s w : Int} {I : sk_SI} (h : sk_iv p I) (hw : ∀ t, 0 ≤ t → t < I p 10 → t ≠ s → 0 ≤ I 33 t ∧ I 33 t < I 30 2) : (∀ e, sk_rnI p s w I = .inl e → sk_fb I e) ∧ ∀ x, sk_rnI p s w I = .inr x → sk_w33 p x.2 := by
  have g0 := sk_gd_row hp h 33 s (I 29 3) (Or.inl rfl)
  have e29 : sk_uI I 33 s (I 29 3) 29 = I 29 := sk_uI_o (by decide)
  have p33 : p ≠ 33 ∧ p + 5 ≠ 33 ∧ p + 6 ≠ 33 ∧ p ≠ 29 ∧ p + 5 ≠ 30 ∧ p + 6 ≠ 30 ∧ p + 5 ≠ 29 ∧ p + 6 ≠ 29 := by rcases hp with rfl | rfl <;> omega
  refine ⟨fun e he => ?_, fun x hx => ?_⟩
  · unfold sk_rnI at he
    split at he
    · rename_i e' he'
      cases he
      refine sk_iv_fb h ?_
      rw [sk_fe_n1 he', e29]
    · rename_i y hy
      have g1 := sk_gd_n1 hp g0.1 (p + 5) (by omega) hy
      exact sk_fb_30 (sk_iv_fb g1.1 (sk_fe_n1 he)) (sk_fp_30 hp (sk_gd_tr g0 g1).2.1)
  · unfold sk_rnI at hx
    split at hx
    · cases hx
    · rename_i y hy
      have o1 := sk_n1_o hy
      have o2 := sk_n1_o hx
      have a33 : x.2 33 = sk_up (I 33) s (I 29 3) := by rw [o2 33 (Ne.symm p33.2.2.1) (by decide), o1 33 (Ne.symm p33.2.1) (by decide), sk_uI_s]
      have a30 : x.2 30 = I 30 := by rw [o2 30 (by omega) (by decide), o1 30 (by omega) (by decide), sk_uI_o (by decide)]
      have ap : x.2 p = I p := by rw [o2 p (by omega) (by omega), o1 p (by omega) (by omega), sk_uI_o (by omega)]
      intro t t0 t1
      rw [ap] at t1
      rw [a33, a30]
      by_cases e : t = s
      · subst e
        rw [sk_up_s]
        exact ⟨h.1.2.2.2.1, h.2.1⟩
      · rw [sk_up_o e]
        exact hw t t0 t1 e
theorem sk_fk_rr {p : Nat} {bl : sk_SI → sk_PR} (hp : sk_pg p) (hg : ∀ I x, sk_iv p I → bl I = .inr x → sk_gd p I x.2) (hb : sk_fk p bl) (s w : Int) : sk_fk p (sk_rrI bl p s w) := by
  intro I h hw
  unfold sk_rrI
  by_cases h0 : sk_bs w = 0
  · rw [if_pos h0]
    exact sk_fk_tk hp 18 I h hw
  · rw [if_neg h0]
    obtain ⟨b1, b2⟩ := hb I h hw
    cases hbl : bl I with
    | inl e => exact ⟨fun e' he => by cases he; exact b1 e hbl, fun x hx => by cases hx⟩
    | inr y =>
      have g1 := hg I y h hbl
      have w1 := sk_w33_row hp (b2 y hbl) (p + 8) (by omega) s y.1
      have g2 := sk_gd_tr g1 (sk_gd_row hp g1.1 (p + 8) s y.1 (Or.inr (by omega)))
      dsimp only
      by_cases h1 : sk_bs w = 1
      · rw [if_pos h1]
        exact ⟨fun e he => (by cases he), fun x hx => by cases hx; exact w1⟩
      · rw [if_neg h1]
        obtain ⟨c1, c2⟩ := sk_fk_tk hp (if w = 11 then 14 else 13) _ g2.1 w1
        cases htk : sk_tkI (if w = 11 then 14 else 13) (sk_uI y.2 (p + 8) s y.1) with
        | inl e => exact ⟨fun e' he => by cases he; exact sk_fb_30 (c1 e htk) (sk_fp_30 hp g2.2.1), fun x hx => by cases hx⟩
        | inr z =>
          have g3 := sk_gd_tr g2 (sk_gd_tk hp g2.1 (by split <;> decide) htk)
          obtain ⟨d1, d2⟩ := hb z.2 g3.1 (c2 z htk)
          dsimp only
          cases hz : bl z.2 with
          | inl e => exact ⟨fun e' he => by cases he; exact sk_fb_30 (d1 e hz) (sk_fp_30 hp g3.2.1), fun x hx => by cases hx⟩
          | inr u => exact ⟨fun e he => (by cases he), fun x hx => by cases hx; exact sk_w33_row hp (d2 u hz) (p + 9) (by omega) s u.1⟩
theorem sk_fk_st {p : Nat} {bl : sk_SI → sk_PR} (hp : sk_pg p) (hg : ∀ I x, sk_iv p I → bl I = .inr x → sk_gd p I x.2) (hb : sk_fk p bl) : sk_fk p (sk_stI bl p) := by
  intro I h hw
  unfold sk_stI
  by_cases h12 : 12 < sk_tok I (I 29 3)
  · rw [if_pos h12]
    exact ⟨fun e he => by cases he; exact sk_iv_fb h rfl, fun x hx => by cases hx⟩
  · rw [if_neg h12]
    by_cases h200 : 200 ≤ I p 10
    · rw [if_pos h200]
      exact ⟨fun e he => by cases he; exact sk_iv_fb h rfl, fun x hx => by cases hx⟩
    · rw [if_neg h200]
      have g1 := sk_gd_as hp h (by omega) (sk_tok I (I 29 3))
      have p33 : ∀ c, c = 29 ∨ c = 30 ∨ c = 33 → (c ≠ p ∧ c ≠ p + 9 ∧ c ≠ p + 8 ∧ c ≠ p + 7 ∧ c ≠ p + 6 ∧ c ≠ p + 5 ∧ c ≠ p + 4 ∧ c ≠ p + 3) := by intro c hc; rcases hp with rfl | rfl <;> omega
      have eo : ∀ c, c = 29 ∨ c = 30 ∨ c = 33 → sk_asI p (sk_tok I (I 29 3)) I c = I c := by
        intro c hc
        obtain ⟨q1, q2, q3, q4, q5, q6, q7, q8⟩ := p33 c hc
        unfold sk_asI
        rw [sk_uI_o q1, sk_uI_o q2, sk_uI_o q3, sk_uI_o q4, sk_uI_o q5, sk_uI_o q6, sk_uI_o q7, sk_uI_o q8]
      have e3 := congrFun (eo 29 (by omega)) 3
      have g2 := sk_gd_adv hp g1.1.1 (by rw [e3, sk_tok_fp hp g1.1.2.1]; omega)
      rw [e3] at g2
      have g12 := sk_gd_tr g1.1 g2
      obtain ⟨r1, r2⟩ := sk_fk_rn hp (s := I p 10) (w := sk_tok I (I 29 3)) g2.1 (fun t t0 t1 t2 => by
        rw [sk_uI_o (by have := (p33 29 (by omega)).1; omega), g1.2] at t1
        rw [sk_uI_o (by decide), sk_uI_o (by decide), eo 33 (by omega), eo 30 (by omega)]
        exact hw t t0 (by omega))
      cases hrn : sk_rnI p (I p 10) (sk_tok I (I 29 3)) (sk_uI (sk_asI p (sk_tok I (I 29 3)) I) 29 3 (I 29 3 + 1)) with
      | inl e => exact ⟨fun e' he => by cases he; exact sk_fb_30 (r1 e hrn) (sk_fp_30 hp g12.2.1), fun x hx => by cases hx⟩
      | inr y =>
        have g3 := sk_gd_tr g12 (sk_gd_rn hp g2.1 hrn)
        obtain ⟨s1, s2⟩ := sk_fk_rr hp hg hb (I p 10) (sk_tok I (I 29 3)) y.2 g3.1 (r2 y hrn)
        dsimp only
        cases hrr : sk_rrI bl p (I p 10) (sk_tok I (I 29 3)) y.2 with
        | inl e => exact ⟨fun e' he => by cases he; exact sk_fb_30 (s1 e hrr) (sk_fp_30 hp g3.2.1), fun x hx => by cases hx⟩
        | inr z => exact ⟨fun e he => (by cases he), fun x hx => by cases hx; exact s2 z hrr⟩
theorem sk_fk_lp {p : Nat} {ps : sk_SI → sk_PR} (hp : sk_pg p) (hg : ∀ I x, sk_iv p I → ps I = .inr x → sk_gd p I x.2) (hb : sk_fk p ps) : ∀ (m : Nat) (f la : Int), sk_fk p (sk_lpI ps p m f la)
  | 0, f, la => by
    intro I h hw
    unfold sk_lpI
    obtain ⟨a1, a2⟩ := sk_fk_tk hp 17 I h hw
    cases htk : sk_tkI 17 I with
    | inl e => exact ⟨fun e' he => by cases he; exact a1 e htk, fun x hx => by cases hx⟩
    | inr y => exact ⟨fun e he => (by cases he), fun x hx => by cases hx; exact a2 y htk⟩
  | m + 1, f, la => by
    intro I h hw
    unfold sk_lpI
    by_cases h17 : sk_tok I (I 29 3) = 17
    · rw [if_pos h17]
      exact ⟨fun e he => (by cases he), fun x hx => by cases hx; exact sk_w33_29 hp hw _ _⟩
    · rw [if_neg h17]
      obtain ⟨a1, a2⟩ := hb I h hw
      cases hps : ps I with
      | inl e => exact ⟨fun e' he => by cases he; exact a1 e hps, fun x hx => by cases hx⟩
      | inr y =>
        have g1 := hg I y h hps
        have w1 := a2 y hps
        dsimp only
        by_cases hla : 0 ≤ la
        · rw [if_pos hla]
          have g2 := sk_gd_row hp g1.1 (p + 7) la y.1 (by omega)
          obtain ⟨b1, b2⟩ := sk_fk_lp hp hg hb m f y.1 _ g2.1 (sk_w33_row hp w1 (p + 7) (by omega) la y.1)
          exact ⟨fun e he => sk_fb_30 (b1 e he) (sk_fp_30 hp (sk_gd_tr g1 g2).2.1), b2⟩
        · rw [if_neg hla]
          obtain ⟨b1, b2⟩ := sk_fk_lp hp hg hb m y.1 y.1 _ g1.1 w1
          exact ⟨fun e he => sk_fb_30 (b1 e he) (sk_fp_30 hp g1.2.1), b2⟩
theorem sk_fk_bl {p : Nat} (hp : sk_pg p) : ∀ (k : Nat), k ≤ 12 → sk_fk p (sk_blI p k)
  | 0, _ => by
    intro I h hw
    unfold sk_blI
    cases htk : sk_tkI 16 I with
    | inl e => exact ⟨fun e' he => by cases he; exact sk_iv_fb h (sk_fe_tk htk), fun x hx => by cases hx⟩
    | inr y =>
      have e1 := (sk_tk_r htk).1
      refine ⟨fun e he => ?_, fun x hx => by cases hx⟩
      cases he
      have a := h.1.2.2.2.1
      have b := h.2.1
      show 0 ≤ y.2 29 3 - 1 ∧ y.2 29 3 - 1 < I 30 2
      rw [e1, sk_uI_s, sk_up_s]
      omega
  | k + 1, hk => by
    intro I h hw
    unfold sk_blI
    cases htk : sk_tkI 16 I with
    | inl e => exact ⟨fun e' he => by cases he; exact sk_iv_fb h (sk_fe_tk htk), fun x hx => by cases hx⟩
    | inr y =>
      have g1 := sk_gd_tk hp h (by decide) htk
      have w1 := (sk_fk_tk hp 16 I h hw).2 y htk
      have h11 := g1.1.2.2.2.2.2
      have g2 := sk_iv_11 hp g1.1 (max (y.2 p 11) (12 - k)) (by omega)
      have w2 : sk_w33 p (sk_uI y.2 p 11 (max (y.2 p 11) (12 - k))) := sk_w33_cg w1 (by rw [sk_uI_s, sk_up_o (by decide)]) (sk_uI_o (by rcases hp with rfl | rfl <;> omega)) (sk_uI_o (by rcases hp with rfl | rfl <;> omega))
      have hbl : ∀ A u, sk_iv p A → sk_blI p k A = .inr u → sk_gd p A u.2 := fun A u hA hu => (sk_gd_bl hp k (by omega) A u hA hu).1
      obtain ⟨b1, b2⟩ := sk_fk_lp hp (fun A u hA hu => (sk_gd_st hp hbl hA hu).1) (sk_fk_st hp hbl (sk_fk_bl hp k (by omega))) 201 (-1) (-1) _ g2.1 w2
      exact ⟨fun e he => sk_fb_30 (b1 e he) (sk_fp_30 hp (sk_gd_tr g1 g2).2.1), b2⟩
end
section
/-! ===== Reader.readInto ===== -/
/-- the owners and starts are left alone -/
def sk_ko (p : Nat) (f : sk_SI → sk_PR) : Prop := ∀ I x, f I = .inr x → x.2 (p + 1) = I (p + 1) ∧ x.2 (p + 2) = I (p + 2)
theorem sk_ko_tk {p : Nat} (hp : sk_pg p) (due : Int) : sk_ko p (sk_tkI due) := by
  intro I x hx
  rw [(sk_tk_r hx).1, sk_uI_o (by rcases hp with rfl | rfl <;> omega), sk_uI_o (by rcases hp with rfl | rfl <;> omega)]
  exact ⟨rfl, rfl⟩
theorem sk_ko_rn {p : Nat} (hp : sk_pg p) (s w : Int) : sk_ko p (sk_rnI p s w) := by
  intro I x hx
  unfold sk_rnI at hx
  have q : p + 1 ≠ 29 ∧ p + 2 ≠ 29 ∧ p + 1 ≠ 33 ∧ p + 2 ≠ 33 := by rcases hp with rfl | rfl <;> omega
  split at hx
  · cases hx
  · rename_i y hy
    have o1 := sk_n1_o hy
    have o2 := sk_n1_o hx
    rw [o2 (p + 1) (by omega) q.1, o1 (p + 1) (by omega) q.1, o2 (p + 2) (by omega) q.2.1, o1 (p + 2) (by omega) q.2.1, sk_uI_o q.2.2.1, sk_uI_o q.2.2.2]
    exact ⟨rfl, rfl⟩
theorem sk_ko_rr {p : Nat} {bl : sk_SI → sk_PR} (hp : sk_pg p) (hb : sk_ko p bl) (s w : Int) : sk_ko p (sk_rrI bl p s w) := by
  intro I x hx
  unfold sk_rrI at hx
  split at hx
  · exact sk_ko_tk hp 18 I x hx
  · split at hx
    · cases hx
    · rename_i y hy
      have a := hb I y hy
      have b : sk_uI y.2 (p + 8) s y.1 (p + 1) = I (p + 1) ∧ sk_uI y.2 (p + 8) s y.1 (p + 2) = I (p + 2) := by
        rw [sk_uI_o (by omega), sk_uI_o (by omega)]; exact a
      split at hx
      · cases hx; exact b
      · split at hx
        · cases hx
        · rename_i z hz
          have c := sk_ko_tk hp _ _ z hz
          split at hx
          · cases hx
          · rename_i u hu
            have e := hb _ u hu
            cases hx
            show sk_uI u.2 (p + 9) s u.1 (p + 1) = _ ∧ sk_uI u.2 (p + 9) s u.1 (p + 2) = _
            rw [sk_uI_o (by omega), sk_uI_o (by omega)]
            exact ⟨e.1.trans (c.1.trans b.1), e.2.trans (c.2.trans b.2)⟩
theorem sk_ko_st {p : Nat} {bl : sk_SI → sk_PR} (hp : sk_pg p) (hb : sk_ko p bl) : sk_ko p (sk_stI bl p) := by
  intro I x hx
  unfold sk_stI at hx
  have q : p + 1 ≠ 29 ∧ p + 2 ≠ 29 := by rcases hp with rfl | rfl <;> omega
  split at hx
  · cases hx
  · split at hx
    · cases hx
    · split at hx
      · cases hx
      · rename_i y hy
        have a := sk_ko_rn hp _ _ _ y hy
        split at hx
        · cases hx
        · rename_i z hz
          have b := sk_ko_rr hp hb _ _ _ z hz
          cases hx
          refine ⟨b.1.trans (a.1.trans ?_), b.2.trans (a.2.trans ?_)⟩
          · unfold sk_asI
            rw [sk_uI_o q.1, sk_uI_o (by omega), sk_uI_o (by omega), sk_uI_o (by omega), sk_uI_o (by omega), sk_uI_o (by omega), sk_uI_o (by omega), sk_uI_o (by omega), sk_uI_o (by omega)]
          · unfold sk_asI
            rw [sk_uI_o q.2, sk_uI_o (by omega), sk_uI_o (by omega), sk_uI_o (by omega), sk_uI_o (by omega), sk_uI_o (by omega), sk_uI_o (by omega), sk_uI_o (by omega), sk_uI_o (by omega)]
theorem sk_ko_lp {p : Nat} {ps : sk_SI → sk_PR} (hp : sk_pg p) (hb : sk_ko p ps) : ∀ (m : Nat) (f la : Int), sk_ko p (sk_lpI ps p m f la)
  | 0, f, la => by
    intro I x hx
    unfold sk_lpI at hx
    split at hx
    · cases hx
    · rename_i y hy
      cases hx
      exact sk_ko_tk hp 17 I y hy
  | m + 1, f, la => by
    intro I x hx
    unfold sk_lpI at hx
    split at hx
    · cases hx
      show sk_uI I 29 3 (I 29 3 + 1) (p + 1) = _ ∧ sk_uI I 29 3 (I 29 3 + 1) (p + 2) = _
      rw [sk_uI_o (by rcases hp with rfl | rfl <;> omega), sk_uI_o (by rcases hp with rfl | rfl <;> omega)]
      exact ⟨rfl, rfl⟩
    · split at hx
      · cases hx
      · rename_i y hy
        have a := hb I y hy
        split at hx
        · have b := sk_ko_lp hp hb m f y.1 _ x hx
          rw [sk_uI_o (by omega), sk_uI_o (by omega)] at b
          exact ⟨b.1.trans a.1, b.2.trans a.2⟩
        · have b := sk_ko_lp hp hb m y.1 y.1 _ x hx
          exact ⟨b.1.trans a.1, b.2.trans a.2⟩
theorem sk_ko_bl {p : Nat} (hp : sk_pg p) : ∀ (k : Nat), sk_ko p (sk_blI p k)
  | 0 => by
    intro I x hx
    unfold sk_blI at hx
    split at hx <;> cases hx
  | k + 1 => by
    intro I x hx
    unfold sk_blI at hx
    split at hx
    · cases hx
    · rename_i y hy
      have a := sk_ko_tk hp 16 I y hy
      have b := sk_ko_lp hp (sk_ko_st hp (sk_ko_bl hp k)) 201 (-1) (-1) _ x hx
      rw [sk_uI_o (by omega), sk_uI_o (by omega)] at b
      exact ⟨b.1.trans a.1, b.2.trans a.2⟩
/-- the methods are well formed -/
def sk_wm (p : Nat) (I : sk_SI) (D : Int → Int) : Prop := ∀ m, 0 ≤ m → m < I p 9 → (0 ≤ I (p + 1) m ∧ I (p + 1) m ≤ 7) ∧ (I (p + 2) m = -1 ∨ (0 ≤ I (p + 2) m ∧ I (p + 2) m < I p 10 ∧ D (I (p + 2) m) = 1))
/-- all that is kept between two methods -/
def sk_wf (p : Nat) (I : sk_SI) (D : Int → Int) : Prop := sk_iv p I ∧ sk_w33 p I ∧ sk_wl p I D ∧ sk_wm p I D
theorem sk_wf_md {p : Nat} (hp : sk_pg p) {I : sk_SI} {D : Int → Int} (h : sk_wf p I D) : (∀ e, sk_mdI p I = .inl e → sk_fb I e) ∧ ∀ x, sk_mdI p I = .inr x → (∃ D', sk_wf p x.2 D') ∧ sk_fp p I x.2 ∧ x.2 p 9 = I p 9 + 1 := by
  obtain ⟨h1, h2, h3, h4⟩ := h
  unfold sk_mdI
  cases htk : sk_tkI 15 I with
  | inl e => exact ⟨fun e' he => by cases he; exact sk_iv_fb h1 (sk_fe_tk htk), fun x hx => by cases hx⟩
  | inr y =>
    have g1 := sk_gd_tk hp h1 (by decide) htk
    have w1 := (sk_fk_tk hp 15 I h1 h2).2 y htk
    have ey := (sk_tk_r htk).1
    obtain ⟨l1, l1p⟩ := sk_wl_tk hp h3 htk
    have ko1 := sk_ko_tk hp 15 I y htk
    have hm1 : sk_wm p y.2 D := by
      intro m m0 m1
      rw [l1p] at m1
      rw [ko1.1, ko1.2, l1p]
      exact h4 m m0 m1
    dsimp only
    by_cases h20 : 20 ≤ y.2 p 9
    · rw [if_pos h20]
      refine ⟨fun e he => ?_, fun x hx => by cases hx⟩
      cases he
      have a := h1.1.2.2.2.1
      have b := h1.2.1
      show 0 ≤ y.2 29 3 - 1 ∧ y.2 29 3 - 1 < I 30 2
      rw [ey, sk_uI_s, sk_up_s]
      omega
    · rw [if_neg h20]
      cases hnu : sk_nuI 7 y.2 with
      | inl e => exact ⟨fun e' he => by cases he; exact sk_fb_30 (sk_iv_fb g1.1 (sk_fe_nu hnu)) (sk_fp_30 hp g1.2.1), fun x hx => by cases hx⟩
      | inr z =>
        obtain ⟨q1, q2, q3, q4⟩ := sk_nuI_r hnu
        have g2 := sk_gd_adv hp g1.1 (by omega)
        rw [← q1] at g2
        have g12 := sk_gd_tr g1 g2
        have w2 : sk_w33 p z.2 := by rw [q1]; exact sk_w33_29 hp w1 _ _
        have l2 : sk_wl p z.2 D := by rw [q1]; exact sk_wl_29 hp l1 _ _
        have q29 : p ≠ 29 ∧ p + 1 ≠ 29 ∧ p + 2 ≠ 29 := by rcases hp with rfl | rfl <;> omega
        have zp : z.2 p = I p := by rw [q1, sk_uI_o q29.1, l1p]
        have z1 : z.2 (p + 1) = I (p + 1) := by rw [q1, sk_uI_o q29.2.1, ko1.1]
        have z2 : z.2 (p + 2) = I (p + 2) := by rw [q1, sk_uI_o q29.2.2, ko1.2]
        have h9 := h1.2.2.2.2.1
        have e9 : y.2 p 9 = I p 9 := by rw [l1p]
        obtain ⟨a1, a2, a3, a4, a5, a6, a7⟩ := sk_iv_am hp g2.1 z.1 (by rw [zp]; omega)
        have w3 : sk_w33 p (sk_amS p z.1 z.2) := sk_w33_cg w2 a4 (a5 33 (by rcases hp with rfl | rfl <;> omega)) (a5 30 (by rcases hp with rfl | rfl <;> omega))
        have l3 : sk_wl p (sk_amS p z.1 z.2) D := by
          intro s s0 s1
          rw [a4] at s1
          rw [a4, a3, a5 (p + 3) (by omega), a5 (p + 4) (by omega), a5 (p + 5) (by omega), a5 (p + 6) (by omega), a5 (p + 7) (by omega), a5 (p + 8) (by omega), a5 (p + 9) (by omega)]
          obtain ⟨r1, r2, r3⟩ := l2 s s0 s1
          exact ⟨r1, ⟨r2.1, by omega⟩, r3⟩
        obtain ⟨b1, b2⟩ := sk_fk_bl hp 12 (by omega) _ a1 w3
        have f12 := sk_fp_tr g12.2.1 a2
        dsimp only
        cases hbl : sk_blI p 12 (sk_amS p z.1 z.2) with
        | inl e => exact ⟨fun e' he => by cases he; exact sk_fb_30 (b1 e hbl) (sk_fp_30 hp f12), fun x hx => by cases hx⟩
        | inr u =>
          refine ⟨fun e he => (by cases he), fun x hx => ?_⟩
          cases hx
          dsimp only
          obtain ⟨g3, u1, u2⟩ := sk_gd_bl hp 12 (by omega) _ u a1 hbl
          obtain ⟨D', c1, c2, c3, c4⟩ := sk_wl_bl hp 12 (by omega) _ D u a1 l3 (by rw [a3, zp]; omega) hbl
          have ko3 := sk_ko_bl hp 12 _ u hbl
          have g4 := sk_gd_row hp g3.1 (p + 2) (z.2 p 9) u.1 (by omega)
          have f9 : u.2 p 9 = I p 9 + 1 := by rw [g3.2.2.2, a3, zp]
          have o : sk_uI u.2 (p + 2) (z.2 p 9) u.1 p = u.2 p := sk_uI_o (by omega)
          refine ⟨⟨D', g4.1, sk_w33_row hp (b2 u hbl) (p + 2) (by omega) _ _, ?_, ?_⟩, ?_, ?_⟩
          · exact sk_wl_cg c1 (by rw [o]) (by rw [o]) (fun c k1 k2 => sk_uI_o (by omega))
          · intro m m0 m1
            rw [o] at m1
            rw [o, sk_uI_o (by omega), sk_uI_s, ko3.1, ko3.2, a6, a7, z1, z2, zp]
            have h10 := h1.2.2.2.1
            have s10 := g3.2.2.1
            rw [a4, zp] at s10
            rw [a4, zp] at c3
            rw [a4, zp] at c2
            by_cases em : m = I p 9
            · subst em
              rw [sk_up_s, sk_up_s]
              refine ⟨by omega, ?_⟩
              rcases c3 with c3 | c3
              · exact Or.inl c3
              · exact Or.inr ⟨by omega, u2, by rw [c3.2]; omega⟩
            · rw [sk_up_o em, sk_up_o em, sk_up_o em]
              have hm := h4 m m0 (by omega)
              refine ⟨hm.1, ?_⟩
              rcases hm.2 with k | k
              · exact Or.inl k
              · exact Or.inr ⟨k.1, by omega, by rw [c2 _ k.2.1]; exact k.2.2⟩
          · exact sk_fp_tr f12 (sk_gd_tr g3 g4).2.1
          · show sk_uI u.2 (p + 2) (z.2 p 9) u.1 p 9 = _
            rw [o, f9]
def sk_mlI (p : Nat) : Nat → sk_SI → sk_PR
  | 0, I => .inr (0, I)
  | m + 1, I => if sk_tok I (I 29 3) = 20 then .inr (0, I) else match sk_mdI p I with
    | .inl e => .inl e
    | .inr x => sk_mlI p m x.2
theorem sk_wf_ml {p : Nat} (hp : sk_pg p) : ∀ (m : Nat) (I : sk_SI) (D : Int → Int), sk_wf p I D → 1 ≤ I p 9 → (∀ e, sk_mlI p m I = .inl e → sk_fb I e) ∧ ∀ x, sk_mlI p m I = .inr x → (∃ D', sk_wf p x.2 D') ∧ sk_fp p I x.2 ∧ 1 ≤ x.2 p 9
  | 0, I, D, h, h9 => ⟨fun e he => (by cases he), fun x hx => by cases hx; exact ⟨⟨D, h⟩, sk_fp_rf p I, h9⟩⟩
  | m + 1, I, D, h, h9 => by
    unfold sk_mlI
    by_cases ht : sk_tok I (I 29 3) = 20
    · rw [if_pos ht]
      exact ⟨fun e he => (by cases he), fun x hx => by cases hx; exact ⟨⟨D, h⟩, sk_fp_rf p I, h9⟩⟩
    · rw [if_neg ht]
      obtain ⟨a1, a2⟩ := sk_wf_md hp h
      cases hmd : sk_mdI p I with
      | inl e => exact ⟨fun e' he => by cases he; exact a1 e hmd, fun x hx => by cases hx⟩
      | inr y =>
        obtain ⟨⟨D', b1⟩, b2, b3⟩ := a2 y hmd
        obtain ⟨c1, c2⟩ := sk_wf_ml hp m y.2 D' b1 (by omega)
        refine ⟨fun e he => sk_fb_30 (c1 e he) (sk_fp_30 hp b2), fun x hx => ?_⟩
        obtain ⟨d1, d2, d3⟩ := c2 x hx
        exact ⟨d1, sk_fp_tr b2 d2, d3⟩
/-- the reader's cells as the first method is begun -/
def sk_ri0 (p : Nat) (I : sk_SI) : sk_SI := sk_uI (sk_uI (sk_cut (sk_uI (sk_uI (sk_uI I p 9 0) p 10 0) p 11 0)) 29 3 0) 29 5 0
def sk_riI (p : Nat) (I : sk_SI) : sk_PR := match sk_mdI p I with
  | .inl e => .inl e
  | .inr x => match sk_mlI p 20 x.2 with
    | .inl e => .inl e
    | .inr y => match sk_amI p y.2 (y.2 p 10).toNat 0 with
      | some e => .inl e
      | none => .inr (0, y.2)
theorem sk_am_fb {p : Nat} {I : sk_SI} (h : sk_w33 p I) : ∀ (n : Nat) (s : Int), 0 ≤ s → s + n = I p 10 → ∀ e, sk_amI p I n s = some e → sk_fb I e
  | 0, s, h0, hn, e, he => by cases he
  | n + 1, s, h0, hn, e, he => by
    unfold sk_amI at he
    split at he
    · cases he
      exact h s h0 (by omega)
    · exact sk_am_fb h n (s + 1) (by omega) (by omega) e he
theorem sk_wf_ri {p : Nat} (hp : sk_pg p) {I : sk_SI} {D : Int → Int} (h : sk_wf p I D) : (∀ e, sk_riI p I = .inl e → sk_fb I e) ∧ ∀ x, sk_riI p I = .inr x → (∃ D', sk_wf p x.2 D') ∧ sk_fp p I x.2 ∧ 1 ≤ x.2 p 9 ∧ sk_amI p x.2 (x.2 p 10).toNat 0 = none := by
  unfold sk_riI
  obtain ⟨a1, a2⟩ := sk_wf_md hp h
  cases hmd : sk_mdI p I with
  | inl e => exact ⟨fun e' he => by cases he; exact a1 e hmd, fun x hx => by cases hx⟩
  | inr y =>
    obtain ⟨⟨D', b1⟩, b2, b3⟩ := a2 y hmd
    have h9 := h.1.2.2.2.2.1
    obtain ⟨c1, c2⟩ := sk_wf_ml hp 20 y.2 D' b1 (by omega)
    dsimp only
    cases hml : sk_mlI p 20 y.2 with
    | inl e => exact ⟨fun e' he => by cases he; exact sk_fb_30 (c1 e hml) (sk_fp_30 hp b2), fun x hx => by cases hx⟩
    | inr z =>
      obtain ⟨⟨D2, d1⟩, d2, d3⟩ := c2 z hml
      have h10 := d1.1.2.2.2.1
      dsimp only
      cases ham : sk_amI p z.2 (z.2 p 10).toNat 0 with
      | some e => exact ⟨fun e' he => by cases he; exact sk_fb_30 (sk_am_fb d1.2.1 _ 0 (by omega) (by omega) e ham) (sk_fp_30 hp (sk_fp_tr b2 d2)), fun x hx => by cases hx⟩
      | none => exact ⟨fun e he => (by cases he), fun x hx => by cases hx; exact ⟨⟨D2, d1⟩, sk_fp_tr b2 d2, d3, ham⟩⟩
theorem sk_ri0_wf {p : Nat} (hp : sk_pg p) {I : sk_SI} (ht : sk_tp I) : sk_wf p (sk_ri0 p I) (fun _ => 0) ∧ (∀ c, c ≠ 29 → c ≠ 30 → c ≠ 31 → c ≠ 32 → c ≠ p → sk_ri0 p I c = I c) ∧ (∀ j, j ≠ 3 → j ≠ 5 → sk_ri0 p I 29 j = I 29 j) ∧ sk_ri0 p I p 9 = 0 ∧ sk_ri0 p I p 10 = 0 ∧ sk_ri0 p I p 11 = 0 ∧ sk_ri0 p I 29 3 = 0 ∧ sk_ri0 p I 29 5 = 0 ∧ (∀ j, j ≠ 9 → j ≠ 10 → j ≠ 11 → sk_ri0 p I p j = I p j) ∧ ∃ N : Nat, sk_ri0 p I 30 2 = N + 1 ∧ (N : Int) ≤ I 1 1 ∧ sk_fr (I 2) (I 1 1) N = I 1 1 ∧ sk_rows (I 2) (I 1 1) (sk_ri0 p I) N ∧ sk_ri0 p I 31 N = 20 ∧ sk_ri0 p I 32 N = I 1 1 := by
  unfold sk_ri0
  generalize hC : sk_uI (sk_uI (sk_uI I p 9 0) p 10 0) p 11 0 = C
  have q : p ≠ 1 ∧ p ≠ 2 ∧ p ≠ 29 ∧ p ≠ 30 ∧ p ≠ 31 ∧ p ≠ 32 := by rcases hp with rfl | rfl <;> omega
  have co : ∀ c, c ≠ p → C c = I c := fun c hc => by rw [← hC, sk_uI_o hc, sk_uI_o hc, sk_uI_o hc]
  have c9 : C p 9 = 0 := by rw [← hC, sk_uI_s, sk_up_o (by decide), sk_uI_s, sk_up_o (by decide), sk_uI_s, sk_up_s]
  have c10 : C p 10 = 0 := by rw [← hC, sk_uI_s, sk_up_o (by decide), sk_uI_s, sk_up_s]
  have c11 : C p 11 = 0 := by rw [← hC, sk_uI_s, sk_up_s]
  have cj : ∀ j, j ≠ 9 → j ≠ 10 → j ≠ 11 → C p j = I p j := fun j j1 j2 j3 => by rw [← hC, sk_uI_s, sk_up_o j3, sk_uI_s, sk_up_o j2, sk_uI_s, sk_up_o j1]
  have e1 : C 1 = I 1 := co 1 (by omega)
  have e2 : C 2 = I 2 := co 2 (by omega)
  have htC : sk_tp C := by unfold sk_tp; rw [e1, e2]; exact ht
  obtain ⟨N, s1, s2, s3, s4, s5, s6, s7, s8⟩ := sk_cut_spec C htC
  rw [e1] at s2 s3 s4 s6
  rw [e2] at s3 s4
  generalize hK : sk_cut C = K at *
  have o : ∀ c, c ≠ 29 → sk_uI (sk_uI K 29 3 0) 29 5 0 c = K c := fun c hc => by rw [sk_uI_o hc, sk_uI_o hc]
  have o3 : sk_uI (sk_uI K 29 3 0) 29 5 0 29 3 = 0 := by rw [sk_uI_s, sk_up_o (by decide), sk_uI_s, sk_up_s]
  have o5 : sk_uI (sk_uI K 29 3 0) 29 5 0 29 5 = 0 := by rw [sk_uI_s, sk_up_s]
  have op := (o p q.2.2.1).trans (s7 p q.2.2.2.1 q.2.2.2.2.1 q.2.2.2.2.2)
  have o30 := o 30 (by decide)
  have o31 := o 31 (by decide)
  have o32 := o 32 (by decide)
  have t1 := ht.2.1
  refine ⟨⟨⟨⟨?_, ?_, ?_, ?_⟩, ?_, ?_, ?_, ?_, ?_⟩, ?_, ?_, ?_⟩, ?_, ?_, ?_, ?_, ?_, o3, o5, ?_, N, ?_, s2, s3, ?_, ?_, ?_⟩
  · rw [o30, s1]; omega
  · rw [o30, s1]; omega
  · intro i i0 i1
    rw [o30, s1] at i1
    rw [o31]
    obtain ⟨n, rfl⟩ := Int.eq_ofNat_of_zero_le i0
    by_cases hn : n = N
    · subst hn; rw [s5]; omega
    · obtain ⟨r1, r2, r3⟩ := s4 n (by omega)
      rw [r2]
      have b1 := sk_fr_b (I 2) ht.1 n
      have b2 := sk_pos_b (I 2) ht.1 n
      have := sk_tk_rel (I 2) (I 1 1) (sk_fr (I 2) (I 1 1) n) 0 ⟨by omega, r1⟩
      exact ⟨this.2.1, this.2.2.1⟩
  · rw [o3]; omega
  · rw [o3, o30, s1]; omega
  · rw [o30, o31, s1, show (N : Int) + 1 - 1 = N by omega]; exact s5
  · rw [op, c10]; omega
  · rw [op, c9]; omega
  · rw [op, c11]; omega
  · intro s z1 z2; rw [op, c10] at z2; omega
  · intro s z1 z2; rw [op, c10] at z2; omega
  · intro s z1 z2; rw [op, c9] at z2; omega
  · intro c k1 k2 k3 k4 k5
    rw [o c k1, s7 c k2 k3 k4, co c k5]
  · intro j j1 j2
    rw [sk_uI_s, sk_up_o j2, sk_uI_s, sk_up_o j1, s7 29 (by decide) (by decide) (by decide), co 29 (by omega)]
  · rw [op, c9]
  · rw [op, c10]
  · rw [op, c11]
  · intro j j1 j2 j3
    rw [op, cj j j1 j2 j3]
  · rw [o30, s1]
  · intro i hi
    rw [o31, o32]
    exact s4 i hi
  · rw [o31]; exact s5
  · rw [o32]; exact s6
end
section
/-! ===== Reader.readInto, SealKeeper.program ===== -/
section SKR9
variable {l : Launch} {E : sk_En} {d : Nat} {L : sk_SL} {cu sp io rp tp fp : Nat} {Q : Option sk_V → List sk_Sh → sk_St → Prop}
/-- the end of readInto, at a fault -/
theorem c_R_into_f (p : Nat) (I : sk_SI) (m : Int) (h30 : I 30 2 ≤ 1201) (h4 : 0 ≤ I 29 4 ∧ I 29 4 < I 30 2) (hq : Q (some (vi 0)) sk_G (sk_uI I 29 6 (I 32 (I 29 4)), L, sk_J cu sp p rp tp fp)) : AW l E (d + 1) 0 0 mX3_readInto 95 [some (vr 29), some (vr p), some (vr 1), some (vi 0), some (vi m)] [vi 0, vr 29] sk_G (I, L, sk_J cu sp p rp tp fp) Q := by
  first | refine AW_e1 rfl ?_ | refine AW_e0 rfl ?_ | refine AW_n1 rfl ?_ | refine AW_n0 rfl ?_
  refine AW_run 80 rfl ?_
  refine AW_cV (M' := mX8_placeOf) rfl kkX3_56 lcX8_placeOf rfl rfl rfl rfl rfl rfl (Nat.le_refl _) ?_
  refine c_T_placeOf _ (by unfold sk_in; omega) (by omega) (fun _ _ => ?_) (fun z => by omega)
  refine AW_run 80 rfl ?_
  exact AW_zret rfl rfl (Or.inl rfl) hq
/-- and where all is sound -/
theorem c_R_into_s (p : Nat) (I : sk_SI) (m : Int) (hq : Q (some (vi 1)) sk_G (sk_uI I 29 6 0, L, sk_J cu sp p rp tp fp)) : AW l E d 0 0 mX3_readInto 95 [some (vr 29), some (vr p), some (vr 1), some (vi 1), some (vi m)] [vi 1, vr 29] sk_G (I, L, sk_J cu sp p rp tp fp) Q := by
  first | refine AW_e1 rfl ?_ | refine AW_e0 rfl ?_ | refine AW_n1 rfl ?_ | refine AW_n0 rfl ?_
  refine AW_run 80 rfl ?_
  exact AW_zret rfl rfl (Or.inr rfl) hq
theorem c_R_into_lp (p : Nat) (hp : sk_pg p) : ∀ (n : Nat) (m : Int) (I : sk_SI) (D : Int → Int), 1 ≤ m → m + n = 21 → sk_wf p I D → 1 ≤ I p 9 → (∀ e, sk_mlI p n I = .inl e → ∀ I', sk_flt p I e I' → Q (some (vi 0)) sk_G (sk_uI I' 29 6 (I' 32 e.2), L, sk_J cu sp p rp tp fp)) → (∀ z, sk_mlI p n I = .inr z → (∀ e, sk_amI p z.2 (z.2 p 10).toNat 0 = some e → ∀ I', sk_flt p z.2 e I' → Q (some (vi 0)) sk_G (sk_uI I' 29 6 (I' 32 e.2), L, sk_J cu sp p rp tp fp)) ∧ (sk_amI p z.2 (z.2 p 10).toNat 0 = none → Q (some (vi 1)) sk_G (sk_uI z.2 29 6 0, L, sk_J cu sp p rp tp fp))) → AW l E (d + 44) 0 0 mX3_readInto 42 [some (vr 29), some (vr p), some (vr 1), some (vi 1), some (vi m)] [vi 20, vi m] sk_G (I, L, sk_J cu sp p rp tp fp) Q := by
  intro n
  have fin : ∀ (m : Int) (I : sk_SI) (D : Int → Int), sk_wf p I D → (∀ e, sk_amI p I (I p 10).toNat 0 = some e → ∀ I', sk_flt p I e I' → Q (some (vi 0)) sk_G (sk_uI I' 29 6 (I' 32 e.2), L, sk_J cu sp p rp tp fp)) → (sk_amI p I (I p 10).toNat 0 = none → Q (some (vi 1)) sk_G (sk_uI I 29 6 0, L, sk_J cu sp p rp tp fp)) → AW l E (d + 44) 0 0 mX3_readInto 76 [some (vr 29), some (vr p), some (vr 1), some (vi 1), some (vi m)] [] sk_G (I, L, sk_J cu sp p rp tp fp) Q := by
    intro m I D h h1 h2
    have h9 := h.1.2.2.2.2.1
    have h10 := h.1.2.2.2.1
    have h30 := h.1.1.2.1
    refine AW_run 80 rfl ?_
    first | refine AW_e1 rfl ?_ | refine AW_e0 rfl ?_ | refine AW_n1 rfl ?_ | refine AW_n0 rfl ?_
    refine AW_run 80 rfl ?_
    refine AW_cV (M' := mX3_allMethodsAreThere) (d' := d + 43) rfl kkX3_50 lcX3_allMethodsAreThere rfl rfl rfl rfl rfl rfl (by omega) ?_
    refine c_R_there (d := d + 42) p hp h10 (by unfold sk_in; omega) (fun s s0 s1 => ?_) (fun e he => ?_) (fun he => ?_)
    · obtain ⟨a1, a2, a3, a4⟩ := h.2.2.1 s s0 s1
      have b1 : -1 ≤ sk_mf (I (p + 3) s) ∧ sk_mf (I (p + 3) s) ≤ 999 := by
        have tb : ∀ w, w < 13 → -1 ≤ sk_mf ((w : Nat) : Int) ∧ sk_mf ((w : Nat) : Int) ≤ 999 := by decide
        have := tb (I (p + 3) s).toNat (by omega)
        rw [show (((I (p + 3) s).toNat : Nat) : Int) = I (p + 3) s by omega] at this
        exact this
      unfold sk_no at a3
      exact ⟨by unfold sk_in; omega, by unfold sk_in; omega⟩
    · have fb := sk_am_fb h.2.1 (I p 10).toNat 0 (by omega) (by omega) e he
      have hf := sk_flt_bk p hp I e.1 e.2
      have q30 := sk_fp_30 hp hf.1
      have hq := h1 e he _ hf
      have e4 : sk_bk I e.1 e.2 29 4 = e.2 := hf.2.2
      generalize sk_bk I e.1 e.2 = B at *
      unfold sk_fb at fb
      refine AW_run 80 rfl ?_
      first | refine AW_e1 rfl ?_ | refine AW_e0 rfl ?_ | refine AW_n1 rfl ?_ | refine AW_n0 rfl ?_
      refine AW_run 80 rfl ?_
      refine c_R_into_f (d := d + 43) p B _ (by rw [q30]; exact h30) (by rw [q30, e4]; exact fb) ?_
      rw [e4]
      exact hq
    · have hq := h2 he
      refine AW_run 80 rfl ?_
      first | refine AW_e1 rfl ?_ | refine AW_e0 rfl ?_ | refine AW_n1 rfl ?_ | refine AW_n0 rfl ?_
      refine AW_run 80 rfl ?_
      exact c_R_into_s p I _ hq
  induction n with
  | zero =>
    intro m I D h1 hm hw h9 k1 k2
    refine AW_icgt rfl (fun g => ?_) (fun g => by omega)
    obtain ⟨z1, z2⟩ := k2 (0, I) rfl
    exact fin _ I D hw z1 z2
  | succ n ih =>
    intro m I D h1 hm hw h9 k1 k2
    have hb := sk_tok_b hw.1.1 (I 29 3)
    have hn := hw.1.1.2.2.2
    have h30 := hw.1.1.2.1
    refine AW_icgt rfl (fun g => by omega) (fun g => ?_)
    refine AW_run 80 rfl ?_
    first | refine AW_e1 rfl ?_ | refine AW_e0 rfl ?_ | refine AW_n1 rfl ?_ | refine AW_n0 rfl ?_
    refine AW_run 80 rfl ?_
    refine AW_cV (M' := mX8_tokenAt) rfl kkX3_46 lcX8_tokenAt rfl rfl rfl rfl rfl rfl (Nat.le_refl _) ?_
    refine c_T_tok _ hw.1.1 (by unfold sk_in; omega) ?_
    refine AW_run 80 rfl ?_
    refine AW_iceq rfl (fun g2 => ?_) (fun g2 => ?_) (by unfold sk_in; omega)
    · obtain ⟨z1, z2⟩ := k2 (0, I) (by unfold sk_mlI; rw [if_pos g2])
      exact fin _ I D hw z1 z2
    · unfold sk_mlI at k1 k2
      rw [if_neg g2] at k1 k2
      obtain ⟨a1, a2⟩ := sk_wf_md hp hw
      refine AW_run 80 rfl ?_
      refine AW_cV (M' := mX3_readMethod) (d' := d + 43) rfl kkX3_42 lcX3_readMethod rfl rfl rfl rfl rfl rfl (by omega) ?_
      refine c_R_method p hp hw.1 (fun e he I' hI' => ?_) (fun z hz => ?_)
      · rw [he] at k1
        have fb := a1 e he
        have hq := k1 e rfl I' hI'
        have q30 := sk_fp_30 hp hI'.1
        have e4 : I' 29 4 = e.2 := hI'.2.2
        unfold sk_fb at fb
        have fin0 : AW l E (d + 44) 0 0 mX3_readInto 95 [some (vr 29), some (vr p), some (vr 1), some (vi 0), some (vi (m + 1))] [vi 0, vr 29] sk_G (I', L, sk_J cu sp p rp tp fp) Q :=
          c_R_into_f (d := d + 43) p I' _ (by rw [q30]; exact h30) (by rw [q30, e4]; exact fb) (by rw [e4]; exact hq)
        refine AW_run 80 rfl ?_
        refine AW_icgt rfl (fun g3 => ?_) (fun g3 => ?_) (by unfold sk_in; omega)
        · refine AW_run 80 rfl ?_
          first | refine AW_e1 rfl ?_ | refine AW_e0 rfl ?_ | refine AW_n1 rfl ?_ | refine AW_n0 rfl ?_
          refine AW_run 80 rfl ?_
          exact fin0
        · refine AW_run 80 rfl ?_
          first | refine AW_e1 rfl ?_ | refine AW_e0 rfl ?_ | refine AW_n1 rfl ?_ | refine AW_n0 rfl ?_
          refine AW_run 80 rfl ?_
          first | refine AW_e1 rfl ?_ | refine AW_e0 rfl ?_ | refine AW_n1 rfl ?_ | refine AW_n0 rfl ?_
          refine AW_run 80 rfl ?_
          exact fin0
      · obtain ⟨⟨D', b1⟩, b2, b3⟩ := a2 z hz
        rw [hz] at k1 k2
        dsimp only at k1 k2
        have ih2 := ih (m + 1) z.2 D' (by omega) (by omega) b1 (by omega) (fun e he I' hI' => k1 e he I' (sk_flt_tr b2 hI')) k2
        refine AW_run 80 rfl ?_
        exact ih2
theorem c_R_into (p : Nat) (hp : sk_pg p) (I : sk_SI) (ht : sk_tp I) (h1 : ∀ e, sk_riI p (sk_ri0 p I) = .inl e → ∀ I', sk_flt p (sk_ri0 p I) e I' → Q (some (vi 0)) sk_G (sk_uI I' 29 6 (I' 32 e.2), L, sk_J cu sp p rp tp fp)) (h2 : ∀ x, sk_riI p (sk_ri0 p I) = .inr x → Q (some (vi 1)) sk_G (sk_uI x.2 29 6 0, L, sk_J cu sp p rp tp fp)) : AW l E (d + 44) 0 0 mX3_readInto 0 [some (vr 29), some (vr p), some (vr 1), none, none] [] sk_G (I, L, sk_J cu sp io rp tp fp) Q := by
  obtain ⟨w0, w1, w2, w3, w4⟩ := sk_ri0_wf hp ht
  have h30 := w0.1.1.2.1
  have htC : sk_tp (sk_uI (sk_uI (sk_uI I p 9 0) p 10 0) p 11 0) := by
    have q : 1 ≠ p ∧ 2 ≠ p := by rcases hp with rfl | rfl <;> omega
    unfold sk_tp
    rw [sk_uI_o q.1, sk_uI_o q.1, sk_uI_o q.1, sk_uI_o q.2, sk_uI_o q.2, sk_uI_o q.2]
    exact ht
  have body : AW l E (d + 44) 0 0 mX3_readInto 31 [some (vr 29), some (vr p), some (vr 1), none, none] [vr 29] sk_G (sk_ri0 p I, L, sk_J cu sp p rp tp fp) Q := by
    generalize sk_ri0 p I = R at *
    obtain ⟨a1, a2⟩ := sk_wf_md hp w0
    refine AW_cV (M' := mX3_readMethod) (d' := d + 43) rfl kkX3_42 lcX3_readMethod rfl rfl rfl rfl rfl rfl (by omega) ?_
    refine c_R_method p hp w0.1 (fun e he I' hI' => ?_) (fun z hz => ?_)
    · have hq := h1 e (by unfold sk_riI; rw [he]) I' hI'
      have fb := a1 e he
      have q30 := sk_fp_30 hp hI'.1
      have e4 : I' 29 4 = e.2 := hI'.2.2
      unfold sk_fb at fb
      have fin0 : AW l E (d + 44) 0 0 mX3_readInto 95 [some (vr 29), some (vr p), some (vr 1), some (vi 0), some (vi 1)] [vi 0, vr 29] sk_G (I', L, sk_J cu sp p rp tp fp) Q :=
        c_R_into_f (d := d + 43) p I' _ (by rw [q30]; exact h30) (by rw [q30, e4]; exact fb) (by rw [e4]; exact hq)
      refine AW_run 80 rfl ?_
      refine AW_icgt rfl (fun g3 => by omega) (fun g3 => ?_)
      refine AW_run 80 rfl ?_
      first | refine AW_e1 rfl ?_ | refine AW_e0 rfl ?_ | refine AW_n1 rfl ?_ | refine AW_n0 rfl ?_
      refine AW_run 80 rfl ?_
      first | refine AW_e1 rfl ?_ | refine AW_e0 rfl ?_ | refine AW_n1 rfl ?_ | refine AW_n0 rfl ?_
      refine AW_run 80 rfl ?_
      exact fin0
    · obtain ⟨⟨D', b1⟩, b2, b3⟩ := a2 z hz
      have lp := c_R_into_lp (l := l) (E := E) (d := d) (L := L) (cu := cu) (sp := sp) (rp := rp) (tp := tp) (fp := fp) (Q := Q) p hp 20 1 z.2 D' (by omega) (by omega) b1 (by rw [b3, w3]; omega) (fun e he I' hI' => h1 e (by unfold sk_riI; rw [hz]; dsimp only; rw [he]) I' (sk_flt_tr b2 hI')) (fun u hu => by
        obtain ⟨⟨D2, c1⟩, c2, c3⟩ := (sk_wf_ml hp 20 z.2 D' b1 (by rw [b3, w3]; omega)).2 u hu
        exact ⟨fun e he I' hI' => h1 e (by unfold sk_riI; rw [hz]; dsimp only; rw [hu]; dsimp only; rw [he]) I' (sk_flt_tr (sk_fp_tr b2 c2) hI'), fun he => h2 (0, u.2) (by unfold sk_riI; rw [hz]; dsimp only; rw [hu]; dsimp only; rw [he])⟩)
      refine AW_run 80 rfl ?_
      exact lp
  have hp' := hp
  rcases hp with rfl | rfl <;>
  · refine AW_run 80 rfl ?_
    rw [sk_J_into]
    refine AW_cV (M' := mX2_clear) rfl kkX3_26 lcX2_clear rfl rfl rfl rfl rfl rfl (Nat.le_refl _) ?_
    refine c_Pg_clear _ hp' ?_
    refine AW_run 80 rfl ?_
    refine AW_cV (M' := mX8_cut) (d' := d + 43) rfl kkX3_31 lcX8_cut rfl rfl rfl rfl rfl rfl (by omega) ?_
    refine c_T_cut (d := d + 37) htC ?_
    refine AW_run 80 rfl ?_
    exact body
end SKR9
end
section
section SKR9b
variable {l : Launch} {E : sk_En} {d : Nat} {L : sk_SL} {cu sp io rp tp fp : Nat} {Q : Option sk_V → List sk_Sh → sk_St → Prop}
theorem c_K_program (I : sk_SI) (hs : sk_pg sp) (ht : sk_tp I) (h1 : ∀ e, sk_riI sp (sk_ri0 sp I) = .inl e → ∀ I', sk_flt sp (sk_ri0 sp I) e I' → Q (some (vi (-100 - I' 32 e.2))) sk_G (sk_uI (sk_uI I' 29 6 (I' 32 e.2)) 1 1 0, L, sk_J cu sp sp rp tp fp)) (h2 : ∀ x, sk_riI sp (sk_ri0 sp I) = .inr x → Q (some (vi (x.2 sp 9))) sk_G (sk_uI (sk_uI (sk_uI (sk_uI x.2 29 6 0) 1 1 0) 34 8 0) 48 15 0, L, sk_J sp cu sp rp tp fp)) : AW l E (d + 45) 0 0 mX9_program 0 [some (vr 0), none, none] [] sk_G (I, L, sk_J cu sp io rp tp fp) Q := by
  obtain ⟨w0, w1, w2, w3, w4⟩ := sk_ri0_wf hs ht
  have f11 : ∀ I', sk_fp sp (sk_ri0 sp I) I' → I' 1 = I 1 ∧ I' 32 = sk_ri0 sp I 32 := by
    intro I' hf
    refine ⟨?_, hf.1 32 (by decide) (by decide) (by rcases hs with rfl | rfl <;> omega)⟩
    rw [hf.1 1 (by decide) (by decide) (by rcases hs with rfl | rfl <;> omega), w1 1 (by decide) (by decide) (by decide) (by decide) (by rcases hs with rfl | rfl <;> omega)]
  refine AW_run 80 rfl ?_
  refine AW_cV (M' := mX3_readInto) (d' := d + 44) rfl kkX9_89 lcX3_readInto rfl rfl rfl rfl rfl rfl (by omega) ?_
  refine c_R_into sp hs I ht (fun e he I' hI' => ?_) (fun x hx => ?_)
  · have hq := h1 e he I' hI'
    obtain ⟨e1, e32⟩ := f11 I' hI'.1
    have fb := (sk_wf_ri hs w0).1 e he
    have hmx : max (0 : Int) (min 0 (sk_uI I' 29 6 (I' 32 e.2) 1 1)) = 0 := by omega
    refine AW_run 80 rfl ?_
    refine AW_cV (M' := mX4_cutTo) (d' := d + 44) rfl kkX9_86 lcX4_cutTo rfl rfl rfl rfl rfl rfl (by omega) ?_
    refine c_Row_cut (d := d + 43) 1 1200 (by unfold sk_row; omega) 0 (by unfold sk_in; omega) (by (try simp only [sk_uI_s, sk_uI_o, sk_up_s, sk_up_o, sk_uL_s, sk_uL_o, ne_eq, Nat.reduceEqDiff, Nat.reduceAdd, Int.reduceEq, not_false_eq_true]); rw [e1]; exact ht.2.1) (by (try simp only [sk_uI_s, sk_uI_o, sk_up_s, sk_up_o, sk_uL_s, sk_uL_o, ne_eq, Nat.reduceEqDiff, Nat.reduceAdd, Int.reduceEq, not_false_eq_true]); rw [e1]; exact ht.1) ?_
    rw [hmx]
    refine AW_run 80 rfl ?_
    first | refine AW_e1 rfl ?_ | refine AW_e0 rfl ?_ | refine AW_n1 rfl ?_ | refine AW_n0 rfl ?_
    refine AW_run 80 rfl ?_
    exact AW_iret rfl rfl hq
  · have hq := h2 x hx
    obtain ⟨v1, v2, v3, v4⟩ := (sk_wf_ri hs w0).2 x hx
    obtain ⟨e1, e32⟩ := f11 x.2 v2
    have hmx : max (0 : Int) (min 0 (sk_uI x.2 29 6 0 1 1)) = 0 := by omega
    refine AW_run 80 rfl ?_
    refine AW_cV (M' := mX4_cutTo) (d' := d + 44) rfl kkX9_86 lcX4_cutTo rfl rfl rfl rfl rfl rfl (by omega) ?_
    refine c_Row_cut (d := d + 43) 1 1200 (by unfold sk_row; omega) 0 (by unfold sk_in; omega) (by (try simp only [sk_uI_s, sk_uI_o, sk_up_s, sk_up_o, sk_uL_s, sk_uL_o, ne_eq, Nat.reduceEqDiff, Nat.reduceAdd, Int.reduceEq, not_false_eq_true]); rw [e1]; exact ht.2.1) (by (try simp only [sk_uI_s, sk_uI_o, sk_up_s, sk_up_o, sk_uL_s, sk_uL_o, ne_eq, Nat.reduceEqDiff, Nat.reduceAdd, Int.reduceEq, not_false_eq_true]); rw [e1]; exact ht.1) ?_
    rw [hmx]
    refine AW_run 80 rfl ?_
    first | refine AW_e1 rfl ?_ | refine AW_e0 rfl ?_ | refine AW_n1 rfl ?_ | refine AW_n0 rfl ?_
    refine AW_run 80 rfl ?_
    rw [sk_J_cur, sk_J_spr]
    refine AW_putZ rfl rfl (Or.inl rfl) ?_
    refine AW_run 80 rfl ?_
    refine AW_putZ rfl rfl (Or.inl rfl) ?_
    rcases hs with rfl | rfl <;>
    · (refine AW_run 80 rfl ?_; (try simp only [sk_uI_s, sk_uI_o, sk_up_s, sk_up_o, sk_uL_s, sk_uL_o, ne_eq, Nat.reduceEqDiff, Nat.reduceAdd, Int.reduceEq, not_false_eq_true]))
      exact AW_iret rfl rfl hq
end SKR9b
end
section
/-! ===== the model's reader against the class's: the relation ===== -/
theorem sk_tk_gap (t : Int → Int) (n p : Int) (hp : 0 ≤ p ∧ p < n) : sk_tk t n p ≤ 19 ∨ 100 ≤ sk_tk t n p := by
  unfold sk_tk
  by_cases hl : sk_ltr t p = true
  · rw [if_pos hl]
    have hb := sk_end_b (sk_ltr t) (n := n) (i := p) (by omega)
    have := sk_word_rel t p (sk_end (sk_ltr t) n p) (fun i a b => by have := sk_end_in a b; simpa [sk_ltr] using this) hb.1
    omega
  · rw [if_neg hl]
    by_cases hd : sk_dgt t p = true
    · rw [if_pos hd]
      have hb := sk_end_b (sk_dgt t) (n := n) (i := p) (by omega)
      have hin : ∀ i, p ≤ i → i < sk_end (sk_dgt t) n p → 48 ≤ t i ∧ t i ≤ 57 := fun i a b => by have := sk_end_in a b; simpa [sk_dgt] using this
      generalize sk_end (sk_dgt t) n p = e at hb hin
      unfold sk_nt
      by_cases h3 : e - p ≤ 3
      · rw [if_neg (by omega)]
        have := sk_nm_b t p (e - p).toNat (by omega) (fun j hj => hin _ (by omega) (by omega))
        omega
      · rw [if_pos (by omega)]
        omega
    · rw [if_neg hd]
      unfold sk_sgn
      split
      · omega
      · split
        · omega
        · split <;> omega
theorem sk_mnu_in (t : Int → Int) (n p old : Int) (hp : 0 ≤ p ∧ p < n) (ho : sk_in old) : sk_in (sk_mnu t n p old) := by
  unfold sk_mnu
  split
  · exact ho
  · split
    · rename_i hl hd
      have hb := sk_end_b (sk_dgt t) (n := n) (i := p) (by omega)
      have hin : ∀ i, p ≤ i → i < sk_end (sk_dgt t) n p → 48 ≤ t i ∧ t i ≤ 57 := fun i a b => by have := sk_end_in a b; simpa [sk_dgt] using this
      split
      · have := sk_nm_b t p (sk_end (sk_dgt t) n p - p).toNat (by omega) (fun j hj => hin _ (by omega) (by omega))
        unfold sk_in
        omega
      · unfold sk_in; omega
    · exact ho
def sk_tkn (t : Int → Int) (n : Int) (C : sk_SI) : Prop := ∃ N : Nat, C 30 2 = N + 1 ∧ (N : Int) ≤ n ∧ sk_fr t n N = n ∧ sk_rows t n C N ∧ C 31 N = 20 ∧ C 32 N = n
def sk_mr1 (p : Nat) (C I : sk_SI) (s : Int) : Prop := I 67 (200 + s) = C (p + 3) s ∧ I 68 (200 + s) = C (p + 4) s ∧ I 69 (200 + s) = C (p + 5) s ∧ I 70 (200 + s) = C (p + 6) s ∧ I 71 (200 + s) = C (p + 7) s ∧ I 72 (200 + s) = C (p + 8) s ∧ I 73 (200 + s) = C (p + 9) s
/-- the model stands where the class stands, its text and its tokens are the same -/
def sk_MT (t : Int → Int) (n : Int) (C I : sk_SI) : Prop := sk_tkn t n C ∧ (I 60 = t ∧ I 59 21 = n ∧ sk_tm I ∧ I 59 26 = 0 ∧ sk_in (I 59 25)) ∧ ∃ i : Nat, C 29 3 = i ∧ sk_mat t n I i
def sk_MP (p : Nat) (xs : Int) (C I : sk_SI) : Prop := (I 63 1 = C p 9 ∧ I 66 1 = C p 10 ∧ I 74 1 = C p 11) ∧ ∀ s, 0 ≤ s → s < C p 10 → sk_mr1 p C I s ∧ (s ≠ xs → (C (p + 3) s = 1 ∨ C (p + 3) s = 6) → I 76 s = C 32 (C 33 s))
def sk_MR (t : Int → Int) (n : Int) (p : Nat) (xs : Int) (C I : sk_SI) : Prop := sk_iv p C ∧ sk_MT t n C I ∧ sk_MP p xs C I
/-- what the model's reader leaves alone -/
def sk_mfr (I I' : sk_SI) : Prop := (∀ c, c ≠ 59 → c ≠ 66 → ¬ (67 ≤ c ∧ c ≤ 74) → c ≠ 76 → I' c = I c) ∧ (∀ c j, 67 ≤ c ∧ c ≤ 73 → j < 200 → I' c j = I c j) ∧ (∀ j, j ≠ 1 → I' 66 j = I 66 j ∧ I' 74 j = I 74 j) ∧ ∀ j, ¬ (22 ≤ j ∧ j ≤ 27) → I' 59 j = I 59 j
/-- where there is a fault -/
def sk_MF (C I : sk_SI) (e : Int × Int) (I' : sk_SI) : Prop := sk_mfr I I' ∧ I' 59 26 = e.1 ∧ I' 59 27 = C 32 e.2 ∧ sk_in (I' 59 24) ∧ (1 ≤ e.1 ∧ e.1 ≤ 5)
theorem sk_mfr_rf (I : sk_SI) : sk_mfr I I := ⟨fun _ _ _ _ _ => rfl, fun _ _ _ _ => rfl, fun _ _ => ⟨rfl, rfl⟩, fun _ _ => rfl⟩
theorem sk_mfr_tr {I I1 I2 : sk_SI} (h1 : sk_mfr I I1) (h2 : sk_mfr I1 I2) : sk_mfr I I2 :=
  ⟨fun c a b x y => (h2.1 c a b x y).trans (h1.1 c a b x y), fun c j a b => (h2.2.1 c j a b).trans (h1.2.1 c j a b), fun j a => ⟨(h2.2.2.1 j a).1.trans (h1.2.2.1 j a).1, (h2.2.2.1 j a).2.trans (h1.2.2.1 j a).2⟩, fun j a => (h2.2.2.2 j a).trans (h1.2.2.2 j a)⟩
theorem sk_mfr_nx {I I' : sk_SI} (h : sk_m22 I I') : sk_mfr I I' :=
  ⟨fun c a _ _ _ => h.2 c a, fun c j a _ => by rw [h.2 c (by omega)], fun j _ => ⟨by rw [h.2 66 (by decide)], by rw [h.2 74 (by decide)]⟩, fun j a => h.1 j (by omega) (by omega) (by omega) (by omega)⟩
/-- a store into a row's second half -/
theorem sk_mfr_row (I : sk_SI) (c : Nat) (j v : Int) (h : (67 ≤ c ∧ c ≤ 73 ∧ 200 ≤ j) ∨ ((c = 66 ∨ c = 74) ∧ j = 1) ∨ c = 76) : sk_mfr I (sk_uI I c j v) := by
  refine ⟨fun k a b x y => sk_uI_o (by omega), fun k i a b => ?_, fun i hi => ⟨?_, ?_⟩, fun i _ => by rw [sk_uI_o (by omega)]⟩
  · by_cases hk : k = c
    · subst hk; rw [sk_uI_s, sk_up_o (by omega)]
    · rw [sk_uI_o hk]
  · by_cases hk : 66 = c
    · subst hk; rw [sk_uI_s, sk_up_o (by omega)]
    · rw [sk_uI_o hk]
  · by_cases hk : 74 = c
    · subst hk; rw [sk_uI_s, sk_up_o (by omega)]
    · rw [sk_uI_o hk]
theorem sk_mfr_59 (I : sk_SI) (j v : Int) (h : 22 ≤ j ∧ j ≤ 27) : sk_mfr I (sk_uI I 59 j v) :=
  ⟨fun c a _ _ _ => sk_uI_o a, fun c i a _ => by rw [sk_uI_o (by omega)], fun i _ => ⟨by rw [sk_uI_o (by decide)], by rw [sk_uI_o (by decide)]⟩, fun i hi => by rw [sk_uI_s, sk_up_o (by omega)]⟩
theorem sk_MF_tr {C C1 I I1 I2 : sk_SI} {e : Int × Int} (h1 : sk_mfr I I1) (h2 : sk_MF C1 I1 e I2) (h3 : C1 32 = C 32) : sk_MF C I e I2 := by
  obtain ⟨a, b, c, x⟩ := h2
  rw [h3] at c
  exact ⟨sk_mfr_tr h1 a, b, c, x⟩
theorem sk_MF_row {C I I' : sk_SI} {e : Int × Int} (h : sk_MF C I e I') (c : Nat) (j v : Int) (hc : (67 ≤ c ∧ c ≤ 73 ∧ 200 ≤ j) ∨ ((c = 66 ∨ c = 74) ∧ j = 1) ∨ c = 76) : sk_MF C I e (sk_uI I' c j v) := by
  obtain ⟨a, b, x, y, z⟩ := h
  have o : sk_uI I' c j v 59 = I' 59 := sk_uI_o (by omega)
  exact ⟨sk_mfr_tr a (sk_mfr_row I' c j v hc), by rw [o]; exact b, by rw [o]; exact x, by rw [o]; exact y, z⟩
theorem sk_fp_32 {p : Nat} {I I' : sk_SI} (hp : sk_pg p) (hf : sk_fp p I I') : I' 32 = I 32 := hf.1 32 (by decide) (by decide) (by rcases hp with rfl | rfl <;> omega)
theorem sk_tkn_cg {t : Int → Int} {n : Int} {C C' : sk_SI} (h : sk_tkn t n C) (h30 : C' 30 = C 30) (h31 : C' 31 = C 31) (h32 : C' 32 = C 32) : sk_tkn t n C' := by
  obtain ⟨N, a1, a2, a3, a4, a5, a6⟩ := h
  exact ⟨N, by rw [h30]; exact a1, a2, a3, fun i hi => by rw [h31, h32]; exact a4 i hi, by rw [h31]; exact a5, by rw [h32]; exact a6⟩
theorem sk_tkn_fp {t : Int → Int} {n : Int} {p : Nat} {C C' : sk_SI} (hp : sk_pg p) (h : sk_tkn t n C) (hf : sk_fp p C C') : sk_tkn t n C' :=
  sk_tkn_cg h (sk_fp_30 hp hf) (hf.1 31 (by decide) (by decide) (by rcases hp with rfl | rfl <;> omega)) (sk_fp_32 hp hf)
/-- the token at which both stand -/
theorem sk_MT_tok {t : Int → Int} {n : Int} {p : Nat} {C I : sk_SI} (h : sk_iv p C) (hm : sk_MT t n C I) : I 59 24 = sk_c2m (sk_tok C (C 29 3)) ∧ (100 ≤ sk_tok C (C 29 3) → I 59 25 = sk_tok C (C 29 3) - 100) ∧ I 59 22 = C 32 (C 29 3) ∧ (0 ≤ I 59 23 ∧ I 59 23 ≤ I 59 21) ∧ (sk_tok C (C 29 3) ≤ 20 ∨ 100 ≤ sk_tok C (C 29 3)) ∧ (0 ≤ I 59 24 ∧ I 59 24 ≤ 25) := by
  obtain ⟨⟨N, a1, a2, a3, a4, a5, a6⟩, ⟨b1, b2, b3, b4, b5⟩, i, c1, c2, c3, c4, c5⟩ := hm
  have hi := h.2.1
  have n0 : 0 ≤ n := by have := b3.1; omega
  have hpos := sk_pos_b t n0 (i + 1)
  have hb := sk_fr_b t n0 i
  have hpi := sk_pos_b t n0 i
  have etok : sk_tok C (C 29 3) = C 31 i := by
    unfold sk_tok
    rw [if_pos ⟨by omega, hi⟩, c1]
  have c2b : ∀ x : Int, 0 ≤ sk_c2m x ∨ x < 0 := by
    intro x
    by_cases hx : x < 0
    · exact Or.inr hx
    · unfold sk_c2m
      by_cases h16 : x < 16
      · rw [if_pos h16]; exact Or.inl (sk_wp_b ⟨by omega, h16⟩).1
      · rw [if_neg h16]
        left
        split
        · omega
        · split
          · omega
          · split
            · omega
            · split
              · omega
              · split <;> omega
  have c2u : ∀ x : Int, 0 ≤ x → sk_c2m x ≤ 25 := by
    intro x hx
    unfold sk_c2m
    by_cases h16 : x < 16
    · rw [if_pos h16]; have := (sk_wp_b ⟨hx, h16⟩).2; omega
    · rw [if_neg h16]
      split
      · omega
      · split
        · omega
        · split
          · omega
          · split
            · omega
            · split <;> omega
  rw [etok]
  by_cases hN : i = N
  · subst hN
    rw [a5, c4, if_neg (by omega)]
    exact ⟨rfl, fun z => by omega, by rw [c1, a6, c2]; exact a3, ⟨by omega, by omega⟩, Or.inl (by omega), by omega, by omega⟩
  · obtain ⟨r1, r2, r3⟩ := a4 i (by omega)
    have hq : 0 ≤ sk_fr t n i ∧ sk_fr t n i < n := ⟨by omega, r1⟩
    have rel := sk_tk_rel t n (sk_fr t n i) 0 hq
    have gap := sk_tk_gap t n (sk_fr t n i) hq
    rw [r2, c4, if_pos r1, rel.1]
    refine ⟨rfl, fun z => c5 r1 z, by rw [c1, r3]; exact c2, ⟨by omega, by omega⟩, by omega, ?_, ?_⟩
    · rcases c2b (sk_tk t n (sk_fr t n i)) with z | z
      · exact z
      · omega
    · exact c2u _ rel.2.1
/-- both go one token on -/
theorem sk_MT_next {t : Int → Int} {n : Int} {p : Nat} {C I I' : sk_SI} (h : sk_iv p C) (hm : sk_MT t n C I) (hx : sk_nxs I I') : sk_MT t n (sk_uI C 29 3 (C 29 3 + 1)) I' := by
  obtain ⟨a, ⟨b1, b2, b3, b4, b5⟩, i, c1, c2, c3, c4⟩ := hm
  have n0 : 0 ≤ n := by have := b3.1; omega
  have h21 : I' 59 21 = I 59 21 := hx.1.1 21 (by decide) (by decide) (by decide) (by decide)
  have h60 : I' 60 = I 60 := hx.1.2 60 (by decide)
  have hmn := sk_mat_next (i := i + 1) n0 b1 b2 c3 hx
  refine ⟨sk_tkn_cg a (sk_uI_o (by decide)) (sk_uI_o (by decide)) (sk_uI_o (by decide)), ⟨by rw [h60]; exact b1, by rw [h21]; exact b2, ?_, ?_, ?_⟩, i + 1, by rw [sk_uI_s, sk_up_s, c1]; omega, hmn⟩
  · unfold sk_tm
    rw [h21, h60]
    exact b3
  · rw [hx.1.1 26 (by decide) (by decide) (by decide) (by decide)]
    exact b4
  · obtain ⟨-, f1, f2, f3⟩ := hx
    have hpos := sk_pos_b t n0 (i + 1)
    have hb := sk_end_b (sk_spb (I 60)) (n := I 59 21) (i := I 59 23) (by rw [c3, b2]; omega)
    by_cases hlt : I' 59 22 < I 59 21
    · rw [(f3 hlt).2.2]
      exact sk_mnu_in _ _ _ _ ⟨by rw [f1]; omega, hlt⟩ b5
    · rw [(f2 (by omega)).2.2]
      exact b5
/-- the program's rows of the model stand while its cells 22 .. 27 change -/
theorem sk_MP_cg {p : Nat} {xs : Int} {C C' I I' : sk_SI} (h : sk_MP p xs C I) (hI : ∀ c, c ≠ 59 → I' c = I c) (hC : ∀ c, c ≠ 29 → C' c = C c) (hp : sk_pg p) : sk_MP p xs C' I' := by
  have e : ∀ k, k ≤ 9 → C' (p + k) = C (p + k) := fun k hk => hC _ (by rcases hp with rfl | rfl <;> omega)
  have e0 : C' p = C p := e 0 (by omega)
  unfold sk_MP sk_mr1
  rw [e0, e 3 (by omega), e 4 (by omega), e 5 (by omega), e 6 (by omega), e 7 (by omega), e 8 (by omega), e 9 (by omega), hC 32 (by decide), hC 33 (by decide), hI 63 (by decide), hI 66 (by decide), hI 74 (by decide), hI 67 (by decide), hI 68 (by decide), hI 69 (by decide), hI 70 (by decide), hI 71 (by decide), hI 72 (by decide), hI 73 (by decide), hI 76 (by decide)]
  exact h
end
section
/-! ===== the model's must and numberTo against the class's; all of it where a fault was found ===== -/
theorem sk_c2m_big {x : Int} (h : 100 ≤ x) : sk_c2m x = 20 := by
  unfold sk_c2m
  rw [if_neg (by omega), if_neg (by omega), if_neg (by omega), if_neg (by omega), if_neg (by omega), if_neg (by omega)]
def sk_du (a b : Int) : Prop := ∀ x : Int, 0 ≤ x → (x ≤ 20 ∨ 100 ≤ x) → (sk_c2m x = b ↔ x = a)
theorem sk_du_mk {a b : Int} (ha : a < 100) (hb : b ≠ 20) (h : ∀ n, n < 21 → (sk_c2m ((n : Nat) : Int) = b ↔ ((n : Nat) : Int) = a)) : sk_du a b := by
  intro x x0 hx
  rcases hx with hx | hx
  · obtain ⟨n, rfl⟩ := Int.eq_ofNat_of_zero_le x0
    exact h n (by omega)
  · rw [sk_c2m_big hx]
    constructor
    · intro z; exact absurd z.symm hb
    · intro z; omega
theorem sk_du_16 : sk_du 16 21 := sk_du_mk (by decide) (by decide) (by decide)
theorem sk_du_17 : sk_du 17 22 := sk_du_mk (by decide) (by decide) (by decide)
theorem sk_du_18 : sk_du 18 23 := sk_du_mk (by decide) (by decide) (by decide)
theorem sk_du_15 : sk_du 15 13 := sk_du_mk (by decide) (by decide) (by decide)
theorem sk_du_13 : sk_du 13 14 := sk_du_mk (by decide) (by decide) (by decide)
theorem sk_du_14 : sk_du 14 15 := sk_du_mk (by decide) (by decide) (by decide)
theorem sk_du_20 : sk_du 20 24 := sk_du_mk (by decide) (by decide) (by decide)
theorem sk_c2m_n {x : Int} (x0 : 0 ≤ x) (hx : x ≤ 20 ∨ 100 ≤ x) : sk_c2m x = 20 ↔ 100 ≤ x := by
  rcases hx with hx | hx
  · have tb : ∀ n, n < 21 → sk_c2m ((n : Nat) : Int) ≠ 20 := by decide
    obtain ⟨n, rfl⟩ := Int.eq_ofNat_of_zero_le x0
    have := tb n (by omega)
    constructor
    · intro z; exact absurd z this
    · intro z; omega
  · exact ⟨fun _ => hx, fun _ => sk_c2m_big hx⟩
theorem sk_c2m_w {x : Int} (x0 : 0 ≤ x) (hx : x ≤ 20 ∨ 100 ≤ x) : (x ≤ 12 → sk_c2m x = x) ∧ (12 < x → 12 < sk_c2m x) := by
  rcases hx with hx | hx
  · have tb : ∀ n, n < 21 → ((n : Nat) : Int) ≤ 12 → sk_c2m ((n : Nat) : Int) = n := by decide
    have tc : ∀ n, n < 21 → 12 < ((n : Nat) : Int) → 12 < sk_c2m ((n : Nat) : Int) := by decide
    obtain ⟨n, rfl⟩ := Int.eq_ofNat_of_zero_le x0
    exact ⟨tb n (by omega), tc n (by omega)⟩
  · rw [sk_c2m_big hx]
    exact ⟨fun z => by omega, fun z => by omega⟩
theorem sk_MF_wr {t : Int → Int} {n : Int} {p : Nat} {C I : sk_SI} (h : sk_iv p C) (hm : sk_MT t n C I) (k : Int) (hk : 1 ≤ k ∧ k ≤ 5) : sk_MF C I (k, C 29 3) (sk_mwr I k) := by
  obtain ⟨a1, a2, a3, a4, a5, a6⟩ := sk_MT_tok h hm
  unfold sk_mwr
  rw [if_pos hm.2.1.2.2.2.1]
  refine ⟨sk_mfr_tr (sk_mfr_59 I 26 k (by omega)) (sk_mfr_59 _ 27 _ (by omega)), ?_, ?_, ?_, hk⟩
  · rw [sk_uI_s, sk_up_o (by decide), sk_uI_s, sk_up_s]
  · rw [sk_uI_s, sk_up_s]; exact a3
  · rw [sk_uI_s, sk_up_o (by decide), sk_uI_s, sk_up_o (by decide)]
    unfold sk_in; omega
section SKS1
variable {l : Launch} {E : sk_En} {d : Nat} {I C : sk_SI} {L : sk_SL} {cu sp io rp tp fp p : Nat} {t : Int → Int} {n xs : Int} {Q : Option sk_V → List sk_Sh → sk_St → Prop}
theorem c_M_mustF (hp : sk_pg p) (h : sk_MR t n p xs C I) {dc dm : Int} (hd : sk_du dc dm) (hdm : sk_in dm) (hdc : dc ≠ 20) (h1 : ∀ e, sk_tkI dc C = .inl e → ∀ I', sk_MF C I e I' → Q none sk_G (I', L, sk_J cu sp io rp tp fp)) (h2 : ∀ x, sk_tkI dc C = .inr x → ∀ I', sk_MR t n p xs x.2 I' → sk_mfr I I' → Q none sk_G (I', L, sk_J cu sp io rp tp fp)) : AW l E (d + 6) 0 0 mX10_must 0 [some (vr 59), some (vi dm)] [] sk_G (I, L, sk_J cu sp io rp tp fp) Q := by
  obtain ⟨hv, hm, hq⟩ := h
  obtain ⟨a1, a2, a3, a4, a5, a6⟩ := sk_MT_tok hv hm
  have hb := sk_tok_b hv.1 (C 29 3)
  have h26 := hm.2.1.2.2.2.1
  have hdd := hd _ hb.1 a5
  refine c_M_must dm hm.2.1.2.2.1 a4 (by rw [h26]; unfold sk_in; omega) hdm (by unfold sk_in; omega) (fun _ g I' hI => ?_) (fun g => ?_)
  · rw [a1] at g
    have g := hdd.mp g
    refine h2 (0, sk_uI C 29 3 (C 29 3 + 1)) (by unfold sk_tkI; rw [if_pos g]) I' ⟨(sk_gd_adv hp hv (by rw [g]; exact hdc)).1, sk_MT_next hv hm hI, ?_⟩ (sk_mfr_nx hI.1)
    exact sk_MP_cg hq hI.1.2 (fun c hc => sk_uI_o hc) hp
  · have g : sk_tok C (C 29 3) ≠ dc := fun z => g ⟨h26, by rw [a1]; exact hdd.mpr z⟩
    exact h1 (1, C 29 3) (by unfold sk_tkI; rw [if_neg g]) _ (sk_MF_wr hv hm 1 (by omega))
theorem c_M_numF (hp : sk_pg p) (h : sk_MR t n p xs C I) {most : Int} (hmo : 0 ≤ most ∧ most ≤ 999) (h1 : ∀ e, sk_nuI most C = .inl e → ∀ I', sk_MF C I e I' → Q (some (vi 0)) sk_G (I', L, sk_J cu sp io rp tp fp)) (h2 : ∀ x, sk_nuI most C = .inr x → ∀ I', sk_MR t n p xs x.2 I' → sk_mfr I I' → Q (some (vi x.1)) sk_G (I', L, sk_J cu sp io rp tp fp)) : AW l E (d + 6) 0 0 mX10_numberTo 0 [some (vr 59), some (vi most), none] [] sk_G (I, L, sk_J cu sp io rp tp fp) Q := by
  obtain ⟨hv, hm, hq⟩ := h
  obtain ⟨a1, a2, a3, a4, a5, a6⟩ := sk_MT_tok hv hm
  have hb := sk_tok_b hv.1 (C 29 3)
  have h26 := hm.2.1.2.2.2.1
  have hnn := sk_c2m_n hb.1 a5
  refine c_M_num most hm.2.1.2.2.1 a4 (by rw [h26]; unfold sk_in; omega) (by unfold sk_in; omega) (by unfold sk_in; omega) hm.2.1.2.2.2.2 (fun _ g g2 I' hI => ?_) (fun g => ?_)
  · rw [a1] at g
    have g := hnn.mp g
    have e25 := a2 g
    rw [e25]
    refine h2 (sk_tok C (C 29 3) - 100, sk_uI C 29 3 (C 29 3 + 1)) (by unfold sk_nuI; rw [if_neg (by omega), if_neg (by omega)]) I' ⟨(sk_gd_adv hp hv (by omega)).1, sk_MT_next hv hm hI, ?_⟩ (sk_mfr_nx hI.1)
    exact sk_MP_cg hq hI.1.2 (fun c hc => sk_uI_o hc) hp
  · by_cases hlt : sk_tok C (C 29 3) < 100
    · rw [if_neg (fun z => by rw [a1] at z; have := hnn.mp z; omega)]
      exact h1 (1, C 29 3) (by unfold sk_nuI; rw [if_pos hlt]) _ (sk_MF_wr hv hm 1 (by omega))
    · have e24 : I 59 24 = 20 := by rw [a1]; exact hnn.mpr (by omega)
      have e25 := a2 (by omega)
      have hgt : 100 + most < sk_tok C (C 29 3) := by
        apply Classical.byContradiction
        intro z
        exact g ⟨h26, e24, by omega⟩
      rw [if_pos e24]
      exact h1 (2, C 29 3) (by unfold sk_nuI; rw [if_neg hlt, if_pos hgt]) _ (sk_MF_wr hv hm 2 (by omega))
theorem sk_mwr_w (h : I 59 26 ≠ 0) (k : Int) : sk_mwr I k = I := by unfold sk_mwr; rw [if_neg h]
theorem c_M_must_w (h : sk_in (I 59 26)) (h0 : I 59 26 ≠ 0) (k : Int) (hq : Q none sk_G (I, L, sk_J cu sp io rp tp fp)) : AW l E (d + 1) 0 0 mX10_must 0 [some (vr 59), some (vi k)] [] sk_G (I, L, sk_J cu sp io rp tp fp) Q := by
  refine AW_run 80 rfl ?_
  refine AW_ifne rfl (fun g => ?_) (fun g => absurd g h0) h
  refine AW_run 80 rfl ?_
  refine AW_cV (M' := mX10_wrong) rfl kkX10_226 lcX10_wrong rfl rfl rfl rfl rfl rfl (Nat.le_refl _) ?_
  refine c_M_wrong 1 h ?_
  rw [sk_mwr_w h0]
  exact AW_vret rfl rfl hq
theorem c_M_num_w (h : sk_in (I 59 26)) (h0 : I 59 26 ≠ 0) (h24 : sk_in (I 59 24)) (k : Int) (hq : Q (some (vi 0)) sk_G (I, L, sk_J cu sp io rp tp fp)) : AW l E (d + 1) 0 0 mX10_numberTo 0 [some (vr 59), some (vi k), none] [] sk_G (I, L, sk_J cu sp io rp tp fp) Q := by
  refine AW_run 80 rfl ?_
  refine AW_ifne rfl (fun g => ?_) (fun g => absurd g h0) h
  refine AW_run 80 rfl ?_
  refine AW_icne rfl (fun g2 => ?_) (fun g2 => ?_) h24
  · refine AW_run 80 rfl ?_
    refine AW_cV (M' := mX10_wrong) rfl kkX10_226 lcX10_wrong rfl rfl rfl rfl rfl rfl (Nat.le_refl _) ?_
    refine c_M_wrong 1 h ?_
    rw [sk_mwr_w h0]
    refine AW_run 80 rfl ?_
    exact AW_iret rfl rfl hq
  · refine AW_run 80 rfl ?_
    refine AW_cV (M' := mX10_wrong) rfl kkX10_226 lcX10_wrong rfl rfl rfl rfl rfl rfl (Nat.le_refl _) ?_
    refine c_M_wrong 2 h ?_
    rw [sk_mwr_w h0]
    refine AW_run 80 rfl ?_
    exact AW_iret rfl rfl hq
theorem c_M_block_w (h : sk_in (I 59 26)) (h0 : I 59 26 ≠ 0) (k : Int) (hq : Q (some (vi (-1))) sk_G (I, L, sk_J cu sp io rp tp fp)) : AW l E (d + 2) 0 0 mX10_block 0 [some (vr 59), some (vi k), none, none, none] [] sk_G (I, L, sk_J cu sp io rp tp fp) Q := by
  refine AW_run 80 rfl ?_
  refine AW_ifne rfl (fun g => ?_) (fun g => absurd g h0) h
  refine AW_run 80 rfl ?_
  refine AW_cV (M' := mX10_must) rfl kkX10_228 lcX10_must rfl rfl rfl rfl rfl rfl (Nat.le_refl _) ?_
  refine c_M_must_w h h0 _ ?_
  refine AW_run 80 rfl ?_
  refine AW_ifne rfl (fun g => ?_) (fun g => absurd g h0) h
  refine AW_run 80 rfl ?_
  refine AW_iald rfl rfl ⟨by omega, by omega⟩ (by decide) ?_
  refine AW_run 80 rfl ?_
  refine AW_iast rfl rfl ⟨by omega, by omega⟩ (by decide) ?_
  rw [sk_uI_id rfl]
  refine AW_run 80 rfl ?_
  refine AW_ifne rfl (fun g => ?_) (fun g => absurd g h0) h
  refine AW_run 80 rfl ?_
  refine AW_cV (M' := mX10_must) rfl kkX10_228 lcX10_must rfl rfl rfl rfl rfl rfl (Nat.le_refl _) ?_
  refine c_M_must_w h h0 _ ?_
  refine AW_run 80 rfl ?_
  exact AW_iret rfl rfl hq
end SKS1
end
section
/-! ===== the model's step: its cells as it is added; its numbers ===== -/
theorem sk_up_200 {f : Int → Int} {s v j : Int} : sk_up f (200 + s) v (200 + j) = if j = s then v else f (200 + j) := by
  by_cases h : j = s
  · subst h; rw [if_pos rfl, sk_up_s]
  · rw [if_neg h, sk_up_o (by omega)]
/-- a store into the same row of both -/
theorem sk_MR_row {t : Int → Int} {n : Int} {p : Nat} {xs : Int} {C I : sk_SI} (hp : sk_pg p) (h : sk_MR t n p xs C I) (k : Nat) (hk : 5 ≤ k ∧ k ≤ 9) (s v : Int) : sk_MR t n p xs (sk_uI C (p + k) s v) (sk_uI I (64 + k) (200 + s) v) := by
  obtain ⟨hv, hm, hP⟩ := h
  have gd := sk_gd_row hp hv (p + k) s v (by omega)
  refine ⟨gd.1, ?_, ?_⟩
  · obtain ⟨a, ⟨b1, b2, b3, b4, b5⟩, i, c1, c2⟩ := hm
    have o59 : sk_uI I (64 + k) (200 + s) v 59 = I 59 := sk_uI_o (by omega)
    have o60 : sk_uI I (64 + k) (200 + s) v 60 = I 60 := sk_uI_o (by omega)
    refine ⟨sk_tkn_fp hp a gd.2.1, ?_, i, ?_, ?_⟩
    · unfold sk_tm
      rw [o59, o60]
      exact ⟨b1, b2, b3, b4, b5⟩
    · rw [sk_uI_o (by rcases hp with rfl | rfl <;> omega)]; exact c1
    · unfold sk_mat
      rw [o59]
      exact c2
  · obtain ⟨⟨a1, a2, a3⟩, a4⟩ := hP
    have op : sk_uI C (p + k) s v p = C p := sk_uI_o (by omega)
    have o32 : sk_uI C (p + k) s v 32 = C 32 := sk_uI_o (by rcases hp with rfl | rfl <;> omega)
    have o33 : sk_uI C (p + k) s v 33 = C 33 := sk_uI_o (by rcases hp with rfl | rfl <;> omega)
    have o3 : sk_uI C (p + k) s v (p + 3) = C (p + 3) := sk_uI_o (by omega)
    refine ⟨⟨by rw [op, sk_uI_o (by omega)]; exact a1, by rw [op, sk_uI_o (by omega)]; exact a2, by rw [op, sk_uI_o (by omega)]; exact a3⟩, fun j j0 j1 => ?_⟩
    rw [op] at j1
    obtain ⟨⟨r3, r4, r5, r6, r7, r8, r9⟩, c⟩ := a4 j j0 j1
    have one : ∀ m, 3 ≤ m → m ≤ 9 → I (64 + m) (200 + j) = C (p + m) j → sk_uI I (64 + k) (200 + s) v (64 + m) (200 + j) = sk_uI C (p + k) s v (p + m) j := by
      intro m m1 m2 hm
      by_cases e : m = k
      · subst e
        rw [sk_uI_s, sk_uI_s, sk_up_200, sk_up]
        by_cases js : j = s
        · rw [if_pos js, if_pos js]
        · rw [if_neg js, if_neg js]; exact hm
      · rw [sk_uI_o (by omega), sk_uI_o (by omega)]; exact hm
    refine ⟨⟨one 3 (by omega) (by omega) r3, one 4 (by omega) (by omega) r4, one 5 (by omega) (by omega) r5, one 6 (by omega) (by omega) r6, one 7 (by omega) (by omega) r7, one 8 (by omega) (by omega) r8, one 9 (by omega) (by omega) r9⟩, ?_⟩
    rw [o3, o32, o33, sk_uI_o (by omega)]
    exact c
/-- a step's cells as it is added, in the model -/
def sk_asM (w s ms : Int) (I : sk_SI) : sk_SI := sk_uI (sk_uI (sk_uI (sk_uI (sk_uI (sk_uI (sk_uI (sk_uI I 66 1 (s + 1)) 67 (200 + s) w) 68 (200 + s) ms) 69 (200 + s) (-1)) 70 (200 + s) (-1)) 71 (200 + s) (-1)) 72 (200 + s) (-1)) 73 (200 + s) (-1)
theorem sk_asM_o (w s ms : Int) (I : sk_SI) (c : Nat) (h : c < 66 ∨ 73 < c) : sk_asM w s ms I c = I c := by
  unfold sk_asM
  rw [sk_uI_o (by omega), sk_uI_o (by omega), sk_uI_o (by omega), sk_uI_o (by omega), sk_uI_o (by omega), sk_uI_o (by omega), sk_uI_o (by omega), sk_uI_o (by omega)]
theorem sk_asM_r (w s ms : Int) (I : sk_SI) : sk_asM w s ms I 66 = sk_up (I 66) 1 (s + 1) ∧ sk_asM w s ms I 67 = sk_up (I 67) (200 + s) w ∧ sk_asM w s ms I 68 = sk_up (I 68) (200 + s) ms ∧ sk_asM w s ms I 69 = sk_up (I 69) (200 + s) (-1) ∧ sk_asM w s ms I 70 = sk_up (I 70) (200 + s) (-1) ∧ sk_asM w s ms I 71 = sk_up (I 71) (200 + s) (-1) ∧ sk_asM w s ms I 72 = sk_up (I 72) (200 + s) (-1) ∧ sk_asM w s ms I 73 = sk_up (I 73) (200 + s) (-1) := by
  unfold sk_asM
  refine ⟨?_, ?_, ?_, ?_, ?_, ?_, ?_, ?_⟩ <;>
  · simp only [sk_uI_s, sk_uI_o, ne_eq, Nat.reduceEqDiff, not_false_eq_true]
theorem sk_asM_mfr (w s ms : Int) (I : sk_SI) (hs : 0 ≤ s) : sk_mfr I (sk_asM w s ms I) := by
  unfold sk_asM
  refine sk_mfr_tr (sk_mfr_row _ 66 1 _ (by omega)) (sk_mfr_tr (sk_mfr_row _ 67 _ _ (by omega)) (sk_mfr_tr (sk_mfr_row _ 68 _ _ (by omega)) (sk_mfr_tr (sk_mfr_row _ 69 _ _ (by omega)) (sk_mfr_tr (sk_mfr_row _ 70 _ _ (by omega)) (sk_mfr_tr (sk_mfr_row _ 71 _ _ (by omega)) (sk_mfr_tr (sk_mfr_row _ 72 _ _ (by omega)) (sk_mfr_row _ 73 _ _ (by omega))))))))
theorem sk_asI_r {p : Nat} (hp : sk_pg p) (w : Int) (C : sk_SI) : sk_asI p w C (p + 3) = sk_up (C (p + 3)) (C p 10) w ∧ sk_asI p w C (p + 4) = sk_up (C (p + 4)) (C p 10) (C p 9 - 1) ∧ sk_asI p w C (p + 5) = sk_up (C (p + 5)) (C p 10) (-1) ∧ sk_asI p w C (p + 6) = sk_up (C (p + 6)) (C p 10) (-1) ∧ sk_asI p w C (p + 7) = sk_up (C (p + 7)) (C p 10) (-1) ∧ sk_asI p w C (p + 8) = sk_up (C (p + 8)) (C p 10) (-1) ∧ sk_asI p w C (p + 9) = sk_up (C (p + 9)) (C p 10) (-1) ∧ (∀ j, j ≠ 10 → sk_asI p w C p j = C p j) ∧ sk_asI p w C p 10 = C p 10 + 1 ∧ ∀ c, c ≠ p → ¬ (p + 3 ≤ c ∧ c ≤ p + 9) → sk_asI p w C c = C c := by
  unfold sk_asI
  refine ⟨?_, ?_, ?_, ?_, ?_, ?_, ?_, fun j hj => ?_, ?_, fun c h1 h2 => ?_⟩
  · rw [sk_uI_o (by omega), sk_uI_o (by omega), sk_uI_o (by omega), sk_uI_o (by omega), sk_uI_o (by omega), sk_uI_o (by omega), sk_uI_o (by omega), sk_uI_s]
  · rw [sk_uI_o (by omega), sk_uI_o (by omega), sk_uI_o (by omega), sk_uI_o (by omega), sk_uI_o (by omega), sk_uI_o (by omega), sk_uI_s, sk_uI_o (by omega)]
  · rw [sk_uI_o (by omega), sk_uI_o (by omega), sk_uI_o (by omega), sk_uI_o (by omega), sk_uI_o (by omega), sk_uI_s, sk_uI_o (by omega), sk_uI_o (by omega)]
  · rw [sk_uI_o (by omega), sk_uI_o (by omega), sk_uI_o (by omega), sk_uI_o (by omega), sk_uI_s, sk_uI_o (by omega), sk_uI_o (by omega), sk_uI_o (by omega)]
  · rw [sk_uI_o (by omega), sk_uI_o (by omega), sk_uI_o (by omega), sk_uI_s, sk_uI_o (by omega), sk_uI_o (by omega), sk_uI_o (by omega), sk_uI_o (by omega)]
  · rw [sk_uI_o (by omega), sk_uI_o (by omega), sk_uI_s, sk_uI_o (by omega), sk_uI_o (by omega), sk_uI_o (by omega), sk_uI_o (by omega), sk_uI_o (by omega)]
  · rw [sk_uI_o (by omega), sk_uI_s, sk_uI_o (by omega), sk_uI_o (by omega), sk_uI_o (by omega), sk_uI_o (by omega), sk_uI_o (by omega), sk_uI_o (by omega)]
  · rw [sk_uI_s, sk_up_o hj, sk_uI_o (by omega), sk_uI_o (by omega), sk_uI_o (by omega), sk_uI_o (by omega), sk_uI_o (by omega), sk_uI_o (by omega), sk_uI_o (by omega)]
  · rw [sk_uI_s, sk_up_s]
  · rw [sk_uI_o (by omega), sk_uI_o (by omega), sk_uI_o (by omega), sk_uI_o (by omega), sk_uI_o (by omega), sk_uI_o (by omega), sk_uI_o (by omega), sk_uI_o (by omega)]
theorem sk_MR_as {t : Int → Int} {n : Int} {p : Nat} {C I : sk_SI} (hp : sk_pg p) (h : sk_MR t n p (-1) C I) (hs : C p 10 < 200) (w : Int) : sk_MR t n p (C p 10) (sk_asI p w C) (sk_asM w (C p 10) (C p 9 - 1) I) := by
  obtain ⟨hv, hm, hP⟩ := h
  have gd := (sk_gd_as hp hv hs w).1
  obtain ⟨q3, q4, q5, q6, q7, q8, q9, qp, q10, qo⟩ := sk_asI_r hp w C
  obtain ⟨m66, m67, m68, m69, m70, m71, m72, m73⟩ := sk_asM_r w (C p 10) (C p 9 - 1) I
  have mo := sk_asM_o w (C p 10) (C p 9 - 1) I
  have h10 := hv.2.2.2.1
  refine ⟨gd.1, ?_, ?_⟩
  · obtain ⟨a, ⟨b1, b2, b3, b4, b5⟩, i, c1, c2⟩ := hm
    have o59 := mo 59 (by omega)
    have o60 := mo 60 (by omega)
    refine ⟨sk_tkn_fp hp a gd.2.1, ?_, i, ?_, ?_⟩
    · unfold sk_tm
      rw [o59, o60]
      exact ⟨b1, b2, b3, b4, b5⟩
    · rw [qo 29 (by rcases hp with rfl | rfl <;> omega) (by rcases hp with rfl | rfl <;> omega)]; exact c1
    · unfold sk_mat
      rw [o59]
      exact c2
  · obtain ⟨⟨a1, a2, a3⟩, a4⟩ := hP
    refine ⟨⟨by rw [qp 9 (by decide), mo 63 (by omega)]; exact a1, by rw [q10, m66, sk_up_s], by rw [qp 11 (by decide), mo 74 (by omega)]; exact a3⟩, fun j j0 j1 => ?_⟩
    rw [q10] at j1
    have o32 := qo 32 (by rcases hp with rfl | rfl <;> omega) (by rcases hp with rfl | rfl <;> omega)
    have o33 := qo 33 (by rcases hp with rfl | rfl <;> omega) (by rcases hp with rfl | rfl <;> omega)
    unfold sk_mr1
    rw [q3, q4, q5, q6, q7, q8, q9, m67, m68, m69, m70, m71, m72, m73, sk_up_200, sk_up_200, sk_up_200, sk_up_200, sk_up_200, sk_up_200, sk_up_200, o32, o33, mo 76 (by omega)]
    simp only [sk_up]
    by_cases e : j = C p 10
    · exact ⟨⟨by rw [if_pos e, if_pos e], by rw [if_pos e, if_pos e], by rw [if_pos e, if_pos e], by rw [if_pos e, if_pos e], by rw [if_pos e, if_pos e], by rw [if_pos e, if_pos e], by rw [if_pos e, if_pos e]⟩, fun z => absurd e z⟩
    · simp only [if_neg e]
      obtain ⟨r, c⟩ := a4 j j0 (by omega)
      exact ⟨r, fun _ => c (by omega)⟩
/-- the token of the step's first number -/
theorem sk_MR_33 {t : Int → Int} {n : Int} {p : Nat} {C I : sk_SI} {s : Int} (hp : sk_pg p) (h : sk_MR t n p s C I) (hw : ¬ (C (p + 3) s = 1 ∨ C (p + 3) s = 6)) (v : Int) : sk_MR t n p (-1) (sk_uI C 33 s v) I := by
  obtain ⟨hv, hm, hP⟩ := h
  have gd := sk_gd_row hp hv 33 s v (Or.inl rfl)
  have q : ∀ k, k ≤ 9 → sk_uI C 33 s v (p + k) = C (p + k) := fun k hk => sk_uI_o (by rcases hp with rfl | rfl <;> omega)
  have q0 : sk_uI C 33 s v p = C p := q 0 (by omega)
  refine ⟨gd.1, ?_, ?_⟩
  · obtain ⟨a, b, i, c1, c2⟩ := hm
    exact ⟨sk_tkn_fp hp a gd.2.1, b, i, by rw [sk_uI_o (by decide)]; exact c1, c2⟩
  · obtain ⟨a, a4⟩ := hP
    unfold sk_MP sk_mr1
    rw [q0, q 3 (by omega), q 4 (by omega), q 5 (by omega), q 6 (by omega), q 7 (by omega), q 8 (by omega), q 9 (by omega), sk_uI_o (show 32 ≠ 33 by decide), sk_uI_s]
    refine ⟨a, fun j j0 j1 => ?_⟩
    obtain ⟨r, c⟩ := a4 j j0 j1
    refine ⟨r, fun _ hw2 => ?_⟩
    by_cases e : j = s
    · subst e; exact absurd hw2 hw
    · rw [sk_up_o e]; exact c e hw2
theorem sk_MR_33c {t : Int → Int} {n : Int} {p : Nat} {C I : sk_SI} {s : Int} (hp : sk_pg p) (h : sk_MR t n p s C I) (v : Int) (hv2 : v = C 29 3) : sk_MR t n p (-1) (sk_uI C 33 s v) (sk_uI I 76 s (I 59 22)) := by
  obtain ⟨hv, hm, hP⟩ := h
  have a3 := (sk_MT_tok hv hm).2.2.1
  have gd := sk_gd_row hp hv 33 s v (Or.inl rfl)
  have q : ∀ k, k ≤ 9 → sk_uI C 33 s v (p + k) = C (p + k) := fun k hk => sk_uI_o (by rcases hp with rfl | rfl <;> omega)
  have q0 : sk_uI C 33 s v p = C p := q 0 (by omega)
  have o : ∀ c, c ≠ 76 → sk_uI I 76 s (I 59 22) c = I c := fun c hc => sk_uI_o hc
  refine ⟨gd.1, ?_, ?_⟩
  · obtain ⟨a, ⟨b1, b2, b3, b4, b5⟩, i, c1, c2⟩ := hm
    refine ⟨sk_tkn_fp hp a gd.2.1, ?_, i, by rw [sk_uI_o (by decide)]; exact c1, ?_⟩
    · unfold sk_tm
      rw [o 59 (by decide), o 60 (by decide)]
      exact ⟨b1, b2, b3, b4, b5⟩
    · unfold sk_mat
      rw [o 59 (by decide)]
      exact c2
  · obtain ⟨a, a4⟩ := hP
    unfold sk_MP sk_mr1
    rw [q0, q 3 (by omega), q 4 (by omega), q 5 (by omega), q 6 (by omega), q 7 (by omega), q 8 (by omega), q 9 (by omega), sk_uI_o (show 32 ≠ 33 by decide), sk_uI_s, o 63 (by decide), o 66 (by decide), o 74 (by decide), o 67 (by decide), o 68 (by decide), o 69 (by decide), o 70 (by decide), o 71 (by decide), o 72 (by decide), o 73 (by decide), sk_uI_s]
    refine ⟨a, fun j j0 j1 => ?_⟩
    obtain ⟨r, c⟩ := a4 j j0 j1
    refine ⟨r, fun _ hw2 => ?_⟩
    by_cases e : j = s
    · subst e; rw [sk_up_s, sk_up_s, hv2]; exact a3
    · rw [sk_up_o e, sk_up_o e]; exact c e hw2
end
section
/-! ===== the model's step: its numbers ===== -/
theorem sk_rn_no {p : Nat} {s w : Int} {C : sk_SI} (h1 : sk_mf w = -1) (h2 : sk_ms w = -1) : sk_rnI p s w C = .inr (0, sk_uI C 33 s (C 29 3)) := by
  unfold sk_rnI sk_n1I
  rw [h1, h2, if_pos rfl]
  dsimp only
  rw [if_pos rfl]
theorem sk_rn_one {p : Nat} {s w : Int} {C : sk_SI} {m : Int} (h1 : sk_mf w = m) (hm : m ≠ -1) (h2 : sk_ms w = -1) : sk_rnI p s w C = match sk_nuI m (sk_uI C 33 s (C 29 3)) with
    | .inl e => .inl e
    | .inr x => .inr (0, sk_uI x.2 (p + 5) s x.1) := by
  unfold sk_rnI sk_n1I
  rw [h1, h2, if_neg hm]
  cases sk_nuI m (sk_uI C 33 s (C 29 3)) with
  | inl e => rfl
  | inr x =>
    dsimp only
    rw [if_pos rfl]
theorem sk_rn_two {p : Nat} {s w : Int} {C : sk_SI} {m m2 : Int} (h1 : sk_mf w = m) (hm : m ≠ -1) (h2 : sk_ms w = m2) (hm2 : m2 ≠ -1) : sk_rnI p s w C = match sk_nuI m (sk_uI C 33 s (C 29 3)) with
    | .inl e => .inl e
    | .inr x => match sk_nuI m2 (sk_uI x.2 (p + 5) s x.1) with
      | .inl e => .inl e
      | .inr y => .inr (0, sk_uI y.2 (p + 6) s y.1) := by
  unfold sk_rnI sk_n1I
  rw [h1, h2, if_neg hm]
  cases sk_nuI m (sk_uI C 33 s (C 29 3)) with
  | inl e => rfl
  | inr x =>
    dsimp only
    rw [if_neg hm2]
    cases sk_nuI m2 (sk_uI x.2 (p + 5) s x.1) <;> rfl
section SKS2
variable {l : Launch} {E : sk_En} {d : Nat} {I C : sk_SI} {L : sk_SL} {cu sp io rp tp fp p : Nat} {t : Int → Int} {n : Int} {Q : Option sk_V → List sk_Sh → sk_St → Prop}
theorem c_M_nums (hp : sk_pg p) (s w a : Int) (h : sk_MR t n p s C I) (hs : 0 ≤ s ∧ s < C p 10) (hw : C (p + 3) s = w) (h12 : 0 ≤ w ∧ w ≤ 12)
    (hF : ∀ e, sk_rnI p s w C = .inl e → ∀ I', sk_MF C I e I' → AW l E (d + 7) 0 0 mX10_step 300 [some (vr 59), some (vi a), some (vi s), some (vi (200 + s)), some (vi w)] [vi 2, vi w] sk_G (I', L, sk_J cu sp io rp tp fp) Q)
    (hT : ∀ x, sk_rnI p s w C = .inr x → ∀ I', sk_MR t n p (-1) x.2 I' → sk_mfr I I' → AW l E (d + 7) 0 0 mX10_step 300 [some (vr 59), some (vi a), some (vi s), some (vi (200 + s)), some (vi w)] [vi 2, vi w] sk_G (I', L, sk_J cu sp io rp tp fp) Q) :
    AW l E (d + 7) 0 0 mX10_step 125 [some (vr 59), some (vi a), some (vi s), some (vi (200 + s)), some (vi w)] [] sk_G (I, L, sk_J cu sp io rp tp fp) Q := by
  have h200 := h.1.2.2.2.1
  have c32 : sk_uI C 33 s (C 29 3) 32 = C 32 := sk_uI_o (by decide)
  have hb : sk_in (200 + s) := by unfold sk_in; omega
  have hb2 : sk_in s := by unfold sk_in; omega
  have SA : (w = 0 ∨ w = 2 ∨ w = 10) → AW l E (d + 7) 0 0 mX10_step 151 [some (vr 59), some (vi a), some (vi s), some (vi (200 + s)), some (vi w)] [vi 7, vr 59, vi (200 + s), vr 69] sk_G (I, L, sk_J cu sp io rp tp fp) Q := by
    intro hyp
    have R := sk_rn_two (p := p) (s := s) (w := w) (C := C) (m := 7) (m2 := 9) (by rcases hyp with rfl | rfl | rfl <;> rfl) (by decide) (by rcases hyp with rfl | rfl | rfl <;> rfl) (by decide)
    have M := sk_MR_33 hp h (by rw [hw]; omega) (C 29 3)
    rw [R] at hF hT
    refine AW_cV (M' := mX10_numberTo) rfl kkX10_235 lcX10_numberTo rfl rfl rfl rfl rfl rfl (Nat.le_refl _) ?_
    refine c_M_numF hp M (by omega) (fun e he I' hI => ?_) (fun x hx I' hI hfr => ?_)
    · rw [he] at hF
      have hI2 := sk_MF_row (sk_MF_tr (sk_mfr_rf I) hI c32) 69 (200 + s) 0 (by omega)
      refine AW_run 80 rfl ?_
      refine AW_iast rfl rfl ⟨by omega, by omega⟩ (by decide) ?_
      refine AW_run 80 rfl ?_
      refine AW_cV (M' := mX10_numberTo) rfl kkX10_235 lcX10_numberTo rfl rfl rfl rfl rfl rfl (Nat.le_refl _) ?_
      refine c_M_num_w (by rw [hI2.2.1]; unfold sk_in; have := hI2.2.2.2.2; omega) (by rw [hI2.2.1]; have := hI2.2.2.2.2; omega) hI2.2.2.2.1 _ ?_
      refine AW_run 80 rfl ?_
      refine AW_iast rfl rfl ⟨by omega, by omega⟩ (by decide) ?_
      refine AW_run 80 rfl ?_
      exact hF e rfl _ (sk_MF_row hI2 70 _ _ (by omega))
    · rw [hx] at hF hT
      dsimp only at hF hT
      have hI2 := sk_MR_row hp hI 5 (by omega) s x.1
      have fr2 := sk_mfr_tr hfr (sk_mfr_row I' 69 (200 + s) x.1 (by omega))
      have q32 : sk_uI x.2 (p + 5) s x.1 32 = C 32 := by
        rw [sk_uI_o (by rcases hp with rfl | rfl <;> omega), (sk_nuI_r hx).1, sk_uI_o (by decide), c32]
      refine AW_run 80 rfl ?_
      refine AW_iast rfl rfl ⟨by omega, by omega⟩ (by decide) ?_
      refine AW_run 80 rfl ?_
      refine AW_cV (M' := mX10_numberTo) rfl kkX10_235 lcX10_numberTo rfl rfl rfl rfl rfl rfl (Nat.le_refl _) ?_
      refine c_M_numF hp hI2 (by omega) (fun e he I2 hJ => ?_) (fun y hy I2 hJ hfr2 => ?_)
      · rw [he] at hF
        refine AW_run 80 rfl ?_
        refine AW_iast rfl rfl ⟨by omega, by omega⟩ (by decide) ?_
        refine AW_run 80 rfl ?_
        exact hF e rfl _ (sk_MF_row (sk_MF_tr fr2 hJ q32) 70 _ _ (by omega))
      · rw [hy] at hT
        refine AW_run 80 rfl ?_
        refine AW_iast rfl rfl ⟨by omega, by omega⟩ (by decide) ?_
        refine AW_run 80 rfl ?_
        exact hT _ rfl _ (sk_MR_row hp hJ 6 (by omega) s y.1) (sk_mfr_tr fr2 (sk_mfr_tr hfr2 (sk_mfr_row _ 70 _ _ (by omega))))
  have SB0 : (w = 1 ∨ w = 6) → AW l E (d + 7) 0 0 mX10_step 201 [some (vr 59), some (vi a), some (vi s), some (vi (200 + s)), some (vi w)] [vi 99, vr 59, vi (200 + s), vr 69] sk_G (sk_uI I 76 s (I 59 22), L, sk_J cu sp io rp tp fp) Q := by
    intro hyp
    have R := sk_rn_one (p := p) (s := s) (w := w) (C := C) (m := 99) (by rcases hyp with rfl | rfl <;> rfl) (by decide) (by rcases hyp with rfl | rfl <;> rfl)
    have M := sk_MR_33c hp h (C 29 3) rfl
    have fr0 : sk_mfr I (sk_uI I 76 s (I 59 22)) := sk_mfr_row I 76 s _ (by omega)
    rw [R] at hF hT
    refine AW_cV (M' := mX10_numberTo) rfl kkX10_235 lcX10_numberTo rfl rfl rfl rfl rfl rfl (Nat.le_refl _) ?_
    refine c_M_numF hp M (by omega) (fun e he I' hI => ?_) (fun x hx I' hI hfr => ?_)
    · rw [he] at hF
      refine AW_run 80 rfl ?_
      refine AW_iast rfl rfl ⟨by omega, by omega⟩ (by decide) ?_
      refine AW_run 80 rfl ?_
      exact hF e rfl _ (sk_MF_row (sk_MF_tr fr0 hI c32) 69 _ _ (by omega))
    · rw [hx] at hT
      refine AW_run 80 rfl ?_
      refine AW_iast rfl rfl ⟨by omega, by omega⟩ (by decide) ?_
      refine AW_run 80 rfl ?_
      exact hT _ rfl _ (sk_MR_row hp hI 5 (by omega) s x.1) (sk_mfr_tr fr0 (sk_mfr_tr hfr (sk_mfr_row _ 69 _ _ (by omega))))
  have SB : (w = 1 ∨ w = 6) → AW l E (d + 7) 0 0 mX10_step 192 [some (vr 59), some (vi a), some (vi s), some (vi (200 + s)), some (vi w)] [vi (I 59 22), vi s, vr 76] sk_G (I, L, sk_J cu sp io rp tp fp) Q := by
    intro hyp
    have SB0 := SB0 hyp
    refine AW_iast rfl rfl ⟨by omega, by omega⟩ (by decide) ?_
    refine AW_run 80 rfl ?_
    exact SB0
  have S3 : (w = 3 ∨ w = 3) → AW l E (d + 7) 0 0 mX10_step 222 [some (vr 59), some (vi a), some (vi s), some (vi (200 + s)), some (vi w)] [vi 7, vr 59, vi (200 + s), vr 69] sk_G (I, L, sk_J cu sp io rp tp fp) Q := by
    intro hyp
    have R := sk_rn_one (p := p) (s := s) (w := w) (C := C) (m := 7) (by rcases hyp with rfl | rfl <;> rfl) (by decide) (by rcases hyp with rfl | rfl <;> rfl)
    have M := sk_MR_33 hp h (by rw [hw]; omega) (C 29 3)
    have fr0 : sk_mfr I (I) := sk_mfr_rf I
    rw [R] at hF hT
    refine AW_cV (M' := mX10_numberTo) rfl kkX10_235 lcX10_numberTo rfl rfl rfl rfl rfl rfl (Nat.le_refl _) ?_
    refine c_M_numF hp M (by omega) (fun e he I' hI => ?_) (fun x hx I' hI hfr => ?_)
    · rw [he] at hF
      refine AW_run 80 rfl ?_
      refine AW_iast rfl rfl ⟨by omega, by omega⟩ (by decide) ?_
      refine AW_run 80 rfl ?_
      exact hF e rfl _ (sk_MF_row (sk_MF_tr fr0 hI c32) 69 _ _ (by omega))
    · rw [hx] at hT
      refine AW_run 80 rfl ?_
      refine AW_iast rfl rfl ⟨by omega, by omega⟩ (by decide) ?_
      refine AW_run 80 rfl ?_
      exact hT _ rfl _ (sk_MR_row hp hI 5 (by omega) s x.1) (sk_mfr_tr fr0 (sk_mfr_tr hfr (sk_mfr_row _ 69 _ _ (by omega))))
  have S4 : (w = 4 ∨ w = 5) → AW l E (d + 7) 0 0 mX10_step 248 [some (vr 59), some (vi a), some (vi s), some (vi (200 + s)), some (vi w)] [vi 3, vr 59, vi (200 + s), vr 69] sk_G (I, L, sk_J cu sp io rp tp fp) Q := by
    intro hyp
    have R := sk_rn_one (p := p) (s := s) (w := w) (C := C) (m := 3) (by rcases hyp with rfl | rfl <;> rfl) (by decide) (by rcases hyp with rfl | rfl <;> rfl)
    have M := sk_MR_33 hp h (by rw [hw]; omega) (C 29 3)
    have fr0 : sk_mfr I (I) := sk_mfr_rf I
    rw [R] at hF hT
    refine AW_cV (M' := mX10_numberTo) rfl kkX10_235 lcX10_numberTo rfl rfl rfl rfl rfl rfl (Nat.le_refl _) ?_
    refine c_M_numF hp M (by omega) (fun e he I' hI => ?_) (fun x hx I' hI hfr => ?_)
    · rw [he] at hF
      refine AW_run 80 rfl ?_
      refine AW_iast rfl rfl ⟨by omega, by omega⟩ (by decide) ?_
      refine AW_run 80 rfl ?_
      exact hF e rfl _ (sk_MF_row (sk_MF_tr fr0 hI c32) 69 _ _ (by omega))
    · rw [hx] at hT
      refine AW_run 80 rfl ?_
      refine AW_iast rfl rfl ⟨by omega, by omega⟩ (by decide) ?_
      refine AW_run 80 rfl ?_
      exact hT _ rfl _ (sk_MR_row hp hI 5 (by omega) s x.1) (sk_mfr_tr fr0 (sk_mfr_tr hfr (sk_mfr_row _ 69 _ _ (by omega))))
  have S8 : (w = 8 ∨ w = 8) → AW l E (d + 7) 0 0 mX10_step 270 [some (vr 59), some (vi a), some (vi s), some (vi (200 + s)), some (vi w)] [vi 99, vr 59, vi (200 + s), vr 69] sk_G (I, L, sk_J cu sp io rp tp fp) Q := by
    intro hyp
    have R := sk_rn_one (p := p) (s := s) (w := w) (C := C) (m := 99) (by rcases hyp with rfl | rfl <;> rfl) (by decide) (by rcases hyp with rfl | rfl <;> rfl)
    have M := sk_MR_33 hp h (by rw [hw]; omega) (C 29 3)
    have fr0 : sk_mfr I (I) := sk_mfr_rf I
    rw [R] at hF hT
    refine AW_cV (M' := mX10_numberTo) rfl kkX10_235 lcX10_numberTo rfl rfl rfl rfl rfl rfl (Nat.le_refl _) ?_
    refine c_M_numF hp M (by omega) (fun e he I' hI => ?_) (fun x hx I' hI hfr => ?_)
    · rw [he] at hF
      refine AW_run 80 rfl ?_
      refine AW_iast rfl rfl ⟨by omega, by omega⟩ (by decide) ?_
      refine AW_run 80 rfl ?_
      exact hF e rfl _ (sk_MF_row (sk_MF_tr fr0 hI c32) 69 _ _ (by omega))
    · rw [hx] at hT
      refine AW_run 80 rfl ?_
      refine AW_iast rfl rfl ⟨by omega, by omega⟩ (by decide) ?_
      refine AW_run 80 rfl ?_
      exact hT _ rfl _ (sk_MR_row hp hI 5 (by omega) s x.1) (sk_mfr_tr fr0 (sk_mfr_tr hfr (sk_mfr_row _ 69 _ _ (by omega))))
  have S9 : (w = 9 ∨ w = 9) → AW l E (d + 7) 0 0 mX10_step 293 [some (vr 59), some (vi a), some (vi s), some (vi (200 + s)), some (vi w)] [vi 999, vr 59, vi (200 + s), vr 69] sk_G (I, L, sk_J cu sp io rp tp fp) Q := by
    intro hyp
    have R := sk_rn_one (p := p) (s := s) (w := w) (C := C) (m := 999) (by rcases hyp with rfl | rfl <;> rfl) (by decide) (by rcases hyp with rfl | rfl <;> rfl)
    have M := sk_MR_33 hp h (by rw [hw]; omega) (C 29 3)
    have fr0 : sk_mfr I (I) := sk_mfr_rf I
    rw [R] at hF hT
    refine AW_cV (M' := mX10_numberTo) rfl kkX10_235 lcX10_numberTo rfl rfl rfl rfl rfl rfl (Nat.le_refl _) ?_
    refine c_M_numF hp M (by omega) (fun e he I' hI => ?_) (fun x hx I' hI hfr => ?_)
    · rw [he] at hF
      refine AW_run 80 rfl ?_
      refine AW_iast rfl rfl ⟨by omega, by omega⟩ (by decide) ?_
      refine AW_run 80 rfl ?_
      exact hF e rfl _ (sk_MF_row (sk_MF_tr fr0 hI c32) 69 _ _ (by omega))
    · rw [hx] at hT
      refine AW_run 80 rfl ?_
      refine AW_iast rfl rfl ⟨by omega, by omega⟩ (by decide) ?_
      refine AW_run 80 rfl ?_
      exact hT _ rfl _ (sk_MR_row hp hI 5 (by omega) s x.1) (sk_mfr_tr fr0 (sk_mfr_tr hfr (sk_mfr_row _ 69 _ _ (by omega))))
  have wi : sk_in w := by unfold sk_in; omega
  refine AW_run 80 rfl ?_
  refine AW_ifeq rfl (fun g0 => ?_) (fun g0 => ?_) wi
  · refine AW_run 80 rfl ?_
    exact SA (by omega)
  · refine AW_run 80 rfl ?_
    refine AW_iceq rfl (fun g2 => ?_) (fun g2 => ?_) wi
    · refine AW_run 80 rfl ?_
      exact SA (by omega)
    · refine AW_run 80 rfl ?_
      refine AW_icne rfl (fun g10 => ?_) (fun g10 => ?_) wi
      · refine AW_run 80 rfl ?_
        refine AW_iceq rfl (fun g1 => ?_) (fun g1 => ?_) wi
        · refine AW_run 80 rfl ?_
          exact SB (by omega)
        · refine AW_run 80 rfl ?_
          refine AW_icne rfl (fun g6 => ?_) (fun g6 => ?_) wi
          · refine AW_run 80 rfl ?_
            refine AW_icne rfl (fun g3 => ?_) (fun g3 => ?_) wi
            · refine AW_run 80 rfl ?_
              refine AW_iceq rfl (fun g4 => ?_) (fun g4 => ?_) wi
              · refine AW_run 80 rfl ?_
                exact S4 (by omega)
              · refine AW_run 80 rfl ?_
                refine AW_icne rfl (fun g5 => ?_) (fun g5 => ?_) wi
                · refine AW_run 80 rfl ?_
                  refine AW_icne rfl (fun g8 => ?_) (fun g8 => ?_) wi
                  · refine AW_run 80 rfl ?_
                    refine AW_icne rfl (fun g9 => ?_) (fun g9 => ?_) wi
                    · have hyp : w = 7 ∨ w = 11 ∨ w = 12 := by omega
                      have hT := hT _ (sk_rn_no (by rcases hyp with rfl | rfl | rfl <;> rfl) (by rcases hyp with rfl | rfl | rfl <;> rfl)) I (sk_MR_33 hp h (by rw [hw]; omega) (C 29 3)) (sk_mfr_rf I)
                      refine AW_run 80 rfl ?_
                      exact hT
                    · refine AW_run 80 rfl ?_
                      exact S9 (by omega)
                  · refine AW_run 80 rfl ?_
                    exact S8 (by omega)
                · refine AW_run 80 rfl ?_
                  exact S4 (by omega)
            · refine AW_run 80 rfl ?_
              exact S3 (by omega)
          · refine AW_run 80 rfl ?_
            exact SB (by omega)
      · refine AW_run 80 rfl ?_
        exact SA (by omega)
end SKS2
end
section
/-! ===== the model's step: its blocks ===== -/
theorem sk_bs_iff {w : Int} (h : 0 ≤ w ∧ w ≤ 12) : (sk_bs w = 0 ↔ (w = 0 ∨ w = 1 ∨ w = 4 ∨ w = 6 ∨ w = 9 ∨ w = 12)) ∧ (sk_bs w = 2 ↔ (w = 7 ∨ w = 10 ∨ w = 11)) ∧ (sk_bs w = 1 ↔ (w = 2 ∨ w = 3 ∨ w = 5 ∨ w = 8)) := by
  rcases (show w = 0 ∨ w = 1 ∨ w = 2 ∨ w = 3 ∨ w = 4 ∨ w = 5 ∨ w = 6 ∨ w = 7 ∨ w = 8 ∨ w = 9 ∨ w = 10 ∨ w = 11 ∨ w = 12 by omega) with rfl | rfl | rfl | rfl | rfl | rfl | rfl | rfl | rfl | rfl | rfl | rfl | rfl <;> decide
section SKS3
variable {l : Launch} {E : sk_En} {d : Nat} {I C : sk_SI} {L : sk_SL} {cu sp io rp tp fp p : Nat} {t : Int → Int} {n : Int} {Q : Option sk_V → List sk_Sh → sk_St → Prop}
/-- has the step blocks? -/
theorem c_M_disp (s w a : Int) (h12 : 0 ≤ w ∧ w ≤ 12) (hY : sk_bs w ≠ 0 → AW l E d 0 0 mX10_step 352 [some (vr 59), some (vi a), some (vi s), some (vi (200 + s)), some (vi w)] [vi (a + 1), vr 59, vi (200 + s), vr 72] sk_G (I, L, sk_J cu sp io rp tp fp) Q) (hN : sk_bs w = 0 → AW l E d 0 0 mX10_step 414 [some (vr 59), some (vi a), some (vi s), some (vi (200 + s)), some (vi w)] [vi 23, vr 59] sk_G (I, L, sk_J cu sp io rp tp fp) Q) : AW l E d 0 0 mX10_step 300 [some (vr 59), some (vi a), some (vi s), some (vi (200 + s)), some (vi w)] [vi 2, vi w] sk_G (I, L, sk_J cu sp io rp tp fp) Q := by
  obtain ⟨b0, b2, b1⟩ := sk_bs_iff h12
  have wi : sk_in w := by unfold sk_in; omega
  refine AW_iceq rfl (fun g => ?_) (fun g2 => ?_) wi
  · have hY := hY (fun z => by have := b0.mp z; omega)
    refine AW_run 80 rfl ?_
    exact hY
  · refine AW_run 80 rfl ?_
    refine AW_iceq rfl (fun g => ?_) (fun g3 => ?_) wi
    · have hY := hY (fun z => by have := b0.mp z; omega)
      refine AW_run 80 rfl ?_
      exact hY
    · refine AW_run 80 rfl ?_
      refine AW_iceq rfl (fun g => ?_) (fun g5 => ?_) wi
      · have hY := hY (fun z => by have := b0.mp z; omega)
        refine AW_run 80 rfl ?_
        exact hY
      · refine AW_run 80 rfl ?_
        refine AW_iceq rfl (fun g => ?_) (fun g7 => ?_) wi
        · have hY := hY (fun z => by have := b0.mp z; omega)
          refine AW_run 80 rfl ?_
          exact hY
        · refine AW_run 80 rfl ?_
          refine AW_iceq rfl (fun g => ?_) (fun g8 => ?_) wi
          · have hY := hY (fun z => by have := b0.mp z; omega)
            refine AW_run 80 rfl ?_
            exact hY
          · refine AW_run 80 rfl ?_
            refine AW_iceq rfl (fun g => ?_) (fun g10 => ?_) wi
            · have hY := hY (fun z => by have := b0.mp z; omega)
              refine AW_run 80 rfl ?_
              exact hY
            · refine AW_run 80 rfl ?_
              refine AW_icne rfl (fun g11 => ?_) (fun g => ?_) wi
              · have hN := hN (b0.mpr (by omega))
                refine AW_run 80 rfl ?_
                exact hN
              · have hY := hY (fun z => by have := b0.mp z; omega)
                refine AW_run 80 rfl ?_
                exact hY
theorem c_M_disp2 (s w a : Int) (h12 : 0 ≤ w ∧ w ≤ 12) (h0 : sk_bs w ≠ 0) (hY : sk_bs w = 2 → AW l E d 0 0 mX10_step 392 [some (vr 59), some (vi a), some (vi s), some (vi (200 + s)), some (vi w)] [vi (if w = 11 then 15 else 14), vr 59] sk_G (I, L, sk_J cu sp io rp tp fp) Q) (hN : sk_bs w = 1 → Q (some (vi s)) sk_G (I, L, sk_J cu sp io rp tp fp)) : AW l E d 0 0 mX10_step 360 [some (vr 59), some (vi a), some (vi s), some (vi (200 + s)), some (vi w)] [vi 7, vi w] sk_G (I, L, sk_J cu sp io rp tp fp) Q := by
  obtain ⟨b0, b2, b1⟩ := sk_bs_iff h12
  have wi : sk_in w := by unfold sk_in; omega
  have fin : sk_bs w = 2 → AW l E d 0 0 mX10_step 382 [some (vr 59), some (vi a), some (vi s), some (vi (200 + s)), some (vi w)] [vi 11, vi w, vr 59] sk_G (I, L, sk_J cu sp io rp tp fp) Q := by
    intro z
    have hY := hY z
    refine AW_icne rfl (fun g => ?_) (fun g => ?_) wi
    · rw [if_neg g] at hY
      refine AW_run 80 rfl ?_
      exact hY
    · rw [if_pos g] at hY
      refine AW_run 80 rfl ?_
      exact hY
  refine AW_iceq rfl (fun g => ?_) (fun g7 => ?_) wi
  · have fin := fin (b2.mpr (by omega))
    refine AW_run 80 rfl ?_
    exact fin
  · refine AW_run 80 rfl ?_
    refine AW_iceq rfl (fun g => ?_) (fun g10 => ?_) wi
    · have fin := fin (b2.mpr (by omega))
      refine AW_run 80 rfl ?_
      exact fin
    · refine AW_run 80 rfl ?_
      refine AW_icne rfl (fun g11 => ?_) (fun g => ?_) wi
      · have hN := hN (b1.mpr (by
          apply Classical.byContradiction
          intro z
          exact h0 (b0.mpr (by omega))))
        refine AW_run 80 rfl ?_
        exact AW_iret rfl rfl hN
      · have fin := fin (b2.mpr (by omega))
        refine AW_run 80 rfl ?_
        exact fin
/-- a step whose fault was found: it ends -/
theorem c_M_rest_w (s w a : Int) (h12 : 0 ≤ w ∧ w ≤ 12) (hs : 0 ≤ s ∧ s < 200) {C0 I0 : sk_SI} {e : Int × Int} (h : sk_MF C0 I0 e I) (hq : ∀ I', sk_MF C0 I0 e I' → Q (some (vi s)) sk_G (I', L, sk_J cu sp io rp tp fp)) : AW l E (d + 3) 0 0 mX10_step 300 [some (vr 59), some (vi a), some (vi s), some (vi (200 + s)), some (vi w)] [vi 2, vi w] sk_G (I, L, sk_J cu sp io rp tp fp) Q := by
  have hb : sk_in (200 + s) := by unfold sk_in; omega
  have i26 : ∀ {I'}, sk_MF C0 I0 e I' → sk_in (I' 59 26) ∧ I' 59 26 ≠ 0 := by
    intro I' hI
    have := hI.2.1
    have := hI.2.2.2.2
    unfold sk_in
    omega
  refine c_M_disp s w a h12 (fun hbs => ?_) (fun hbs => ?_)
  · refine AW_cV (M' := mX10_block) (d' := d + 2) rfl kkX10_238 lcX10_block rfl rfl rfl rfl rfl rfl (by omega) ?_
    refine c_M_block_w (i26 h).1 (i26 h).2 _ ?_
    have h1 := sk_MF_row h 72 (200 + s) (-1) (by omega)
    refine AW_run 80 rfl ?_
    refine AW_iast rfl rfl ⟨by omega, by omega⟩ (by decide) ?_
    refine AW_run 80 rfl ?_
    refine c_M_disp2 s w a h12 hbs (fun hb2 => ?_) (fun hb1 => hq _ h1)
    refine AW_cV (M' := mX10_must) (d' := d + 2) rfl kkX10_228 lcX10_must rfl rfl rfl rfl rfl rfl (by omega) ?_
    refine c_M_must_w (d := d + 1) (i26 h1).1 (i26 h1).2 _ ?_
    have h2 := sk_MF_row h1 73 (200 + s) (-1) (by omega)
    refine AW_run 80 rfl ?_
    refine AW_cV (M' := mX10_block) (d' := d + 2) rfl kkX10_238 lcX10_block rfl rfl rfl rfl rfl rfl (by omega) ?_
    refine c_M_block_w (i26 h1).1 (i26 h1).2 _ ?_
    refine AW_run 80 rfl ?_
    refine AW_iast rfl rfl ⟨by omega, by omega⟩ (by decide) ?_
    refine AW_run 80 rfl ?_
    exact AW_iret rfl rfl (hq _ h2)
  · refine AW_cV (M' := mX10_must) (d' := d + 2) rfl kkX10_228 lcX10_must rfl rfl rfl rfl rfl rfl (by omega) ?_
    refine c_M_must_w (d := d + 1) (i26 h).1 (i26 h).2 _ ?_
    refine AW_run 80 rfl ?_
    exact AW_iret rfl rfl (hq _ h)
/-- the model's block at k more blocks -/
def sk_MB (l : Launch) (E : sk_En) (d k : Nat) (t : Int → Int) (n : Int) (p : Nat) (L : sk_SL) (J : sk_SR) : Prop := ∀ (C I : sk_SI) (Q : Option sk_V → List sk_Sh → sk_St → Prop), sk_MR t n p (-1) C I → (∀ e, sk_blI p k C = .inl e → ∀ v I', -1 ≤ v ∧ v ≤ 199 → sk_MF C I e I' → Q (some (vi v)) sk_G (I', L, J)) → (∀ x, sk_blI p k C = .inr x → ∀ I', sk_MR t n p (-1) x.2 I' → sk_mfr I I' → Q (some (vi x.1)) sk_G (I', L, J)) → AW l E (d + (2 * k + 8)) 0 0 mX10_block 0 [some (vr 59), some (vi (12 - k)), none, none, none] [] sk_G (I, L, J) Q
theorem c_M_rest (k : Nat) (hk : k ≤ 12) (hp : sk_pg p) (s w : Int) (h : sk_MR t n p (-1) C I) (hs : 0 ≤ s ∧ s < 200) (h12 : 0 ≤ w ∧ w ≤ 12) (hMB : sk_MB l E d k t n p L (sk_J cu sp io rp tp fp)) (h1 : ∀ e, sk_rrI (sk_blI p k) p s w C = .inl e → ∀ I', sk_MF C I e I' → Q (some (vi s)) sk_G (I', L, sk_J cu sp io rp tp fp)) (h2 : ∀ x, sk_rrI (sk_blI p k) p s w C = .inr x → ∀ I', sk_MR t n p (-1) x.2 I' → sk_mfr I I' → Q (some (vi s)) sk_G (I', L, sk_J cu sp io rp tp fp)) : AW l E (d + (2 * k + 9)) 0 0 mX10_step 300 [some (vr 59), some (vi (11 - k)), some (vi s), some (vi (200 + s)), some (vi w)] [vi 2, vi w] sk_G (I, L, sk_J cu sp io rp tp fp) Q := by
  have hb : sk_in (200 + s) := by unfold sk_in; omega
  have ek : (11 - (k : Int)) + 1 = 12 - k := by omega
  have i26 : ∀ {C0 I0 I' : sk_SI} {e : Int × Int}, sk_MF C0 I0 e I' → sk_in (I' 59 26) ∧ I' 59 26 ≠ 0 := by
    intro C0 I0 I' e hI
    have := hI.2.1
    have := hI.2.2.2.2
    unfold sk_in
    omega
  unfold sk_rrI at h1 h2
  refine c_M_disp s w _ h12 (fun hbs => ?_) (fun hbs => ?_)
  · rw [if_neg hbs] at h1 h2
    rw [ek]
    refine AW_cV (M' := mX10_block) (d' := d + (2 * k + 8)) rfl kkX10_238 lcX10_block rfl rfl rfl rfl rfl rfl (by omega) ?_
    refine hMB C I _ h (fun e he v I' hv hI => ?_) (fun x hx I' hI hfr => ?_)
    · rw [he] at h1
      have h1 := h1 e rfl
      have hI1 := sk_MF_row hI 72 (200 + s) v (by omega)
      have hI2 := sk_MF_row hI1 73 (200 + s) (-1) (by omega)
      refine AW_run 80 rfl ?_
      refine AW_iast rfl rfl ⟨by omega, by omega⟩ (by decide) ?_
      refine AW_run 80 rfl ?_
      refine c_M_disp2 s w _ h12 hbs (fun hb2 => ?_) (fun hb1 => h1 _ hI1)
      refine AW_cV (M' := mX10_must) (d' := d + 2) rfl kkX10_228 lcX10_must rfl rfl rfl rfl rfl rfl (by omega) ?_
      refine c_M_must_w (d := d + 1) (i26 hI1).1 (i26 hI1).2 _ ?_
      refine AW_run 80 rfl ?_
      refine AW_cV (M' := mX10_block) (d' := d + 2) rfl kkX10_238 lcX10_block rfl rfl rfl rfl rfl rfl (by omega) ?_
      refine c_M_block_w (i26 hI1).1 (i26 hI1).2 _ ?_
      refine AW_run 80 rfl ?_
      refine AW_iast rfl rfl ⟨by omega, by omega⟩ (by decide) ?_
      refine AW_run 80 rfl ?_
      exact AW_iret rfl rfl (h1 _ hI2)
    · rw [hx] at h1 h2
      dsimp only at h1 h2
      obtain ⟨gx, gx1, gx2⟩ := sk_gd_bl hp k hk C x h.1 hx
      have hI1 := sk_MR_row hp hI 8 (by omega) s x.1
      have fr1 := sk_mfr_tr hfr (sk_mfr_row I' 72 (200 + s) x.1 (by omega))
      have g1 := sk_gd_row hp gx.1 (p + 8) s x.1 (Or.inr (by omega))
      have q32 := sk_fp_32 hp (sk_gd_tr gx g1).2.1
      refine AW_run 80 rfl ?_
      refine AW_iast rfl rfl ⟨by omega, by omega⟩ (by decide) ?_
      refine AW_run 80 rfl ?_
      refine c_M_disp2 s w _ h12 hbs (fun hb2 => ?_) (fun hb1 => ?_)
      · rw [if_neg (by omega)] at h1 h2
        refine AW_cV (M' := mX10_must) (d' := d + 6) rfl kkX10_228 lcX10_must rfl rfl rfl rfl rfl rfl (by omega) ?_
        refine c_M_mustF (dc := if w = 11 then 14 else 13) hp hI1 (by split; exact sk_du_14; exact sk_du_13) (by unfold sk_in; split <;> omega) (by split <;> omega) (fun e he I2 hJ => ?_) (fun y hy I2 hJ hfr2 => ?_)
        · rw [he] at h1
          have h1 := h1 e rfl
          have hJ1 := sk_MF_tr fr1 hJ q32
          have hJ2 := sk_MF_row hJ1 73 (200 + s) (-1) (by omega)
          refine AW_run 80 rfl ?_
          refine AW_cV (M' := mX10_block) (d' := d + 2) rfl kkX10_238 lcX10_block rfl rfl rfl rfl rfl rfl (by omega) ?_
          refine c_M_block_w (i26 hJ1).1 (i26 hJ1).2 _ ?_
          refine AW_run 80 rfl ?_
          refine AW_iast rfl rfl ⟨by omega, by omega⟩ (by decide) ?_
          refine AW_run 80 rfl ?_
          exact AW_iret rfl rfl (h1 _ hJ2)
        · rw [hy] at h1 h2
          dsimp only at h1 h2
          have gy := sk_gd_tk hp hI1.1 (by split <;> decide) hy
          have q32y := (sk_fp_32 hp gy.2.1).trans q32
          have fr2 := sk_mfr_tr fr1 hfr2
          refine AW_run 80 rfl ?_
          rw [ek]
          refine AW_cV (M' := mX10_block) (d' := d + (2 * k + 8)) rfl kkX10_238 lcX10_block rfl rfl rfl rfl rfl rfl (by omega) ?_
          refine hMB y.2 I2 _ hJ (fun e he v I3 hv hK => ?_) (fun z hz I3 hK hfr3 => ?_)
          · rw [he] at h1
            have h1 := h1 e rfl
            have hK2 := sk_MF_row (sk_MF_tr fr2 hK q32y) 73 (200 + s) v (by omega)
            refine AW_run 80 rfl ?_
            refine AW_iast rfl rfl ⟨by omega, by omega⟩ (by decide) ?_
            refine AW_run 80 rfl ?_
            exact AW_iret rfl rfl (h1 _ hK2)
          · rw [hz] at h2
            have h2 := h2 _ rfl _ (sk_MR_row hp hK 9 (by omega) s z.1) (sk_mfr_tr fr2 (sk_mfr_tr hfr3 (sk_mfr_row I3 73 (200 + s) z.1 (by omega))))
            refine AW_run 80 rfl ?_
            refine AW_iast rfl rfl ⟨by omega, by omega⟩ (by decide) ?_
            refine AW_run 80 rfl ?_
            exact AW_iret rfl rfl h2
      · rw [if_pos hb1] at h2
        exact h2 _ rfl _ hI1 fr1
  · rw [if_pos hbs] at h1 h2
    refine AW_cV (M' := mX10_must) (d' := d + 6) rfl kkX10_228 lcX10_must rfl rfl rfl rfl rfl rfl (by omega) ?_
    refine c_M_mustF (dc := 18) hp h sk_du_18 (by unfold sk_in; omega) (by omega) (fun e he I' hI => ?_) (fun x hx I' hI hfr => ?_)
    · have h1 := h1 e he I' hI
      refine AW_run 80 rfl ?_
      exact AW_iret rfl rfl h1
    · have h2 := h2 x hx I' hI hfr
      refine AW_run 80 rfl ?_
      exact AW_iret rfl rfl h2
end SKS3
end
