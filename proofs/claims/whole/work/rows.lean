section
def lw_okq (q : MethodName × Nat) : Prop := (q.1.cls ≠ "java/lang/invoke/MethodHandle" ∧ q.1.cls ≠ "java/lang/invoke/VarHandle") ∧ Cond.instantiable q.1.cls q.2 ∈ tables_1 ∧ Cond.privateMethod q.1 ∈ tables_1 ∧ Cond.instanceMethod q.1 ∈ tables_1
theorem lw_p0 : lw_okq (⟨"SealKeeper", "addBytes", "(I)V"⟩, 9) := ⟨⟨by decide +kernel, by decide +kernel⟩, List.mem_of_getElem? (i := 20) (by decide +kernel), List.mem_of_getElem? (i := 378) (by decide +kernel), List.mem_of_getElem? (i := 379) (by decide +kernel)⟩
theorem lw_p1 : lw_okq (⟨"SealKeeper$Tokens", "add", "(II)V"⟩, 3) := ⟨⟨by decide +kernel, by decide +kernel⟩, List.mem_of_getElem? (i := 144) (by decide +kernel), List.mem_of_getElem? (i := 483) (by decide +kernel), List.mem_of_getElem? (i := 484) (by decide +kernel)⟩
theorem lw_p2 : lw_okq (⟨"SealKeeper$Reader", "readMethod", "()Z"⟩, 7) := ⟨⟨by decide +kernel, by decide +kernel⟩, List.mem_of_getElem? (i := 138) (by decide +kernel), List.mem_of_getElem? (i := 499) (by decide +kernel), List.mem_of_getElem? (i := 500) (by decide +kernel)⟩
theorem lw_p3 : lw_okq (⟨"SealKeeper$Reader", "take", "(I)Z"⟩, 7) := ⟨⟨by decide +kernel, by decide +kernel⟩, List.mem_of_getElem? (i := 138) (by decide +kernel), List.mem_of_getElem? (i := 503) (by decide +kernel), List.mem_of_getElem? (i := 504) (by decide +kernel)⟩
theorem lw_p4 : lw_okq (⟨"SealKeeper$Reader", "broken", "(II)I"⟩, 7) := ⟨⟨by decide +kernel, by decide +kernel⟩, List.mem_of_getElem? (i := 138) (by decide +kernel), List.mem_of_getElem? (i := 511) (by decide +kernel), List.mem_of_getElem? (i := 512) (by decide +kernel)⟩
theorem lw_p5 : lw_okq (⟨"SealKeeper$Reader", "readNumber", "(I)I"⟩, 7) := ⟨⟨by decide +kernel, by decide +kernel⟩, List.mem_of_getElem? (i := 138) (by decide +kernel), List.mem_of_getElem? (i := 515) (by decide +kernel), List.mem_of_getElem? (i := 516) (by decide +kernel)⟩
theorem lw_p6 : lw_okq (⟨"SealKeeper$Reader", "readBlock", "(I)I"⟩, 7) := ⟨⟨by decide +kernel, by decide +kernel⟩, List.mem_of_getElem? (i := 138) (by decide +kernel), List.mem_of_getElem? (i := 524) (by decide +kernel), List.mem_of_getElem? (i := 525) (by decide +kernel)⟩
theorem lw_p7 : lw_okq (⟨"SealKeeper$Reader", "readStep", "(I)I"⟩, 7) := ⟨⟨by decide +kernel, by decide +kernel⟩, List.mem_of_getElem? (i := 138) (by decide +kernel), List.mem_of_getElem? (i := 529) (by decide +kernel), List.mem_of_getElem? (i := 530) (by decide +kernel)⟩
theorem lw_p8 : lw_okq (⟨"SealKeeper$Reader", "readNumbers", "(II)Z"⟩, 7) := ⟨⟨by decide +kernel, by decide +kernel⟩, List.mem_of_getElem? (i := 138) (by decide +kernel), List.mem_of_getElem? (i := 541) (by decide +kernel), List.mem_of_getElem? (i := 542) (by decide +kernel)⟩
theorem lw_p9 : lw_okq (⟨"SealKeeper$Reader", "readRest", "(III)Z"⟩, 7) := ⟨⟨by decide +kernel, by decide +kernel⟩, List.mem_of_getElem? (i := 138) (by decide +kernel), List.mem_of_getElem? (i := 550) (by decide +kernel), List.mem_of_getElem? (i := 551) (by decide +kernel)⟩
theorem lw_p10 : lw_okq (⟨"SealKeeper$Reader", "allMethodsAreThere", "()Z"⟩, 7) := ⟨⟨by decide +kernel, by decide +kernel⟩, List.mem_of_getElem? (i := 138) (by decide +kernel), List.mem_of_getElem? (i := 556) (by decide +kernel), List.mem_of_getElem? (i := 557) (by decide +kernel)⟩
theorem lw_p11 : lw_okq (⟨"SealKeeper", "hasProgram", "()Z"⟩, 9) := ⟨⟨by decide +kernel, by decide +kernel⟩, List.mem_of_getElem? (i := 20) (by decide +kernel), List.mem_of_getElem? (i := 594) (by decide +kernel), List.mem_of_getElem? (i := 595) (by decide +kernel)⟩
theorem lw_p12 : lw_okq (⟨"SealKeeper$Runner", "begin", "(LSealKeeper$Program;I)V"⟩, 14) := ⟨⟨by decide +kernel, by decide +kernel⟩, List.mem_of_getElem? (i := 184) (by decide +kernel), List.mem_of_getElem? (i := 614) (by decide +kernel), List.mem_of_getElem? (i := 615) (by decide +kernel)⟩
theorem lw_p13 : lw_okq (⟨"SealKeeper$Runner", "putOff", "(II)V"⟩, 14) := ⟨⟨by decide +kernel, by decide +kernel⟩, List.mem_of_getElem? (i := 184) (by decide +kernel), List.mem_of_getElem? (i := 628) (by decide +kernel), List.mem_of_getElem? (i := 629) (by decide +kernel)⟩
theorem lw_p14 : lw_okq (⟨"SealKeeper$Runner", "beginJob", "()V"⟩, 14) := ⟨⟨by decide +kernel, by decide +kernel⟩, List.mem_of_getElem? (i := 184) (by decide +kernel), List.mem_of_getElem? (i := 638) (by decide +kernel), List.mem_of_getElem? (i := 639) (by decide +kernel)⟩
theorem lw_p15 : lw_okq (⟨"SealKeeper$Runner", "openMethod", "(II)V"⟩, 14) := ⟨⟨by decide +kernel, by decide +kernel⟩, List.mem_of_getElem? (i := 184) (by decide +kernel), List.mem_of_getElem? (i := 642) (by decide +kernel), List.mem_of_getElem? (i := 643) (by decide +kernel)⟩
def lw_privs_1 : List (MethodName × Nat) := [(⟨"SealKeeper", "addBytes", "(I)V"⟩, 9), (⟨"SealKeeper$Tokens", "add", "(II)V"⟩, 3), (⟨"SealKeeper$Reader", "readMethod", "()Z"⟩, 7), (⟨"SealKeeper$Reader", "take", "(I)Z"⟩, 7), (⟨"SealKeeper$Reader", "broken", "(II)I"⟩, 7), (⟨"SealKeeper$Reader", "readNumber", "(I)I"⟩, 7), (⟨"SealKeeper$Reader", "readBlock", "(I)I"⟩, 7), (⟨"SealKeeper$Reader", "readStep", "(I)I"⟩, 7), (⟨"SealKeeper$Reader", "readNumbers", "(II)Z"⟩, 7), (⟨"SealKeeper$Reader", "readRest", "(III)Z"⟩, 7), (⟨"SealKeeper$Reader", "allMethodsAreThere", "()Z"⟩, 7), (⟨"SealKeeper", "hasProgram", "()Z"⟩, 9), (⟨"SealKeeper$Runner", "begin", "(LSealKeeper$Program;I)V"⟩, 14), (⟨"SealKeeper$Runner", "putOff", "(II)V"⟩, 14), (⟨"SealKeeper$Runner", "beginJob", "()V"⟩, 14), (⟨"SealKeeper$Runner", "openMethod", "(II)V"⟩, 14)]
theorem lw_r1 : ∀ q ∈ lw_privs_1, lw_okq q := List.forall_mem_cons.mpr ⟨lw_p0, List.forall_mem_cons.mpr ⟨lw_p1, List.forall_mem_cons.mpr ⟨lw_p2, List.forall_mem_cons.mpr ⟨lw_p3, List.forall_mem_cons.mpr ⟨lw_p4, List.forall_mem_cons.mpr ⟨lw_p5, List.forall_mem_cons.mpr ⟨lw_p6, List.forall_mem_cons.mpr ⟨lw_p7, List.forall_mem_cons.mpr ⟨lw_p8, List.forall_mem_cons.mpr ⟨lw_p9, List.forall_mem_cons.mpr ⟨lw_p10, List.forall_mem_cons.mpr ⟨lw_p11, List.forall_mem_cons.mpr ⟨lw_p12, List.forall_mem_cons.mpr ⟨lw_p13, List.forall_mem_cons.mpr ⟨lw_p14, List.forall_mem_cons.mpr ⟨lw_p15, fun _ h => absurd h List.not_mem_nil⟩⟩⟩⟩⟩⟩⟩⟩⟩⟩⟩⟩⟩⟩⟩⟩
theorem lw_p16 : lw_okq (⟨"SealKeeper$Stacks", "add", "(II)I"⟩, 5) := ⟨⟨by decide +kernel, by decide +kernel⟩, List.mem_of_getElem? (i := 215) (by decide +kernel), List.mem_of_getElem? (i := 655) (by decide +kernel), List.mem_of_getElem? (i := 656) (by decide +kernel)⟩
theorem lw_p17 : lw_okq (⟨"SealKeeper$Runner", "beginTurn", "(I)V"⟩, 14) := ⟨⟨by decide +kernel, by decide +kernel⟩, List.mem_of_getElem? (i := 184) (by decide +kernel), List.mem_of_getElem? (i := 669) (by decide +kernel), List.mem_of_getElem? (i := 670) (by decide +kernel)⟩
theorem lw_p18 : lw_okq (⟨"SealKeeper$Runner", "doStep", "(III)V"⟩, 14) := ⟨⟨by decide +kernel, by decide +kernel⟩, List.mem_of_getElem? (i := 184) (by decide +kernel), List.mem_of_getElem? (i := 681) (by decide +kernel), List.mem_of_getElem? (i := 682) (by decide +kernel)⟩
theorem lw_p19 : lw_okq (⟨"SealKeeper$Runner", "judge", "(II)I"⟩, 14) := ⟨⟨by decide +kernel, by decide +kernel⟩, List.mem_of_getElem? (i := 184) (by decide +kernel), List.mem_of_getElem? (i := 685) (by decide +kernel), List.mem_of_getElem? (i := 686) (by decide +kernel)⟩
theorem lw_p20 : lw_okq (⟨"SealKeeper$Runner", "failIfRefused", "(II)V"⟩, 14) := ⟨⟨by decide +kernel, by decide +kernel⟩, List.mem_of_getElem? (i := 184) (by decide +kernel), List.mem_of_getElem? (i := 699) (by decide +kernel), List.mem_of_getElem? (i := 700) (by decide +kernel)⟩
theorem lw_p21 : lw_okq (⟨"SealKeeper$Runner", "fail", "(II)V"⟩, 14) := ⟨⟨by decide +kernel, by decide +kernel⟩, List.mem_of_getElem? (i := 184) (by decide +kernel), List.mem_of_getElem? (i := 703) (by decide +kernel), List.mem_of_getElem? (i := 704) (by decide +kernel)⟩
theorem lw_p22 : lw_okq (⟨"SealKeeper$Runner", "closeBlock", "()V"⟩, 14) := ⟨⟨by decide +kernel, by decide +kernel⟩, List.mem_of_getElem? (i := 184) (by decide +kernel), List.mem_of_getElem? (i := 716) (by decide +kernel), List.mem_of_getElem? (i := 717) (by decide +kernel)⟩
theorem lw_p23 : lw_okq (⟨"SealKeeper$Runner", "open", "(III)V"⟩, 14) := ⟨⟨by decide +kernel, by decide +kernel⟩, List.mem_of_getElem? (i := 184) (by decide +kernel), List.mem_of_getElem? (i := 724) (by decide +kernel), List.mem_of_getElem? (i := 725) (by decide +kernel)⟩
theorem lw_p24 : lw_okq (⟨"SealKeeper$Runner", "keep", "(II)V"⟩, 14) := ⟨⟨by decide +kernel, by decide +kernel⟩, List.mem_of_getElem? (i := 184) (by decide +kernel), List.mem_of_getElem? (i := 732) (by decide +kernel), List.mem_of_getElem? (i := 733) (by decide +kernel)⟩
theorem lw_p25 : lw_okq (⟨"SealKeeper$Runner", "under", "(II)V"⟩, 14) := ⟨⟨by decide +kernel, by decide +kernel⟩, List.mem_of_getElem? (i := 184) (by decide +kernel), List.mem_of_getElem? (i := 736) (by decide +kernel), List.mem_of_getElem? (i := 737) (by decide +kernel)⟩
theorem lw_p26 : lw_okq (⟨"SealKeeper$Runner", "repeat", "(III)V"⟩, 14) := ⟨⟨by decide +kernel, by decide +kernel⟩, List.mem_of_getElem? (i := 184) (by decide +kernel), List.mem_of_getElem? (i := 740) (by decide +kernel), List.mem_of_getElem? (i := 741) (by decide +kernel)⟩
theorem lw_p27 : lw_okq (⟨"SealKeeper$Runner", "takeBit", "()I"⟩, 14) := ⟨⟨by decide +kernel, by decide +kernel⟩, List.mem_of_getElem? (i := 184) (by decide +kernel), List.mem_of_getElem? (i := 748) (by decide +kernel), List.mem_of_getElem? (i := 749) (by decide +kernel)⟩
theorem lw_p28 : lw_okq (⟨"SealKeeper$Runner", "goBack", "()V"⟩, 14) := ⟨⟨by decide +kernel, by decide +kernel⟩, List.mem_of_getElem? (i := 184) (by decide +kernel), List.mem_of_getElem? (i := 753) (by decide +kernel), List.mem_of_getElem? (i := 754) (by decide +kernel)⟩
theorem lw_p29 : lw_okq (⟨"SealKeeper$Runner", "endBlock", "()V"⟩, 14) := ⟨⟨by decide +kernel, by decide +kernel⟩, List.mem_of_getElem? (i := 184) (by decide +kernel), List.mem_of_getElem? (i := 757) (by decide +kernel), List.mem_of_getElem? (i := 758) (by decide +kernel)⟩
theorem lw_p30 : lw_okq (⟨"SealKeeper$Foresight", "come", "(II)I"⟩, 16) := ⟨⟨by decide +kernel, by decide +kernel⟩, List.mem_of_getElem? (i := 282) (by decide +kernel), List.mem_of_getElem? (i := 791) (by decide +kernel), List.mem_of_getElem? (i := 792) (by decide +kernel)⟩
theorem lw_p31 : lw_okq (⟨"SealKeeper$Foresight", "copyDown", "(I)V"⟩, 16) := ⟨⟨by decide +kernel, by decide +kernel⟩, List.mem_of_getElem? (i := 282) (by decide +kernel), List.mem_of_getElem? (i := 795) (by decide +kernel), List.mem_of_getElem? (i := 796) (by decide +kernel)⟩
def lw_privs_2 : List (MethodName × Nat) := [(⟨"SealKeeper$Stacks", "add", "(II)I"⟩, 5), (⟨"SealKeeper$Runner", "beginTurn", "(I)V"⟩, 14), (⟨"SealKeeper$Runner", "doStep", "(III)V"⟩, 14), (⟨"SealKeeper$Runner", "judge", "(II)I"⟩, 14), (⟨"SealKeeper$Runner", "failIfRefused", "(II)V"⟩, 14), (⟨"SealKeeper$Runner", "fail", "(II)V"⟩, 14), (⟨"SealKeeper$Runner", "closeBlock", "()V"⟩, 14), (⟨"SealKeeper$Runner", "open", "(III)V"⟩, 14), (⟨"SealKeeper$Runner", "keep", "(II)V"⟩, 14), (⟨"SealKeeper$Runner", "under", "(II)V"⟩, 14), (⟨"SealKeeper$Runner", "repeat", "(III)V"⟩, 14), (⟨"SealKeeper$Runner", "takeBit", "()I"⟩, 14), (⟨"SealKeeper$Runner", "goBack", "()V"⟩, 14), (⟨"SealKeeper$Runner", "endBlock", "()V"⟩, 14), (⟨"SealKeeper$Foresight", "come", "(II)I"⟩, 16), (⟨"SealKeeper$Foresight", "copyDown", "(I)V"⟩, 16)]
theorem lw_r2 : ∀ q ∈ lw_privs_2, lw_okq q := List.forall_mem_cons.mpr ⟨lw_p16, List.forall_mem_cons.mpr ⟨lw_p17, List.forall_mem_cons.mpr ⟨lw_p18, List.forall_mem_cons.mpr ⟨lw_p19, List.forall_mem_cons.mpr ⟨lw_p20, List.forall_mem_cons.mpr ⟨lw_p21, List.forall_mem_cons.mpr ⟨lw_p22, List.forall_mem_cons.mpr ⟨lw_p23, List.forall_mem_cons.mpr ⟨lw_p24, List.forall_mem_cons.mpr ⟨lw_p25, List.forall_mem_cons.mpr ⟨lw_p26, List.forall_mem_cons.mpr ⟨lw_p27, List.forall_mem_cons.mpr ⟨lw_p28, List.forall_mem_cons.mpr ⟨lw_p29, List.forall_mem_cons.mpr ⟨lw_p30, List.forall_mem_cons.mpr ⟨lw_p31, fun _ h => absurd h List.not_mem_nil⟩⟩⟩⟩⟩⟩⟩⟩⟩⟩⟩⟩⟩⟩⟩⟩
theorem lw_p32 : lw_okq (⟨"SealKeeper$Foresight", "change", "(IIJI)V"⟩, 16) := ⟨⟨by decide +kernel, by decide +kernel⟩, List.mem_of_getElem? (i := 282) (by decide +kernel), List.mem_of_getElem? (i := 807) (by decide +kernel), List.mem_of_getElem? (i := 808) (by decide +kernel)⟩
theorem lw_p33 : lw_okq (⟨"SealKeeper$Foresight", "placeInOrder", "(II)I"⟩, 16) := ⟨⟨by decide +kernel, by decide +kernel⟩, List.mem_of_getElem? (i := 282) (by decide +kernel), List.mem_of_getElem? (i := 814) (by decide +kernel), List.mem_of_getElem? (i := 815) (by decide +kernel)⟩
theorem lw_p34 : lw_okq (⟨"SealKeeper$Foresight", "compare", "(III)I"⟩, 16) := ⟨⟨by decide +kernel, by decide +kernel⟩, List.mem_of_getElem? (i := 282) (by decide +kernel), List.mem_of_getElem? (i := 818) (by decide +kernel), List.mem_of_getElem? (i := 819) (by decide +kernel)⟩
theorem lw_p35 : lw_okq (⟨"SealKeeper$Foresight", "insert", "(III)I"⟩, 16) := ⟨⟨by decide +kernel, by decide +kernel⟩, List.mem_of_getElem? (i := 282) (by decide +kernel), List.mem_of_getElem? (i := 822) (by decide +kernel), List.mem_of_getElem? (i := 823) (by decide +kernel)⟩
theorem lw_p36 : lw_okq (⟨"SealKeeper$Foresight", "sweep", "()Z"⟩, 16) := ⟨⟨by decide +kernel, by decide +kernel⟩, List.mem_of_getElem? (i := 282) (by decide +kernel), List.mem_of_getElem? (i := 833) (by decide +kernel), List.mem_of_getElem? (i := 834) (by decide +kernel)⟩
theorem lw_p37 : lw_okq (⟨"SealKeeper$Foresight", "walkBlock", "(II)I"⟩, 16) := ⟨⟨by decide +kernel, by decide +kernel⟩, List.mem_of_getElem? (i := 282) (by decide +kernel), List.mem_of_getElem? (i := 838) (by decide +kernel), List.mem_of_getElem? (i := 839) (by decide +kernel)⟩
theorem lw_p38 : lw_okq (⟨"SealKeeper$Foresight", "walkStep", "(II)I"⟩, 16) := ⟨⟨by decide +kernel, by decide +kernel⟩, List.mem_of_getElem? (i := 282) (by decide +kernel), List.mem_of_getElem? (i := 843) (by decide +kernel), List.mem_of_getElem? (i := 844) (by decide +kernel)⟩
theorem lw_p39 : lw_okq (⟨"SealKeeper$Foresight", "walkAsk", "(II)I"⟩, 16) := ⟨⟨by decide +kernel, by decide +kernel⟩, List.mem_of_getElem? (i := 282) (by decide +kernel), List.mem_of_getElem? (i := 847) (by decide +kernel), List.mem_of_getElem? (i := 848) (by decide +kernel)⟩
theorem lw_p40 : lw_okq (⟨"SealKeeper$Foresight", "refuserOf", "(II)I"⟩, 16) := ⟨⟨by decide +kernel, by decide +kernel⟩, List.mem_of_getElem? (i := 282) (by decide +kernel), List.mem_of_getElem? (i := 851) (by decide +kernel), List.mem_of_getElem? (i := 852) (by decide +kernel)⟩
theorem lw_p41 : lw_okq (⟨"SealKeeper$Foresight", "walkCall", "(I)I"⟩, 16) := ⟨⟨by decide +kernel, by decide +kernel⟩, List.mem_of_getElem? (i := 282) (by decide +kernel), List.mem_of_getElem? (i := 859) (by decide +kernel), List.mem_of_getElem? (i := 860) (by decide +kernel)⟩
theorem lw_p42 : lw_okq (⟨"SealKeeper$Foresight", "enterBlock", "(II)V"⟩, 16) := ⟨⟨by decide +kernel, by decide +kernel⟩, List.mem_of_getElem? (i := 282) (by decide +kernel), List.mem_of_getElem? (i := 863) (by decide +kernel), List.mem_of_getElem? (i := 864) (by decide +kernel)⟩
theorem lw_p43 : lw_okq (⟨"SealKeeper$Foresight", "walkTry", "(II)I"⟩, 16) := ⟨⟨by decide +kernel, by decide +kernel⟩, List.mem_of_getElem? (i := 282) (by decide +kernel), List.mem_of_getElem? (i := 868) (by decide +kernel), List.mem_of_getElem? (i := 869) (by decide +kernel)⟩
theorem lw_p44 : lw_okq (⟨"SealKeeper$Foresight", "walkInner", "(II)I"⟩, 16) := ⟨⟨by decide +kernel, by decide +kernel⟩, List.mem_of_getElem? (i := 282) (by decide +kernel), List.mem_of_getElem? (i := 872) (by decide +kernel), List.mem_of_getElem? (i := 873) (by decide +kernel)⟩
theorem lw_p45 : lw_okq (⟨"SealKeeper$Foresight", "makeCallersStale", "(I)V"⟩, 16) := ⟨⟨by decide +kernel, by decide +kernel⟩, List.mem_of_getElem? (i := 282) (by decide +kernel), List.mem_of_getElem? (i := 876) (by decide +kernel), List.mem_of_getElem? (i := 877) (by decide +kernel)⟩
theorem lw_p46 : lw_okq (⟨"SealKeeperModel", "four", "(I)V"⟩, 72) := ⟨⟨by decide +kernel, by decide +kernel⟩, List.mem_of_getElem? (i := 915) (by decide +kernel), List.mem_of_getElem? (i := 1160) (by decide +kernel), List.mem_of_getElem? (i := 1161) (by decide +kernel)⟩
theorem lw_p47 : lw_okq (⟨"SealKeeperModel", "next", "()V"⟩, 72) := ⟨⟨by decide +kernel, by decide +kernel⟩, List.mem_of_getElem? (i := 915) (by decide +kernel), List.mem_of_getElem? (i := 1187) (by decide +kernel), List.mem_of_getElem? (i := 1188) (by decide +kernel)⟩
def lw_privs_3 : List (MethodName × Nat) := [(⟨"SealKeeper$Foresight", "change", "(IIJI)V"⟩, 16), (⟨"SealKeeper$Foresight", "placeInOrder", "(II)I"⟩, 16), (⟨"SealKeeper$Foresight", "compare", "(III)I"⟩, 16), (⟨"SealKeeper$Foresight", "insert", "(III)I"⟩, 16), (⟨"SealKeeper$Foresight", "sweep", "()Z"⟩, 16), (⟨"SealKeeper$Foresight", "walkBlock", "(II)I"⟩, 16), (⟨"SealKeeper$Foresight", "walkStep", "(II)I"⟩, 16), (⟨"SealKeeper$Foresight", "walkAsk", "(II)I"⟩, 16), (⟨"SealKeeper$Foresight", "refuserOf", "(II)I"⟩, 16), (⟨"SealKeeper$Foresight", "walkCall", "(I)I"⟩, 16), (⟨"SealKeeper$Foresight", "enterBlock", "(II)V"⟩, 16), (⟨"SealKeeper$Foresight", "walkTry", "(II)I"⟩, 16), (⟨"SealKeeper$Foresight", "walkInner", "(II)I"⟩, 16), (⟨"SealKeeper$Foresight", "makeCallersStale", "(I)V"⟩, 16), (⟨"SealKeeperModel", "four", "(I)V"⟩, 72), (⟨"SealKeeperModel", "next", "()V"⟩, 72)]
theorem lw_r3 : ∀ q ∈ lw_privs_3, lw_okq q := List.forall_mem_cons.mpr ⟨lw_p32, List.forall_mem_cons.mpr ⟨lw_p33, List.forall_mem_cons.mpr ⟨lw_p34, List.forall_mem_cons.mpr ⟨lw_p35, List.forall_mem_cons.mpr ⟨lw_p36, List.forall_mem_cons.mpr ⟨lw_p37, List.forall_mem_cons.mpr ⟨lw_p38, List.forall_mem_cons.mpr ⟨lw_p39, List.forall_mem_cons.mpr ⟨lw_p40, List.forall_mem_cons.mpr ⟨lw_p41, List.forall_mem_cons.mpr ⟨lw_p42, List.forall_mem_cons.mpr ⟨lw_p43, List.forall_mem_cons.mpr ⟨lw_p44, List.forall_mem_cons.mpr ⟨lw_p45, List.forall_mem_cons.mpr ⟨lw_p46, List.forall_mem_cons.mpr ⟨lw_p47, fun _ h => absurd h List.not_mem_nil⟩⟩⟩⟩⟩⟩⟩⟩⟩⟩⟩⟩⟩⟩⟩⟩
theorem lw_p48 : lw_okq (⟨"SealKeeperModel", "wordOf", "()I"⟩, 72) := ⟨⟨by decide +kernel, by decide +kernel⟩, List.mem_of_getElem? (i := 915) (by decide +kernel), List.mem_of_getElem? (i := 1194) (by decide +kernel), List.mem_of_getElem? (i := 1195) (by decide +kernel)⟩
theorem lw_p49 : lw_okq (⟨"SealKeeperModel", "wrong", "(I)V"⟩, 72) := ⟨⟨by decide +kernel, by decide +kernel⟩, List.mem_of_getElem? (i := 915) (by decide +kernel), List.mem_of_getElem? (i := 1203) (by decide +kernel), List.mem_of_getElem? (i := 1204) (by decide +kernel)⟩
theorem lw_p50 : lw_okq (⟨"SealKeeperModel", "must", "(I)V"⟩, 72) := ⟨⟨by decide +kernel, by decide +kernel⟩, List.mem_of_getElem? (i := 915) (by decide +kernel), List.mem_of_getElem? (i := 1207) (by decide +kernel), List.mem_of_getElem? (i := 1208) (by decide +kernel)⟩
theorem lw_p51 : lw_okq (⟨"SealKeeperModel", "numberTo", "(I)I"⟩, 72) := ⟨⟨by decide +kernel, by decide +kernel⟩, List.mem_of_getElem? (i := 915) (by decide +kernel), List.mem_of_getElem? (i := 1211) (by decide +kernel), List.mem_of_getElem? (i := 1212) (by decide +kernel)⟩
theorem lw_p52 : lw_okq (⟨"SealKeeperModel", "block", "(I)I"⟩, 72) := ⟨⟨by decide +kernel, by decide +kernel⟩, List.mem_of_getElem? (i := 915) (by decide +kernel), List.mem_of_getElem? (i := 1215) (by decide +kernel), List.mem_of_getElem? (i := 1216) (by decide +kernel)⟩
theorem lw_p53 : lw_okq (⟨"SealKeeperModel", "step", "(I)I"⟩, 72) := ⟨⟨by decide +kernel, by decide +kernel⟩, List.mem_of_getElem? (i := 915) (by decide +kernel), List.mem_of_getElem? (i := 1219) (by decide +kernel), List.mem_of_getElem? (i := 1220) (by decide +kernel)⟩
theorem lw_p54 : lw_okq (⟨"SealKeeperModel", "doJob", "(III)V"⟩, 72) := ⟨⟨by decide +kernel, by decide +kernel⟩, List.mem_of_getElem? (i := 915) (by decide +kernel), List.mem_of_getElem? (i := 1239) (by decide +kernel), List.mem_of_getElem? (i := 1240) (by decide +kernel)⟩
theorem lw_p55 : lw_okq (⟨"SealKeeperModel", "openMethod", "(II)V"⟩, 72) := ⟨⟨by decide +kernel, by decide +kernel⟩, List.mem_of_getElem? (i := 915) (by decide +kernel), List.mem_of_getElem? (i := 1243) (by decide +kernel), List.mem_of_getElem? (i := 1244) (by decide +kernel)⟩
theorem lw_p56 : lw_okq (⟨"SealKeeperModel", "open", "(IIII)V"⟩, 72) := ⟨⟨by decide +kernel, by decide +kernel⟩, List.mem_of_getElem? (i := 915) (by decide +kernel), List.mem_of_getElem? (i := 1247) (by decide +kernel), List.mem_of_getElem? (i := 1248) (by decide +kernel)⟩
theorem lw_p57 : lw_okq (⟨"SealKeeperModel", "enter", "(IIII)V"⟩, 72) := ⟨⟨by decide +kernel, by decide +kernel⟩, List.mem_of_getElem? (i := 915) (by decide +kernel), List.mem_of_getElem? (i := 1251) (by decide +kernel), List.mem_of_getElem? (i := 1252) (by decide +kernel)⟩
theorem lw_p58 : lw_okq (⟨"SealKeeperModel", "finish", "()V"⟩, 72) := ⟨⟨by decide +kernel, by decide +kernel⟩, List.mem_of_getElem? (i := 915) (by decide +kernel), List.mem_of_getElem? (i := 1255) (by decide +kernel), List.mem_of_getElem? (i := 1256) (by decide +kernel)⟩
theorem lw_p59 : lw_okq (⟨"SealKeeperModel", "close", "()V"⟩, 72) := ⟨⟨by decide +kernel, by decide +kernel⟩, List.mem_of_getElem? (i := 915) (by decide +kernel), List.mem_of_getElem? (i := 1259) (by decide +kernel), List.mem_of_getElem? (i := 1260) (by decide +kernel)⟩
theorem lw_p60 : lw_okq (⟨"SealKeeperModel", "perform", "(I)V"⟩, 72) := ⟨⟨by decide +kernel, by decide +kernel⟩, List.mem_of_getElem? (i := 915) (by decide +kernel), List.mem_of_getElem? (i := 1263) (by decide +kernel), List.mem_of_getElem? (i := 1264) (by decide +kernel)⟩
theorem lw_p61 : lw_okq (⟨"SealKeeperModel", "judge", "(III)I"⟩, 72) := ⟨⟨by decide +kernel, by decide +kernel⟩, List.mem_of_getElem? (i := 915) (by decide +kernel), List.mem_of_getElem? (i := 1267) (by decide +kernel), List.mem_of_getElem? (i := 1268) (by decide +kernel)⟩
theorem lw_p62 : lw_okq (⟨"SealKeeperModel", "hasRight", "(III)Z"⟩, 72) := ⟨⟨by decide +kernel, by decide +kernel⟩, List.mem_of_getElem? (i := 915) (by decide +kernel), List.mem_of_getElem? (i := 1271) (by decide +kernel), List.mem_of_getElem? (i := 1272) (by decide +kernel)⟩
theorem lw_p63 : lw_okq (⟨"SealKeeperModel", "fail", "(II)V"⟩, 72) := ⟨⟨by decide +kernel, by decide +kernel⟩, List.mem_of_getElem? (i := 915) (by decide +kernel), List.mem_of_getElem? (i := 1275) (by decide +kernel), List.mem_of_getElem? (i := 1276) (by decide +kernel)⟩
def lw_privs_4 : List (MethodName × Nat) := [(⟨"SealKeeperModel", "wordOf", "()I"⟩, 72), (⟨"SealKeeperModel", "wrong", "(I)V"⟩, 72), (⟨"SealKeeperModel", "must", "(I)V"⟩, 72), (⟨"SealKeeperModel", "numberTo", "(I)I"⟩, 72), (⟨"SealKeeperModel", "block", "(I)I"⟩, 72), (⟨"SealKeeperModel", "step", "(I)I"⟩, 72), (⟨"SealKeeperModel", "doJob", "(III)V"⟩, 72), (⟨"SealKeeperModel", "openMethod", "(II)V"⟩, 72), (⟨"SealKeeperModel", "open", "(IIII)V"⟩, 72), (⟨"SealKeeperModel", "enter", "(IIII)V"⟩, 72), (⟨"SealKeeperModel", "finish", "()V"⟩, 72), (⟨"SealKeeperModel", "close", "()V"⟩, 72), (⟨"SealKeeperModel", "perform", "(I)V"⟩, 72), (⟨"SealKeeperModel", "judge", "(III)I"⟩, 72), (⟨"SealKeeperModel", "hasRight", "(III)Z"⟩, 72), (⟨"SealKeeperModel", "fail", "(II)V"⟩, 72)]
theorem lw_r4 : ∀ q ∈ lw_privs_4, lw_okq q := List.forall_mem_cons.mpr ⟨lw_p48, List.forall_mem_cons.mpr ⟨lw_p49, List.forall_mem_cons.mpr ⟨lw_p50, List.forall_mem_cons.mpr ⟨lw_p51, List.forall_mem_cons.mpr ⟨lw_p52, List.forall_mem_cons.mpr ⟨lw_p53, List.forall_mem_cons.mpr ⟨lw_p54, List.forall_mem_cons.mpr ⟨lw_p55, List.forall_mem_cons.mpr ⟨lw_p56, List.forall_mem_cons.mpr ⟨lw_p57, List.forall_mem_cons.mpr ⟨lw_p58, List.forall_mem_cons.mpr ⟨lw_p59, List.forall_mem_cons.mpr ⟨lw_p60, List.forall_mem_cons.mpr ⟨lw_p61, List.forall_mem_cons.mpr ⟨lw_p62, List.forall_mem_cons.mpr ⟨lw_p63, fun _ h => absurd h List.not_mem_nil⟩⟩⟩⟩⟩⟩⟩⟩⟩⟩⟩⟩⟩⟩⟩⟩
theorem lw_p64 : lw_okq (⟨"SealKeeperModel", "say", "(I)V"⟩, 72) := ⟨⟨by decide +kernel, by decide +kernel⟩, List.mem_of_getElem? (i := 915) (by decide +kernel), List.mem_of_getElem? (i := 1279) (by decide +kernel), List.mem_of_getElem? (i := 1280) (by decide +kernel)⟩
theorem lw_p65 : lw_okq (⟨"SealKeeperModel", "takeBit", "()I"⟩, 72) := ⟨⟨by decide +kernel, by decide +kernel⟩, List.mem_of_getElem? (i := 915) (by decide +kernel), List.mem_of_getElem? (i := 1283) (by decide +kernel), List.mem_of_getElem? (i := 1284) (by decide +kernel)⟩
theorem lw_p66 : lw_okq (⟨"SealKeeperModel", "isPlain", "()Z"⟩, 72) := ⟨⟨by decide +kernel, by decide +kernel⟩, List.mem_of_getElem? (i := 915) (by decide +kernel), List.mem_of_getElem? (i := 1299) (by decide +kernel), List.mem_of_getElem? (i := 1300) (by decide +kernel)⟩
theorem lw_p67 : lw_okq (⟨"SealKeeperModel", "pairOf", "(I)I"⟩, 72) := ⟨⟨by decide +kernel, by decide +kernel⟩, List.mem_of_getElem? (i := 915) (by decide +kernel), List.mem_of_getElem? (i := 1303) (by decide +kernel), List.mem_of_getElem? (i := 1304) (by decide +kernel)⟩
theorem lw_p68 : lw_okq (⟨"SealKeeperModel", "walk", "(II)I"⟩, 72) := ⟨⟨by decide +kernel, by decide +kernel⟩, List.mem_of_getElem? (i := 915) (by decide +kernel), List.mem_of_getElem? (i := 1307) (by decide +kernel), List.mem_of_getElem? (i := 1308) (by decide +kernel)⟩
theorem lw_p69 : lw_okq (⟨"SealKeeperModel", "walkStep", "(II)I"⟩, 72) := ⟨⟨by decide +kernel, by decide +kernel⟩, List.mem_of_getElem? (i := 915) (by decide +kernel), List.mem_of_getElem? (i := 1311) (by decide +kernel), List.mem_of_getElem? (i := 1312) (by decide +kernel)⟩
theorem lw_p70 : lw_okq (⟨"SealKeeperModel", "cover", "(II)V"⟩, 72) := ⟨⟨by decide +kernel, by decide +kernel⟩, List.mem_of_getElem? (i := 915) (by decide +kernel), List.mem_of_getElem? (i := 1315) (by decide +kernel), List.mem_of_getElem? (i := 1316) (by decide +kernel)⟩
theorem lw_p71 : lw_okq (⟨"SealKeeperModel", "same", "(I)V"⟩, 72) := ⟨⟨by decide +kernel, by decide +kernel⟩, List.mem_of_getElem? (i := 915) (by decide +kernel), List.mem_of_getElem? (i := 1319) (by decide +kernel), List.mem_of_getElem? (i := 1320) (by decide +kernel)⟩
theorem lw_p72 : lw_okq (⟨"SealKeeperModel", "isAhead", "(II)Z"⟩, 72) := ⟨⟨by decide +kernel, by decide +kernel⟩, List.mem_of_getElem? (i := 915) (by decide +kernel), List.mem_of_getElem? (i := 1335) (by decide +kernel), List.mem_of_getElem? (i := 1336) (by decide +kernel)⟩
def lw_privs_5 : List (MethodName × Nat) := [(⟨"SealKeeperModel", "say", "(I)V"⟩, 72), (⟨"SealKeeperModel", "takeBit", "()I"⟩, 72), (⟨"SealKeeperModel", "isPlain", "()Z"⟩, 72), (⟨"SealKeeperModel", "pairOf", "(I)I"⟩, 72), (⟨"SealKeeperModel", "walk", "(II)I"⟩, 72), (⟨"SealKeeperModel", "walkStep", "(II)I"⟩, 72), (⟨"SealKeeperModel", "cover", "(II)V"⟩, 72), (⟨"SealKeeperModel", "same", "(I)V"⟩, 72), (⟨"SealKeeperModel", "isAhead", "(II)Z"⟩, 72)]
theorem lw_r5 : ∀ q ∈ lw_privs_5, lw_okq q := List.forall_mem_cons.mpr ⟨lw_p64, List.forall_mem_cons.mpr ⟨lw_p65, List.forall_mem_cons.mpr ⟨lw_p66, List.forall_mem_cons.mpr ⟨lw_p67, List.forall_mem_cons.mpr ⟨lw_p68, List.forall_mem_cons.mpr ⟨lw_p69, List.forall_mem_cons.mpr ⟨lw_p70, List.forall_mem_cons.mpr ⟨lw_p71, List.forall_mem_cons.mpr ⟨lw_p72, fun _ h => absurd h List.not_mem_nil⟩⟩⟩⟩⟩⟩⟩⟩⟩
def lw_privs : List (MethodName × Nat) := lw_privs_1 ++ (lw_privs_2 ++ (lw_privs_3 ++ (lw_privs_4 ++ (lw_privs_5))))
def lw_tbl : List Cond := k2_sels lw_privs ++ tables_1
theorem lw_privs_ok : ∀ q ∈ lw_privs, lw_okq q := by
  show ∀ q ∈ lw_privs_1 ++ (lw_privs_2 ++ (lw_privs_3 ++ (lw_privs_4 ++ (lw_privs_5)))), lw_okq q
  exact List.forall_mem_append.mpr ⟨lw_r1, List.forall_mem_append.mpr ⟨lw_r2, List.forall_mem_append.mpr ⟨lw_r3, List.forall_mem_append.mpr ⟨lw_r4, lw_r5⟩⟩⟩⟩
def RX0 : String := "SealKeeper$Foresight"
def TX0 : u_T := fun k => match k with
  | 0 => ("SealKeeper$Foresight", "rules", "LSealKeeper$Rules;", true)
  | 1 => ("SealKeeper$Foresight", "program", "LSealKeeper$Program;", false)
  | 2 => ("SealKeeper$Foresight", "method", "[I", true)
  | 3 => ("SealKeeper$Foresight", "rights", "[J", true)
  | 4 => ("SealKeeper$Foresight", "can", "[I", true)
  | 5 => ("SealKeeper$Foresight", "stale", "[Z", true)
  | 6 => ("SealKeeper$Foresight", "callers", "[J", true)
  | 7 => ("SealKeeper$Foresight", "order", "[I", true)
  | 8 => ("SealKeeper$Foresight", "pairsOf", "[I", true)
  | 9 => ("SealKeeper$Foresight", "work", "[J", true)
  | 10 => ("SealKeeper$Foresight", "passed", "[I", true)
  | 11 => ("SealKeeper$Foresight", "open", "[I", true)
  | 12 => ("SealKeeper$Foresight", "size", "I", false)
  | 13 => ("SealKeeper$Foresight", "walking", "I", false)
  | 14 => ("SealKeeper$Foresight", "tooMany", "Z", false)
  | _ => ("SealKeeper$Foresight", "kept", "Z", false)
def tyX0 : Nat → FieldType := fun k => match k with
  | 0 => .object "SealKeeper$Rules"
  | 1 => .object "SealKeeper$Program"
  | 2 => .array .int
  | 3 => .array .long
  | 4 => .array .int
  | 5 => .array .boolean
  | 6 => .array .long
  | 7 => .array .int
  | 8 => .array .int
  | 9 => .array .long
  | 10 => .array .int
  | 11 => .array .int
  | 12 => .int
  | 13 => .int
  | 14 => .boolean
  | _ => .boolean
abbrev wsX00 : List Cond := u_ws RX0 TX0 16
theorem nmX0 : ∀ a, a < 16 → ∀ b, b < 16 → a ≠ b → (TX0 a).2.1 ≠ (TX0 b).2.1 := by decide +kernel
theorem tyX0_ok : ∀ k, k < 16 → parseFieldDescriptor (TX0 k).2.2.1 = some (tyX0 k) := by decide +kernel
abbrev cX0_init : ByteArray := prog_2_method_1_code
def yX0_init : MethodName := ⟨RX0, "<init>", "(LSealKeeper$Program;LSealKeeper$Rules;)V"⟩
abbrev cX0_foretell : ByteArray := prog_2_method_2_code
def yX0_foretell : MethodName := ⟨RX0, "foretell", "(LSealKeeper$Program;I)I"⟩
abbrev cX0_sweep : ByteArray := prog_2_method_3_code
def yX0_sweep : MethodName := ⟨RX0, "sweep", "()Z"⟩
abbrev cX0_makeCallersStale : ByteArray := prog_2_method_4_code
def yX0_makeCallersStale : MethodName := ⟨RX0, "makeCallersStale", "(I)V"⟩
abbrev cX0_walkBlock : ByteArray := prog_2_method_5_code
def yX0_walkBlock : MethodName := ⟨RX0, "walkBlock", "(II)I"⟩
abbrev cX0_walkStep : ByteArray := prog_2_method_6_code
def yX0_walkStep : MethodName := ⟨RX0, "walkStep", "(II)I"⟩
abbrev cX0_walkAsk : ByteArray := prog_2_method_7_code
def yX0_walkAsk : MethodName := ⟨RX0, "walkAsk", "(II)I"⟩
abbrev cX0_walkTry : ByteArray := prog_2_method_8_code
def yX0_walkTry : MethodName := ⟨RX0, "walkTry", "(II)I"⟩
abbrev cX0_walkInner : ByteArray := prog_2_method_9_code
def yX0_walkInner : MethodName := ⟨RX0, "walkInner", "(II)I"⟩
abbrev cX0_walkCall : ByteArray := prog_2_method_10_code
def yX0_walkCall : MethodName := ⟨RX0, "walkCall", "(I)I"⟩
abbrev cX0_refuserOf : ByteArray := prog_2_method_11_code
def yX0_refuserOf : MethodName := ⟨RX0, "refuserOf", "(II)I"⟩
abbrev cX0_refuserAt : ByteArray := prog_2_method_12_code
def yX0_refuserAt : MethodName := ⟨RX0, "refuserAt", "(JI)I"⟩
abbrev cX0_levelsAbove : ByteArray := prog_2_method_13_code
def yX0_levelsAbove : MethodName := ⟨RX0, "levelsAbove", "(I)J"⟩
abbrev cX0_copyDown : ByteArray := prog_2_method_14_code
def yX0_copyDown : MethodName := ⟨RX0, "copyDown", "(I)V"⟩
abbrev cX0_enterBlock : ByteArray := prog_2_method_15_code
def yX0_enterBlock : MethodName := ⟨RX0, "enterBlock", "(II)V"⟩
abbrev cX0_change : ByteArray := prog_2_method_16_code
def yX0_change : MethodName := ⟨RX0, "change", "(IIJI)V"⟩
abbrev cX0_come : ByteArray := prog_2_method_17_code
def yX0_come : MethodName := ⟨RX0, "come", "(II)I"⟩
abbrev cX0_placeInOrder : ByteArray := prog_2_method_18_code
def yX0_placeInOrder : MethodName := ⟨RX0, "placeInOrder", "(II)I"⟩
abbrev cX0_compare : ByteArray := prog_2_method_19_code
def yX0_compare : MethodName := ⟨RX0, "compare", "(III)I"⟩
abbrev cX0_insert : ByteArray := prog_2_method_20_code
def yX0_insert : MethodName := ⟨RX0, "insert", "(III)I"⟩
abbrev cX0_rootCan : ByteArray := prog_2_method_21_code
def yX0_rootCan : MethodName := ⟨RX0, "rootCan", "(I)I"⟩
abbrev cX0_methodsThatCame : ByteArray := prog_2_method_22_code
def yX0_methodsThatCame : MethodName := ⟨RX0, "methodsThatCame", "()I"⟩
abbrev cX0_refuser : ByteArray := prog_2_method_23_code
def yX0_refuser : MethodName := ⟨RX0, "refuser", "(IIII)I"⟩
def RX1 : String := "SealKeeper$Frames"
def TX1 : u_T := fun k => match k with
  | 0 => ("SealKeeper$Frames", "role", "[I", true)
  | 1 => ("SealKeeper$Frames", "opener", "[I", true)
  | 2 => ("SealKeeper$Frames", "next", "[I", true)
  | 3 => ("SealKeeper$Frames", "stack", "[I", true)
  | 4 => ("SealKeeper$Frames", "timesLeft", "[I", true)
  | _ => ("SealKeeper$Frames", "depth", "I", false)
def tyX1 : Nat → FieldType := fun k => match k with
  | 0 => .array .int
  | 1 => .array .int
  | 2 => .array .int
  | 3 => .array .int
  | 4 => .array .int
  | _ => .int
abbrev wsX10 : List Cond := u_ws RX1 TX1 6
theorem nmX1 : ∀ a, a < 6 → ∀ b, b < 6 → a ≠ b → (TX1 a).2.1 ≠ (TX1 b).2.1 := by decide +kernel
theorem tyX1_ok : ∀ k, k < 6 → parseFieldDescriptor (TX1 k).2.2.1 = some (tyX1 k) := by decide +kernel
abbrev cX1_init : ByteArray := prog_3_method_1_code
def yX1_init : MethodName := ⟨RX1, "<init>", "()V"⟩
abbrev cX1_clear : ByteArray := prog_3_method_2_code
def yX1_clear : MethodName := ⟨RX1, "clear", "()V"⟩
abbrev cX1_isEmpty : ByteArray := prog_3_method_3_code
def yX1_isEmpty : MethodName := ⟨RX1, "isEmpty", "()Z"⟩
abbrev cX1_push : ByteArray := prog_3_method_4_code
def yX1_push : MethodName := ⟨RX1, "push", "(IIII)V"⟩
abbrev cX1_pop : ByteArray := prog_3_method_5_code
def yX1_pop : MethodName := ⟨RX1, "pop", "()V"⟩
abbrev cX1_topRole : ByteArray := prog_3_method_6_code
def yX1_topRole : MethodName := ⟨RX1, "topRole", "()I"⟩
abbrev cX1_topOpener : ByteArray := prog_3_method_7_code
def yX1_topOpener : MethodName := ⟨RX1, "topOpener", "()I"⟩
abbrev cX1_topNext : ByteArray := prog_3_method_8_code
def yX1_topNext : MethodName := ⟨RX1, "topNext", "()I"⟩
abbrev cX1_topStack : ByteArray := prog_3_method_9_code
def yX1_topStack : MethodName := ⟨RX1, "topStack", "()I"⟩
abbrev cX1_topTimesLeft : ByteArray := prog_3_method_10_code
def yX1_topTimesLeft : MethodName := ⟨RX1, "topTimesLeft", "()I"⟩
abbrev cX1_goTo : ByteArray := prog_3_method_11_code
def yX1_goTo : MethodName := ⟨RX1, "goTo", "(I)V"⟩
abbrev cX1_setTimesLeft : ByteArray := prog_3_method_12_code
def yX1_setTimesLeft : MethodName := ⟨RX1, "setTimesLeft", "(I)V"⟩
def RX2 : String := "SealKeeper$Program"
def TX2 : u_T := fun k => match k with
  | 0 => ("SealKeeper$Program", "owner", "[I", true)
  | 1 => ("SealKeeper$Program", "start", "[I", true)
  | 2 => ("SealKeeper$Program", "word", "[I", true)
  | 3 => ("SealKeeper$Program", "method", "[I", true)
  | 4 => ("SealKeeper$Program", "first", "[I", true)
  | 5 => ("SealKeeper$Program", "second", "[I", true)
  | 6 => ("SealKeeper$Program", "next", "[I", true)
  | 7 => ("SealKeeper$Program", "inner", "[I", true)
  | 8 => ("SealKeeper$Program", "other", "[I", true)
  | 9 => ("SealKeeper$Program", "methods", "I", false)
  | 10 => ("SealKeeper$Program", "steps", "I", false)
  | _ => ("SealKeeper$Program", "deepest", "I", false)
def tyX2 : Nat → FieldType := fun k => match k with
  | 0 => .array .int
  | 1 => .array .int
  | 2 => .array .int
  | 3 => .array .int
  | 4 => .array .int
  | 5 => .array .int
  | 6 => .array .int
  | 7 => .array .int
  | 8 => .array .int
  | 9 => .int
  | 10 => .int
  | _ => .int
abbrev wsX20 : List Cond := u_ws RX2 TX2 12
theorem nmX2 : ∀ a, a < 12 → ∀ b, b < 12 → a ≠ b → (TX2 a).2.1 ≠ (TX2 b).2.1 := by decide +kernel
theorem tyX2_ok : ∀ k, k < 12 → parseFieldDescriptor (TX2 k).2.2.1 = some (tyX2 k) := by decide +kernel
abbrev cX2_init : ByteArray := prog_4_method_1_code
def yX2_init : MethodName := ⟨RX2, "<init>", "()V"⟩
abbrev cX2_clear : ByteArray := prog_4_method_2_code
def yX2_clear : MethodName := ⟨RX2, "clear", "()V"⟩
abbrev cX2_addMethod : ByteArray := prog_4_method_3_code
def yX2_addMethod : MethodName := ⟨RX2, "addMethod", "(I)I"⟩
abbrev cX2_addStep : ByteArray := prog_4_method_4_code
def yX2_addStep : MethodName := ⟨RX2, "addStep", "(I)I"⟩
abbrev cX2_ownerOf : ByteArray := prog_4_method_5_code
def yX2_ownerOf : MethodName := ⟨RX2, "ownerOf", "(I)I"⟩
abbrev cX2_startOf : ByteArray := prog_4_method_6_code
def yX2_startOf : MethodName := ⟨RX2, "startOf", "(I)I"⟩
abbrev cX2_hasStep : ByteArray := prog_4_method_7_code
def yX2_hasStep : MethodName := ⟨RX2, "hasStep", "(I)Z"⟩
abbrev cX2_countOf : ByteArray := prog_4_method_8_code
def yX2_countOf : MethodName := ⟨RX2, "countOf", "(I)I"⟩
abbrev cX2_canBeForetold : ByteArray := prog_4_method_9_code
def yX2_canBeForetold : MethodName := ⟨RX2, "canBeForetold", "()Z"⟩
def RX3 : String := "SealKeeper$Reader"
def TX3 : u_T := fun k => match k with
  | 0 => ("SealKeeper$Reader", "tokens", "LSealKeeper$Tokens;", true)
  | 1 => ("SealKeeper$Reader", "firstToken", "[I", true)
  | 2 => ("SealKeeper$Reader", "into", "LSealKeeper$Program;", false)
  | 3 => ("SealKeeper$Reader", "now", "I", false)
  | 4 => ("SealKeeper$Reader", "faultToken", "I", false)
  | 5 => ("SealKeeper$Reader", "faultFound", "I", false)
  | _ => ("SealKeeper$Reader", "faultAt", "I", false)
def tyX3 : Nat → FieldType := fun k => match k with
  | 0 => .object "SealKeeper$Tokens"
  | 1 => .array .int
  | 2 => .object "SealKeeper$Program"
  | 3 => .int
  | 4 => .int
  | 5 => .int
  | _ => .int
abbrev wsX30 : List Cond := u_ws RX3 TX3 7
theorem nmX3 : ∀ a, a < 7 → ∀ b, b < 7 → a ≠ b → (TX3 a).2.1 ≠ (TX3 b).2.1 := by decide +kernel
theorem tyX3_ok : ∀ k, k < 7 → parseFieldDescriptor (TX3 k).2.2.1 = some (tyX3 k) := by decide +kernel
abbrev cX3_init : ByteArray := prog_5_method_1_code
def yX3_init : MethodName := ⟨RX3, "<init>", "(LSealKeeper$Program;)V"⟩
abbrev cX3_readInto : ByteArray := prog_5_method_2_code
def yX3_readInto : MethodName := ⟨RX3, "readInto", "(LSealKeeper$Program;LSealKeeper$Row;)Z"⟩
abbrev cX3_broken : ByteArray := prog_5_method_3_code
def yX3_broken : MethodName := ⟨RX3, "broken", "(II)I"⟩
abbrev cX3_readMethod : ByteArray := prog_5_method_4_code
def yX3_readMethod : MethodName := ⟨RX3, "readMethod", "()Z"⟩
abbrev cX3_take : ByteArray := prog_5_method_5_code
def yX3_take : MethodName := ⟨RX3, "take", "(I)Z"⟩
abbrev cX3_readNumber : ByteArray := prog_5_method_6_code
def yX3_readNumber : MethodName := ⟨RX3, "readNumber", "(I)I"⟩
abbrev cX3_readBlock : ByteArray := prog_5_method_7_code
def yX3_readBlock : MethodName := ⟨RX3, "readBlock", "(I)I"⟩
abbrev cX3_readStep : ByteArray := prog_5_method_8_code
def yX3_readStep : MethodName := ⟨RX3, "readStep", "(I)I"⟩
abbrev cX3_readNumbers : ByteArray := prog_5_method_9_code
def yX3_readNumbers : MethodName := ⟨RX3, "readNumbers", "(II)Z"⟩
abbrev cX3_readRest : ByteArray := prog_5_method_10_code
def yX3_readRest : MethodName := ⟨RX3, "readRest", "(III)Z"⟩
abbrev cX3_allMethodsAreThere : ByteArray := prog_5_method_11_code
def yX3_allMethodsAreThere : MethodName := ⟨RX3, "allMethodsAreThere", "()Z"⟩
def RX4 : String := "SealKeeper$Row"
def TX4 : u_T := fun k => match k with
  | 0 => ("SealKeeper$Row", "cells", "[I", true)
  | _ => ("SealKeeper$Row", "size", "I", false)
def tyX4 : Nat → FieldType := fun k => match k with
  | 0 => .array .int
  | _ => .int
abbrev wsX40 : List Cond := u_ws RX4 TX4 2
theorem nmX4 : ∀ a, a < 2 → ∀ b, b < 2 → a ≠ b → (TX4 a).2.1 ≠ (TX4 b).2.1 := by decide +kernel
theorem tyX4_ok : ∀ k, k < 2 → parseFieldDescriptor (TX4 k).2.2.1 = some (tyX4 k) := by decide +kernel
abbrev cX4_init : ByteArray := prog_6_method_1_code
def yX4_init : MethodName := ⟨RX4, "<init>", "(I)V"⟩
abbrev cX4_hasRoomFor : ByteArray := prog_6_method_2_code
def yX4_hasRoomFor : MethodName := ⟨RX4, "hasRoomFor", "(I)Z"⟩
abbrev cX4_add : ByteArray := prog_6_method_3_code
def yX4_add : MethodName := ⟨RX4, "add", "(I)V"⟩
abbrev cX4_at : ByteArray := prog_6_method_4_code
def yX4_at : MethodName := ⟨RX4, "at", "(I)I"⟩
abbrev cX4_cutTo : ByteArray := prog_6_method_5_code
def yX4_cutTo : MethodName := ⟨RX4, "cutTo", "(I)V"⟩
def RX5 : String := "SealKeeper$Rules"
def TX5 : u_T := fun k => match k with
  | _ => ("SealKeeper$Rules", "levels", "[I", true)
def tyX5 : Nat → FieldType := fun k => match k with
  | _ => .array .int
abbrev wsX50 : List Cond := u_ws RX5 TX5 1
theorem nmX5 : ∀ a, a < 1 → ∀ b, b < 1 → a ≠ b → (TX5 a).2.1 ≠ (TX5 b).2.1 := by decide +kernel
theorem tyX5_ok : ∀ k, k < 1 → parseFieldDescriptor (TX5 k).2.2.1 = some (tyX5 k) := by decide +kernel
abbrev cX5_init : ByteArray := prog_7_method_1_code
def yX5_init : MethodName := ⟨RX5, "<init>", "()V"⟩
abbrev cX5_of : ByteArray := prog_7_method_2_code
def yX5_of : MethodName := ⟨RX5, "of", "(II)I"⟩
abbrev cX5_replace : ByteArray := prog_7_method_3_code
def yX5_replace : MethodName := ⟨RX5, "replace", "(III)I"⟩
abbrev cX5_given : ByteArray := prog_7_method_4_code
def yX5_given : MethodName := ⟨RX5, "given", "()I"⟩
def RX6 : String := "SealKeeper$Runner"
def TX6 : u_T := fun k => match k with
  | 0 => ("SealKeeper$Runner", "input", "LSealKeeper$Row;", true)
  | 1 => ("SealKeeper$Runner", "notes", "LSealKeeper$Row;", true)
  | 2 => ("SealKeeper$Runner", "stacks", "LSealKeeper$Stacks;", true)
  | 3 => ("SealKeeper$Runner", "frames", "LSealKeeper$Frames;", true)
  | 4 => ("SealKeeper$Runner", "slots", "[I", true)
  | 5 => ("SealKeeper$Runner", "jobMethod", "[I", true)
  | 6 => ("SealKeeper$Runner", "jobBase", "[I", true)
  | 7 => ("SealKeeper$Runner", "tally", "[I", true)
  | 8 => ("SealKeeper$Runner", "hasRun", "Z", false)
  | 9 => ("SealKeeper$Runner", "program", "LSealKeeper$Program;", false)
  | 10 => ("SealKeeper$Runner", "jobs", "I", false)
  | 11 => ("SealKeeper$Runner", "turnsTold", "I", false)
  | 12 => ("SealKeeper$Runner", "methodsOpen", "I", false)
  | _ => ("SealKeeper$Runner", "end", "I", false)
def tyX6 : Nat → FieldType := fun k => match k with
  | 0 => .object "SealKeeper$Row"
  | 1 => .object "SealKeeper$Row"
  | 2 => .object "SealKeeper$Stacks"
  | 3 => .object "SealKeeper$Frames"
  | 4 => .array .int
  | 5 => .array .int
  | 6 => .array .int
  | 7 => .array .int
  | 8 => .boolean
  | 9 => .object "SealKeeper$Program"
  | 10 => .int
  | 11 => .int
  | 12 => .int
  | _ => .int
abbrev wsX60 : List Cond := u_ws RX6 TX6 14
theorem nmX6 : ∀ a, a < 14 → ∀ b, b < 14 → a ≠ b → (TX6 a).2.1 ≠ (TX6 b).2.1 := by decide +kernel
theorem tyX6_ok : ∀ k, k < 14 → parseFieldDescriptor (TX6 k).2.2.1 = some (tyX6 k) := by decide +kernel
abbrev cX6_init : ByteArray := prog_8_method_1_code
def yX6_init : MethodName := ⟨RX6, "<init>", "(LSealKeeper$Program;LSealKeeper$Rules;LSealKeeper$Row;LSealKeeper$Row;)V"⟩
abbrev cX6_execute : ByteArray := prog_8_method_2_code
def yX6_execute : MethodName := ⟨RX6, "execute", "(LSealKeeper$Program;II)I"⟩
abbrev cX6_begin : ByteArray := prog_8_method_3_code
def yX6_begin : MethodName := ⟨RX6, "begin", "(LSealKeeper$Program;I)V"⟩
abbrev cX6_beginJob : ByteArray := prog_8_method_4_code
def yX6_beginJob : MethodName := ⟨RX6, "beginJob", "()V"⟩
abbrev cX6_putOff : ByteArray := prog_8_method_5_code
def yX6_putOff : MethodName := ⟨RX6, "putOff", "(II)V"⟩
abbrev cX6_openMethod : ByteArray := prog_8_method_6_code
def yX6_openMethod : MethodName := ⟨RX6, "openMethod", "(II)V"⟩
abbrev cX6_endBlock : ByteArray := prog_8_method_7_code
def yX6_endBlock : MethodName := ⟨RX6, "endBlock", "()V"⟩
abbrev cX6_closeBlock : ByteArray := prog_8_method_8_code
def yX6_closeBlock : MethodName := ⟨RX6, "closeBlock", "()V"⟩
abbrev cX6_beginTurn : ByteArray := prog_8_method_9_code
def yX6_beginTurn : MethodName := ⟨RX6, "beginTurn", "(I)V"⟩
abbrev cX6_doStep : ByteArray := prog_8_method_10_code
def yX6_doStep : MethodName := ⟨RX6, "doStep", "(III)V"⟩
abbrev cX6_open : ByteArray := prog_8_method_11_code
def yX6_open : MethodName := ⟨RX6, "open", "(III)V"⟩
abbrev cX6_judge : ByteArray := prog_8_method_12_code
def yX6_judge : MethodName := ⟨RX6, "judge", "(II)I"⟩
abbrev cX6_failIfRefused : ByteArray := prog_8_method_13_code
def yX6_failIfRefused : MethodName := ⟨RX6, "failIfRefused", "(II)V"⟩
abbrev cX6_keep : ByteArray := prog_8_method_14_code
def yX6_keep : MethodName := ⟨RX6, "keep", "(II)V"⟩
abbrev cX6_under : ByteArray := prog_8_method_15_code
def yX6_under : MethodName := ⟨RX6, "under", "(II)V"⟩
abbrev cX6_repeat : ByteArray := prog_8_method_16_code
def yX6_repeat : MethodName := ⟨RX6, "repeat", "(III)V"⟩
abbrev cX6_takeBit : ByteArray := prog_8_method_17_code
def yX6_takeBit : MethodName := ⟨RX6, "takeBit", "()I"⟩
abbrev cX6_goBack : ByteArray := prog_8_method_18_code
def yX6_goBack : MethodName := ⟨RX6, "goBack", "()V"⟩
abbrev cX6_fail : ByteArray := prog_8_method_19_code
def yX6_fail : MethodName := ⟨RX6, "fail", "(II)V"⟩
def RX7 : String := "SealKeeper$Stacks"
def TX7 : u_T := fun k => match k with
  | 0 => ("SealKeeper$Stacks", "rules", "LSealKeeper$Rules;", true)
  | 1 => ("SealKeeper$Stacks", "program", "LSealKeeper$Program;", false)
  | 2 => ("SealKeeper$Stacks", "entry", "[I", true)
  | 3 => ("SealKeeper$Stacks", "below", "[I", true)
  | _ => ("SealKeeper$Stacks", "size", "I", false)
def tyX7 : Nat → FieldType := fun k => match k with
  | 0 => .object "SealKeeper$Rules"
  | 1 => .object "SealKeeper$Program"
  | 2 => .array .int
  | 3 => .array .int
  | _ => .int
abbrev wsX70 : List Cond := u_ws RX7 TX7 5
theorem nmX7 : ∀ a, a < 5 → ∀ b, b < 5 → a ≠ b → (TX7 a).2.1 ≠ (TX7 b).2.1 := by decide +kernel
theorem tyX7_ok : ∀ k, k < 5 → parseFieldDescriptor (TX7 k).2.2.1 = some (tyX7 k) := by decide +kernel
abbrev cX7_init : ByteArray := prog_9_method_1_code
def yX7_init : MethodName := ⟨RX7, "<init>", "(LSealKeeper$Program;LSealKeeper$Rules;)V"⟩
abbrev cX7_clear : ByteArray := prog_9_method_2_code
def yX7_clear : MethodName := ⟨RX7, "clear", "(LSealKeeper$Program;)V"⟩
abbrev cX7_withMethod : ByteArray := prog_9_method_3_code
def yX7_withMethod : MethodName := ⟨RX7, "withMethod", "(II)I"⟩
abbrev cX7_withBlock : ByteArray := prog_9_method_4_code
def yX7_withBlock : MethodName := ⟨RX7, "withBlock", "(II)I"⟩
abbrev cX7_add : ByteArray := prog_9_method_5_code
def yX7_add : MethodName := ⟨RX7, "add", "(II)I"⟩
abbrev cX7_refuser : ByteArray := prog_9_method_6_code
def yX7_refuser : MethodName := ⟨RX7, "refuser", "(III)I"⟩
def RX8 : String := "SealKeeper$Tokens"
def TX8 : u_T := fun k => match k with
  | 0 => ("SealKeeper$Tokens", "token", "[I", true)
  | 1 => ("SealKeeper$Tokens", "at", "[I", true)
  | _ => ("SealKeeper$Tokens", "size", "I", false)
def tyX8 : Nat → FieldType := fun k => match k with
  | 0 => .array .int
  | 1 => .array .int
  | _ => .int
abbrev wsX80 : List Cond := u_ws RX8 TX8 3
theorem nmX8 : ∀ a, a < 3 → ∀ b, b < 3 → a ≠ b → (TX8 a).2.1 ≠ (TX8 b).2.1 := by decide +kernel
theorem tyX8_ok : ∀ k, k < 3 → parseFieldDescriptor (TX8 k).2.2.1 = some (tyX8 k) := by decide +kernel
abbrev cX8_init : ByteArray := prog_10_method_1_code
def yX8_init : MethodName := ⟨RX8, "<init>", "()V"⟩
abbrev cX8_cut : ByteArray := prog_10_method_2_code
def yX8_cut : MethodName := ⟨RX8, "cut", "(LSealKeeper$Row;)V"⟩
abbrev cX8_tokenAt : ByteArray := prog_10_method_3_code
def yX8_tokenAt : MethodName := ⟨RX8, "tokenAt", "(I)I"⟩
abbrev cX8_placeOf : ByteArray := prog_10_method_4_code
def yX8_placeOf : MethodName := ⟨RX8, "placeOf", "(I)I"⟩
abbrev cX8_add : ByteArray := prog_10_method_5_code
def yX8_add : MethodName := ⟨RX8, "add", "(II)V"⟩
abbrev cX8_isLetter : ByteArray := prog_10_method_6_code
def yX8_isLetter : MethodName := ⟨RX8, "isLetter", "(I)Z"⟩
abbrev cX8_isDigit : ByteArray := prog_10_method_7_code
def yX8_isDigit : MethodName := ⟨RX8, "isDigit", "(I)Z"⟩
abbrev cX8_endOfWord : ByteArray := prog_10_method_8_code
def yX8_endOfWord : MethodName := ⟨RX8, "endOfWord", "(LSealKeeper$Row;I)I"⟩
abbrev cX8_endOfNumber : ByteArray := prog_10_method_9_code
def yX8_endOfNumber : MethodName := ⟨RX8, "endOfNumber", "(LSealKeeper$Row;I)I"⟩
abbrev cX8_wordOf : ByteArray := prog_10_method_10_code
def yX8_wordOf : MethodName := ⟨RX8, "wordOf", "(LSealKeeper$Row;II)I"⟩
abbrev cX8_isWord : ByteArray := prog_10_method_11_code
def yX8_isWord : MethodName := ⟨RX8, "isWord", "(ILSealKeeper$Row;II)Z"⟩
abbrev cX8_numberOf : ByteArray := prog_10_method_12_code
def yX8_numberOf : MethodName := ⟨RX8, "numberOf", "(LSealKeeper$Row;II)I"⟩
abbrev cX8_signOf : ByteArray := prog_10_method_13_code
def yX8_signOf : MethodName := ⟨RX8, "signOf", "(I)I"⟩
def RX9 : String := "SealKeeper"
def TX9 : u_T := fun k => match k with
  | 0 => ("SealKeeper", "tape", "LSealKeeper$Row;", true)
  | 1 => ("SealKeeper", "input", "LSealKeeper$Row;", true)
  | 2 => ("SealKeeper", "notes", "LSealKeeper$Row;", true)
  | 3 => ("SealKeeper", "rules", "LSealKeeper$Rules;", true)
  | 4 => ("SealKeeper", "current", "LSealKeeper$Program;", false)
  | 5 => ("SealKeeper", "spare", "LSealKeeper$Program;", false)
  | 6 => ("SealKeeper", "reader", "LSealKeeper$Reader;", true)
  | 7 => ("SealKeeper", "runner", "LSealKeeper$Runner;", true)
  | _ => ("SealKeeper", "foresight", "LSealKeeper$Foresight;", true)
def tyX9 : Nat → FieldType := fun k => match k with
  | 0 => .object "SealKeeper$Row"
  | 1 => .object "SealKeeper$Row"
  | 2 => .object "SealKeeper$Row"
  | 3 => .object "SealKeeper$Rules"
  | 4 => .object "SealKeeper$Program"
  | 5 => .object "SealKeeper$Program"
  | 6 => .object "SealKeeper$Reader"
  | 7 => .object "SealKeeper$Runner"
  | _ => .object "SealKeeper$Foresight"
abbrev wsX90 : List Cond := u_ws RX9 TX9 9
theorem nmX9 : ∀ a, a < 9 → ∀ b, b < 9 → a ≠ b → (TX9 a).2.1 ≠ (TX9 b).2.1 := by decide +kernel
theorem tyX9_ok : ∀ k, k < 9 → parseFieldDescriptor (TX9 k).2.2.1 = some (tyX9 k) := by decide +kernel
abbrev cX9_init : ByteArray := prog_1_method_1_code
def yX9_init : MethodName := ⟨RX9, "<init>", "()V"⟩
abbrev cX9_feed : ByteArray := prog_1_method_2_code
def yX9_feed : MethodName := ⟨RX9, "feed", "(IIIII)I"⟩
abbrev cX9_addBytes : ByteArray := prog_1_method_3_code
def yX9_addBytes : MethodName := ⟨RX9, "addBytes", "(I)V"⟩
abbrev cX9_trim : ByteArray := prog_1_method_4_code
def yX9_trim : MethodName := ⟨RX9, "trim", "(I)I"⟩
abbrev cX9_program : ByteArray := prog_1_method_5_code
def yX9_program : MethodName := ⟨RX9, "program", "()I"⟩
abbrev cX9_fault : ByteArray := prog_1_method_6_code
def yX9_fault : MethodName := ⟨RX9, "fault", "()I"⟩
abbrev cX9_rule : ByteArray := prog_1_method_7_code
def yX9_rule : MethodName := ⟨RX9, "rule", "(III)I"⟩
abbrev cX9_bits : ByteArray := prog_1_method_8_code
def yX9_bits : MethodName := ⟨RX9, "bits", "(II)I"⟩
abbrev cX9_forget : ByteArray := prog_1_method_9_code
def yX9_forget : MethodName := ⟨RX9, "forget", "()I"⟩
abbrev cX9_about : ByteArray := prog_1_method_10_code
def yX9_about : MethodName := ⟨RX9, "about", "(I)I"⟩
abbrev cX9_step : ByteArray := prog_1_method_11_code
def yX9_step : MethodName := ⟨RX9, "step", "(II)I"⟩
abbrev cX9_run : ByteArray := prog_1_method_12_code
def yX9_run : MethodName := ⟨RX9, "run", "(II)I"⟩
abbrev cX9_ran : ByteArray := prog_1_method_13_code
def yX9_ran : MethodName := ⟨RX9, "ran", "(I)I"⟩
abbrev cX9_note : ByteArray := prog_1_method_14_code
def yX9_note : MethodName := ⟨RX9, "note", "(I)I"⟩
abbrev cX9_ahead : ByteArray := prog_1_method_15_code
def yX9_ahead : MethodName := ⟨RX9, "ahead", "(I)I"⟩
abbrev cX9_walked : ByteArray := prog_1_method_16_code
def yX9_walked : MethodName := ⟨RX9, "walked", "(II)I"⟩
abbrev cX9_told : ByteArray := prog_1_method_17_code
def yX9_told : MethodName := ⟨RX9, "told", "(I)I"⟩
abbrev cX9_pair : ByteArray := prog_1_method_18_code
def yX9_pair : MethodName := ⟨RX9, "pair", "(IIII)I"⟩
abbrev cX9_count : ByteArray := prog_1_method_19_code
def yX9_count : MethodName := ⟨RX9, "count", "(I)I"⟩
abbrev cX9_hasProgram : ByteArray := prog_1_method_20_code
def yX9_hasProgram : MethodName := ⟨RX9, "hasProgram", "()Z"⟩
abbrev cX9_within : ByteArray := prog_1_method_21_code
def yX9_within : MethodName := ⟨RX9, "within", "(II)Z"⟩
abbrev cX9_sum : ByteArray := prog_1_method_22_code
def yX9_sum : MethodName := ⟨RX9, "sum", "([I)I"⟩
def RX10 : String := "SealKeeperModel"
def TX10 : u_T := fun k => match k with
  | 0 => ("SealKeeperModel", "thrown", "I", false)
  | 1 => ("SealKeeperModel", "tape", "[I", true)
  | 2 => ("SealKeeperModel", "taped", "I", false)
  | 3 => ("SealKeeperModel", "rules", "[I", true)
  | 4 => ("SealKeeperModel", "bits", "[I", true)
  | 5 => ("SealKeeperModel", "bitMany", "I", false)
  | 6 => ("SealKeeperModel", "fault", "I", false)
  | 7 => ("SealKeeperModel", "has", "Z", false)
  | 8 => ("SealKeeperModel", "methods", "[I", true)
  | 9 => ("SealKeeperModel", "owners", "[I", true)
  | 10 => ("SealKeeperModel", "firsts", "[I", true)
  | 11 => ("SealKeeperModel", "steps", "[I", true)
  | 12 => ("SealKeeperModel", "word", "[I", true)
  | 13 => ("SealKeeperModel", "methodOf", "[I", true)
  | 14 => ("SealKeeperModel", "one", "[I", true)
  | 15 => ("SealKeeperModel", "two", "[I", true)
  | 16 => ("SealKeeperModel", "nextOf", "[I", true)
  | 17 => ("SealKeeperModel", "blockOne", "[I", true)
  | 18 => ("SealKeeperModel", "blockTwo", "[I", true)
  | 19 => ("SealKeeperModel", "deepest", "[I", true)
  | 20 => ("SealKeeperModel", "words", "[Ljava/lang/String;", true)
  | 21 => ("SealKeeperModel", "textEnd", "I", false)
  | 22 => ("SealKeeperModel", "from", "I", false)
  | 23 => ("SealKeeperModel", "to", "I", false)
  | 24 => ("SealKeeperModel", "token", "I", false)
  | 25 => ("SealKeeperModel", "number", "I", false)
  | 26 => ("SealKeeperModel", "wrong", "I", false)
  | 27 => ("SealKeeperModel", "wrongAt", "I", false)
  | 28 => ("SealKeeperModel", "calledAt", "[I", true)
  | 29 => ("SealKeeperModel", "entries", "I", false)
  | 30 => ("SealKeeperModel", "entryKind", "[I", true)
  | 31 => ("SealKeeperModel", "entryOwner", "[I", true)
  | 32 => ("SealKeeperModel", "entryOne", "[I", true)
  | 33 => ("SealKeeperModel", "entryTwo", "[I", true)
  | 34 => ("SealKeeperModel", "entryBelow", "[I", true)
  | 35 => ("SealKeeperModel", "top", "I", false)
  | 36 => ("SealKeeperModel", "slots", "[I", true)
  | 37 => ("SealKeeperModel", "opened", "I", false)
  | 38 => ("SealKeeperModel", "openKind", "[I", true)
  | 39 => ("SealKeeperModel", "openStep", "[I", true)
  | 40 => ("SealKeeperModel", "openTop", "[I", true)
  | 41 => ("SealKeeperModel", "openNext", "[I", true)
  | 42 => ("SealKeeperModel", "openTimes", "[I", true)
  | 43 => ("SealKeeperModel", "at", "I", false)
  | 44 => ("SealKeeperModel", "openMethods", "I", false)
  | 45 => ("SealKeeperModel", "jobMethod", "[I", true)
  | 46 => ("SealKeeperModel", "jobBase", "[I", true)
  | 47 => ("SealKeeperModel", "jobs", "I", false)
  | 48 => ("SealKeeperModel", "jobsBegun", "I", false)
  | 49 => ("SealKeeperModel", "ended", "I", false)
  | 50 => ("SealKeeperModel", "hasRun", "Z", false)
  | 51 => ("SealKeeperModel", "turns", "I", false)
  | 52 => ("SealKeeperModel", "failures", "I", false)
  | 53 => ("SealKeeperModel", "lastFailures", "I", false)
  | 54 => ("SealKeeperModel", "mostMethods", "I", false)
  | 55 => ("SealKeeperModel", "bitsTaken", "I", false)
  | 56 => ("SealKeeperModel", "judged", "I", false)
  | 57 => ("SealKeeperModel", "notes", "[I", true)
  | 58 => ("SealKeeperModel", "noteMany", "I", false)
  | 59 => ("SealKeeperModel", "isKept", "Z", false)
  | 60 => ("SealKeeperModel", "pairs", "I", false)
  | 61 => ("SealKeeperModel", "pairMethod", "[I", true)
  | 62 => ("SealKeeperModel", "pairTable", "[I", true)
  | 63 => ("SealKeeperModel", "pairEnds", "[Z", true)
  | 64 => ("SealKeeperModel", "pairBacks", "[Z", true)
  | 65 => ("SealKeeperModel", "pairFails", "[Z", true)
  | 66 => ("SealKeeperModel", "tables", "[I", true)
  | 67 => ("SealKeeperModel", "called", "[I", true)
  | 68 => ("SealKeeperModel", "isWalked", "[Z", true)
  | 69 => ("SealKeeperModel", "isOpen", "[Z", true)
  | 70 => ("SealKeeperModel", "tooMany", "Z", false)
  | _ => ("SealKeeperModel", "news", "Z", false)
def tyX10 : Nat → FieldType := fun k => match k with
  | 0 => .int
  | 1 => .array .int
  | 2 => .int
  | 3 => .array .int
  | 4 => .array .int
  | 5 => .int
  | 6 => .int
  | 7 => .boolean
  | 8 => .array .int
  | 9 => .array .int
  | 10 => .array .int
  | 11 => .array .int
  | 12 => .array .int
  | 13 => .array .int
  | 14 => .array .int
  | 15 => .array .int
  | 16 => .array .int
  | 17 => .array .int
  | 18 => .array .int
  | 19 => .array .int
  | 20 => .array (.object "java/lang/String")
  | 21 => .int
  | 22 => .int
  | 23 => .int
  | 24 => .int
  | 25 => .int
  | 26 => .int
  | 27 => .int
  | 28 => .array .int
  | 29 => .int
  | 30 => .array .int
  | 31 => .array .int
  | 32 => .array .int
  | 33 => .array .int
  | 34 => .array .int
  | 35 => .int
  | 36 => .array .int
  | 37 => .int
  | 38 => .array .int
  | 39 => .array .int
  | 40 => .array .int
  | 41 => .array .int
  | 42 => .array .int
  | 43 => .int
  | 44 => .int
  | 45 => .array .int
  | 46 => .array .int
  | 47 => .int
  | 48 => .int
  | 49 => .int
  | 50 => .boolean
  | 51 => .int
  | 52 => .int
  | 53 => .int
  | 54 => .int
  | 55 => .int
  | 56 => .int
  | 57 => .array .int
  | 58 => .int
  | 59 => .boolean
  | 60 => .int
  | 61 => .array .int
  | 62 => .array .int
  | 63 => .array .boolean
  | 64 => .array .boolean
  | 65 => .array .boolean
  | 66 => .array .int
  | 67 => .array .int
  | 68 => .array .boolean
  | 69 => .array .boolean
  | 70 => .boolean
  | _ => .boolean
abbrev wsX100 : List Cond := u_ws RX10 TX10 72
theorem nmX10 : ∀ a, a < 72 → ∀ b, b < 72 → a ≠ b → (TX10 a).2.1 ≠ (TX10 b).2.1 := by decide +kernel
theorem tyX10_ok : ∀ k, k < 72 → parseFieldDescriptor (TX10 k).2.2.1 = some (tyX10 k) := by decide +kernel
abbrev cX10_init : ByteArray := prog_12_method_1_code
def yX10_init : MethodName := ⟨RX10, "<init>", "()V"⟩
abbrev cX10_in : ByteArray := prog_12_method_3_code
def yX10_in : MethodName := ⟨RX10, "in", "(III)Z"⟩
abbrev cX10_feed : ByteArray := prog_12_method_4_code
def yX10_feed : MethodName := ⟨RX10, "feed", "(IIIII)I"⟩
abbrev cX10_four : ByteArray := prog_12_method_5_code
def yX10_four : MethodName := ⟨RX10, "four", "(I)V"⟩
abbrev cX10_trim : ByteArray := prog_12_method_6_code
def yX10_trim : MethodName := ⟨RX10, "trim", "(I)I"⟩
abbrev cX10_rule : ByteArray := prog_12_method_7_code
def yX10_rule : MethodName := ⟨RX10, "rule", "(III)I"⟩
abbrev cX10_hasRight : ByteArray := prog_12_method_8_code
def yX10_hasRight : MethodName := ⟨RX10, "hasRight", "(III)Z"⟩
abbrev cX10_bits : ByteArray := prog_12_method_9_code
def yX10_bits : MethodName := ⟨RX10, "bits", "(II)I"⟩
abbrev cX10_forget : ByteArray := prog_12_method_10_code
def yX10_forget : MethodName := ⟨RX10, "forget", "()I"⟩
abbrev cX10_isSmall : ByteArray := prog_12_method_11_code
def yX10_isSmall : MethodName := ⟨RX10, "isSmall", "(I)Z"⟩
abbrev cX10_isDigit : ByteArray := prog_12_method_12_code
def yX10_isDigit : MethodName := ⟨RX10, "isDigit", "(I)Z"⟩
abbrev cX10_wordOf : ByteArray := prog_12_method_13_code
def yX10_wordOf : MethodName := ⟨RX10, "wordOf", "()I"⟩
abbrev cX10_next : ByteArray := prog_12_method_14_code
def yX10_next : MethodName := ⟨RX10, "next", "()V"⟩
abbrev cX10_wrong : ByteArray := prog_12_method_15_code
def yX10_wrong : MethodName := ⟨RX10, "wrong", "(I)V"⟩
abbrev cX10_must : ByteArray := prog_12_method_16_code
def yX10_must : MethodName := ⟨RX10, "must", "(I)V"⟩
abbrev cX10_numberTo : ByteArray := prog_12_method_17_code
def yX10_numberTo : MethodName := ⟨RX10, "numberTo", "(I)I"⟩
abbrev cX10_block : ByteArray := prog_12_method_18_code
def yX10_block : MethodName := ⟨RX10, "block", "(I)I"⟩
abbrev cX10_step : ByteArray := prog_12_method_19_code
def yX10_step : MethodName := ⟨RX10, "step", "(I)I"⟩
abbrev cX10_program : ByteArray := prog_12_method_20_code
def yX10_program : MethodName := ⟨RX10, "program", "()I"⟩
abbrev cX10_fault : ByteArray := prog_12_method_21_code
def yX10_fault : MethodName := ⟨RX10, "fault", "()I"⟩
abbrev cX10_about : ByteArray := prog_12_method_22_code
def yX10_about : MethodName := ⟨RX10, "about", "(I)I"⟩
abbrev cX10_step_ : ByteArray := prog_12_method_23_code
def yX10_step_ : MethodName := ⟨RX10, "step", "(II)I"⟩
abbrev cX10_enter : ByteArray := prog_12_method_24_code
def yX10_enter : MethodName := ⟨RX10, "enter", "(IIII)V"⟩
abbrev cX10_judge : ByteArray := prog_12_method_25_code
def yX10_judge : MethodName := ⟨RX10, "judge", "(III)I"⟩
abbrev cX10_open : ByteArray := prog_12_method_26_code
def yX10_open : MethodName := ⟨RX10, "open", "(IIII)V"⟩
abbrev cX10_openMethod : ByteArray := prog_12_method_27_code
def yX10_openMethod : MethodName := ⟨RX10, "openMethod", "(II)V"⟩
abbrev cX10_close : ByteArray := prog_12_method_28_code
def yX10_close : MethodName := ⟨RX10, "close", "()V"⟩
abbrev cX10_say : ByteArray := prog_12_method_29_code
def yX10_say : MethodName := ⟨RX10, "say", "(I)V"⟩
abbrev cX10_fail : ByteArray := prog_12_method_30_code
def yX10_fail : MethodName := ⟨RX10, "fail", "(II)V"⟩
abbrev cX10_takeBit : ByteArray := prog_12_method_31_code
def yX10_takeBit : MethodName := ⟨RX10, "takeBit", "()I"⟩
abbrev cX10_perform : ByteArray := prog_12_method_32_code
def yX10_perform : MethodName := ⟨RX10, "perform", "(I)V"⟩
abbrev cX10_finish : ByteArray := prog_12_method_33_code
def yX10_finish : MethodName := ⟨RX10, "finish", "()V"⟩
abbrev cX10_doJob : ByteArray := prog_12_method_34_code
def yX10_doJob : MethodName := ⟨RX10, "doJob", "(III)V"⟩
abbrev cX10_run : ByteArray := prog_12_method_35_code
def yX10_run : MethodName := ⟨RX10, "run", "(II)I"⟩
abbrev cX10_ran : ByteArray := prog_12_method_36_code
def yX10_ran : MethodName := ⟨RX10, "ran", "(I)I"⟩
abbrev cX10_note : ByteArray := prog_12_method_37_code
def yX10_note : MethodName := ⟨RX10, "note", "(I)I"⟩
abbrev cX10_pairOf : ByteArray := prog_12_method_38_code
def yX10_pairOf : MethodName := ⟨RX10, "pairOf", "(I)I"⟩
abbrev cX10_walk : ByteArray := prog_12_method_39_code
def yX10_walk : MethodName := ⟨RX10, "walk", "(II)I"⟩
abbrev cX10_cover : ByteArray := prog_12_method_40_code
def yX10_cover : MethodName := ⟨RX10, "cover", "(II)V"⟩
abbrev cX10_same : ByteArray := prog_12_method_41_code
def yX10_same : MethodName := ⟨RX10, "same", "(I)V"⟩
abbrev cX10_walkStep : ByteArray := prog_12_method_42_code
def yX10_walkStep : MethodName := ⟨RX10, "walkStep", "(II)I"⟩
abbrev cX10_isPlain : ByteArray := prog_12_method_43_code
def yX10_isPlain : MethodName := ⟨RX10, "isPlain", "()Z"⟩
abbrev cX10_ahead : ByteArray := prog_12_method_44_code
def yX10_ahead : MethodName := ⟨RX10, "ahead", "(I)I"⟩
abbrev cX10_walked : ByteArray := prog_12_method_45_code
def yX10_walked : MethodName := ⟨RX10, "walked", "(II)I"⟩
abbrev cX10_told : ByteArray := prog_12_method_46_code
def yX10_told : MethodName := ⟨RX10, "told", "(I)I"⟩
abbrev cX10_isAhead : ByteArray := prog_12_method_47_code
def yX10_isAhead : MethodName := ⟨RX10, "isAhead", "(II)Z"⟩
abbrev cX10_pair : ByteArray := prog_12_method_48_code
def yX10_pair : MethodName := ⟨RX10, "pair", "(IIII)I"⟩
abbrev cX10_count : ByteArray := prog_12_method_49_code
def yX10_count : MethodName := ⟨RX10, "count", "(I)I"⟩
def RJ9 : String := "java/lang/Math"
def TJ9 : u_T := fun k => match k with
  | _ => ("", "", "", false)
def tyJ9 : Nat → FieldType := fun k => match k with
  | _ => .int
abbrev wsJ90 : List Cond := u_ws RJ9 TJ9 0
theorem nmJ9 : ∀ a, a < 0 → ∀ b, b < 0 → a ≠ b → (TJ9 a).2.1 ≠ (TJ9 b).2.1 := by decide +kernel
theorem tyJ9_ok : ∀ k, k < 0 → parseFieldDescriptor (TJ9 k).2.2.1 = some (tyJ9 k) := by decide +kernel
abbrev cJ9_max_7cf53 : ByteArray := prog_13_method_65_code
def yJ9_max_7cf53 : MethodName := ⟨RJ9, "max", "(II)I"⟩
abbrev cJ9_min_7cf53 : ByteArray := prog_13_method_69_code
def yJ9_min_7cf53 : MethodName := ⟨RJ9, "min", "(II)I"⟩
def RJ0 : String := "java/lang/String"
def TJ0 : u_T := fun k => match k with
  | _ => ("", "", "", false)
def tyJ0 : Nat → FieldType := fun k => match k with
  | _ => .int
abbrev wsJ00 : List Cond := u_ws RJ0 TJ0 0
theorem nmJ0 : ∀ a, a < 0 → ∀ b, b < 0 → a ≠ b → (TJ0 a).2.1 ≠ (TJ0 b).2.1 := by decide +kernel
theorem tyJ0_ok : ∀ k, k < 0 → parseFieldDescriptor (TJ0 k).2.2.1 = some (tyJ0 k) := by decide +kernel
abbrev cJ0_length_8abf5 : ByteArray := prog_14_method_54_code
def yJ0_length_8abf5 : MethodName := ⟨RJ0, "length", "()I"⟩
abbrev cJ0_charAt_5068e : ByteArray := prog_14_method_56_code
def yJ0_charAt_5068e : MethodName := ⟨RJ0, "charAt", "(I)C"⟩
abbrev cJ0_coder_7d493 : ByteArray := prog_14_method_152_code
def yJ0_coder_7d493 : MethodName := ⟨RJ0, "coder", "()B"⟩
abbrev cJ0_isLatin1_aae02 : ByteArray := prog_14_method_154_code
def yJ0_isLatin1_aae02 : MethodName := ⟨RJ0, "isLatin1", "()Z"⟩
abbrev cJ0_checkIndex_df160 : ByteArray := prog_14_method_155_code
def yJ0_checkIndex_df160 : MethodName := ⟨RJ0, "checkIndex", "(II)V"⟩
def RJ1 : String := "java/lang/StringLatin1"
def TJ1 : u_T := fun k => match k with
  | _ => ("", "", "", false)
def tyJ1 : Nat → FieldType := fun k => match k with
  | _ => .int
abbrev wsJ10 : List Cond := u_ws RJ1 TJ1 0
theorem nmJ1 : ∀ a, a < 0 → ∀ b, b < 0 → a ≠ b → (TJ1 a).2.1 ≠ (TJ1 b).2.1 := by decide +kernel
theorem tyJ1_ok : ∀ k, k < 0 → parseFieldDescriptor (TJ1 k).2.2.1 = some (tyJ1 k) := by decide +kernel
abbrev cJ1_charAt_3b067 : ByteArray := prog_15_method_2_code
def yJ1_charAt_3b067 : MethodName := ⟨RJ1, "charAt", "([BI)C"⟩
def RJ2 : String := "java/lang/StringUTF16"
def TJ2 : u_T := fun k => match k with
  | _ => ("", "", "", false)
def tyJ2 : Nat → FieldType := fun k => match k with
  | _ => .int
abbrev wsJ20 : List Cond := u_ws RJ2 TJ2 0
theorem nmJ2 : ∀ a, a < 0 → ∀ b, b < 0 → a ≠ b → (TJ2 a).2.1 ≠ (TJ2 b).2.1 := by decide +kernel
theorem tyJ2_ok : ∀ k, k < 0 → parseFieldDescriptor (TJ2 k).2.2.1 = some (tyJ2 k) := by decide +kernel
abbrev cJ2_getChar_3b067 : ByteArray := prog_16_method_5_code
def yJ2_getChar_3b067 : MethodName := ⟨RJ2, "getChar", "([BI)C"⟩
abbrev cJ2_length_9d52b : ByteArray := prog_16_method_6_code
def yJ2_length_9d52b : MethodName := ⟨RJ2, "length", "([B)I"⟩
abbrev cJ2_charAt_3b067 : ByteArray := prog_16_method_83_code
def yJ2_charAt_3b067 : MethodName := ⟨RJ2, "charAt", "([BI)C"⟩
abbrev cJ2_checkIndex_2214a : ByteArray := prog_16_method_91_code
def yJ2_checkIndex_2214a : MethodName := ⟨RJ2, "checkIndex", "(I[B)V"⟩
def RJ10 : String := "java/lang/System"
def TJ10 : u_T := fun k => match k with
  | _ => ("", "", "", false)
def tyJ10 : Nat → FieldType := fun k => match k with
  | _ => .int
abbrev wsJ100 : List Cond := u_ws RJ10 TJ10 0
theorem nmJ10 : ∀ a, a < 0 → ∀ b, b < 0 → a ≠ b → (TJ10 a).2.1 ≠ (TJ10 b).2.1 := by decide +kernel
theorem tyJ10_ok : ∀ k, k < 0 → parseFieldDescriptor (TJ10 k).2.2.1 = some (tyJ10 k) := by decide +kernel
def RJ7 : String := "java/util/Arrays"
def TJ7 : u_T := fun k => match k with
  | _ => ("", "", "", false)
def tyJ7 : Nat → FieldType := fun k => match k with
  | _ => .int
abbrev wsJ70 : List Cond := u_ws RJ7 TJ7 0
theorem nmJ7 : ∀ a, a < 0 → ∀ b, b < 0 → a ≠ b → (TJ7 a).2.1 ≠ (TJ7 b).2.1 := by decide +kernel
theorem tyJ7_ok : ∀ k, k < 0 → parseFieldDescriptor (TJ7 k).2.2.1 = some (tyJ7 k) := by decide +kernel
abbrev cJ7_rangeCheck_23922 : ByteArray := prog_18_method_30_code
def yJ7_rangeCheck_23922 : MethodName := ⟨RJ7, "rangeCheck", "(III)V"⟩
abbrev cJ7_fill_d0a16 : ByteArray := prog_18_method_101_code
def yJ7_fill_d0a16 : MethodName := ⟨RJ7, "fill", "([JJ)V"⟩
abbrev cJ7_fill_bad5a : ByteArray := prog_18_method_102_code
def yJ7_fill_bad5a : MethodName := ⟨RJ7, "fill", "([JIIJ)V"⟩
abbrev cJ7_fill_53178 : ByteArray := prog_18_method_103_code
def yJ7_fill_53178 : MethodName := ⟨RJ7, "fill", "([II)V"⟩
def RJ3 : String := "jdk/internal/util/Preconditions"
def TJ3 : u_T := fun k => match k with
  | _ => ("", "", "", false)
def tyJ3 : Nat → FieldType := fun k => match k with
  | _ => .int
abbrev wsJ30 : List Cond := u_ws RJ3 TJ3 0
theorem nmJ3 : ∀ a, a < 0 → ∀ b, b < 0 → a ≠ b → (TJ3 a).2.1 ≠ (TJ3 b).2.1 := by decide +kernel
theorem tyJ3_ok : ∀ k, k < 0 → parseFieldDescriptor (TJ3 k).2.2.1 = some (tyJ3 k) := by decide +kernel
abbrev cJ3_checkIndex_8e157 : ByteArray := prog_19_method_11_code
def yJ3_checkIndex_8e157 : MethodName := ⟨RJ3, "checkIndex", "(IILjava/util/function/BiFunction;)I"⟩
def RL : String := "SealKeeperLaw"
abbrev cL_law : ByteArray := code
def yL_law : MethodName := ⟨RL, "law", "([I)Z"⟩
abbrev vwCl : List vw_C := [(RX0, TX0, 16), (RX1, TX1, 6), (RX2, TX2, 12), (RX3, TX3, 7), (RX4, TX4, 2), (RX5, TX5, 1), (RX6, TX6, 14), (RX7, TX7, 5), (RX8, TX8, 3), (RX9, TX9, 9), (RX10, TX10, 72)]
/-! ===== the String constants: class, pool entry, text ===== -/
def sk_str : List (String × Nat × String) := [("SealKeeper$Tokens", 64, "ask   call  lend  cut   keep  under later try   loop  say   if    eitherback  else  or    on    "), ("SealKeeperModel", 57, "ask"), ("SealKeeperModel", 59, "call"), ("SealKeeperModel", 61, "lend"), ("SealKeeperModel", 63, "cut"), ("SealKeeperModel", 65, "keep"), ("SealKeeperModel", 67, "under"), ("SealKeeperModel", 69, "later"), ("SealKeeperModel", 71, "try"), ("SealKeeperModel", 73, "loop"), ("SealKeeperModel", 75, "say"), ("SealKeeperModel", 77, "if"), ("SealKeeperModel", 79, "either"), ("SealKeeperModel", 81, "back"), ("SealKeeperModel", 83, "on"), ("SealKeeperModel", 85, "else"), ("SealKeeperModel", 87, "or")]
def sk_byt : List (List Int32) := [[97, 115, 107, 32, 32, 32, 99, 97, 108, 108, 32, 32, 108, 101, 110, 100, 32, 32, 99, 117, 116, 32, 32, 32, 107, 101, 101, 112, 32, 32, 117, 110, 100, 101, 114, 32, 108, 97, 116, 101, 114, 32, 116, 114, 121, 32, 32, 32, 108, 111, 111, 112, 32, 32, 115, 97, 121, 32, 32, 32, 105, 102, 32, 32, 32, 32, 101, 105, 116, 104, 101, 114, 98, 97, 99, 107, 32, 32, 101, 108, 115, 101, 32, 32, 111, 114, 32, 32, 32, 32, 111, 110, 32, 32, 32, 32], [97, 115, 107], [99, 97, 108, 108], [108, 101, 110, 100], [99, 117, 116], [107, 101, 101, 112], [117, 110, 100, 101, 114], [108, 97, 116, 101, 114], [116, 114, 121], [108, 111, 111, 112], [115, 97, 121], [105, 102], [101, 105, 116, 104, 101, 114], [98, 97, 99, 107], [111, 110], [101, 108, 115, 101], [111, 114]]
def sk_len : List Nat := [96, 3, 4, 4, 3, 4, 5, 5, 3, 4, 3, 2, 6, 4, 2, 4, 2]
def sk_nw : List Cond := [.methodLinkNest "SealKeeper" 33 yX2_init "SealKeeper", .methodLinkNest "SealKeeper$Reader" 11 yX8_init "SealKeeper", .methodLinkNest "SealKeeper$Runner" 11 yX1_init "SealKeeper", .methodLinkNest "SealKeeper$Row" 25 yX9_within "SealKeeper", .methodLinkNest "SealKeeper$Tokens" 56 yX9_within "SealKeeper", .methodLinkNest "SealKeeper$Program" 49 yX9_within "SealKeeper", .methodLinkNest "SealKeeper$Reader" 82 yX9_within "SealKeeper", .methodLinkNest "SealKeeper$Rules" 21 yX9_within "SealKeeper", .methodLinkNest "SealKeeper$Runner" 118 yX9_within "SealKeeper", .methodLinkNest "SealKeeper$Stacks" 34 yX9_within "SealKeeper", .methodLinkNest "SealKeeper$Foresight" 103 yX9_within "SealKeeper"]
def sk_tab : List (String × List Int) := [("MOST_FIRST", [7, 99, 7, 7, 3, 3, 99, -1, 99, 999, 7, -1, -1]), ("MOST_SECOND", [9, -1, 9, -1, -1, -1, -1, -1, -1, -1, 9, -1, -1]), ("BLOCKS", [0, 0, 1, 1, 0, 1, 0, 2, 1, 0, 2, 2, 0])]
end
section
/-! ===== the abstract machine: ints are Int, cells are numbers, the heap is three functions ===== -/
/-- a value: an int, a long, a reference (the number of its cell) -/
abbrev sk_V : Type := Int ⊕ (Int64 ⊕ Option Nat)
/-- a cell's shape: an object of a class, or an array (0 int, 1 boolean, 2 long, 3 String) of a length -/
abbrev sk_Sh : Type := Nat ⊕ (Nat × Nat)
abbrev sk_SI : Type := Nat → Int → Int
abbrev sk_SL : Type := Nat → Int → Int64
abbrev sk_SR : Type := Nat → Int → Option Nat
abbrev sk_St : Type := sk_SI × sk_SL × sk_SR
/-- an instruction: its place, itself, its length, the next place, what else is known of it -/
abbrev sk_I : Type := Nat × Instr × Nat × Nat × List Nat
/-- a method: its name, bytes, locals, answer's type, instructions in groups under their last place -/
abbrev sk_M : Type := MethodName × ByteArray × Nat × Option FieldType × List (Nat × List sk_I)
/-- where the abstract cells lie: the first cell's address, the tables' numbers, the array types' numbers, what lies outside (addresses), the Strings' byte arrays, the script -/
abbrev sk_En : Type := Nat × va_G × (Nat → ClassId) × (Nat → Nat) × (Nat → Nat) × Nat × (Nat → Int32)
abbrev vi (a : Int) : sk_V := .inl a
abbrev vl (a : Int64) : sk_V := .inr (.inl a)
abbrev vr (k : Nat) : sk_V := .inr (.inr (some k))
def sk_look (pc : Nat) : List sk_I → Option sk_I
  | [] => none
  | e :: r => bif Nat.beq pc e.1 then some e else sk_look pc r
def sk_find (pc : Nat) : List (Nat × List sk_I) → Option sk_I
  | [] => none
  | c :: r => bif Nat.ble pc c.1 then sk_look pc c.2 else sk_find pc r
def sk_ad (E : sk_En) (k : Nat) : Nat := if k < 1000 then E.1 + k else E.2.2.2.1 (k - 1000)
def sk_rv (E : sk_En) (r : Option Nat) : Value := va_rf (r.map (sk_ad E))
def sk_v (E : sk_En) : sk_V → Value
  | .inl i => .int (Int32.ofInt i)
  | .inr (.inl x) => .long x
  | .inr (.inr r) => sk_rv E r
def sk_isR : FieldType → Bool
  | .object _ => true
  | .array _ => true
  | _ => false
def sk_fv (E : sk_En) (σ : sk_St) (k : Nat) (j : Nat) (ty : FieldType) : Value := if sk_isR ty then sk_rv E (σ.2.2 k j) else .int (Int32.ofInt (σ.1 k j))
def sk_tyL : List (Nat → FieldType) := [tyX0, tyX1, tyX2, tyX3, tyX4, tyX5, tyX6, tyX7, tyX8, tyX9, tyX10]
def sk_ty (ci : Nat) : Nat → FieldType := sk_tyL.getD ci tyX0
def sk_C (ci : Nat) : vw_C := vwCl.getD ci ("", TX0, 0)
def sk_pay (E : sk_En) (σ : sk_St) (k tc : Nat) : (Nat → Int32) ⊕ (Nat → Int64) ⊕ (Nat → UInt32) ⊕ (Nat → UInt64) ⊕ (Nat → Option Nat) :=
  if tc = 2 then .inr (.inl (fun j => σ.2.1 k j)) else if tc = 3 then .inr (.inr (.inr (.inr (fun j => (σ.2.2 k j).map (sk_ad E))))) else .inl (fun j => Int32.ofInt (σ.1 k j))
def sk_cell (E : sk_En) (σ : sk_St) (k : Nat) : sk_Sh → va_E
  | .inl ci => .inr (ci, (List.range (sk_C ci).2.2).map (fun j => sk_fv E σ k j (sk_ty ci j)))
  | .inr x => .inl (E.2.2.1 x.1, x.2, sk_pay E σ k x.1)
/-- the world that the abstract heap stands for -/
def sk_w (E : sk_En) (G : List sk_Sh) (σ : sk_St) : va_W := G.mapIdx fun k sh => (E.1 + k, sk_cell E σ k sh)
def sk_A (E : sk_En) : Nat → Prop := fun q => E.1 ≤ q
def sk_tys (E : sk_En) : List (ClassId × FieldType) := [(E.2.2.1 0, .int), (E.2.2.1 1, .boolean), (E.2.2.1 2, .long), (E.2.2.1 3, .object "java/lang/String")]
/-- the good words of the tables -/
def sk_gw : List Cond := lw_tbl.filter goodWord
def sk_sx (E : sk_En) (s : State) : Prop :=
  vk_S 17 sk_len sk_byt E.2.2.2.1 E.2.2.2.2.1 (sk_A E) s s.heap ∧ (∀ (i : Nat) (q : String × Nat × String), sk_str[i]? = some q → vk_R q.1 q.2.1 q.2.2 (E.2.2.2.1 i) s) ∧ va_Z "java/lang/String" "COMPACT_STRINGS" "Z" (.int 1) (sk_A E) s s.heap
def sk_tx (E : sk_En) (s : State) : Prop :=
  ∀ (i : Nat) (q : String × List Int), sk_tab[i]? = some q → va_Z "SealKeeper$Reader" q.1 "[I" (.ref (E.2.2.2.1 (20 + i))) (sk_A E) s s.heap ∧ va_T .int (E.2.2.2.1 (20 + i)) 13 (fun j => .int (Int32.ofInt (q.2.getD j 0))) (sk_A E) s s.heap
def sk_xx (E : sk_En) (s : State) : Prop := va_X (E.2.2.2.1 30) E.2.2.2.2.2.1 E.2.2.2.2.2.2 s s.heap ∧ E.2.2.2.1 30 < s.heap.size ∧ E.2.2.2.1 30 < E.1
/-- what a method may take as known of its start -/
def sk_cx (E : sk_En) (s : State) : Prop :=
  va_K E.2.1 vwCl (sk_tys E) s ∧ (∀ w ∈ sk_nw, va_Nw w s) ∧ va_AO "java/lang/String" s ∧ sk_sx E s ∧ sk_tx E s ∧ sk_xx E s ∧ E.1 ≤ s.heap.size
/-- the heap holds the abstract heap -/
def sk_R (E : sk_En) (G : List sk_Sh) (σ : sk_St) (s : State) (H : Heap) (locs : List Loc) : Prop :=
  va_P E.2.1 vwCl (sk_w E G σ) H ∧ G.length ≤ 1000 ∧ va_S (sk_A E) s.heap H locs
def sk_lv (E : sk_En) : Nat → List (Option sk_V) → List (Nat × Value)
  | _, [] => []
  | i, none :: r => sk_lv E (i + 1) r
  | i, some v :: r => (i, sk_v E v) :: sk_lv E (i + 1) r
/-- the method, its frame's fixed parts, its room for d calls one within the other -/
def sk_F (E : sk_En) (d : Nat) (M : sk_M) (p : Program) (R : Room) (s : State) (m : MethodId) (args : Array Value) (meth : Method) (c : Code) : Prop :=
  p.tables.exec = Jvm.exec ∧ c.code = M.2.1 ∧ meth.sig.returnType = M.2.2.2.1 ∧ c.maxLocals = M.2.2.1 ∧ s.vm.findClass M.1.cls = some m.cls ∧ meth.locks = false ∧ meth.name = M.1.name ∧ (∀ w ∈ sk_gw, w.before args s = true) ∧ sk_cx E s ∧ d ≤ R.frames ∧ 41 * d ≤ R.locals
def sk_fok (own : String) (idx : Nat) (ci j q tc : Nat) : Bool :=
  Nat.blt ci 11 && Nat.blt j (sk_C ci).2.2 && decide (lw_tbl[q]? = some (.fieldLink own idx ((sk_C ci).2.1 j).1 ((sk_C ci).2.1 j).2.1 ((sk_C ci).2.1 j).2.2.1)) && decide (sk_ty ci j = .int ∧ tc = 0 ∨ sk_ty ci j = .boolean ∧ tc = 1 ∨ sk_isR (sk_ty ci j) = true ∧ tc = 3)
def sk_okA (y : MethodName) (pc : Nat) (aux : List Nat) : Instr → Bool
  | .goto off => match aux with | [t] => decide ((pc : Int) + off = (t : Int)) | _ => false
  | .ifCond _ off => match aux with | [t] => decide ((pc : Int) + off = (t : Int)) | _ => false
  | .if_icmp _ off => match aux with | [t] => decide ((pc : Int) + off = (t : Int)) | _ => false
  | .tableswitch d lo hi offs => match aux with | t :: ts => decide ((pc : Int) + d = (t : Int)) && decide (offs.toList.map (fun o => (pc : Int) + o) = ts.map (fun (t : Nat) => (t : Int))) && decide (hi - lo + 1 = (ts.length : Int)) | _ => false
  | .lookupswitch d ps => match aux with | t :: ts => decide ((pc : Int) + d = (t : Int)) && decide (ps.toList.map (fun o => (pc : Int) + o.2) = ts.map (fun (t : Nat) => (t : Int))) | _ => false
  | .bipush n => decide ((Int8.ofInt n).toInt32 = Int32.ofInt n)
  | .sipush n => decide ((Int16.ofInt n).toInt32 = Int32.ofInt n)
  | .getfield idx => match aux with | [ci, j, q, tc] => sk_fok y.cls idx ci j q tc | _ => false
  | .putfield idx => match aux with | [ci, j, q, tc] => sk_fok y.cls idx ci j q tc && (!((sk_C ci).2.1 j).2.2.2 || (decide (y.name = "<init>") && decide (((sk_C ci).2.1 j).1 = y.cls))) | _ => false
  | .getstatic idx => match aux with | [x, q] => decide (lw_tbl[q]? = some (.fieldLink y.cls idx "SealKeeper$Reader" (sk_tab.getD x ("", [])).1 "[I")) && Nat.blt x 3 | _ => false
  | .new idx => match aux with | [ci, q1, q2, q3] => Nat.blt ci 11 && decide (lw_tbl[q1]? = some (.classLink y.cls idx (sk_C ci).1)) && decide (lw_tbl[q2]? = some (.instantiable (sk_C ci).1 (sk_C ci).2.2)) && decide (lw_tbl[q3]? = some (.initialized (sk_C ci).1)) | _ => false
  | .ldc idx => match aux with | [x, q] => decide (sk_str[x]?.map (fun t => (t.1, t.2.1)) = some (y.cls, idx)) || (Nat.beq x 99 && decide (lw_tbl[q]? = some (.constant y.cls idx 1000000))) | _ => false
  | _ => true
/-- the instructions' lengths -/
def sk_il : Instr → Nat
  | .bipush _ => 2
  | .sipush _ => 3
  | .iload _ => 2
  | .lload _ => 2
  | .aload _ => 2
  | .istore _ => 2
  | .lstore _ => 2
  | .astore _ => 2
  | .iinc _ _ => 3
  | .goto _ => 3
  | .ifCond _ _ => 3
  | .if_icmp _ _ => 3
  | .getfield _ => 3
  | .putfield _ => 3
  | .getstatic _ => 3
  | .invokevirtual _ => 3
  | .invokespecial _ => 3
  | .invokestatic _ => 3
  | .new _ => 3
  | .anewarray _ => 3
  | .newarray _ => 2
  | .ldc _ => 2
  | .ldc2_w _ => 3
  | .tableswitch _ _ _ _ => 0
  | .lookupswitch _ _ => 0
  | _ => 1
def sk_okI (M : sk_M) (e : sk_I) : Bool := (Nat.beq (sk_il e.2.1) 0 || Nat.beq (sk_il e.2.1) e.2.2.1) && ( decide (decode M.2.1 e.1 = .ok (e.2.1, e.2.2.1)) && Nat.beq e.2.2.2.1 (e.1 + e.2.2.1) && sk_okA M.1 e.1 e.2.2.2.2 e.2.1)
def sk_ok (M : sk_M) : Prop := ∀ c ∈ M.2.2.2.2, ∀ e ∈ c.2, sk_okI M e = true
/-- the answer v at a return of the method -/
def sk_ret (M : sk_M) (pc : Nat) : Option sk_V → Prop
  | none => decode M.2.1 pc = .ok (.return_, 1) ∧ M.2.2.2.1 = none
  | some (.inl i) => decode M.2.1 pc = .ok (.ireturn, 1) ∧ ∃ ty, M.2.2.2.1 = some ty ∧ narrow ty (.int (Int32.ofInt i)) = .int (Int32.ofInt i)
  | some (.inr (.inl _)) => decode M.2.1 pc = .ok (.lreturn, 1) ∧ M.2.2.2.1 = some .long
  | _ => False
/-- THE JUDGEMENT: from here the method comes to a return at which Q holds of the answer and the abstract heap; d calls one within the other; just mc cells are still made, of at most ms slots -/
def AW (l : Launch) (E : sk_En) (d mc ms : Nat) (M : sk_M) (pc : Nat) (ls : List (Option sk_V)) (st : List sk_V) (G : List sk_Sh) (σ : sk_St) (Q : Option sk_V → List sk_Sh → sk_St → Prop) : Prop :=
  sk_ok M → ∀ (p : Program) (e : Env) (R : Room) (s : State) (m : MethodId) (args : Array Value) (below : List Frame) (meth : Method) (c : Code) (H : Heap) (locs : List Loc) (cells slots : Nat) (Qf : State → Prop) (ar : Array Slot),
    sk_F E d M p R s m args meth c → sk_R E G σ s H locs → lv_has ar M.2.2.1 (sk_lv E 0 ls) → (cells + mc ≤ R.cells ∧ s.heap.size + cells ≤ E.1 + G.length) → slots + ms ≤ R.slots →
    (∀ (v : Option sk_V) (G' : List sk_Sh) (σ' : sk_St) (pc' : Nat) (ar' : Array Slot) (H' : Heap) (locs' : List Loc) (slots' : Nat), Q v G' σ' → sk_R E G' σ' s H' locs' → sk_ret M pc' v → s.heap.size + (cells + mc) ≤ E.1 + G'.length → slots' ≤ R.slots →
      W p l e R s m args below meth c H' locs' (cells + mc) slots' Qf (F0 m pc' ar' ((v.map (sk_v E)).toList))) →
    W p l e R s m args below meth c H locs cells slots Qf (F0 m pc ar (st.map (sk_v E)))
/-! ===== first lemmas ===== -/
theorem sk_look_mem {pc : Nat} {x : sk_I} : ∀ {l : List sk_I}, sk_look pc l = some x → x ∈ l ∧ x.1 = pc
  | [], h => by cases h
  | e :: r, h => by
    unfold sk_look at h
    cases hb : Nat.beq pc e.1 with
    | true =>
      rw [hb] at h
      cases h
      exact ⟨List.mem_cons_self, (Nat.eq_of_beq_eq_true hb).symm⟩
    | false =>
      rw [hb] at h
      have := sk_look_mem h
      exact ⟨List.mem_cons_of_mem _ this.1, this.2⟩
theorem sk_find_mem {pc : Nat} {x : sk_I} : ∀ {l : List (Nat × List sk_I)}, sk_find pc l = some x → (∃ c ∈ l, x ∈ c.2) ∧ x.1 = pc
  | [], h => by cases h
  | c :: r, h => by
    unfold sk_find at h
    cases hb : Nat.ble pc c.1 with
    | true =>
      rw [hb] at h
      have := sk_look_mem h
      exact ⟨⟨c, List.mem_cons_self, this.1⟩, this.2⟩
    | false =>
      rw [hb] at h
      obtain ⟨⟨c', h1, h2⟩, h3⟩ := sk_find_mem h
      exact ⟨⟨c', List.mem_cons_of_mem _ h1, h2⟩, h3⟩
theorem sk_dec {M : sk_M} (hM : sk_ok M) {pc len nxt : Nat} {pc0 : Nat} {ins : Instr} {aux : List Nat} (h : sk_find pc M.2.2.2.2 = some (pc0, ins, len, nxt, aux)) : decode M.2.1 pc = .ok (ins, len) ∧ nxt = pc + len ∧ sk_okA M.1 pc aux ins = true ∧ (sk_il ins = 0 ∨ sk_il ins = len) := by
  obtain ⟨⟨c, h1, h2⟩, h3⟩ := sk_find_mem h
  have := hM c h1 _ h2
  dsimp only at h3
  subst h3
  simp only [sk_okI, Bool.and_eq_true, Bool.or_eq_true, decide_eq_true_eq] at this
  exact ⟨this.2.1.1, Nat.eq_of_beq_eq_true this.2.1.2, this.2.2, this.1.imp Nat.eq_of_beq_eq_true Nat.eq_of_beq_eq_true⟩
theorem sk_w_get (E : sk_En) (G : List sk_Sh) (σ : sk_St) (k : Nat) : (sk_w E G σ)[k]? = (G[k]?).map (fun sh => (E.1 + k, sk_cell E σ k sh)) := by
  simp [sk_w, List.getElem?_mapIdx]
theorem sk_w_at {E : sk_En} {G : List sk_Sh} {σ : sk_St} {k : Nat} {sh : sk_Sh} (h : G[k]? = some sh) : (sk_w E G σ)[k]? = some (E.1 + k, sk_cell E σ k sh) := by
  rw [sk_w_get, h]; rfl
theorem sk_w_D (E : sk_En) (G : List sk_Sh) (σ : sk_St) : va_D (sk_A E) (sk_w E G σ) := by
  refine ⟨fun i j p q hi hj hpq => ?_, fun k q hk => ?_⟩
  · rw [sk_w_get, Option.map_eq_some_iff] at hi hj
    obtain ⟨a, -, rfl⟩ := hi
    obtain ⟨b, -, rfl⟩ := hj
    dsimp only at hpq
    omega
  · rw [sk_w_get, Option.map_eq_some_iff] at hk
    obtain ⟨a, -, rfl⟩ := hk
    exact Nat.le_add_right _ _
theorem sk_w_set {E : sk_En} {G : List sk_Sh} {σ σ' : sk_St} {k : Nat} {sh : sk_Sh} {x : va_E} (h : G[k]? = some sh) (hx : sk_cell E σ' k sh = x) (ho : ∀ (k' : Nat) (sh' : sk_Sh), k' ≠ k → sk_cell E σ' k' sh' = sk_cell E σ k' sh') : (sk_w E G σ).set k (E.1 + k, x) = sk_w E G σ' := by
  apply List.ext_getElem?
  intro i
  rw [List.getElem?_set, sk_w_get, sk_w_get]
  have hl : k < G.length := (List.getElem?_eq_some_iff.mp h).1
  by_cases hik : k = i
  · subst hik
    rw [if_pos rfl, h]
    simp [sk_w, hl, hx]
  · rw [if_neg hik]
    cases hg : G[i]? with
    | none => rfl
    | some sh' => simp [ho i sh' (fun e => hik e.symm)]
theorem sk_at_mem (E : sk_En) : ∀ (ls : List (Option sk_V)) (i k : Nat) (v : sk_V), ls[k]? = some (some v) → (i + k, sk_v E v) ∈ sk_lv E i ls
  | [], i, k, v, h => by simp at h
  | none :: r, i, 0, v, h => by simp at h
  | some w :: r, i, 0, v, h => by
    simp at h
    subst h
    exact List.mem_cons_self
  | none :: r, i, k + 1, v, h => by
    have := sk_at_mem E r (i + 1) k v (by simpa using h)
    rw [show i + (k + 1) = i + 1 + k by omega]
    exact this
  | some w :: r, i, k + 1, v, h => by
    have := sk_at_mem E r (i + 1) k v (by simpa using h)
    rw [show i + (k + 1) = i + 1 + k by omega]
    exact List.mem_cons_of_mem _ this
theorem sk_mem_at (E : sk_En) : ∀ (ls : List (Option sk_V)) (i : Nat) (q : Nat × Value), q ∈ sk_lv E i ls → ∃ (k : Nat) (v : sk_V), q = (i + k, sk_v E v) ∧ ls[k]? = some (some v)
  | [], i, q, h => by cases h
  | none :: r, i, q, h => by
    obtain ⟨k, v, h1, h2⟩ := sk_mem_at E r (i + 1) q h
    exact ⟨k + 1, v, by rw [h1, show i + 1 + k = i + (k + 1) by omega], by simpa using h2⟩
  | some w :: r, i, q, h => by
    rcases List.mem_cons.mp h with h | h
    · exact ⟨0, w, h, by simp⟩
    · obtain ⟨k, v, h1, h2⟩ := sk_mem_at E r (i + 1) q h
      exact ⟨k + 1, v, by rw [h1, show i + 1 + k = i + (k + 1) by omega], by simpa using h2⟩
theorem sk_lget {E : sk_En} {ar : Array Slot} {n : Nat} {ls : List (Option sk_V)} {k : Nat} {v : sk_V} (h : lv_has ar n (sk_lv E 0 ls)) (hk : ls[k]? = some (some v)) : ar[k]? = some (.val (sk_v E v)) := by
  have := h.2.2 _ (sk_at_mem E ls 0 k v hk)
  simpa using this
end
section
/-! ===== what moves from a method's start to a callee's ===== -/
theorem sk_cx_move {E : sk_En} {s U : State} {locs : List Loc} (h : sk_cx E s) (hW : s.WarmedH U.vm) (hS : va_S (sk_A E) s.heap U.heap locs) : sk_cx E U := by
  obtain ⟨hK, hN, hO, ⟨h1, h2, h3⟩, hT, ⟨hX, hX1, hX2⟩, hb⟩ := h
  have hk : ∀ a : Nat, a < s.heap.size → ¬ sk_A E a → U.heap[a]? = s.heap[a]? := hS.2.1
  refine ⟨hK.moved hW.alike, fun w hw => ?_, va_AO.moved hW.alike hO, ⟨(h1.moved hW.alike).kept hk, fun i q hq => (h2 i q hq).warm hW, (h3.moved hW.alike).kept hk⟩, fun i q hq => ⟨((hT i q hq).1.moved hW.alike).kept hk, ((hT i q hq).2.moved hW.alike).kept hk⟩, ⟨(hX.moved hW.alike).kept (hk _ hX1 (Nat.not_le.mpr hX2)), Nat.lt_of_lt_of_le hX1 hS.1, hX2⟩, Nat.le_trans hb hS.1⟩
  have := hN w hw
  simp only [sk_nw, List.mem_cons, List.not_mem_nil, or_false] at hw
  rcases hw with rfl | rfl | rfl | rfl | rfl | rfl | rfl | rfl | rfl | rfl | rfl <;> exact va_Nw.warmM hW this
theorem sk_cx_call {E : sk_En} {U : State} (g : JFrame) (mk : MethodId) (a : Array Value) (h : sk_cx E U) : sk_cx E (U.calling g mk a) := sk_cx_move (U := U.calling g mk a) h (State.WarmedH.refl U) (locs := []) va_S.rf
/-! ===== updates ===== -/
def sk_up (f : Int → Int) (j v : Int) : Int → Int := fun i => if i = j then v else f i
def sk_uI (I : sk_SI) (k : Nat) (j v : Int) : sk_SI := fun k' => if k' = k then sk_up (I k) j v else I k'
def sk_upL (f : Int → Int64) (j : Int) (v : Int64) : Int → Int64 := fun i => if i = j then v else f i
def sk_uL (I : sk_SL) (k : Nat) (j : Int) (v : Int64) : sk_SL := fun k' => if k' = k then sk_upL (I k) j v else I k'
def sk_upR (f : Int → Option Nat) (j : Int) (v : Option Nat) : Int → Option Nat := fun i => if i = j then v else f i
def sk_uR (I : sk_SR) (k : Nat) (j : Int) (v : Option Nat) : sk_SR := fun k' => if k' = k then sk_upR (I k) j v else I k'
theorem sk_cell_o {E : sk_En} {I I' : sk_SI} {L L' : sk_SL} {R R' : sk_SR} {k : Nat} (sh : sk_Sh) (h1 : I' k = I k) (h2 : L' k = L k) (h3 : R' k = R k) : sk_cell E (I', L', R') k sh = sk_cell E (I, L, R) k sh := by
  cases sh with
  | inl ci => simp [sk_cell, sk_fv, h1, h3]
  | inr x => simp [sk_cell, sk_pay, h1, h2, h3]
theorem sk_uI_o {I : sk_SI} {k k' : Nat} {j v : Int} (h : k' ≠ k) : sk_uI I k j v k' = I k' := by simp [sk_uI, h]
theorem sk_uI_s {I : sk_SI} {k : Nat} {j v : Int} : sk_uI I k j v k = sk_up (I k) j v := by simp [sk_uI]
theorem sk_uL_o {I : sk_SL} {k k' : Nat} {j : Int} {v : Int64} (h : k' ≠ k) : sk_uL I k j v k' = I k' := by simp [sk_uL, h]
theorem sk_uL_s {I : sk_SL} {k : Nat} {j : Int} {v : Int64} : sk_uL I k j v k = sk_upL (I k) j v := by simp [sk_uL]
theorem sk_uR_o {I : sk_SR} {k k' : Nat} {j : Int} {v : Option Nat} (h : k' ≠ k) : sk_uR I k j v k' = I k' := by simp [sk_uR, h]
theorem sk_uR_s {I : sk_SR} {k : Nat} {j : Int} {v : Option Nat} : sk_uR I k j v k = sk_upR (I k) j v := by simp [sk_uR]
/-! ===== Int32 and Int ===== -/
theorem sk_io_add (a b : Int) : Int32.ofInt a + Int32.ofInt b = Int32.ofInt (a + b) := (Int32.ofInt_add a b).symm
theorem sk_io_sub (a b : Int) : Int32.ofInt a - Int32.ofInt b = Int32.ofInt (a - b) := (Int32.ofInt_sub a b).symm
theorem sk_io_mul (a b : Int) : Int32.ofInt a * Int32.ofInt b = Int32.ofInt (a * b) := (Int32.ofInt_mul a b).symm
/-- in the range of an int -/
def sk_in (a : Int) : Prop := -2147483648 ≤ a ∧ a ≤ 2147483647
theorem sk_toInt {a : Int} (h : sk_in a) : (Int32.ofInt a).toInt = a := by
  obtain ⟨h1, h2⟩ := h
  exact Int32.toInt_ofInt_of_le (by simpa using h1) (by omega)
theorem sk_lt_iff {a b : Int} (ha : sk_in a) (hb : sk_in b) : Int32.ofInt a < Int32.ofInt b ↔ a < b := by
  rw [Int32.lt_iff_toInt_lt, sk_toInt ha, sk_toInt hb]
theorem sk_le_iff {a b : Int} (ha : sk_in a) (hb : sk_in b) : Int32.ofInt a ≤ Int32.ofInt b ↔ a ≤ b := by
  rw [Int32.le_iff_toInt_le, sk_toInt ha, sk_toInt hb]
theorem sk_eq_iff {a b : Int} (ha : sk_in a) (hb : sk_in b) : Int32.ofInt a = Int32.ofInt b ↔ a = b := by
  rw [← Int32.toInt_inj, sk_toInt ha, sk_toInt hb]
theorem sk_nat {a : Int} (h0 : 0 ≤ a) (h1 : a ≤ 2147483647) : ((Int32.ofInt a).toNatClampNeg : Int) = a := by
  have h : (Int32.ofInt a).toInt = a := sk_toInt ⟨by omega, h1⟩
  rw [Int32.toNatClampNeg, h]
  omega
theorem sk_vin {a : Int} {n : Nat} (h0 : 0 ≤ a) (h1 : a < n) (hn : n < 2147483648) : vp_in (Int32.ofInt a) n := by
  rw [vp_in_iff, sk_toInt ⟨by omega, by omega⟩]
  exact ⟨h0, h1⟩
/-! ===== words and classes ===== -/
theorem sk_wd {q : Nat} {w : Cond} (h : lw_tbl[q]? = some w) (hg : goodWord w = true) : w ∈ sk_gw := List.mem_filter.mpr ⟨List.mem_of_getElem? h, hg⟩
theorem sk_mem_r {ws : List Cond} (ps : List Nat) (hp : ws = ps.filterMap (fun i => lw_tbl[i]?)) (h : ws.all goodWord = true) : ∀ w ∈ ws, w ∈ sk_gw := by
  intro w hw
  have h1 := List.all_eq_true.mp h w hw
  rw [hp] at hw
  obtain ⟨i, -, hi⟩ := List.mem_filterMap.mp hw
  exact sk_wd hi h1
theorem sk_lay0 : ∀ w ∈ u_ws RX0 TX0 16, w ∈ sk_gw := sk_mem_r [379, 381, 383, 385, 387, 389, 391, 393, 395, 397, 399, 401, 403, 405, 407, 409] (by decide +kernel) (by decide +kernel)
theorem sk_lay1 : ∀ w ∈ u_ws RX1 TX1 6, w ∈ sk_gw := sk_mem_r [274, 276, 278, 280, 282, 284] (by decide +kernel) (by decide +kernel)
theorem sk_lay2 : ∀ w ∈ u_ws RX2 TX2 12, w ∈ sk_gw := sk_mem_r [185, 187, 189, 191, 193, 195, 197, 199, 201, 203, 205, 207] (by decide +kernel) (by decide +kernel)
theorem sk_lay3 : ∀ w ∈ u_ws RX3 TX3 7, w ∈ sk_gw := sk_mem_r [241, 243, 245, 247, 249, 251, 253] (by decide +kernel) (by decide +kernel)
theorem sk_lay4 : ∀ w ∈ u_ws RX4 TX4 2, w ∈ sk_gw := sk_mem_r [114, 116] (by decide +kernel) (by decide +kernel)
theorem sk_lay5 : ∀ w ∈ u_ws RX5 TX5 1, w ∈ sk_gw := sk_mem_r [130] (by decide +kernel) (by decide +kernel)
theorem sk_lay6 : ∀ w ∈ u_ws RX6 TX6 14, w ∈ sk_gw := sk_mem_r [325, 327, 329, 331, 333, 335, 337, 339, 341, 343, 345, 347, 349, 351] (by decide +kernel) (by decide +kernel)
theorem sk_lay7 : ∀ w ∈ u_ws RX7 TX7 5, w ∈ sk_gw := sk_mem_r [298, 300, 302, 304, 306] (by decide +kernel) (by decide +kernel)
theorem sk_lay8 : ∀ w ∈ u_ws RX8 TX8 3, w ∈ sk_gw := sk_mem_r [225, 227, 229] (by decide +kernel) (by decide +kernel)
theorem sk_lay9 : ∀ w ∈ u_ws RX9 TX9 9, w ∈ sk_gw := sk_mem_r [423, 425, 427, 429, 431, 433, 435, 437, 439] (by decide +kernel) (by decide +kernel)
theorem sk_lay10 : ∀ w ∈ u_ws RX10 TX10 72, w ∈ sk_gw := sk_mem_r [1083, 1085, 1087, 1089, 1091, 1093, 1095, 1097, 1099, 1101, 1103, 1105, 1107, 1109, 1111, 1113, 1115, 1117, 1119, 1121, 1123, 1125, 1127, 1129, 1131, 1133, 1135, 1137, 1139, 1141, 1143, 1145, 1147, 1149, 1151, 1153, 1155, 1157, 1159, 1161, 1163, 1165, 1167, 1169, 1171, 1173, 1175, 1177, 1179, 1181, 1183, 1185, 1187, 1189, 1191, 1193, 1195, 1197, 1199, 1201, 1203, 1205, 1207, 1209, 1211, 1213, 1215, 1217, 1219, 1221, 1223, 1225] (by decide +kernel) (by decide +kernel)
theorem sk_lays {ci : Nat} (h : ci < 11) : ∀ w ∈ u_ws (sk_C ci).1 (sk_C ci).2.1 (sk_C ci).2.2, w ∈ sk_gw := by
  rcases (show ci = 0 ∨ ci = 1 ∨ ci = 2 ∨ ci = 3 ∨ ci = 4 ∨ ci = 5 ∨ ci = 6 ∨ ci = 7 ∨ ci = 8 ∨ ci = 9 ∨ ci = 10 by omega) with rfl | rfl | rfl | rfl | rfl | rfl | rfl | rfl | rfl | rfl | rfl
  · exact sk_lay0
  · exact sk_lay1
  · exact sk_lay2
  · exact sk_lay3
  · exact sk_lay4
  · exact sk_lay5
  · exact sk_lay6
  · exact sk_lay7
  · exact sk_lay8
  · exact sk_lay9
  · exact sk_lay10
theorem sk_cl {ci : Nat} (h : ci < 11) : vwCl[ci]? = some ((sk_C ci).1, (sk_C ci).2.1, (sk_C ci).2.2) := by
  rcases (show ci = 0 ∨ ci = 1 ∨ ci = 2 ∨ ci = 3 ∨ ci = 4 ∨ ci = 5 ∨ ci = 6 ∨ ci = 7 ∨ ci = 8 ∨ ci = 9 ∨ ci = 10 by omega) with rfl | rfl | rfl | rfl | rfl | rfl | rfl | rfl | rfl | rfl | rfl <;> rfl
theorem sk_tyok {ci : Nat} (h : ci < 11) : ∀ k, k < (sk_C ci).2.2 → parseFieldDescriptor ((sk_C ci).2.1 k).2.2.1 = some (sk_ty ci k) := by
  rcases (show ci = 0 ∨ ci = 1 ∨ ci = 2 ∨ ci = 3 ∨ ci = 4 ∨ ci = 5 ∨ ci = 6 ∨ ci = 7 ∨ ci = 8 ∨ ci = 9 ∨ ci = 10 by omega) with rfl | rfl | rfl | rfl | rfl | rfl | rfl | rfl | rfl | rfl | rfl
  · exact tyX0_ok
  · exact tyX1_ok
  · exact tyX2_ok
  · exact tyX3_ok
  · exact tyX4_ok
  · exact tyX5_ok
  · exact tyX6_ok
  · exact tyX7_ok
  · exact tyX8_ok
  · exact tyX9_ok
  · exact tyX10_ok
theorem sk_nmok {ci : Nat} (h : ci < 11) : ∀ a, a < (sk_C ci).2.2 → ∀ b, b < (sk_C ci).2.2 → a ≠ b → ((sk_C ci).2.1 a).2.1 ≠ ((sk_C ci).2.1 b).2.1 := by
  rcases (show ci = 0 ∨ ci = 1 ∨ ci = 2 ∨ ci = 3 ∨ ci = 4 ∨ ci = 5 ∨ ci = 6 ∨ ci = 7 ∨ ci = 8 ∨ ci = 9 ∨ ci = 10 by omega) with rfl | rfl | rfl | rfl | rfl | rfl | rfl | rfl | rfl | rfl | rfl
  · exact nmX0
  · exact nmX1
  · exact nmX2
  · exact nmX3
  · exact nmX4
  · exact nmX5
  · exact nmX6
  · exact nmX7
  · exact nmX8
  · exact nmX9
  · exact nmX10
theorem sk_fokE {own : String} {idx ci j q tc : Nat} (h : sk_fok own idx ci j q tc = true) : ci < 11 ∧ j < (sk_C ci).2.2 ∧ Cond.fieldLink own idx ((sk_C ci).2.1 j).1 ((sk_C ci).2.1 j).2.1 ((sk_C ci).2.1 j).2.2.1 ∈ sk_gw ∧ (sk_ty ci j = .int ∧ tc = 0 ∨ sk_ty ci j = .boolean ∧ tc = 1 ∨ sk_isR (sk_ty ci j) = true ∧ tc = 3) := by
  simp only [sk_fok, Bool.and_eq_true, decide_eq_true_eq, Nat.blt_eq] at h
  exact ⟨h.1.1.1, h.1.1.2, sk_wd h.1.2 rfl, h.2⟩
theorem sk_vr {E : sk_En} {G : List sk_Sh} {k : Nat} {sh : sk_Sh} (h : G[k]? = some sh) (hG : G.length ≤ 1000) : sk_v E (vr k) = .ref (E.1 + k) := by
  have hk := (List.getElem?_eq_some_iff.mp h).1
  show Value.ref (sk_ad E k) = _
  unfold sk_ad
  rw [if_pos (by omega)]
theorem sk_fs_get {E : sk_En} {σ : sk_St} {k ci j : Nat} (h : j < (sk_C ci).2.2) : ((List.range (sk_C ci).2.2).map (fun j => sk_fv E σ k j (sk_ty ci j)))[j]? = some (sk_fv E σ k j (sk_ty ci j)) := by
  simp [h]
theorem sk_fs_set {E : sk_En} {σ σ' : sk_St} {k ci j : Nat} {v : Value} (hv : sk_fv E σ' k j (sk_ty ci j) = v) (ho : ∀ i : Nat, i ≠ j → sk_fv E σ' k i (sk_ty ci i) = sk_fv E σ k i (sk_ty ci i)) :
    (List.range (sk_C ci).2.2).map (fun j => sk_fv E σ' k j (sk_ty ci j)) = ((List.range (sk_C ci).2.2).map (fun j => sk_fv E σ k j (sk_ty ci j))).set j v := by
  apply List.ext_getElem?
  intro i
  by_cases hi : j = i
  · subst hi
    by_cases hl : j < (sk_C ci).2.2
    · simp [hl, hv]
    · simp [hl]
  · rw [List.getElem?_set_ne hi]
    by_cases hl : i < (sk_C ci).2.2
    · simp [hl, ho i (fun e => hi e.symm)]
    · simp [hl]
end
section
/-! ===== a rule an instruction ===== -/
def sk_and (a b : Int) : Int := (Int32.ofInt a &&& Int32.ofInt b).toInt
def sk_or (a b : Int) : Int := (Int32.ofInt a ||| Int32.ofInt b).toInt
def sk_shr (a b : Int) : Int := (Int32.ofInt a >>> (Int32.ofInt b &&& 31)).toInt
def sk_ushr (a b : Int) : Int := ((Int32.ofInt a).toUInt32 >>> ((Int32.ofInt b).toUInt32 &&& Int32.toUInt32 31)).toInt32.toInt
def sk_lshl (a : Int64) (b : Int) : Int64 := a <<< ((Int32.ofInt b).toInt64 &&& 63)
def sk_lushr (a : Int64) (b : Int) : Int64 := (a.toUInt64 >>> ((Int32.ofInt b).toInt64.toUInt64 &&& Int64.toUInt64 63)).toInt64
def sk_i2l (a : Int) : Int64 := (Int32.ofInt a).toInt64
theorem sk_oi (x : Int32) : Int32.ofInt x.toInt = x := Int32.ofInt_toInt x
theorem sk_and_of (a b : Int) : Int32.ofInt (sk_and a b) = Int32.ofInt a &&& Int32.ofInt b := sk_oi _
theorem sk_or_of (a b : Int) : Int32.ofInt (sk_or a b) = Int32.ofInt a ||| Int32.ofInt b := sk_oi _
theorem sk_shr_of (a b : Int) : Int32.ofInt (sk_shr a b) = Int32.ofInt a >>> (Int32.ofInt b &&& 31) := sk_oi _
theorem sk_ushr_of (a b : Int) : Int32.ofInt (sk_ushr a b) = ((Int32.ofInt a).toUInt32 >>> ((Int32.ofInt b).toUInt32 &&& Int32.toUInt32 31)).toInt32 := sk_oi _
theorem sk_in0 : sk_in 0 := by unfold sk_in; omega
def sk_is1 : sk_V → Bool
  | .inr (.inl _) => false
  | _ => true
theorem sk_cat1 (E : sk_En) (v : sk_V) (h : sk_is1 v = true) : (sk_v E v).category = 1 := by
  match v with
  | .inl i => rfl
  | .inr (.inl x) => cases h
  | .inr (.inr none) => rfl
  | .inr (.inr (some k)) => rfl
section SKR
variable {l : Launch} {E : sk_En} {d mc ms : Nat} {M : sk_M} {pc pc0 len nxt : Nat} {aux : List Nat} {ls : List (Option sk_V)} {st : List sk_V} {G : List sk_Sh} {σ : sk_St} {Q : Option sk_V → List sk_Sh → sk_St → Prop}
theorem AW_iconst {n : Int} (h : sk_find pc M.2.2.2.2 = some (pc0, (.iconst n), len, nxt, aux)) (k : AW l E d mc ms M nxt ls (vi n :: st) G σ Q) : AW l E d mc ms M pc ls (st) G σ Q := by
  intro hM p e R s m args below meth c H locs cells slots Qf ar hF hR hl hc hs hfin
  obtain ⟨hd, rfl, hA, hlen⟩ := sk_dec hM h
  obtain rfl : 1 = len := hlen.resolve_left (by simp [sk_il])
  have k1 := k hM p e R s m args below meth c H locs cells slots Qf ar hF hR hl hc hs hfin
  exact lv_iconst hF.1 hF.2.1 hd rfl k1
theorem AW_bipush {n : Int} (h : sk_find pc M.2.2.2.2 = some (pc0, (.bipush n), len, nxt, aux)) (k : AW l E d mc ms M nxt ls (vi n :: st) G σ Q) : AW l E d mc ms M pc ls (st) G σ Q := by
  intro hM p e R s m args below meth c H locs cells slots Qf ar hF hR hl hc hs hfin
  obtain ⟨hd, rfl, hA, hlen⟩ := sk_dec hM h
  obtain rfl : 2 = len := hlen.resolve_left (by simp [sk_il])
  have k1 := k hM p e R s m args below meth c H locs cells slots Qf ar hF hR hl hc hs hfin
  exact lv_bipush hF.1 hF.2.1 hd (of_decide_eq_true hA) k1
theorem AW_sipush {n : Int} (h : sk_find pc M.2.2.2.2 = some (pc0, (.sipush n), len, nxt, aux)) (k : AW l E d mc ms M nxt ls (vi n :: st) G σ Q) : AW l E d mc ms M pc ls (st) G σ Q := by
  intro hM p e R s m args below meth c H locs cells slots Qf ar hF hR hl hc hs hfin
  obtain ⟨hd, rfl, hA, hlen⟩ := sk_dec hM h
  obtain rfl : 3 = len := hlen.resolve_left (by simp [sk_il])
  have k1 := k hM p e R s m args below meth c H locs cells slots Qf ar hF hR hl hc hs hfin
  exact lv_sipush hF.1 hF.2.1 hd (of_decide_eq_true hA) k1
theorem AW_lconst {n : Fin 2} (h : sk_find pc M.2.2.2.2 = some (pc0, (.lconst n), len, nxt, aux)) (k : AW l E d mc ms M nxt ls (vl (Int64.ofNat (n : Nat)) :: st) G σ Q) : AW l E d mc ms M pc ls (st) G σ Q := by
  intro hM p e R s m args below meth c H locs cells slots Qf ar hF hR hl hc hs hfin
  obtain ⟨hd, rfl, hA, hlen⟩ := sk_dec hM h
  obtain rfl : 1 = len := hlen.resolve_left (by simp [sk_il])
  have k1 := k hM p e R s m args below meth c H locs cells slots Qf ar hF hR hl hc hs hfin
  exact lv_lconst hF.1 hF.2.1 hd rfl k1
theorem AW_iload_n {n : Fin 4} {a : Int} (h : sk_find pc M.2.2.2.2 = some (pc0, (.iload_n n), len, nxt, aux)) (hk : ls[(n : Nat)]? = some (some (vi a))) (k : AW l E d mc ms M nxt ls (vi a :: st) G σ Q) : AW l E d mc ms M pc ls (st) G σ Q := by
  intro hM p e R s m args below meth c H locs cells slots Qf ar hF hR hl hc hs hfin
  obtain ⟨hd, rfl, hA, hlen⟩ := sk_dec hM h
  obtain rfl : 1 = len := hlen.resolve_left (by simp [sk_il])
  have k1 := k hM p e R s m args below meth c H locs cells slots Qf ar hF hR hl hc hs hfin
  exact lv_iload_n hF.1 hF.2.1 hd rfl (sk_lget hl hk) k1
theorem AW_iload {n : Nat} {a : Int} (h : sk_find pc M.2.2.2.2 = some (pc0, (.iload n), len, nxt, aux)) (hk : ls[n]? = some (some (vi a))) (k : AW l E d mc ms M nxt ls (vi a :: st) G σ Q) : AW l E d mc ms M pc ls (st) G σ Q := by
  intro hM p e R s m args below meth c H locs cells slots Qf ar hF hR hl hc hs hfin
  obtain ⟨hd, rfl, hA, hlen⟩ := sk_dec hM h
  obtain rfl : 2 = len := hlen.resolve_left (by simp [sk_il])
  have k1 := k hM p e R s m args below meth c H locs cells slots Qf ar hF hR hl hc hs hfin
  exact lv_iload hF.1 hF.2.1 hd (sk_lget hl hk) k1
theorem AW_lload_n {n : Fin 4} {a : Int64} (h : sk_find pc M.2.2.2.2 = some (pc0, (.lload_n n), len, nxt, aux)) (hk : ls[(n : Nat)]? = some (some (vl a))) (k : AW l E d mc ms M nxt ls (vl a :: st) G σ Q) : AW l E d mc ms M pc ls (st) G σ Q := by
  intro hM p e R s m args below meth c H locs cells slots Qf ar hF hR hl hc hs hfin
  obtain ⟨hd, rfl, hA, hlen⟩ := sk_dec hM h
  obtain rfl : 1 = len := hlen.resolve_left (by simp [sk_il])
  have k1 := k hM p e R s m args below meth c H locs cells slots Qf ar hF hR hl hc hs hfin
  exact lv_lload_n hF.1 hF.2.1 hd rfl (sk_lget hl hk) k1
theorem AW_lload {n : Nat} {a : Int64} (h : sk_find pc M.2.2.2.2 = some (pc0, (.lload n), len, nxt, aux)) (hk : ls[n]? = some (some (vl a))) (k : AW l E d mc ms M nxt ls (vl a :: st) G σ Q) : AW l E d mc ms M pc ls (st) G σ Q := by
  intro hM p e R s m args below meth c H locs cells slots Qf ar hF hR hl hc hs hfin
  obtain ⟨hd, rfl, hA, hlen⟩ := sk_dec hM h
  obtain rfl : 2 = len := hlen.resolve_left (by simp [sk_il])
  have k1 := k hM p e R s m args below meth c H locs cells slots Qf ar hF hR hl hc hs hfin
  exact lv_lload hF.1 hF.2.1 hd (sk_lget hl hk) k1
theorem AW_aload_n {n : Fin 4} {a : Nat} (h : sk_find pc M.2.2.2.2 = some (pc0, (.aload_n n), len, nxt, aux)) (hk : ls[(n : Nat)]? = some (some (vr a))) (k : AW l E d mc ms M nxt ls (vr a :: st) G σ Q) : AW l E d mc ms M pc ls (st) G σ Q := by
  intro hM p e R s m args below meth c H locs cells slots Qf ar hF hR hl hc hs hfin
  obtain ⟨hd, rfl, hA, hlen⟩ := sk_dec hM h
  obtain rfl : 1 = len := hlen.resolve_left (by simp [sk_il])
  have k1 := k hM p e R s m args below meth c H locs cells slots Qf ar hF hR hl hc hs hfin
  exact lv_aload_n hF.1 hF.2.1 hd rfl (sk_lget hl hk) k1
theorem AW_aload {n : Nat} {a : Nat} (h : sk_find pc M.2.2.2.2 = some (pc0, (.aload n), len, nxt, aux)) (hk : ls[n]? = some (some (vr a))) (k : AW l E d mc ms M nxt ls (vr a :: st) G σ Q) : AW l E d mc ms M pc ls (st) G σ Q := by
  intro hM p e R s m args below meth c H locs cells slots Qf ar hF hR hl hc hs hfin
  obtain ⟨hd, rfl, hA, hlen⟩ := sk_dec hM h
  obtain rfl : 2 = len := hlen.resolve_left (by simp [sk_il])
  have k1 := k hM p e R s m args below meth c H locs cells slots Qf ar hF hR hl hc hs hfin
  exact lv_aload hF.1 hF.2.1 hd (sk_lget hl hk) k1
theorem AW_iadd {a b : Int} (h : sk_find pc M.2.2.2.2 = some (pc0, .iadd, len, nxt, aux)) (k : AW l E d mc ms M nxt ls (vi (a + b) :: st) G σ Q) : AW l E d mc ms M pc ls (vi b :: vi a :: st) G σ Q := by
  intro hM p e R s m args below meth c H locs cells slots Qf ar hF hR hl hc hs hfin
  obtain ⟨hd, rfl, hA, hlen⟩ := sk_dec hM h
  obtain rfl : 1 = len := hlen.resolve_left (by simp [sk_il])
  have k1 := k hM p e R s m args below meth c H locs cells slots Qf ar hF hR hl hc hs hfin
  exact lv_iadd hF.1 hF.2.1 hd (by rw [sk_io_add]; exact k1)
theorem AW_isub {a b : Int} (h : sk_find pc M.2.2.2.2 = some (pc0, .isub, len, nxt, aux)) (k : AW l E d mc ms M nxt ls (vi (a - b) :: st) G σ Q) : AW l E d mc ms M pc ls (vi b :: vi a :: st) G σ Q := by
  intro hM p e R s m args below meth c H locs cells slots Qf ar hF hR hl hc hs hfin
  obtain ⟨hd, rfl, hA, hlen⟩ := sk_dec hM h
  obtain rfl : 1 = len := hlen.resolve_left (by simp [sk_il])
  have k1 := k hM p e R s m args below meth c H locs cells slots Qf ar hF hR hl hc hs hfin
  exact lv_isub hF.1 hF.2.1 hd (by rw [sk_io_sub]; exact k1)
theorem AW_imul {a b : Int} (h : sk_find pc M.2.2.2.2 = some (pc0, .imul, len, nxt, aux)) (k : AW l E d mc ms M nxt ls (vi (a * b) :: st) G σ Q) : AW l E d mc ms M pc ls (vi b :: vi a :: st) G σ Q := by
  intro hM p e R s m args below meth c H locs cells slots Qf ar hF hR hl hc hs hfin
  obtain ⟨hd, rfl, hA, hlen⟩ := sk_dec hM h
  obtain rfl : 1 = len := hlen.resolve_left (by simp [sk_il])
  have k1 := k hM p e R s m args below meth c H locs cells slots Qf ar hF hR hl hc hs hfin
  exact lv_imul hF.1 hF.2.1 hd (by rw [sk_io_mul]; exact k1)
theorem AW_iand {a b : Int} (h : sk_find pc M.2.2.2.2 = some (pc0, .iand, len, nxt, aux)) (k : AW l E d mc ms M nxt ls (vi (sk_and a b) :: st) G σ Q) : AW l E d mc ms M pc ls (vi b :: vi a :: st) G σ Q := by
  intro hM p e R s m args below meth c H locs cells slots Qf ar hF hR hl hc hs hfin
  obtain ⟨hd, rfl, hA, hlen⟩ := sk_dec hM h
  obtain rfl : 1 = len := hlen.resolve_left (by simp [sk_il])
  have k1 := k hM p e R s m args below meth c H locs cells slots Qf ar hF hR hl hc hs hfin
  exact lv_iand hF.1 hF.2.1 hd (by rw [← sk_and_of]; exact k1)
theorem AW_ior {a b : Int} (h : sk_find pc M.2.2.2.2 = some (pc0, .ior, len, nxt, aux)) (k : AW l E d mc ms M nxt ls (vi (sk_or a b) :: st) G σ Q) : AW l E d mc ms M pc ls (vi b :: vi a :: st) G σ Q := by
  intro hM p e R s m args below meth c H locs cells slots Qf ar hF hR hl hc hs hfin
  obtain ⟨hd, rfl, hA, hlen⟩ := sk_dec hM h
  obtain rfl : 1 = len := hlen.resolve_left (by simp [sk_il])
  have k1 := k hM p e R s m args below meth c H locs cells slots Qf ar hF hR hl hc hs hfin
  exact lv_ior hF.1 hF.2.1 hd (by rw [← sk_or_of]; exact k1)
theorem AW_ishr {a b : Int} (h : sk_find pc M.2.2.2.2 = some (pc0, .ishr, len, nxt, aux)) (k : AW l E d mc ms M nxt ls (vi (sk_shr a b) :: st) G σ Q) : AW l E d mc ms M pc ls (vi b :: vi a :: st) G σ Q := by
  intro hM p e R s m args below meth c H locs cells slots Qf ar hF hR hl hc hs hfin
  obtain ⟨hd, rfl, hA, hlen⟩ := sk_dec hM h
  obtain rfl : 1 = len := hlen.resolve_left (by simp [sk_il])
  have k1 := k hM p e R s m args below meth c H locs cells slots Qf ar hF hR hl hc hs hfin
  exact lv_ishr hF.1 hF.2.1 hd (by rw [← sk_shr_of]; exact k1)
theorem AW_iushr {a b : Int} (h : sk_find pc M.2.2.2.2 = some (pc0, .iushr, len, nxt, aux)) (k : AW l E d mc ms M nxt ls (vi (sk_ushr a b) :: st) G σ Q) : AW l E d mc ms M pc ls (vi b :: vi a :: st) G σ Q := by
  intro hM p e R s m args below meth c H locs cells slots Qf ar hF hR hl hc hs hfin
  obtain ⟨hd, rfl, hA, hlen⟩ := sk_dec hM h
  obtain rfl : 1 = len := hlen.resolve_left (by simp [sk_il])
  have k1 := k hM p e R s m args below meth c H locs cells slots Qf ar hF hR hl hc hs hfin
  exact lv_iushr hF.1 hF.2.1 hd (sk_ushr_of a b).symm k1
theorem AW_lsub {a b : Int64} (h : sk_find pc M.2.2.2.2 = some (pc0, .lsub, len, nxt, aux)) (k : AW l E d mc ms M nxt ls (vl (a - b) :: st) G σ Q) : AW l E d mc ms M pc ls (vl b :: vl a :: st) G σ Q := by
  intro hM p e R s m args below meth c H locs cells slots Qf ar hF hR hl hc hs hfin
  obtain ⟨hd, rfl, hA, hlen⟩ := sk_dec hM h
  obtain rfl : 1 = len := hlen.resolve_left (by simp [sk_il])
  have k1 := k hM p e R s m args below meth c H locs cells slots Qf ar hF hR hl hc hs hfin
  exact lv_lsub hF.1 hF.2.1 hd k1
theorem AW_lmul {a b : Int64} (h : sk_find pc M.2.2.2.2 = some (pc0, .lmul, len, nxt, aux)) (k : AW l E d mc ms M nxt ls (vl (a * b) :: st) G σ Q) : AW l E d mc ms M pc ls (vl b :: vl a :: st) G σ Q := by
  intro hM p e R s m args below meth c H locs cells slots Qf ar hF hR hl hc hs hfin
  obtain ⟨hd, rfl, hA, hlen⟩ := sk_dec hM h
  obtain rfl : 1 = len := hlen.resolve_left (by simp [sk_il])
  have k1 := k hM p e R s m args below meth c H locs cells slots Qf ar hF hR hl hc hs hfin
  exact lv_lmul hF.1 hF.2.1 hd k1
theorem AW_land {a b : Int64} (h : sk_find pc M.2.2.2.2 = some (pc0, .land, len, nxt, aux)) (k : AW l E d mc ms M nxt ls (vl (a &&& b) :: st) G σ Q) : AW l E d mc ms M pc ls (vl b :: vl a :: st) G σ Q := by
  intro hM p e R s m args below meth c H locs cells slots Qf ar hF hR hl hc hs hfin
  obtain ⟨hd, rfl, hA, hlen⟩ := sk_dec hM h
  obtain rfl : 1 = len := hlen.resolve_left (by simp [sk_il])
  have k1 := k hM p e R s m args below meth c H locs cells slots Qf ar hF hR hl hc hs hfin
  exact lv_land hF.1 hF.2.1 hd k1
theorem AW_lor {a b : Int64} (h : sk_find pc M.2.2.2.2 = some (pc0, .lor, len, nxt, aux)) (k : AW l E d mc ms M nxt ls (vl (a ||| b) :: st) G σ Q) : AW l E d mc ms M pc ls (vl b :: vl a :: st) G σ Q := by
  intro hM p e R s m args below meth c H locs cells slots Qf ar hF hR hl hc hs hfin
  obtain ⟨hd, rfl, hA, hlen⟩ := sk_dec hM h
  obtain rfl : 1 = len := hlen.resolve_left (by simp [sk_il])
  have k1 := k hM p e R s m args below meth c H locs cells slots Qf ar hF hR hl hc hs hfin
  exact lv_lor hF.1 hF.2.1 hd k1
theorem AW_lxor {a b : Int64} (h : sk_find pc M.2.2.2.2 = some (pc0, .lxor, len, nxt, aux)) (k : AW l E d mc ms M nxt ls (vl (a ^^^ b) :: st) G σ Q) : AW l E d mc ms M pc ls (vl b :: vl a :: st) G σ Q := by
  intro hM p e R s m args below meth c H locs cells slots Qf ar hF hR hl hc hs hfin
  obtain ⟨hd, rfl, hA, hlen⟩ := sk_dec hM h
  obtain rfl : 1 = len := hlen.resolve_left (by simp [sk_il])
  have k1 := k hM p e R s m args below meth c H locs cells slots Qf ar hF hR hl hc hs hfin
  exact lv_lxor hF.1 hF.2.1 hd k1
theorem AW_lshl {a : Int64} {b : Int} (h : sk_find pc M.2.2.2.2 = some (pc0, .lshl, len, nxt, aux)) (k : AW l E d mc ms M nxt ls (vl (sk_lshl a b) :: st) G σ Q) : AW l E d mc ms M pc ls (vi b :: vl a :: st) G σ Q := by
  intro hM p e R s m args below meth c H locs cells slots Qf ar hF hR hl hc hs hfin
  obtain ⟨hd, rfl, hA, hlen⟩ := sk_dec hM h
  obtain rfl : 1 = len := hlen.resolve_left (by simp [sk_il])
  have k1 := k hM p e R s m args below meth c H locs cells slots Qf ar hF hR hl hc hs hfin
  exact lv_lshl hF.1 hF.2.1 hd rfl k1
theorem AW_lushr {a : Int64} {b : Int} (h : sk_find pc M.2.2.2.2 = some (pc0, .lushr, len, nxt, aux)) (k : AW l E d mc ms M nxt ls (vl (sk_lushr a b) :: st) G σ Q) : AW l E d mc ms M pc ls (vi b :: vl a :: st) G σ Q := by
  intro hM p e R s m args below meth c H locs cells slots Qf ar hF hR hl hc hs hfin
  obtain ⟨hd, rfl, hA, hlen⟩ := sk_dec hM h
  obtain rfl : 1 = len := hlen.resolve_left (by simp [sk_il])
  have k1 := k hM p e R s m args below meth c H locs cells slots Qf ar hF hR hl hc hs hfin
  exact lv_lushr hF.1 hF.2.1 hd rfl k1
theorem AW_i2l {a : Int} (h : sk_find pc M.2.2.2.2 = some (pc0, .i2l, len, nxt, aux)) (k : AW l E d mc ms M nxt ls (vl (sk_i2l a) :: st) G σ Q) : AW l E d mc ms M pc ls (vi a :: st) G σ Q := by
  intro hM p e R s m args below meth c H locs cells slots Qf ar hF hR hl hc hs hfin
  obtain ⟨hd, rfl, hA, hlen⟩ := sk_dec hM h
  obtain rfl : 1 = len := hlen.resolve_left (by simp [sk_il])
  have k1 := k hM p e R s m args below meth c H locs cells slots Qf ar hF hR hl hc hs hfin
  exact lv_i2l hF.1 hF.2.1 hd rfl k1
theorem AW_l2i {a : Int64} (h : sk_find pc M.2.2.2.2 = some (pc0, .l2i, len, nxt, aux)) (k : AW l E d mc ms M nxt ls (vi a.toInt32.toInt :: st) G σ Q) : AW l E d mc ms M pc ls (vl a :: st) G σ Q := by
  intro hM p e R s m args below meth c H locs cells slots Qf ar hF hR hl hc hs hfin
  obtain ⟨hd, rfl, hA, hlen⟩ := sk_dec hM h
  obtain rfl : 1 = len := hlen.resolve_left (by simp [sk_il])
  have k1 := k hM p e R s m args below meth c H locs cells slots Qf ar hF hR hl hc hs hfin
  exact lv_l2i hF.1 hF.2.1 hd (sk_oi _).symm k1
theorem AW_lcmp {a b : Int64} (h : sk_find pc M.2.2.2.2 = some (pc0, .lcmp, len, nxt, aux)) (k : AW l E d mc ms M nxt ls (vi (lg_cmp a b).toInt :: st) G σ Q) : AW l E d mc ms M pc ls (vl b :: vl a :: st) G σ Q := by
  intro hM p e R s m args below meth c H locs cells slots Qf ar hF hR hl hc hs hfin
  obtain ⟨hd, rfl, hA, hlen⟩ := sk_dec hM h
  obtain rfl : 1 = len := hlen.resolve_left (by simp [sk_il])
  have k1 := k hM p e R s m args below meth c H locs cells slots Qf ar hF hR hl hc hs hfin
  exact W.lcmp hF.1 hF.2.1 hd (by rw [← sk_oi (lg_cmp a b)]; exact k1)
theorem AW_dup {v : sk_V} (h : sk_find pc M.2.2.2.2 = some (pc0, .dup, len, nxt, aux)) (hv : sk_is1 v = true) (k : AW l E d mc ms M nxt ls (v :: v :: st) G σ Q) : AW l E d mc ms M pc ls (v :: st) G σ Q := by
  intro hM p e R s m args below meth c H locs cells slots Qf ar hF hR hl hc hs hfin
  obtain ⟨hd, rfl, hA, hlen⟩ := sk_dec hM h
  obtain rfl : 1 = len := hlen.resolve_left (by simp [sk_il])
  have k1 := k hM p e R s m args below meth c H locs cells slots Qf ar hF hR hl hc hs hfin
  exact lv_dup hF.1 hF.2.1 hd (sk_cat1 E v hv) k1
theorem AW_dup2 {v w : sk_V} (h : sk_find pc M.2.2.2.2 = some (pc0, .dup2, len, nxt, aux)) (hv : sk_is1 v = true) (hw : sk_is1 w = true) (k : AW l E d mc ms M nxt ls (v :: w :: v :: w :: st) G σ Q) : AW l E d mc ms M pc ls (v :: w :: st) G σ Q := by
  intro hM p e R s m args below meth c H locs cells slots Qf ar hF hR hl hc hs hfin
  obtain ⟨hd, rfl, hA, hlen⟩ := sk_dec hM h
  obtain rfl : 1 = len := hlen.resolve_left (by simp [sk_il])
  have k1 := k hM p e R s m args below meth c H locs cells slots Qf ar hF hR hl hc hs hfin
  exact lv_dup2_11 hF.1 hF.2.1 hd (sk_cat1 E v hv) (sk_cat1 E w hw) k1
theorem AW_dup2l {a : Int64} (h : sk_find pc M.2.2.2.2 = some (pc0, .dup2, len, nxt, aux)) (k : AW l E d mc ms M nxt ls (vl a :: vl a :: st) G σ Q) : AW l E d mc ms M pc ls (vl a :: st) G σ Q := by
  intro hM p e R s m args below meth c H locs cells slots Qf ar hF hR hl hc hs hfin
  obtain ⟨hd, rfl, hA, hlen⟩ := sk_dec hM h
  obtain rfl : 1 = len := hlen.resolve_left (by simp [sk_il])
  have k1 := k hM p e R s m args below meth c H locs cells slots Qf ar hF hR hl hc hs hfin
  exact lv_dup2_2 hF.1 hF.2.1 hd rfl k1
theorem AW_pop {v : sk_V} (h : sk_find pc M.2.2.2.2 = some (pc0, .pop, len, nxt, aux)) (hv : sk_is1 v = true) (k : AW l E d mc ms M nxt ls (st) G σ Q) : AW l E d mc ms M pc ls (v :: st) G σ Q := by
  intro hM p e R s m args below meth c H locs cells slots Qf ar hF hR hl hc hs hfin
  obtain ⟨hd, rfl, hA, hlen⟩ := sk_dec hM h
  obtain rfl : 1 = len := hlen.resolve_left (by simp [sk_il])
  have k1 := k hM p e R s m args below meth c H locs cells slots Qf ar hF hR hl hc hs hfin
  exact lv_pop hF.1 hF.2.1 hd (sk_cat1 E v hv) k1
theorem AW_goto {off : Int} {t : Nat} (h : sk_find pc M.2.2.2.2 = some (pc0, (.goto off), len, nxt, [t])) (k : AW l E d mc ms M t ls st G σ Q) : AW l E d mc ms M pc ls st G σ Q := by
  intro hM p e R s m args below meth c H locs cells slots Qf ar hF hR hl hc hs hfin
  obtain ⟨hd, rfl, hA, hlen⟩ := sk_dec hM h
  obtain rfl : 3 = len := hlen.resolve_left (by simp [sk_il])
  exact lv_goto hF.1 hF.2.1 hd (of_decide_eq_true hA) (k hM p e R s m args below meth c H locs cells slots Qf ar hF hR hl hc hs hfin)
theorem AW_ifeq {a : Int} {off : Int} {t : Nat} (h : sk_find pc M.2.2.2.2 = some (pc0, (.ifCond .eq off), len, nxt, [t])) (kt : a = 0 → AW l E d mc ms M t ls st G σ Q) (kf : ¬ (a = 0) → AW l E d mc ms M nxt ls st G σ Q) (ha : sk_in a := by (first | assumption | (unfold sk_in; omega))) : AW l E d mc ms M pc ls (vi a :: st) G σ Q := by
  intro hM p e R s m args below meth c H locs cells slots Qf ar hF hR hl hc hs hfin
  obtain ⟨hd, rfl, hA, hlen⟩ := sk_dec hM h
  obtain rfl : 3 = len := hlen.resolve_left (by simp [sk_il])
  exact lv_if_eq hF.1 hF.2.1 hd (of_decide_eq_true hA) (fun z => kt ((sk_eq_iff ha sk_in0).mp z) hM p e R s m args below meth c H locs cells slots Qf ar hF hR hl hc hs hfin) (fun z => kf (fun y => z ((sk_eq_iff ha sk_in0).mpr y)) hM p e R s m args below meth c H locs cells slots Qf ar hF hR hl hc hs hfin)
theorem AW_ifne {a : Int} {off : Int} {t : Nat} (h : sk_find pc M.2.2.2.2 = some (pc0, (.ifCond .ne off), len, nxt, [t])) (kt : a ≠ 0 → AW l E d mc ms M t ls st G σ Q) (kf : a = 0 → AW l E d mc ms M nxt ls st G σ Q) (ha : sk_in a := by (first | assumption | (unfold sk_in; omega))) : AW l E d mc ms M pc ls (vi a :: st) G σ Q := by
  intro hM p e R s m args below meth c H locs cells slots Qf ar hF hR hl hc hs hfin
  obtain ⟨hd, rfl, hA, hlen⟩ := sk_dec hM h
  obtain rfl : 3 = len := hlen.resolve_left (by simp [sk_il])
  exact lv_if_ne hF.1 hF.2.1 hd (of_decide_eq_true hA) (fun z => kt ((not_congr (sk_eq_iff ha sk_in0)).mp z) hM p e R s m args below meth c H locs cells slots Qf ar hF hR hl hc hs hfin) (fun z => kf (((sk_eq_iff ha sk_in0)).mp z) hM p e R s m args below meth c H locs cells slots Qf ar hF hR hl hc hs hfin)
theorem AW_iflt {a : Int} {off : Int} {t : Nat} (h : sk_find pc M.2.2.2.2 = some (pc0, (.ifCond .lt off), len, nxt, [t])) (kt : a < 0 → AW l E d mc ms M t ls st G σ Q) (kf : ¬ (a < 0) → AW l E d mc ms M nxt ls st G σ Q) (ha : sk_in a := by (first | assumption | (unfold sk_in; omega))) : AW l E d mc ms M pc ls (vi a :: st) G σ Q := by
  intro hM p e R s m args below meth c H locs cells slots Qf ar hF hR hl hc hs hfin
  obtain ⟨hd, rfl, hA, hlen⟩ := sk_dec hM h
  obtain rfl : 3 = len := hlen.resolve_left (by simp [sk_il])
  exact lv_if_lt hF.1 hF.2.1 hd (of_decide_eq_true hA) (fun z => kt ((sk_lt_iff ha sk_in0).mp z) hM p e R s m args below meth c H locs cells slots Qf ar hF hR hl hc hs hfin) (fun z => kf (fun y => z ((sk_lt_iff ha sk_in0).mpr y)) hM p e R s m args below meth c H locs cells slots Qf ar hF hR hl hc hs hfin)
theorem AW_ifge {a : Int} {off : Int} {t : Nat} (h : sk_find pc M.2.2.2.2 = some (pc0, (.ifCond .ge off), len, nxt, [t])) (kt : 0 ≤ a → AW l E d mc ms M t ls st G σ Q) (kf : ¬ (0 ≤ a) → AW l E d mc ms M nxt ls st G σ Q) (ha : sk_in a := by (first | assumption | (unfold sk_in; omega))) : AW l E d mc ms M pc ls (vi a :: st) G σ Q := by
  intro hM p e R s m args below meth c H locs cells slots Qf ar hF hR hl hc hs hfin
  obtain ⟨hd, rfl, hA, hlen⟩ := sk_dec hM h
  obtain rfl : 3 = len := hlen.resolve_left (by simp [sk_il])
  exact lv_if_ge hF.1 hF.2.1 hd (of_decide_eq_true hA) (fun z => kt ((sk_le_iff sk_in0 ha).mp z) hM p e R s m args below meth c H locs cells slots Qf ar hF hR hl hc hs hfin) (fun z => kf (fun y => z ((sk_le_iff sk_in0 ha).mpr y)) hM p e R s m args below meth c H locs cells slots Qf ar hF hR hl hc hs hfin)
theorem AW_ifgt {a : Int} {off : Int} {t : Nat} (h : sk_find pc M.2.2.2.2 = some (pc0, (.ifCond .gt off), len, nxt, [t])) (kt : 0 < a → AW l E d mc ms M t ls st G σ Q) (kf : ¬ (0 < a) → AW l E d mc ms M nxt ls st G σ Q) (ha : sk_in a := by (first | assumption | (unfold sk_in; omega))) : AW l E d mc ms M pc ls (vi a :: st) G σ Q := by
  intro hM p e R s m args below meth c H locs cells slots Qf ar hF hR hl hc hs hfin
  obtain ⟨hd, rfl, hA, hlen⟩ := sk_dec hM h
  obtain rfl : 3 = len := hlen.resolve_left (by simp [sk_il])
  exact lv_if_gt hF.1 hF.2.1 hd (of_decide_eq_true hA) (fun z => kt ((sk_lt_iff sk_in0 ha).mp z) hM p e R s m args below meth c H locs cells slots Qf ar hF hR hl hc hs hfin) (fun z => kf (fun y => z ((sk_lt_iff sk_in0 ha).mpr y)) hM p e R s m args below meth c H locs cells slots Qf ar hF hR hl hc hs hfin)
theorem AW_ifle {a : Int} {off : Int} {t : Nat} (h : sk_find pc M.2.2.2.2 = some (pc0, (.ifCond .le off), len, nxt, [t])) (kt : a ≤ 0 → AW l E d mc ms M t ls st G σ Q) (kf : ¬ (a ≤ 0) → AW l E d mc ms M nxt ls st G σ Q) (ha : sk_in a := by (first | assumption | (unfold sk_in; omega))) : AW l E d mc ms M pc ls (vi a :: st) G σ Q := by
  intro hM p e R s m args below meth c H locs cells slots Qf ar hF hR hl hc hs hfin
  obtain ⟨hd, rfl, hA, hlen⟩ := sk_dec hM h
  obtain rfl : 3 = len := hlen.resolve_left (by simp [sk_il])
  exact lv_if_le hF.1 hF.2.1 hd (of_decide_eq_true hA) (fun z => kt ((sk_le_iff ha sk_in0).mp z) hM p e R s m args below meth c H locs cells slots Qf ar hF hR hl hc hs hfin) (fun z => kf (fun y => z ((sk_le_iff ha sk_in0).mpr y)) hM p e R s m args below meth c H locs cells slots Qf ar hF hR hl hc hs hfin)
theorem AW_iceq {a b : Int} {off : Int} {t : Nat} (h : sk_find pc M.2.2.2.2 = some (pc0, (.if_icmp .eq off), len, nxt, [t])) (kt : a = b → AW l E d mc ms M t ls st G σ Q) (kf : ¬ (a = b) → AW l E d mc ms M nxt ls st G σ Q) (ha : sk_in a := by (first | assumption | (unfold sk_in; omega))) (hb : sk_in b := by (first | assumption | (unfold sk_in; omega))) : AW l E d mc ms M pc ls (vi b :: vi a :: st) G σ Q := by
  intro hM p e R s m args below meth c H locs cells slots Qf ar hF hR hl hc hs hfin
  obtain ⟨hd, rfl, hA, hlen⟩ := sk_dec hM h
  obtain rfl : 3 = len := hlen.resolve_left (by simp [sk_il])
  exact lv_icmp_eq hF.1 hF.2.1 hd (of_decide_eq_true hA) (fun z => kt ((sk_eq_iff ha hb).mp z) hM p e R s m args below meth c H locs cells slots Qf ar hF hR hl hc hs hfin) (fun z => kf (fun y => z ((sk_eq_iff ha hb).mpr y)) hM p e R s m args below meth c H locs cells slots Qf ar hF hR hl hc hs hfin)
theorem AW_icne {a b : Int} {off : Int} {t : Nat} (h : sk_find pc M.2.2.2.2 = some (pc0, (.if_icmp .ne off), len, nxt, [t])) (kt : a ≠ b → AW l E d mc ms M t ls st G σ Q) (kf : a = b → AW l E d mc ms M nxt ls st G σ Q) (ha : sk_in a := by (first | assumption | (unfold sk_in; omega))) (hb : sk_in b := by (first | assumption | (unfold sk_in; omega))) : AW l E d mc ms M pc ls (vi b :: vi a :: st) G σ Q := by
  intro hM p e R s m args below meth c H locs cells slots Qf ar hF hR hl hc hs hfin
  obtain ⟨hd, rfl, hA, hlen⟩ := sk_dec hM h
  obtain rfl : 3 = len := hlen.resolve_left (by simp [sk_il])
  exact lv_icmp_ne hF.1 hF.2.1 hd (of_decide_eq_true hA) (fun z => kt ((not_congr (sk_eq_iff ha hb)).mp z) hM p e R s m args below meth c H locs cells slots Qf ar hF hR hl hc hs hfin) (fun z => kf (((sk_eq_iff ha hb)).mp z) hM p e R s m args below meth c H locs cells slots Qf ar hF hR hl hc hs hfin)
theorem AW_iclt {a b : Int} {off : Int} {t : Nat} (h : sk_find pc M.2.2.2.2 = some (pc0, (.if_icmp .lt off), len, nxt, [t])) (kt : a < b → AW l E d mc ms M t ls st G σ Q) (kf : ¬ (a < b) → AW l E d mc ms M nxt ls st G σ Q) (ha : sk_in a := by (first | assumption | (unfold sk_in; omega))) (hb : sk_in b := by (first | assumption | (unfold sk_in; omega))) : AW l E d mc ms M pc ls (vi b :: vi a :: st) G σ Q := by
  intro hM p e R s m args below meth c H locs cells slots Qf ar hF hR hl hc hs hfin
  obtain ⟨hd, rfl, hA, hlen⟩ := sk_dec hM h
  obtain rfl : 3 = len := hlen.resolve_left (by simp [sk_il])
  exact lv_icmp_lt hF.1 hF.2.1 hd (of_decide_eq_true hA) (fun z => kt ((sk_lt_iff ha hb).mp z) hM p e R s m args below meth c H locs cells slots Qf ar hF hR hl hc hs hfin) (fun z => kf (fun y => z ((sk_lt_iff ha hb).mpr y)) hM p e R s m args below meth c H locs cells slots Qf ar hF hR hl hc hs hfin)
theorem AW_icge {a b : Int} {off : Int} {t : Nat} (h : sk_find pc M.2.2.2.2 = some (pc0, (.if_icmp .ge off), len, nxt, [t])) (kt : b ≤ a → AW l E d mc ms M t ls st G σ Q) (kf : ¬ (b ≤ a) → AW l E d mc ms M nxt ls st G σ Q) (ha : sk_in a := by (first | assumption | (unfold sk_in; omega))) (hb : sk_in b := by (first | assumption | (unfold sk_in; omega))) : AW l E d mc ms M pc ls (vi b :: vi a :: st) G σ Q := by
  intro hM p e R s m args below meth c H locs cells slots Qf ar hF hR hl hc hs hfin
  obtain ⟨hd, rfl, hA, hlen⟩ := sk_dec hM h
  obtain rfl : 3 = len := hlen.resolve_left (by simp [sk_il])
  exact lv_icmp_ge hF.1 hF.2.1 hd (of_decide_eq_true hA) (fun z => kt ((sk_le_iff hb ha).mp z) hM p e R s m args below meth c H locs cells slots Qf ar hF hR hl hc hs hfin) (fun z => kf (fun y => z ((sk_le_iff hb ha).mpr y)) hM p e R s m args below meth c H locs cells slots Qf ar hF hR hl hc hs hfin)
theorem AW_icgt {a b : Int} {off : Int} {t : Nat} (h : sk_find pc M.2.2.2.2 = some (pc0, (.if_icmp .gt off), len, nxt, [t])) (kt : b < a → AW l E d mc ms M t ls st G σ Q) (kf : ¬ (b < a) → AW l E d mc ms M nxt ls st G σ Q) (ha : sk_in a := by (first | assumption | (unfold sk_in; omega))) (hb : sk_in b := by (first | assumption | (unfold sk_in; omega))) : AW l E d mc ms M pc ls (vi b :: vi a :: st) G σ Q := by
  intro hM p e R s m args below meth c H locs cells slots Qf ar hF hR hl hc hs hfin
  obtain ⟨hd, rfl, hA, hlen⟩ := sk_dec hM h
  obtain rfl : 3 = len := hlen.resolve_left (by simp [sk_il])
  exact lv_icmp_gt hF.1 hF.2.1 hd (of_decide_eq_true hA) (fun z => kt ((sk_lt_iff hb ha).mp z) hM p e R s m args below meth c H locs cells slots Qf ar hF hR hl hc hs hfin) (fun z => kf (fun y => z ((sk_lt_iff hb ha).mpr y)) hM p e R s m args below meth c H locs cells slots Qf ar hF hR hl hc hs hfin)
theorem AW_icle {a b : Int} {off : Int} {t : Nat} (h : sk_find pc M.2.2.2.2 = some (pc0, (.if_icmp .le off), len, nxt, [t])) (kt : a ≤ b → AW l E d mc ms M t ls st G σ Q) (kf : ¬ (a ≤ b) → AW l E d mc ms M nxt ls st G σ Q) (ha : sk_in a := by (first | assumption | (unfold sk_in; omega))) (hb : sk_in b := by (first | assumption | (unfold sk_in; omega))) : AW l E d mc ms M pc ls (vi b :: vi a :: st) G σ Q := by
  intro hM p e R s m args below meth c H locs cells slots Qf ar hF hR hl hc hs hfin
  obtain ⟨hd, rfl, hA, hlen⟩ := sk_dec hM h
  obtain rfl : 3 = len := hlen.resolve_left (by simp [sk_il])
  exact lv_icmp_le hF.1 hF.2.1 hd (of_decide_eq_true hA) (fun z => kt ((sk_le_iff ha hb).mp z) hM p e R s m args below meth c H locs cells slots Qf ar hF hR hl hc hs hfin) (fun z => kf (fun y => z ((sk_le_iff ha hb).mpr y)) hM p e R s m args below meth c H locs cells slots Qf ar hF hR hl hc hs hfin)
end SKR
end
section
/-! ===== rules for cells ===== -/
section SKH
variable {l : Launch} {E : sk_En} {d mc ms : Nat} {M : sk_M} {pc pc0 len nxt : Nat} {aux : List Nat} {ls : List (Option sk_V)} {st : List sk_V} {G : List sk_Sh} {I : sk_SI} {L : sk_SL} {J : sk_SR} {Q : Option sk_V → List sk_Sh → sk_St → Prop}
theorem AW_getI {k ci j q tc idx : Nat} (h : sk_find pc M.2.2.2.2 = some (pc0, (.getfield idx), len, nxt, [ci, j, q, tc])) (hG : G[k]? = some (.inl ci)) (htc : Nat.beq tc 3 = false) (kk : AW l E d mc ms M nxt ls (vi (I k j) :: st) G (I, L, J) Q) : AW l E d mc ms M pc ls (vr k :: st) G (I, L, J) Q := by
  intro hM p e R s m args below meth c H locs cells slots Qf ar hF hR hl hc hs hfin
  obtain ⟨hd, rfl, hA, hlen⟩ := sk_dec hM h
  obtain rfl : 3 = len := hlen.resolve_left (by simp [sk_il])
  obtain ⟨f1, f2, f3, f4⟩ := sk_fokE hA
  have hr : sk_isR (sk_ty ci j) = false := by
    rcases f4 with ⟨e1, -⟩ | ⟨e1, -⟩ | ⟨-, e1⟩
    · rw [e1]; rfl
    · rw [e1]; rfl
    · rw [e1] at htc; cases htc
  have k1 := kk hM p e R s m args below meth c H locs cells slots Qf ar hF hR hl hc hs hfin
  show W p l e R s m args below meth c H locs cells slots Qf (F0 m pc ar (sk_v E (vr k) :: st.map (sk_v E)))
  rw [sk_vr hG hR.2.1]
  refine va_get hF.1 hF.2.1 hF.2.2.2.2.2.2.2.1 (sk_lays f1) hF.2.2.2.2.1 hF.2.2.2.2.2.2.2.2.1.1 hR.1 k (sk_w_at hG) (sk_cl f1) j f2 (hF.2.2.2.2.2.2.2.1 _ f3) (fun _ h => h) (v := .int (Int32.ofInt (I k j))) ?_ hd k1
  rw [sk_fs_get f2]
  simp [sk_fv, hr]
theorem AW_getR {k ci j q tc idx : Nat} (h : sk_find pc M.2.2.2.2 = some (pc0, (.getfield idx), len, nxt, [ci, j, q, tc])) (hG : G[k]? = some (.inl ci)) (htc : Nat.beq tc 3 = true) (kk : AW l E d mc ms M nxt ls (.inr (.inr (J k j)) :: st) G (I, L, J) Q) : AW l E d mc ms M pc ls (vr k :: st) G (I, L, J) Q := by
  intro hM p e R s m args below meth c H locs cells slots Qf ar hF hR hl hc hs hfin
  obtain ⟨hd, rfl, hA, hlen⟩ := sk_dec hM h
  obtain rfl : 3 = len := hlen.resolve_left (by simp [sk_il])
  obtain ⟨f1, f2, f3, f4⟩ := sk_fokE hA
  have hr : sk_isR (sk_ty ci j) = true := by
    rcases f4 with ⟨-, e1⟩ | ⟨-, e1⟩ | ⟨e1, -⟩
    · rw [e1] at htc; cases htc
    · rw [e1] at htc; cases htc
    · exact e1
  have k1 := kk hM p e R s m args below meth c H locs cells slots Qf ar hF hR hl hc hs hfin
  show W p l e R s m args below meth c H locs cells slots Qf (F0 m pc ar (sk_v E (vr k) :: st.map (sk_v E)))
  rw [sk_vr hG hR.2.1]
  refine va_get hF.1 hF.2.1 hF.2.2.2.2.2.2.2.1 (sk_lays f1) hF.2.2.2.2.1 hF.2.2.2.2.2.2.2.2.1.1 hR.1 k (sk_w_at hG) (sk_cl f1) j f2 (hF.2.2.2.2.2.2.2.1 _ f3) (fun _ h => h) (v := sk_rv E (J k j)) ?_ hd k1
  rw [sk_fs_get f2]
  simp [sk_fv, hr]
/-- a store into a field, whatever its type -/
theorem sk_putA {σ σ' : sk_St} {v : sk_V} {k ci j q tc idx : Nat} (h : sk_find pc M.2.2.2.2 = some (pc0, (.putfield idx), len, nxt, [ci, j, q, tc])) (hG : G[k]? = some (.inl ci)) (hn : j < (sk_C ci).2.2 → narrow (sk_ty ci j) (sk_v E v) = sk_v E v ∧ fits (sk_ty ci j) (sk_v E v) = true)
    (hv : sk_fok M.1.cls idx ci j q tc = true → sk_fv E σ' k j (sk_ty ci j) = sk_v E v) (ho : ∀ i : Nat, i ≠ j → sk_fv E σ' k i (sk_ty ci i) = sk_fv E σ k i (sk_ty ci i)) (ho2 : ∀ (k' : Nat) (sh' : sk_Sh), k' ≠ k → sk_cell E σ' k' sh' = sk_cell E σ k' sh')
    (kk : AW l E d mc ms M nxt ls st G σ' Q) : AW l E d mc ms M pc ls (v :: vr k :: st) G σ Q := by
  intro hM p e R s m args below meth c H locs cells slots Qf ar hF hR hl hc hs hfin
  obtain ⟨hd, rfl, hA, hlen⟩ := sk_dec hM h
  obtain rfl : 3 = len := hlen.resolve_left (by simp [sk_il])
  have hA : (sk_fok M.1.cls idx ci j q tc && (!((sk_C ci).2.1 j).2.2.2 || (decide (M.1.name = "<init>") && decide (((sk_C ci).2.1 j).1 = M.1.cls)))) = true := hA
  rw [Bool.and_eq_true] at hA
  obtain ⟨f1, f2, f3, f4⟩ := sk_fokE hA.1
  obtain ⟨n1, n2⟩ := hn f2
  have hse : (sk_w E G σ).set k (E.1 + k, .inr (ci, ((List.range (sk_C ci).2.2).map (fun j => sk_fv E σ k j (sk_ty ci j))).set j (sk_v E v))) = sk_w E G σ' := sk_w_set hG (by show Sum.inr _ = _; rw [sk_fs_set (hv hA.1) ho]) ho2
  show W p l e R s m args below meth c H locs cells slots Qf (F0 m pc ar (sk_v E v :: sk_v E (vr k) :: st.map (sk_v E)))
  rw [sk_vr hG hR.2.1]
  have kx : ∀ (H1 : Heap) (locs1 : List Loc), va_P E.2.1 vwCl ((sk_w E G σ).set k (E.1 + k, .inr (ci, ((List.range (sk_C ci).2.2).map (fun j => sk_fv E σ k j (sk_ty ci j))).set j (sk_v E v)))) H1 → va_D (sk_A E) ((sk_w E G σ).set k (E.1 + k, .inr (ci, ((List.range (sk_C ci).2.2).map (fun j => sk_fv E σ k j (sk_ty ci j))).set j (sk_v E v)))) → va_S (sk_A E) s.heap H1 locs1 → W p l e R s m args below meth c H1 locs1 cells slots Qf (F0 m (pc + 3) ar (st.map (sk_v E))) := by
    intro H1 locs1 hP1 _ hS1
    rw [hse] at hP1
    exact kk hM p e R s m args below meth c H1 locs1 cells slots Qf ar hF ⟨hP1, hR.2.1, hS1⟩ hl hc hs hfin
  cases hfi : ((sk_C ci).2.1 j).2.2.2 with
  | false => exact va_put hF.1 hF.2.1 hF.2.2.2.2.2.2.2.1 (sk_lays f1) (sk_ty ci) (sk_tyok f1) (sk_nmok f1) hF.2.2.2.2.1 hF.2.2.2.2.2.2.2.2.1.1 hR.1 (sk_w_D E G σ) hR.2.2 k (sk_w_at hG) (sk_cl f1) j f2 (hF.2.2.2.2.2.2.2.1 _ f3) (fun _ h => h) hfi (sk_tyok f1 j f2) n1 n2 (by simpa using f2) hd kx
  | true =>
    have h2 := hA.2
    rw [hfi] at h2
    simp only [Bool.not_true, Bool.false_or, Bool.and_eq_true, decide_eq_true_eq] at h2
    exact va_putF hF.1 hF.2.1 hF.2.2.2.2.2.2.2.1 (sk_lays f1) (sk_ty ci) (sk_tyok f1) (sk_nmok f1) hF.2.2.2.2.1 hF.2.2.2.2.2.2.2.2.1.1 hR.1 (sk_w_D E G σ) hR.2.2 k (sk_w_at hG) (sk_cl f1) j f2 (hF.2.2.2.2.2.2.2.1 _ f3) (fun _ h => h) hfi (hF.2.2.2.2.2.2.1.trans h2.1) h2.2 (sk_tyok f1 j f2) n1 n2 (by simpa using f2) hd kx
theorem AW_putI {k ci j q idx : Nat} {x : Int} (h : sk_find pc M.2.2.2.2 = some (pc0, (.putfield idx), len, nxt, [ci, j, q, 0])) (hG : G[k]? = some (.inl ci)) (kk : AW l E d mc ms M nxt ls st G (sk_uI I k j x, L, J) Q) : AW l E d mc ms M pc ls (vi x :: vr k :: st) G (I, L, J) Q := by
  intro hM
  have hA := (sk_dec hM h).2.2.1
  have hA : (sk_fok M.1.cls idx ci j q 0 && (!((sk_C ci).2.1 j).2.2.2 || (decide (M.1.name = "<init>") && decide (((sk_C ci).2.1 j).1 = M.1.cls)))) = true := hA
  rw [Bool.and_eq_true] at hA
  obtain ⟨f1, f2, f3, f4⟩ := sk_fokE hA.1
  have ht : sk_ty ci j = .int := by
    rcases f4 with ⟨e1, -⟩ | ⟨-, e1⟩ | ⟨-, e1⟩
    · exact e1
    · cases e1
    · cases e1
  refine sk_putA h hG (fun _ => ?_) (fun _ => ?_) (fun i hi => ?_) (fun k' sh' hk => sk_cell_o sh' (sk_uI_o hk) rfl rfl) kk hM
  · rw [ht]; exact ⟨rfl, rfl⟩
  · rw [ht]; simp [sk_fv, sk_isR, sk_uI, sk_up, sk_v]
  · have : (i : Int) ≠ (j : Int) := fun e => hi (Int.ofNat.inj e)
    simp [sk_fv, sk_uI, sk_up, this]
theorem sk_b01 {x : Int} (h : x = 0 ∨ x = 1) : narrow .boolean (.int (Int32.ofInt x)) = .int (Int32.ofInt x) ∧ fits .boolean (.int (Int32.ofInt x)) = true := by
  rcases h with rfl | rfl <;> exact ⟨rfl, rfl⟩
theorem AW_putZ {k ci j q idx : Nat} {x : Int} (h : sk_find pc M.2.2.2.2 = some (pc0, (.putfield idx), len, nxt, [ci, j, q, 1])) (hG : G[k]? = some (.inl ci)) (hx : x = 0 ∨ x = 1) (kk : AW l E d mc ms M nxt ls st G (sk_uI I k j x, L, J) Q) : AW l E d mc ms M pc ls (vi x :: vr k :: st) G (I, L, J) Q := by
  intro hM
  have hA := (sk_dec hM h).2.2.1
  have hA : (sk_fok M.1.cls idx ci j q 1 && (!((sk_C ci).2.1 j).2.2.2 || (decide (M.1.name = "<init>") && decide (((sk_C ci).2.1 j).1 = M.1.cls)))) = true := hA
  rw [Bool.and_eq_true] at hA
  obtain ⟨f1, f2, f3, f4⟩ := sk_fokE hA.1
  have ht : sk_ty ci j = .boolean := by
    rcases f4 with ⟨-, e1⟩ | ⟨e1, -⟩ | ⟨-, e1⟩
    · cases e1
    · exact e1
    · cases e1
  refine sk_putA h hG (fun _ => ?_) (fun _ => ?_) (fun i hi => ?_) (fun k' sh' hk => sk_cell_o sh' (sk_uI_o hk) rfl rfl) kk hM
  · rw [ht]; exact sk_b01 hx
  · rw [ht]; simp [sk_fv, sk_isR, sk_uI, sk_up, sk_v]
  · have : (i : Int) ≠ (j : Int) := fun e => hi (Int.ofNat.inj e)
    simp [sk_fv, sk_uI, sk_up, this]
theorem AW_putR {k ci j q idx x : Nat} (h : sk_find pc M.2.2.2.2 = some (pc0, (.putfield idx), len, nxt, [ci, j, q, 3])) (hG : G[k]? = some (.inl ci)) (kk : AW l E d mc ms M nxt ls st G (I, L, sk_uR J k j (some x)) Q) : AW l E d mc ms M pc ls (vr x :: vr k :: st) G (I, L, J) Q := by
  intro hM
  have hA := (sk_dec hM h).2.2.1
  have hA : (sk_fok M.1.cls idx ci j q 3 && (!((sk_C ci).2.1 j).2.2.2 || (decide (M.1.name = "<init>") && decide (((sk_C ci).2.1 j).1 = M.1.cls)))) = true := hA
  rw [Bool.and_eq_true] at hA
  obtain ⟨f1, f2, f3, f4⟩ := sk_fokE hA.1
  have ht : sk_isR (sk_ty ci j) = true := by
    rcases f4 with ⟨-, e1⟩ | ⟨-, e1⟩ | ⟨e1, -⟩
    · cases e1
    · cases e1
    · exact e1
  refine sk_putA h hG (fun _ => ?_) (fun _ => ?_) (fun i hi => ?_) (fun k' sh' hk => sk_cell_o sh' rfl rfl (sk_uR_o hk)) kk hM
  · generalize sk_ty ci j = ty at ht
    cases ty <;> first | exact ⟨rfl, rfl⟩ | cases ht
  · simp [sk_fv, ht, sk_uR, sk_upR, sk_v]
  · have : (i : Int) ≠ (j : Int) := fun e => hi (Int.ofNat.inj e)
    simp [sk_fv, sk_uR, sk_upR, this]
/-! arrays -/
theorem sk_cn (a : Int) (h0 : 0 ≤ a) {n : Nat} (h : a < n) (hn : n < 2147483648) : ((Int32.ofInt a).toNatClampNeg : Int) = a := sk_nat h0 (by omega)
theorem AW_iald {k n : Nat} {i : Int} (h : sk_find pc M.2.2.2.2 = some (pc0, .iaload, len, nxt, aux)) (hG : G[k]? = some (.inr (0, n))) (hi : 0 ≤ i ∧ i < n) (hn : n < 2147483648) (kk : AW l E d mc ms M nxt ls (vi (I k i) :: st) G (I, L, J) Q) : AW l E d mc ms M pc ls (vi i :: vr k :: st) G (I, L, J) Q := by
  intro hM p e R s m args below meth c H locs cells slots Qf ar hF hR hl hc hs hfin
  obtain ⟨hd, rfl, hA, hlen⟩ := sk_dec hM h
  obtain rfl : 1 = len := hlen.resolve_left (by simp [sk_il])
  have k1 := kk hM p e R s m args below meth c H locs cells slots Qf ar hF hR hl hc hs hfin
  show W p l e R s m args below meth c H locs cells slots Qf (F0 m pc ar (.int (Int32.ofInt i) :: sk_v E (vr k) :: st.map (sk_v E)))
  rw [sk_vr hG hR.2.1]
  refine va_iald hF.1 hF.2.1 hF.2.2.2.2.2.2.2.2.1.1 hR.1 k 0 (sk_w_at hG) rfl (sk_vin hi.1 hi.2 hn) hd ?_
  dsimp only
  rw [sk_cn i hi.1 hi.2 hn]
  exact k1
theorem AW_zald {k n : Nat} {i : Int} (h : sk_find pc M.2.2.2.2 = some (pc0, .baload, len, nxt, aux)) (hG : G[k]? = some (.inr (1, n))) (hi : 0 ≤ i ∧ i < n) (hn : n < 2147483648) (kk : AW l E d mc ms M nxt ls (vi (I k i) :: st) G (I, L, J) Q) : AW l E d mc ms M pc ls (vi i :: vr k :: st) G (I, L, J) Q := by
  intro hM p e R s m args below meth c H locs cells slots Qf ar hF hR hl hc hs hfin
  obtain ⟨hd, rfl, hA, hlen⟩ := sk_dec hM h
  obtain rfl : 1 = len := hlen.resolve_left (by simp [sk_il])
  have k1 := kk hM p e R s m args below meth c H locs cells slots Qf ar hF hR hl hc hs hfin
  show W p l e R s m args below meth c H locs cells slots Qf (F0 m pc ar (.int (Int32.ofInt i) :: sk_v E (vr k) :: st.map (sk_v E)))
  rw [sk_vr hG hR.2.1]
  refine va_zald hF.1 hF.2.1 hF.2.2.2.2.2.2.2.2.1.1 hR.1 k 1 (sk_w_at hG) rfl (sk_vin hi.1 hi.2 hn) hd ?_
  dsimp only
  rw [sk_cn i hi.1 hi.2 hn]
  exact k1
theorem AW_lald {k n : Nat} {i : Int} (h : sk_find pc M.2.2.2.2 = some (pc0, .laload, len, nxt, aux)) (hG : G[k]? = some (.inr (2, n))) (hi : 0 ≤ i ∧ i < n) (hn : n < 2147483648) (kk : AW l E d mc ms M nxt ls (vl (L k i) :: st) G (I, L, J) Q) : AW l E d mc ms M pc ls (vi i :: vr k :: st) G (I, L, J) Q := by
  intro hM p e R s m args below meth c H locs cells slots Qf ar hF hR hl hc hs hfin
  obtain ⟨hd, rfl, hA, hlen⟩ := sk_dec hM h
  obtain rfl : 1 = len := hlen.resolve_left (by simp [sk_il])
  have k1 := kk hM p e R s m args below meth c H locs cells slots Qf ar hF hR hl hc hs hfin
  show W p l e R s m args below meth c H locs cells slots Qf (F0 m pc ar (.int (Int32.ofInt i) :: sk_v E (vr k) :: st.map (sk_v E)))
  rw [sk_vr hG hR.2.1]
  refine va_lald hF.1 hF.2.1 hF.2.2.2.2.2.2.2.2.1.1 hR.1 k 2 (sk_w_at hG) rfl (sk_vin hi.1 hi.2 hn) hd ?_
  dsimp only
  rw [sk_cn i hi.1 hi.2 hn]
  exact k1
theorem AW_aald {k n : Nat} {i : Int} {r : Nat} (h : sk_find pc M.2.2.2.2 = some (pc0, .aaload, len, nxt, aux)) (hG : G[k]? = some (.inr (3, n))) (hi : 0 ≤ i ∧ i < n) (hn : n < 2147483648) (hr : J k i = some r) (kk : AW l E d mc ms M nxt ls (vr r :: st) G (I, L, J) Q) : AW l E d mc ms M pc ls (vi i :: vr k :: st) G (I, L, J) Q := by
  intro hM p e R s m args below meth c H locs cells slots Qf ar hF hR hl hc hs hfin
  obtain ⟨hd, rfl, hA, hlen⟩ := sk_dec hM h
  obtain rfl : 1 = len := hlen.resolve_left (by simp [sk_il])
  have k1 := kk hM p e R s m args below meth c H locs cells slots Qf ar hF hR hl hc hs hfin
  show W p l e R s m args below meth c H locs cells slots Qf (F0 m pc ar (.int (Int32.ofInt i) :: sk_v E (vr k) :: st.map (sk_v E)))
  rw [sk_vr hG hR.2.1]
  refine va_aldq hF.1 hF.2.1 hF.2.2.2.2.2.2.2.2.1.1 hR.1 k 3 (sk_w_at hG) rfl (sk_vin hi.1 hi.2 hn) hd ?_
  dsimp only
  rw [sk_cn i hi.1 hi.2 hn, hr]
  exact k1
theorem AW_iast {k n : Nat} {i x : Int} (h : sk_find pc M.2.2.2.2 = some (pc0, .iastore, len, nxt, aux)) (hG : G[k]? = some (.inr (0, n))) (hi : 0 ≤ i ∧ i < n) (hn : n < 2147483648) (kk : AW l E d mc ms M nxt ls st G (sk_uI I k i x, L, J) Q) : AW l E d mc ms M pc ls (vi x :: vi i :: vr k :: st) G (I, L, J) Q := by
  intro hM p e R s m args below meth c H locs cells slots Qf ar hF hR hl hc hs hfin
  obtain ⟨hd, rfl, hA, hlen⟩ := sk_dec hM h
  obtain rfl : 1 = len := hlen.resolve_left (by simp [sk_il])
  show W p l e R s m args below meth c H locs cells slots Qf (F0 m pc ar (.int (Int32.ofInt x) :: .int (Int32.ofInt i) :: sk_v E (vr k) :: st.map (sk_v E)))
  rw [sk_vr hG hR.2.1]
  refine va_iast hF.1 hF.2.1 hF.2.2.2.2.2.2.2.2.1.1 hR.1 (sk_w_D E G (I, L, J)) hR.2.2 k 0 (sk_w_at hG) rfl (sk_vin hi.1 hi.2 hn) hd (fun H1 locs1 hP1 _ hS1 => ?_)
  rw [sk_w_set (σ' := (sk_uI I k i x, L, J)) hG ?_ (fun k' sh' hk => sk_cell_o sh' (sk_uI_o hk) rfl rfl)] at hP1
  · exact kk hM p e R s m args below meth c H1 locs1 cells slots Qf ar hF ⟨hP1, hR.2.1, hS1⟩ hl hc hs hfin
  · show Sum.inl _ = _
    congr 3
    show Sum.inl _ = _
    congr 1
    funext j
    have := sk_cn i hi.1 hi.2 hn
    simp only [sk_uI_s, sk_up, upd]
    by_cases hj : (j : Int) = i
    · rw [if_pos hj, if_pos (by omega)]
    · rw [if_neg hj, if_neg (by omega)]
theorem AW_zast {k n : Nat} {i x : Int} (h : sk_find pc M.2.2.2.2 = some (pc0, .bastore, len, nxt, aux)) (hG : G[k]? = some (.inr (1, n))) (hi : 0 ≤ i ∧ i < n) (hn : n < 2147483648) (hx : x = 0 ∨ x = 1) (kk : AW l E d mc ms M nxt ls st G (sk_uI I k i x, L, J) Q) : AW l E d mc ms M pc ls (vi x :: vi i :: vr k :: st) G (I, L, J) Q := by
  intro hM p e R s m args below meth c H locs cells slots Qf ar hF hR hl hc hs hfin
  obtain ⟨hd, rfl, hA, hlen⟩ := sk_dec hM h
  obtain rfl : 1 = len := hlen.resolve_left (by simp [sk_il])
  show W p l e R s m args below meth c H locs cells slots Qf (F0 m pc ar (.int (Int32.ofInt x) :: .int (Int32.ofInt i) :: sk_v E (vr k) :: st.map (sk_v E)))
  rw [sk_vr hG hR.2.1]
  refine va_zast hF.1 hF.2.1 hF.2.2.2.2.2.2.2.2.1.1 hR.1 (sk_w_D E G (I, L, J)) hR.2.2 k 1 (sk_w_at hG) rfl (sk_vin hi.1 hi.2 hn) hd (fun H1 locs1 hP1 _ hS1 => ?_)
  have hxn : vp_nar .boolean (Int32.ofInt x) = Int32.ofInt x := by rcases hx with rfl | rfl <;> rfl
  rw [hxn] at hP1
  rw [sk_w_set (σ' := (sk_uI I k i x, L, J)) hG ?_ (fun k' sh' hk => sk_cell_o sh' (sk_uI_o hk) rfl rfl)] at hP1
  · exact kk hM p e R s m args below meth c H1 locs1 cells slots Qf ar hF ⟨hP1, hR.2.1, hS1⟩ hl hc hs hfin
  · show Sum.inl _ = _
    congr 3
    show Sum.inl _ = _
    congr 1
    funext j
    have := sk_cn i hi.1 hi.2 hn
    simp only [sk_uI_s, sk_up, upd]
    by_cases hj : (j : Int) = i
    · rw [if_pos hj, if_pos (by omega)]
    · rw [if_neg hj, if_neg (by omega)]
theorem AW_last {k n : Nat} {i : Int} {x : Int64} (h : sk_find pc M.2.2.2.2 = some (pc0, .lastore, len, nxt, aux)) (hG : G[k]? = some (.inr (2, n))) (hi : 0 ≤ i ∧ i < n) (hn : n < 2147483648) (kk : AW l E d mc ms M nxt ls st G (I, sk_uL L k i x, J) Q) : AW l E d mc ms M pc ls (vl x :: vi i :: vr k :: st) G (I, L, J) Q := by
  intro hM p e R s m args below meth c H locs cells slots Qf ar hF hR hl hc hs hfin
  obtain ⟨hd, rfl, hA, hlen⟩ := sk_dec hM h
  obtain rfl : 1 = len := hlen.resolve_left (by simp [sk_il])
  show W p l e R s m args below meth c H locs cells slots Qf (F0 m pc ar (.long x :: .int (Int32.ofInt i) :: sk_v E (vr k) :: st.map (sk_v E)))
  rw [sk_vr hG hR.2.1]
  refine va_last hF.1 hF.2.1 hF.2.2.2.2.2.2.2.2.1.1 hR.1 (sk_w_D E G (I, L, J)) hR.2.2 k 2 (sk_w_at hG) rfl (sk_vin hi.1 hi.2 hn) hd (fun H1 locs1 hP1 _ hS1 => ?_)
  rw [sk_w_set (σ' := (I, sk_uL L k i x, J)) hG ?_ (fun k' sh' hk => sk_cell_o sh' rfl (sk_uL_o hk) rfl)] at hP1
  · exact kk hM p e R s m args below meth c H1 locs1 cells slots Qf ar hF ⟨hP1, hR.2.1, hS1⟩ hl hc hs hfin
  · show Sum.inl _ = _
    congr 3
    show Sum.inr (Sum.inl _) = _
    congr 2
    funext j
    have := sk_cn i hi.1 hi.2 hn
    simp only [sk_uL_s, sk_upL, vp_updL]
    by_cases hj : (j : Int) = i
    · rw [if_pos hj, if_pos (by omega)]
    · rw [if_neg hj, if_neg (by omega)]
theorem AW_alen {σ : sk_St} {k tc n : Nat} (h : sk_find pc M.2.2.2.2 = some (pc0, .arraylength, len, nxt, aux)) (hG : G[k]? = some (.inr (tc, n))) (htc : Nat.blt tc 4 = true) (kk : AW l E d mc ms M nxt ls (vi (n : Int) :: st) G σ Q) : AW l E d mc ms M pc ls (vr k :: st) G σ Q := by
  intro hM p e R s m args below meth c H locs cells slots Qf ar hF hR hl hc hs hfin
  obtain ⟨hd, rfl, hA, hlen⟩ := sk_dec hM h
  obtain rfl : 1 = len := hlen.resolve_left (by simp [sk_il])
  have k1 := kk hM p e R s m args below meth c H locs cells slots Qf ar hF hR hl hc hs hfin
  show W p l e R s m args below meth c H locs cells slots Qf (F0 m pc ar (sk_v E (vr k) :: st.map (sk_v E)))
  rw [sk_vr hG hR.2.1]
  have ht : ∃ ty, (sk_tys E)[tc]? = some (E.2.2.1 tc, ty) := by
    rw [Nat.blt_eq] at htc
    rcases (show tc = 0 ∨ tc = 1 ∨ tc = 2 ∨ tc = 3 by omega) with rfl | rfl | rfl | rfl <;> exact ⟨_, rfl⟩
  obtain ⟨ty, ht⟩ := ht
  exact va_alen hF.1 hF.2.1 hF.2.2.2.2.2.2.2.2.1.1 hR.1 k tc (sk_w_at hG) ht (v := Int32.ofInt (n : Int)) (Int32.ofInt_eq_ofNat ▸ rfl) hd k1
end SKH
end
section
/-! ===== stores into locals ===== -/
def sk_k1 : Option sk_V → Option sk_V
  | some (.inr (.inl _)) => none
  | a => a
def sk_ls : List (Option sk_V) → Nat → sk_V → List (Option sk_V)
  | [], _, _ => []
  | _ :: r, 0, v => some v :: r
  | a :: r, 1, v => sk_k1 a :: sk_ls r 0 v
  | a :: r, n + 2, v => a :: sk_ls r (n + 1) v
def sk_lsL : List (Option sk_V) → Nat → sk_V → List (Option sk_V)
  | [], _, _ => []
  | [_], 0, v => [some v]
  | _ :: _ :: r, 0, v => some v :: none :: r
  | a :: r, 1, v => sk_k1 a :: sk_lsL r 0 v
  | a :: r, n + 2, v => a :: sk_lsL r (n + 1) v
theorem sk_k1_e {a : Option sk_V} {w : sk_V} (h : sk_k1 a = some w) : a = some w ∧ sk_is1 w = true := by
  match a with
  | none => cases h
  | some (.inl i) => cases h; exact ⟨rfl, rfl⟩
  | some (.inr (.inl x)) => cases h
  | some (.inr (.inr r)) => cases h; exact ⟨rfl, rfl⟩
theorem sk_ls_get : ∀ (ls : List (Option sk_V)) (i : Nat) (v : sk_V) (k : Nat) (w : sk_V), (sk_ls ls i v)[k]? = some (some w) → (k = i ∧ w = v) ∨ (k ≠ i ∧ ls[k]? = some (some w) ∧ (k + 1 = i → sk_is1 w = true))
  | [], i, v, k, w, h => by simp [sk_ls] at h
  | a :: r, 0, v, 0, w, h => by simp [sk_ls] at h; exact Or.inl ⟨rfl, h.symm⟩
  | a :: r, 0, v, k + 1, w, h => by simp [sk_ls] at h; exact Or.inr ⟨by omega, by simpa using h, fun e => by omega⟩
  | a :: r, 1, v, 0, w, h => by
    simp [sk_ls] at h
    have := sk_k1_e h
    exact Or.inr ⟨by omega, by simp [this.1], fun _ => this.2⟩
  | a :: r, 1, v, k + 1, w, h => by
    simp only [sk_ls, List.getElem?_cons_succ] at h
    rcases sk_ls_get r 0 v k w h with ⟨h1, h2⟩ | ⟨h1, h2, h3⟩
    · exact Or.inl ⟨by omega, h2⟩
    · exact Or.inr ⟨by omega, by simpa using h2, fun e => by omega⟩
  | a :: r, n + 2, v, 0, w, h => by
    simp [sk_ls] at h
    exact Or.inr ⟨by omega, by simp [h], fun e => by omega⟩
  | a :: r, n + 2, v, k + 1, w, h => by
    simp only [sk_ls, List.getElem?_cons_succ] at h
    rcases sk_ls_get r (n + 1) v k w h with ⟨h1, h2⟩ | ⟨h1, h2, h3⟩
    · exact Or.inl ⟨by omega, h2⟩
    · exact Or.inr ⟨by omega, by simpa using h2, fun e => h3 (by omega)⟩
theorem sk_lsL_get : ∀ (ls : List (Option sk_V)) (i : Nat) (v : sk_V) (k : Nat) (w : sk_V), (sk_lsL ls i v)[k]? = some (some w) → (k = i ∧ w = v) ∨ (k ≠ i ∧ k ≠ i + 1 ∧ ls[k]? = some (some w) ∧ (k + 1 = i → sk_is1 w = true))
  | [], i, v, k, w, h => by simp [sk_lsL] at h
  | [a], 0, v, 0, w, h => by simp [sk_lsL] at h; exact Or.inl ⟨rfl, h.symm⟩
  | [a], 0, v, k + 1, w, h => by simp [sk_lsL] at h
  | a :: b :: r, 0, v, 0, w, h => by simp [sk_lsL] at h; exact Or.inl ⟨rfl, h.symm⟩
  | a :: b :: r, 0, v, 1, w, h => by simp [sk_lsL] at h
  | a :: b :: r, 0, v, k + 2, w, h => by simp [sk_lsL] at h; exact Or.inr ⟨by omega, by omega, by simpa using h, fun e => by omega⟩
  | a :: r, 1, v, 0, w, h => by
    simp [sk_lsL] at h
    have := sk_k1_e h
    exact Or.inr ⟨by omega, by omega, by simp [this.1], fun _ => this.2⟩
  | a :: r, 1, v, k + 1, w, h => by
    simp only [sk_lsL, List.getElem?_cons_succ] at h
    rcases sk_lsL_get r 0 v k w h with ⟨h1, h2⟩ | ⟨h1, h0, h2, h3⟩
    · exact Or.inl ⟨by omega, h2⟩
    · exact Or.inr ⟨by omega, by omega, by simpa using h2, fun e => by omega⟩
  | a :: r, n + 2, v, 0, w, h => by
    simp [sk_lsL] at h
    exact Or.inr ⟨by omega, by omega, by simp [h], fun e => by omega⟩
  | a :: r, n + 2, v, k + 1, w, h => by
    simp only [sk_lsL, List.getElem?_cons_succ] at h
    rcases sk_lsL_get r (n + 1) v k w h with ⟨h1, h2⟩ | ⟨h1, h0, h2, h3⟩
    · exact Or.inl ⟨by omega, h2⟩
    · exact Or.inr ⟨by omega, by omega, by simpa using h2, fun e => h3 (by omega)⟩
theorem sk_ls_has {E : sk_En} {ar : Array Slot} {n i : Nat} {ls : List (Option sk_V)} {v : sk_V} (h : lv_has ar n ((i, sk_v E v) :: (sk_lv E 0 ls).filter (fun q => !(q.1 == i) && !(q.1 + 1 == i && q.2.category == 2)))) : lv_has ar n (sk_lv E 0 (sk_ls ls i v)) := by
  refine ⟨h.1, h.2.1, fun q hq => h.2.2 q ?_⟩
  obtain ⟨k, w, rfl, hk⟩ := sk_mem_at E _ 0 q hq
  rcases sk_ls_get ls i v k w hk with ⟨h1, h2⟩ | ⟨h1, h2, h3⟩
  · subst h1; subst h2; simp
  · refine List.mem_cons_of_mem _ (List.mem_filter.mpr ⟨sk_at_mem E ls 0 k w h2, ?_⟩)
    by_cases hi : k + 1 = i
    · simp [h1, sk_cat1 E w (h3 hi)]
    · simp [h1, hi]
theorem sk_lsL_has {E : sk_En} {ar : Array Slot} {n i : Nat} {ls : List (Option sk_V)} {v : sk_V} (h : lv_has ar n ((i, sk_v E v) :: (sk_lv E 0 ls).filter (fun q => !(q.1 == i) && (!(q.1 == i + 1) && !(q.1 + 1 == i && q.2.category == 2))))) : lv_has ar n (sk_lv E 0 (sk_lsL ls i v)) := by
  refine ⟨h.1, h.2.1, fun q hq => h.2.2 q ?_⟩
  obtain ⟨k, w, rfl, hk⟩ := sk_mem_at E _ 0 q hq
  rcases sk_lsL_get ls i v k w hk with ⟨h1, h2⟩ | ⟨h1, h0, h2, h3⟩
  · subst h1; subst h2; simp
  · refine List.mem_cons_of_mem _ (List.mem_filter.mpr ⟨sk_at_mem E ls 0 k w h2, ?_⟩)
    by_cases hi : k + 1 = i
    · simp [h1, h0, sk_cat1 E w (h3 hi)]
    · simp [h1, h0, hi]
section SKL
variable {l : Launch} {E : sk_En} {d mc ms : Nat} {M : sk_M} {pc pc0 len nxt : Nat} {aux : List Nat} {ls : List (Option sk_V)} {st : List sk_V} {G : List sk_Sh} {σ : sk_St} {Q : Option sk_V → List sk_Sh → sk_St → Prop}
theorem AW_istore_n {n : Fin 4} {a : Int} (h : sk_find pc M.2.2.2.2 = some (pc0, (.istore_n n), len, nxt, aux)) (hn : (n : Nat) < M.2.2.1) (k : AW l E d mc ms M nxt (sk_ls ls n (vi a)) st G σ Q) : AW l E d mc ms M pc ls (vi a :: st) G σ Q := by
  intro hM p e R s m args below meth c H locs cells slots Qf ar hF hR hl hc hs hfin
  obtain ⟨hd, rfl, hA, hlen⟩ := sk_dec hM h
  obtain rfl : 1 = len := hlen.resolve_left (by simp [sk_il])
  exact lv_istore_n hF.1 hF.2.1 hd rfl hl hn rfl (fun ar1 hl1 => k hM p e R s m args below meth c H locs cells slots Qf ar1 hF hR (sk_ls_has (v := vi a) hl1) hc hs hfin)
theorem AW_istore {n : Nat} {a : Int} (h : sk_find pc M.2.2.2.2 = some (pc0, (.istore n), len, nxt, aux)) (hn : n < M.2.2.1) (k : AW l E d mc ms M nxt (sk_ls ls n (vi a)) st G σ Q) : AW l E d mc ms M pc ls (vi a :: st) G σ Q := by
  intro hM p e R s m args below meth c H locs cells slots Qf ar hF hR hl hc hs hfin
  obtain ⟨hd, rfl, hA, hlen⟩ := sk_dec hM h
  obtain rfl : 2 = len := hlen.resolve_left (by simp [sk_il])
  exact lv_istore hF.1 hF.2.1 hd hl hn rfl (fun ar1 hl1 => k hM p e R s m args below meth c H locs cells slots Qf ar1 hF hR (sk_ls_has (v := vi a) hl1) hc hs hfin)
theorem AW_astore_n {n : Fin 4} {a : Nat} (h : sk_find pc M.2.2.2.2 = some (pc0, (.astore_n n), len, nxt, aux)) (hn : (n : Nat) < M.2.2.1) (k : AW l E d mc ms M nxt (sk_ls ls n (vr a)) st G σ Q) : AW l E d mc ms M pc ls (vr a :: st) G σ Q := by
  intro hM p e R s m args below meth c H locs cells slots Qf ar hF hR hl hc hs hfin
  obtain ⟨hd, rfl, hA, hlen⟩ := sk_dec hM h
  obtain rfl : 1 = len := hlen.resolve_left (by simp [sk_il])
  exact lv_astore_n hF.1 hF.2.1 hd rfl hl hn rfl (fun ar1 hl1 => k hM p e R s m args below meth c H locs cells slots Qf ar1 hF hR (sk_ls_has (v := vr a) hl1) hc hs hfin)
theorem AW_astore {n : Nat} {a : Nat} (h : sk_find pc M.2.2.2.2 = some (pc0, (.astore n), len, nxt, aux)) (hn : n < M.2.2.1) (k : AW l E d mc ms M nxt (sk_ls ls n (vr a)) st G σ Q) : AW l E d mc ms M pc ls (vr a :: st) G σ Q := by
  intro hM p e R s m args below meth c H locs cells slots Qf ar hF hR hl hc hs hfin
  obtain ⟨hd, rfl, hA, hlen⟩ := sk_dec hM h
  obtain rfl : 2 = len := hlen.resolve_left (by simp [sk_il])
  exact lv_astore hF.1 hF.2.1 hd hl hn rfl (fun ar1 hl1 => k hM p e R s m args below meth c H locs cells slots Qf ar1 hF hR (sk_ls_has (v := vr a) hl1) hc hs hfin)
theorem AW_lstore_n {n : Fin 4} {a : Int64} (h : sk_find pc M.2.2.2.2 = some (pc0, (.lstore_n n), len, nxt, aux)) (hn : (n : Nat) + 1 < M.2.2.1) (k : AW l E d mc ms M nxt (sk_lsL ls n (vl a)) st G σ Q) : AW l E d mc ms M pc ls (vl a :: st) G σ Q := by
  intro hM p e R s m args below meth c H locs cells slots Qf ar hF hR hl hc hs hfin
  obtain ⟨hd, rfl, hA, hlen⟩ := sk_dec hM h
  obtain rfl : 1 = len := hlen.resolve_left (by simp [sk_il])
  exact lv_lstore_n hF.1 hF.2.1 hd rfl hl hn rfl (fun ar1 hl1 => k hM p e R s m args below meth c H locs cells slots Qf ar1 hF hR (sk_lsL_has (v := vl a) hl1) hc hs hfin)
theorem AW_lstore {n : Nat} {a : Int64} (h : sk_find pc M.2.2.2.2 = some (pc0, (.lstore n), len, nxt, aux)) (hn : n + 1 < M.2.2.1) (k : AW l E d mc ms M nxt (sk_lsL ls n (vl a)) st G σ Q) : AW l E d mc ms M pc ls (vl a :: st) G σ Q := by
  intro hM p e R s m args below meth c H locs cells slots Qf ar hF hR hl hc hs hfin
  obtain ⟨hd, rfl, hA, hlen⟩ := sk_dec hM h
  obtain rfl : 2 = len := hlen.resolve_left (by simp [sk_il])
  exact lv_lstore hF.1 hF.2.1 hd hl hn rfl (fun ar1 hl1 => k hM p e R s m args below meth c H locs cells slots Qf ar1 hF hR (sk_lsL_has (v := vl a) hl1) hc hs hfin)
theorem AW_iinc {n : Nat} {a x : Int} (h : sk_find pc M.2.2.2.2 = some (pc0, (.iinc n x), len, nxt, aux)) (hk : ls[n]? = some (some (vi a))) (hn : n < M.2.2.1) (k : AW l E d mc ms M nxt (sk_ls ls n (vi (a + x))) st G σ Q) : AW l E d mc ms M pc ls st G σ Q := by
  intro hM p e R s m args below meth c H locs cells slots Qf ar hF hR hl hc hs hfin
  obtain ⟨hd, rfl, hA, hlen⟩ := sk_dec hM h
  obtain rfl : 3 = len := hlen.resolve_left (by simp [sk_il])
  obtain ⟨i, hi⟩ := List.getElem?_of_mem (sk_at_mem E ls 0 n (vi a) hk)
  rw [Nat.zero_add] at hi
  exact lv_iinc hF.1 hF.2.1 hd hl hi (sk_io_add a x) hn rfl (fun ar1 hl1 => k hM p e R s m args below meth c H locs cells slots Qf ar1 hF hR (sk_ls_has (v := vi (a + x)) hl1) hc hs hfin)
/-- fewer locals known -/
theorem AW_less {ls' : List (Option sk_V)} (hs : ∀ (k : Nat) (v : sk_V), ls'[k]? = some (some v) → ls[k]? = some (some v)) (k : AW l E d mc ms M pc ls' st G σ Q) : AW l E d mc ms M pc ls st G σ Q := by
  intro hM p e R s m args below meth c H locs cells slots Qf ar hF hR hl hc hs1 hfin
  refine k hM p e R s m args below meth c H locs cells slots Qf ar hF hR ⟨hl.1, hl.2.1, fun q hq => ?_⟩ hc hs1 hfin
  obtain ⟨j, v, rfl, hj⟩ := sk_mem_at E _ 0 q hq
  exact hl.2.2 _ (sk_at_mem E ls 0 j v (hs j v hj))
theorem AW_mono {d' : Nat} (hd : d' ≤ d) (k : AW l E d' mc ms M pc ls st G σ Q) : AW l E d mc ms M pc ls st G σ Q := by
  intro hM p e R s m args below meth c H locs cells slots Qf ar hF hR hl hc hs hfin
  obtain ⟨h1, h2, h3, h4, h5, h6, h7, h8, h9, h10, h11⟩ := hF
  exact k hM p e R s m args below meth c H locs cells slots Qf ar ⟨h1, h2, h3, h4, h5, h6, h7, h8, h9, by omega, by omega⟩ hR hl hc hs hfin
theorem AW_post {Q' : Option sk_V → List sk_Sh → sk_St → Prop} (hQ : ∀ v G' σ', Q' v G' σ' → Q v G' σ') (k : AW l E d mc ms M pc ls st G σ Q') : AW l E d mc ms M pc ls st G σ Q := by
  intro hM p e R s m args below meth c H locs cells slots Qf ar hF hR hl hc hs hfin
  exact k hM p e R s m args below meth c H locs cells slots Qf ar hF hR hl hc hs (fun v G' σ' pc' ar' H' locs' slots' q => hfin v G' σ' pc' ar' H' locs' slots' (hQ v G' σ' q))
end SKL
/-! ===== many instructions at once, by computation ===== -/
abbrev sk_X : Type := Nat × List (Option sk_V) × List sk_V × sk_St
def sk_fo {β : Type} : List (Option sk_V) → (List (Option sk_V) → β) → β
  | [], k => k []
  | a :: r, k => sk_fo r (fun r' => k (a :: r'))
theorem sk_fo_eq {β : Type} : ∀ (ls : List (Option sk_V)) (k : List (Option sk_V) → β), sk_fo ls k = k ls
  | [], _ => rfl
  | _ :: r, _ => sk_fo_eq r _
def sk_gt : List (Option sk_V) → Nat → Option sk_V
  | [], _ => none
  | a :: _, 0 => a
  | _ :: r, n + 1 => sk_gt r n
theorem sk_gt_eq : ∀ (ls : List (Option sk_V)) (n : Nat) (v : sk_V), sk_gt ls n = some v → ls[n]? = some (some v)
  | [], _, _, h => by cases h
  | a :: _, 0, v, h => by simp [sk_gt] at h; simp [h]
  | _ :: r, n + 1, v, h => by simpa using sk_gt_eq r n v h
def sk_gs : List sk_Sh → Nat → Option sk_Sh
  | [], _ => none
  | a :: _, 0 => some a
  | _ :: r, n + 1 => sk_gs r n
theorem sk_gs_eq : ∀ (ls : List sk_Sh) (n : Nat) (v : sk_Sh), sk_gs ls n = some v → ls[n]? = some v
  | [], _, _, h => by cases h
  | a :: _, 0, v, h => by simpa [sk_gs] using h
  | _ :: r, n + 1, v, h => by simpa using sk_gs_eq r n v h
/-- one simple instruction -/
def sk_s1 (G : List sk_Sh) (nL nxt : Nat) (aux : List Nat) (ls : List (Option sk_V)) (st : List sk_V) (σ : sk_St) : Instr → Option sk_X
  | .iconst n => some (nxt, ls, vi n :: st, σ)
  | .bipush n => some (nxt, ls, vi n :: st, σ)
  | .sipush n => some (nxt, ls, vi n :: st, σ)
  | .lconst n => some (nxt, ls, vl (Int64.ofNat (n : Nat)) :: st, σ)
  | .iload_n n => match sk_gt ls n with | some (.inl a) => some (nxt, ls, vi a :: st, σ) | _ => none
  | .iload n => match sk_gt ls n with | some (.inl a) => some (nxt, ls, vi a :: st, σ) | _ => none
  | .lload_n n => match sk_gt ls n with | some (.inr (.inl a)) => some (nxt, ls, vl a :: st, σ) | _ => none
  | .lload n => match sk_gt ls n with | some (.inr (.inl a)) => some (nxt, ls, vl a :: st, σ) | _ => none
  | .aload_n n => match sk_gt ls n with | some (.inr (.inr (some a))) => some (nxt, ls, vr a :: st, σ) | _ => none
  | .aload n => match sk_gt ls n with | some (.inr (.inr (some a))) => some (nxt, ls, vr a :: st, σ) | _ => none
  | .istore_n n => match st with | .inl a :: r => bif Nat.blt n nL then sk_fo (sk_ls ls n (vi a)) fun ls' => some (nxt, ls', r, σ) else none | _ => none
  | .istore n => match st with | .inl a :: r => bif Nat.blt n nL then sk_fo (sk_ls ls n (vi a)) fun ls' => some (nxt, ls', r, σ) else none | _ => none
  | .astore_n n => match st with | .inr (.inr (some a)) :: r => bif Nat.blt n nL then sk_fo (sk_ls ls n (vr a)) fun ls' => some (nxt, ls', r, σ) else none | _ => none
  | .astore n => match st with | .inr (.inr (some a)) :: r => bif Nat.blt n nL then sk_fo (sk_ls ls n (vr a)) fun ls' => some (nxt, ls', r, σ) else none | _ => none
  | .lstore_n n => match st with | .inr (.inl a) :: r => bif Nat.blt (n + 1) nL then sk_fo (sk_lsL ls n (vl a)) fun ls' => some (nxt, ls', r, σ) else none | _ => none
  | .lstore n => match st with | .inr (.inl a) :: r => bif Nat.blt (n + 1) nL then sk_fo (sk_lsL ls n (vl a)) fun ls' => some (nxt, ls', r, σ) else none | _ => none
  | .iinc n x => match sk_gt ls n with | some (.inl a) => bif Nat.blt n nL then sk_fo (sk_ls ls n (vi (a + x))) fun ls' => some (nxt, ls', st, σ) else none | _ => none
  | .iadd => match st with | .inl b :: .inl a :: r => some (nxt, ls, vi (a + b) :: r, σ) | _ => none
  | .isub => match st with | .inl b :: .inl a :: r => some (nxt, ls, vi (a - b) :: r, σ) | _ => none
  | .imul => match st with | .inl b :: .inl a :: r => some (nxt, ls, vi (a * b) :: r, σ) | _ => none
  | .iand => match st with | .inl b :: .inl a :: r => some (nxt, ls, vi (sk_and a b) :: r, σ) | _ => none
  | .ior => match st with | .inl b :: .inl a :: r => some (nxt, ls, vi (sk_or a b) :: r, σ) | _ => none
  | .ishr => match st with | .inl b :: .inl a :: r => some (nxt, ls, vi (sk_shr a b) :: r, σ) | _ => none
  | .iushr => match st with | .inl b :: .inl a :: r => some (nxt, ls, vi (sk_ushr a b) :: r, σ) | _ => none
  | .lsub => match st with | .inr (.inl b) :: .inr (.inl a) :: r => some (nxt, ls, vl (a - b) :: r, σ) | _ => none
  | .lmul => match st with | .inr (.inl b) :: .inr (.inl a) :: r => some (nxt, ls, vl (a * b) :: r, σ) | _ => none
  | .land => match st with | .inr (.inl b) :: .inr (.inl a) :: r => some (nxt, ls, vl (a &&& b) :: r, σ) | _ => none
  | .lor => match st with | .inr (.inl b) :: .inr (.inl a) :: r => some (nxt, ls, vl (a ||| b) :: r, σ) | _ => none
  | .lxor => match st with | .inr (.inl b) :: .inr (.inl a) :: r => some (nxt, ls, vl (a ^^^ b) :: r, σ) | _ => none
  | .lshl => match st with | .inl b :: .inr (.inl a) :: r => some (nxt, ls, vl (sk_lshl a b) :: r, σ) | _ => none
  | .lushr => match st with | .inl b :: .inr (.inl a) :: r => some (nxt, ls, vl (sk_lushr a b) :: r, σ) | _ => none
  | .i2l => match st with | .inl a :: r => some (nxt, ls, vl (sk_i2l a) :: r, σ) | _ => none
  | .l2i => match st with | .inr (.inl a) :: r => some (nxt, ls, vi a.toInt32.toInt :: r, σ) | _ => none
  | .lcmp => match st with | .inr (.inl b) :: .inr (.inl a) :: r => some (nxt, ls, vi (lg_cmp a b).toInt :: r, σ) | _ => none
  | .dup => match st with | .inl a :: r => some (nxt, ls, vi a :: vi a :: r, σ) | .inr (.inr (some a)) :: r => some (nxt, ls, vr a :: vr a :: r, σ) | _ => none
  | .dup2 => match st with | .inl a :: .inr (.inr (some b)) :: r => some (nxt, ls, vi a :: vr b :: vi a :: vr b :: r, σ) | _ => none
  | .pop => match st with | .inl _ :: r => some (nxt, ls, r, σ) | .inr (.inr (some _)) :: r => some (nxt, ls, r, σ) | _ => none
  | .goto _ => match aux with | [t] => some (t, ls, st, σ) | _ => none
  | .getfield _ => match st with
    | .inr (.inr (some k)) :: r => match aux with
      | [ci, j, _, tc] => match sk_gs G k with
        | some (.inl ci') => bif Nat.beq ci' ci then (match σ with | (I, L, J) => bif Nat.beq tc 3 then (match J k j with | some q => some (nxt, ls, vr q :: r, (I, L, J)) | none => none) else some (nxt, ls, vi (I k j) :: r, (I, L, J))) else none
        | _ => none
      | _ => none
    | _ => none
  | .putfield _ => match st with
    | v :: .inr (.inr (some k)) :: r => match aux with
      | [ci, j, _, tc] => match sk_gs G k with
        | some (.inl ci') => bif Nat.beq ci' ci then (match σ with | (I, L, J) => (match v with
          | .inl x => bif Nat.beq tc 0 then some (nxt, ls, r, (sk_uI I k j x, L, J)) else none
          | .inr (.inr (some x)) => bif Nat.beq tc 3 then some (nxt, ls, r, (I, L, sk_uR J k j (some x))) else none
          | _ => none)) else none
        | _ => none
      | _ => none
    | _ => none
  | .arraylength => match st with
    | .inr (.inr (some k)) :: r => match sk_gs G k with
      | some (.inr (tc, n)) => bif Nat.blt tc 4 then some (nxt, ls, vi (n : Int) :: r, σ) else none
      | _ => none
    | _ => none
  | _ => none
def sk_run (G : List sk_Sh) (M : sk_M) : Nat → Nat → List (Option sk_V) → List sk_V → sk_St → Option sk_X
  | 0, pc, ls, st, σ => some (pc, ls, st, σ)
  | n + 1, pc, ls, st, σ => match sk_find pc M.2.2.2.2 with
    | none => some (pc, ls, st, σ)
    | some (_, ins, _, nxt, aux) => match sk_s1 G M.2.2.1 nxt aux ls st σ ins with
      | none => some (pc, ls, st, σ)
      | some (pc', ls', st', σ') => sk_run G M n pc' ls' st' σ'
end
section
/-! ===== the computed steps are steps ===== -/
section SKS
variable {l : Launch} {E : sk_En} {d mc ms : Nat} {M : sk_M} {pc pc0 len nxt pc' : Nat} {aux : List Nat} {ls ls' : List (Option sk_V)} {st st' : List sk_V} {G : List sk_Sh} {σ σ' : sk_St} {Q : Option sk_V → List sk_Sh → sk_St → Prop}
set_option maxHeartbeats 4000000 in
theorem sk_s1_ok {ins : Instr} (h : sk_find pc M.2.2.2.2 = some (pc0, ins, len, nxt, aux)) (hs : sk_s1 G M.2.2.1 nxt aux ls st σ ins = some (pc', ls', st', σ')) (k : AW l E d mc ms M pc' ls' st' G σ' Q) : AW l E d mc ms M pc ls st G σ Q := by
  cases ins
  case iconst n =>
    cases hs
    exact AW_iconst h k
  case bipush n =>
    cases hs
    exact AW_bipush h k
  case sipush n =>
    cases hs
    exact AW_sipush h k
  case lconst n =>
    cases hs
    exact AW_lconst h k
  case iload_n n =>
    simp only [sk_s1] at hs
    split at hs
    · rename_i hg; cases hs; exact AW_iload_n h (sk_gt_eq _ _ _ hg) k
    · cases hs
  case iload n =>
    simp only [sk_s1] at hs
    split at hs
    · rename_i hg; cases hs; exact AW_iload h (sk_gt_eq _ _ _ hg) k
    · cases hs
  case lload_n n =>
    simp only [sk_s1] at hs
    split at hs
    · rename_i hg; cases hs; exact AW_lload_n h (sk_gt_eq _ _ _ hg) k
    · cases hs
  case lload n =>
    simp only [sk_s1] at hs
    split at hs
    · rename_i hg; cases hs; exact AW_lload h (sk_gt_eq _ _ _ hg) k
    · cases hs
  case aload_n n =>
    simp only [sk_s1] at hs
    split at hs
    · rename_i hg; cases hs; exact AW_aload_n h (sk_gt_eq _ _ _ hg) k
    · cases hs
  case aload n =>
    simp only [sk_s1] at hs
    split at hs
    · rename_i hg; cases hs; exact AW_aload h (sk_gt_eq _ _ _ hg) k
    · cases hs
  case istore_n n =>
    simp only [sk_s1] at hs
    split at hs
    · rw [sk_fo_eq] at hs
      cases hb : Nat.blt (n : Nat) M.2.2.1 with
      | true => rw [hb] at hs; cases hs; exact AW_istore_n h (by simpa [Nat.blt_eq] using hb) k
      | false => rw [hb] at hs; cases hs
    · cases hs
  case istore n =>
    simp only [sk_s1] at hs
    split at hs
    · rw [sk_fo_eq] at hs
      cases hb : Nat.blt (n : Nat) M.2.2.1 with
      | true => rw [hb] at hs; cases hs; exact AW_istore h (by simpa [Nat.blt_eq] using hb) k
      | false => rw [hb] at hs; cases hs
    · cases hs
  case astore_n n =>
    simp only [sk_s1] at hs
    split at hs
    · rw [sk_fo_eq] at hs
      cases hb : Nat.blt (n : Nat) M.2.2.1 with
      | true => rw [hb] at hs; cases hs; exact AW_astore_n h (by simpa [Nat.blt_eq] using hb) k
      | false => rw [hb] at hs; cases hs
    · cases hs
  case astore n =>
    simp only [sk_s1] at hs
    split at hs
    · rw [sk_fo_eq] at hs
      cases hb : Nat.blt (n : Nat) M.2.2.1 with
      | true => rw [hb] at hs; cases hs; exact AW_astore h (by simpa [Nat.blt_eq] using hb) k
      | false => rw [hb] at hs; cases hs
    · cases hs
  case lstore_n n =>
    simp only [sk_s1] at hs
    split at hs
    · rw [sk_fo_eq] at hs
      cases hb : Nat.blt (n + 1 : Nat) M.2.2.1 with
      | true => rw [hb] at hs; cases hs; exact AW_lstore_n h (by simpa [Nat.blt_eq] using hb) k
      | false => rw [hb] at hs; cases hs
    · cases hs
  case lstore n =>
    simp only [sk_s1] at hs
    split at hs
    · rw [sk_fo_eq] at hs
      cases hb : Nat.blt (n + 1 : Nat) M.2.2.1 with
      | true => rw [hb] at hs; cases hs; exact AW_lstore h (by simpa [Nat.blt_eq] using hb) k
      | false => rw [hb] at hs; cases hs
    · cases hs
  case iinc n x =>
    simp only [sk_s1] at hs
    split at hs
    · rename_i hg; rw [sk_fo_eq] at hs
      cases hb : Nat.blt n M.2.2.1 with
      | true => rw [hb] at hs; cases hs; exact AW_iinc h (sk_gt_eq _ _ _ hg) (by simpa [Nat.blt_eq] using hb) k
      | false => rw [hb] at hs; cases hs
    · cases hs
  case iadd =>
    simp only [sk_s1] at hs
    split at hs
    · cases hs; exact AW_iadd h k
    · cases hs
  case isub =>
    simp only [sk_s1] at hs
    split at hs
    · cases hs; exact AW_isub h k
    · cases hs
  case imul =>
    simp only [sk_s1] at hs
    split at hs
    · cases hs; exact AW_imul h k
    · cases hs
  case iand =>
    simp only [sk_s1] at hs
    split at hs
    · cases hs; exact AW_iand h k
    · cases hs
  case ior =>
    simp only [sk_s1] at hs
    split at hs
    · cases hs; exact AW_ior h k
    · cases hs
  case ishr =>
    simp only [sk_s1] at hs
    split at hs
    · cases hs; exact AW_ishr h k
    · cases hs
  case iushr =>
    simp only [sk_s1] at hs
    split at hs
    · cases hs; exact AW_iushr h k
    · cases hs
  case lsub =>
    simp only [sk_s1] at hs
    split at hs
    · cases hs; exact AW_lsub h k
    · cases hs
  case lmul =>
    simp only [sk_s1] at hs
    split at hs
    · cases hs; exact AW_lmul h k
    · cases hs
  case land =>
    simp only [sk_s1] at hs
    split at hs
    · cases hs; exact AW_land h k
    · cases hs
  case lor =>
    simp only [sk_s1] at hs
    split at hs
    · cases hs; exact AW_lor h k
    · cases hs
  case lxor =>
    simp only [sk_s1] at hs
    split at hs
    · cases hs; exact AW_lxor h k
    · cases hs
  case lshl =>
    simp only [sk_s1] at hs
    split at hs
    · cases hs; exact AW_lshl h k
    · cases hs
  case lushr =>
    simp only [sk_s1] at hs
    split at hs
    · cases hs; exact AW_lushr h k
    · cases hs
  case i2l =>
    simp only [sk_s1] at hs
    split at hs
    · cases hs; exact AW_i2l h k
    · cases hs
  case l2i =>
    simp only [sk_s1] at hs
    split at hs
    · cases hs; exact AW_l2i h k
    · cases hs
  case lcmp =>
    simp only [sk_s1] at hs
    split at hs
    · cases hs; exact AW_lcmp h k
    · cases hs
  case dup =>
    simp only [sk_s1] at hs
    split at hs
    · cases hs; exact AW_dup h rfl k
    · cases hs; exact AW_dup h rfl k
    · cases hs
  case dup2 =>
    simp only [sk_s1] at hs
    split at hs
    · cases hs; exact AW_dup2 h rfl rfl k
    · cases hs
  case pop =>
    simp only [sk_s1] at hs
    split at hs
    · cases hs; exact AW_pop h rfl k
    · cases hs; exact AW_pop h rfl k
    · cases hs
  case goto off =>
    simp only [sk_s1] at hs
    split at hs
    · cases hs; exact AW_goto h k
    · cases hs
  case getfield idx =>
    simp only [sk_s1] at hs
    split at hs
    · split at hs
      · split at hs
        · rename_i ci j q tc _ ci2 hg
          cases hb : Nat.beq ci2 ci with
          | false => rw [hb] at hs; cases hs
          | true =>
            rw [hb] at hs
            have := Nat.eq_of_beq_eq_true hb
            subst this
            obtain ⟨I, L, J⟩ := σ
            cases ht : Nat.beq tc 3 with
            | false =>
              simp only [ht, cond_true, cond_false] at hs
              cases hs
              exact AW_getI h (sk_gs_eq _ _ _ hg) ht k
            | true =>
              simp only [ht, cond_true] at hs
              split at hs
              · rename_i hj; cases hs; exact AW_getR h (sk_gs_eq _ _ _ hg) ht (by rw [hj]; exact k)
              · cases hs
        · cases hs
      · cases hs
    · cases hs
  case putfield idx =>
    simp only [sk_s1] at hs
    split at hs
    · split at hs
      · split at hs
        · rename_i ci j q tc _ ci2 hg
          cases hb : Nat.beq ci2 ci with
          | false => rw [hb] at hs; cases hs
          | true =>
            rw [hb] at hs
            have := Nat.eq_of_beq_eq_true hb
            subst this
            obtain ⟨I, L, J⟩ := σ
            simp only [cond_true] at hs
            split at hs
            · cases ht : Nat.beq tc 0 with
              | false => rw [ht] at hs; cases hs
              | true =>
                rw [ht] at hs; cases hs
                have := Nat.eq_of_beq_eq_true ht
                subst this
                exact AW_putI h (sk_gs_eq _ _ _ hg) k
            · cases ht : Nat.beq tc 3 with
              | false => rw [ht] at hs; cases hs
              | true =>
                rw [ht] at hs; cases hs
                have := Nat.eq_of_beq_eq_true ht
                subst this
                exact AW_putR h (sk_gs_eq _ _ _ hg) k
            · cases hs
        · cases hs
      · cases hs
    · cases hs
  case arraylength =>
    simp only [sk_s1] at hs
    split at hs
    · split at hs
      · rename_i tc n hg
        cases hb : Nat.blt tc 4 with
        | false => rw [hb] at hs; cases hs
        | true => rw [hb] at hs; cases hs; exact AW_alen h (sk_gs_eq _ _ _ hg) hb k
      · cases hs
    · cases hs
  all_goals exact absurd hs (by simp [sk_s1])
theorem AW_run (n : Nat) : ∀ {pc : Nat} {ls : List (Option sk_V)} {st : List sk_V} {σ : sk_St}, sk_run G M n pc ls st σ = some (pc', ls', st', σ') → AW l E d mc ms M pc' ls' st' G σ' Q → AW l E d mc ms M pc ls st G σ Q := by
  induction n with
  | zero => intro pc ls st σ h k; cases h; exact k
  | succ n ih =>
    intro pc ls st σ h k
    unfold sk_run at h
    split at h
    · cases h; exact k
    · rename_i hf
      split at h
      · cases h; exact k
      · rename_i hs
        exact sk_s1_ok hf hs (ih h k)
end SKS
end
section
/-! ===== calls ===== -/
def sk_sl : List sk_V → List (Option sk_V)
  | [] => []
  | v :: r => bif sk_is1 v then some v :: sk_sl r else some v :: none :: sk_sl r
def sk_pd : Nat → List (Option sk_V) → List (Option sk_V)
  | 0, _ => []
  | n + 1, [] => none :: sk_pd n []
  | n + 1, a :: r => a :: sk_pd n r
def sk_pop : Nat → List sk_V → List sk_V → Option (List sk_V × List sk_V)
  | 0, st, acc => some (acc, st)
  | _ + 1, [], _ => none
  | n + 1, v :: st, acc => sk_pop n st (v :: acc)
def sk_cs : List sk_V → Nat
  | [] => 0
  | v :: r => bif sk_is1 v then sk_cs r + 1 else sk_cs r + 2
theorem sk_pop_eq : ∀ (n : Nat) (st acc as rest : List sk_V), sk_pop n st acc = some (as, rest) → ∃ tk, as = tk.reverse ++ acc ∧ st = tk ++ rest ∧ tk.length = n
  | 0, st, acc, as, rest, h => by cases h; exact ⟨[], by simp, by simp, rfl⟩
  | n + 1, [], acc, as, rest, h => by cases h
  | n + 1, v :: st, acc, as, rest, h => by
    obtain ⟨tk, h1, h2, h3⟩ := sk_pop_eq n st (v :: acc) as rest h
    exact ⟨v :: tk, by simp [h1], by simp [h2], by simp [h3]⟩
theorem sk_pop_st {n : Nat} {st as rest : List sk_V} (h : sk_pop n st [] = some (as, rest)) : st = as.reverse ++ rest ∧ as.length = n := by
  obtain ⟨tk, h1, h2, h3⟩ := sk_pop_eq n st [] as rest h
  rw [List.append_nil] at h1
  subst h1
  exact ⟨by simpa using h2, by simpa using h3⟩
theorem sk_cat2 (E : sk_En) (v : sk_V) (h : sk_is1 v = false) : (sk_v E v).category = 2 := by
  match v with
  | .inl i => cases h
  | .inr (.inl x) => rfl
  | .inr (.inr none) => cases h
  | .inr (.inr (some k)) => cases h
theorem sk_cs_eq (E : sk_En) : ∀ st : List sk_V, ((st.map (sk_v E)).map fun v => v.category).sum = sk_cs st
  | [] => rfl
  | v :: r => by
    have := sk_cs_eq E r
    cases h : sk_is1 v with
    | true => simp only [List.map_cons, List.sum_cons, sk_cs, h, cond_true, sk_cat1 E v h, this]; omega
    | false => simp only [List.map_cons, List.sum_cons, sk_cs, h, cond_false, sk_cat2 E v h, this]; omega
theorem sk_sl_len (E : sk_En) : ∀ as : List sk_V, (lg_sl (as.map (sk_v E))).length = (sk_sl as).length
  | [] => rfl
  | v :: r => by
    have := sk_sl_len E r
    simp only [lg_sl] at this
    cases h : sk_is1 v with
    | true => simp [lg_sl, sk_sl, h, sk_cat1 E v h, ← this]
    | false => simp [lg_sl, sk_sl, h, sk_cat2 E v h, ← this]
theorem sk_pd_get : ∀ (n : Nat) (l : List (Option sk_V)) (k : Nat) (v : sk_V), (sk_pd n l)[k]? = some (some v) → l[k]? = some (some v)
  | 0, l, k, v, h => by simp [sk_pd] at h
  | n + 1, [], 0, v, h => by simp [sk_pd] at h
  | n + 1, [], k + 1, v, h => by
    simp only [sk_pd, List.getElem?_cons_succ] at h
    have := sk_pd_get n [] k v h
    simp at this
  | n + 1, a :: r, 0, v, h => by simpa [sk_pd] using h
  | n + 1, a :: r, k + 1, v, h => by
    simp only [sk_pd, List.getElem?_cons_succ] at h ⊢
    exact sk_pd_get n r k v h
theorem sk_sl_args (E : sk_En) : ∀ (as : List sk_V) (i k : Nat) (v : sk_V), (sk_sl as)[k]? = some (some v) → (i + k, sk_v E v) ∈ lv_args i (as.map (sk_v E))
  | [], i, k, v, h => by simp [sk_sl] at h
  | w :: r, i, k, v, h => by
    cases hw : sk_is1 w with
    | true =>
      simp only [sk_sl, hw, cond_true] at h
      simp only [List.map_cons, lv_args, sk_cat1 E w hw]
      match k, h with
      | 0, h => simp at h; subst h; exact List.mem_cons_self
      | k + 1, h =>
        have := sk_sl_args E r (i + 1) k v (by simpa using h)
        rw [show i + (k + 1) = i + 1 + k by omega]
        exact List.mem_cons_of_mem _ this
    | false =>
      simp only [sk_sl, hw, cond_false] at h
      simp only [List.map_cons, lv_args, sk_cat2 E w hw, if_true]
      match k, h with
      | 0, h => simp at h; subst h; exact List.mem_cons_self
      | 1, h => simp at h
      | k + 2, h =>
        have := sk_sl_args E r (i + 2) k v (by simpa using h)
        rw [show i + (k + 2) = i + 2 + k by omega]
        exact List.mem_cons_of_mem _ this
abbrev sk_en (n : Nat) (as : List sk_V) : List (Option sk_V) := sk_pd n (sk_sl as)
def sk_rm (d mc ms : Nat) : Room := { frames := d, cells := mc, slots := ms, locals := 41 * d }
def sk_Pc (E : sk_En) (as : List sk_V) (G : List sk_Sh) (σ : sk_St) : Array Value → State → Prop :=
  va_Pc (as.map (sk_v E)) (fun U => sk_cx E U ∧ va_P E.2.1 vwCl (sk_w E G σ) U.heap ∧ U.heap.size ≤ E.1 + G.length ∧ G.length ≤ 1000)
def sk_Qc (E : sk_En) (mc : Nat) (Q : Option sk_V → List sk_Sh → sk_St → Prop) : Array Value → State → Outcome → State → Prop := fun _ st o t =>
  ∃ (v : Option sk_V) (G' : List sk_Sh) (σ' : sk_St), Q v G' σ' ∧ o = .returned (v.map (sk_v E)) ∧ va_P E.2.1 vwCl (sk_w E G' σ') t.heap ∧ G'.length ≤ 1000 ∧ st.heap.size + mc ≤ E.1 + G'.length ∧ va_F (sk_A E) st t
/-- a method that may be called: n arguments -/
def sk_lC (n : Nat) (M : sk_M) : Prop := sk_ok M ∧ Cond.code M.1 M.2.1 M.2.2.1 M.2.2.2.1 ∈ sk_gw ∧ Cond.initialized M.1.cls ∈ sk_gw ∧ plainName M.1.cls = true ∧ M.2.2.1 ≤ 22 ∧ (M.1.cls ≠ "java/lang/invoke/MethodHandle" ∧ M.1.cls ≠ "java/lang/invoke/VarHandle" ∧ (parseMethodDescriptor M.1.desc).map (fun d => d.parameters.length) = some n)
theorem sk_gG {M : sk_M} (h : Cond.code M.1 M.2.1 M.2.2.1 M.2.2.2.1 ∈ sk_gw) : GoodIn sk_gw (Cond.code M.1 M.2.1 M.2.2.1 M.2.2.2.1 :: sk_gw) := by
  intro w hw
  have hw : w ∈ sk_gw := by
    rcases List.mem_cons.mp hw with rfl | hw
    · exact h
    · exact hw
  exact ⟨hw, good_of_word (List.mem_filter.mp hw).2⟩
theorem sk_met {l : Launch} {E : sk_En} {d mc ms n : Nat} {M : sk_M} {as : List sk_V} {G : List sk_Sh} {σ : sk_St} {Q : Option sk_V → List sk_Sh → sk_St → Prop} (hC : sk_lC n M) (hlen : (sk_sl as).length ≤ M.2.2.1) (h : AW l E d mc ms M 0 (sk_en M.2.2.1 as) [] G σ Q) :
    Met l M.1 (Cond.code M.1 M.2.1 M.2.2.1 M.2.2.2.1 :: sk_gw) (sk_rm d mc ms) (sk_Pc E as G σ) (sk_Qc E mc Q) mc ms (sk_A E) := by
  obtain ⟨hM, hcode, -, hpl, -, -⟩ := hC
  refine Met.ofW (cc := M.2.1) (maxL := M.2.2.1) (ret := M.2.2.2.1) hpl rfl ?_
  intro p e s m args below meth c s₁ B hml hv
  obtain ⟨rfl, hcx, hP, hz, hG⟩ := hv
  have hts := atoms_spec (ws := Cond.code M.1 M.2.1 M.2.2.1 M.2.2.2.1 :: sk_gw) B.pre
  have hl := lv_entry (as.map (sk_v E)) (n := M.2.2.1) (by rw [sk_sl_len]; exact hlen)
  rw [lg_entry_eq]
  generalize (lg_sl (as.map (sk_v E)) ++ List.replicate (M.2.2.1 - (lg_sl (as.map (sk_v E))).length) Slot.unset).toArray = ar at hl ⊢
  have hlocks := B.notSynchronized
  refine h hM p e _ s m _ below meth c s.heap [] 0 0 _ ar ⟨B.exec, B.bytes, B.returns, hml, findClass_of_methodNamed B.named, hlocks, (name_of_methodNamed B.named B.method).1, fun w hw => hts w (List.mem_cons_of_mem _ hw), hcx, Nat.le_refl _, Nat.le_refl _⟩ ⟨hP, hG, va_S.rf⟩ ⟨hl.1, hl.2.1, fun q hq => ?_⟩ ⟨by show 0 + mc ≤ mc; omega, by omega⟩ (by show 0 + ms ≤ ms; omega) ?_
  · obtain ⟨k, v, rfl, hk⟩ := sk_mem_at E _ 0 q hq
    exact hl.2.2 _ (sk_sl_args E as 0 k v (sk_pd_get _ _ k v hk))
  · intro v G' σ' pc' ar' H' locs' slots' hQ hR hret hz' hs'
    have hs2 : slots' ≤ ms := hs'
    refine W.widen (k := mc) (n := ms) (by omega) hs2 ?_
    have hq : ∀ t : State, t.heap = H' → s.WarmedH t.vm → sk_Qc E mc Q (as.map (sk_v E)).toArray s (.returned (v.map (sk_v E))) t := fun t ht _ =>
      ⟨v, G', σ', hQ, rfl, by rw [ht]; exact hR.1, hR.2.1, by omega, hR.2.2.F ht⟩
    match v, hret, hq with
    | none, hret, hq => exact W.vret B.exec B.bytes (B.returns.trans hret.2) hq hR.2.2.2.2 hret.1
    | some (.inl i), hret, hq =>
      obtain ⟨h1, ty, h2, h3⟩ := hret
      exact W.zret B.exec B.bytes (B.returns.trans h2) h3 hq hR.2.2.2.2 h1
    | some (.inr (.inl x)), hret, hq => exact W.lret B.exec B.bytes (B.returns.trans hret.2) hq hR.2.2.2.2 hret.1
    | some (.inr (.inr r)), hret, hq => exact False.elim hret
theorem sk_Pc_blind (E : sk_En) (as : List sk_V) (G : List sk_Sh) (σ : sk_St) : FrameBlind (sk_Pc E as G σ) := fun a U g mk q => ⟨q.1, sk_cx_call g mk a q.2.1, q.2.2.1, q.2.2.2.1, q.2.2.2.2⟩
/-- behind a call -/
theorem sk_behind {l : Launch} {E : sk_En} {d mc ms mc' ms' : Nat} {M : sk_M} {pc : Nat} {ls : List (Option sk_V)} {rest : List sk_V} {Q : Option sk_V → List sk_Sh → sk_St → Prop} {p : Program} {e : Env} {R : Room} {s : State} {m : MethodId} {args : Array Value} {below : List Frame} {meth : Method} {c : Code} {H : Heap} {locs : List Loc} {cells slots : Nat} {Qf : State → Prop} {ar : Array Slot} {st0 : List Value} {a : Array Value}
    (hr : va_Run p l e R s m args below meth c H locs cells slots mc' ms' (F0 m pc ar st0) (rest.map (sk_v E)) (sk_Qc E mc' (fun v G' σ' => AW l E d mc ms M (pc + 3) ls (v.toList ++ rest) G' σ' Q) a) (sk_A E))
    (hM : sk_ok M) (hF : sk_F E d M p R s m args meth c) (hS : va_S (sk_A E) s.heap H locs) (hlow : s.heap.size + cells ≤ H.size) (hl : lv_has ar M.2.2.1 (sk_lv E 0 ls)) (hc : cells + (mc' + mc) ≤ R.cells) (hs : slots + (ms' + ms) ≤ R.slots)
    (hfin : ∀ (v : Option sk_V) (G' : List sk_Sh) (σ' : sk_St) (pc' : Nat) (ar' : Array Slot) (H' : Heap) (locs' : List Loc) (slots' : Nat), Q v G' σ' → sk_R E G' σ' s H' locs' → sk_ret M pc' v → s.heap.size + (cells + (mc' + mc)) ≤ E.1 + G'.length → slots' ≤ R.slots →
      W p l e R s m args below meth c H' locs' (cells + (mc' + mc)) slots' Qf (F0 m pc' ar' ((v.map (sk_v E)).toList))) :
    W p l e R s m args below meth c H locs cells slots Qf (F0 m pc ar st0) := by
  intro T hT X
  obtain ⟨v, st₀, t, T', Lc, h0, X', hL, e1, e2, ⟨w, G', σ', hQ, ho, hP, hG, hz2, hFr⟩, hgo⟩ := hr T hT X
  have hv : v = w.map (sk_v E) := by cases ho; rfl
  subst hv
  obtain ⟨f1, f2⟩ := hFr
  rw [h0] at f1 f2 hz2
  have hS1 : va_S (sk_A E) s.heap T'.heap (locs ++ Lc) := by
    refine ⟨Nat.le_trans hS.1 (by rw [e1]; exact f1), fun q h1 h2 => ?_, fun q hq => ?_⟩
    · rw [e1, f2 q (Nat.lt_of_lt_of_le h1 hS.1) h2]
      exact hS.2.1 q h1 h2
    · rcases List.mem_append.mp hq with h | h
      · exact hS.2.2 q h
      · exact hL q h
  have k1 := hQ hM p e R s m args below meth c T'.heap (locs ++ Lc) (cells + mc') (slots + ms') Qf ar hF ⟨by rw [e1]; exact hP, hG, hS1⟩ hl ⟨by omega, by omega⟩ (by omega) (fun v G' σ' pc' ar' H' locs' slots' q1 q2 q3 q4 q5 => by
    have := hfin v G' σ' pc' ar' H' locs' slots' q1 q2 q3 (by omega) q5
    rw [show cells + mc' + mc = cells + (mc' + mc) by omega]
    exact this)
  obtain ⟨t2, a1, b1⟩ := k1 T' rfl X'
  refine ⟨t2, hgo t2 ?_, b1⟩
  have he : (w.toList ++ rest).map (sk_v E) = (w.map (sk_v E)).toList ++ rest.map (sk_v E) := by
    cases w <;> simp
  rw [he] at a1
  exact a1
theorem sk_low {E : sk_En} {G : List sk_Sh} {σ : sk_St} {H : Heap} (hP : va_P E.2.1 vwCl (sk_w E G σ) H) (hE : E.1 ≤ H.size) : E.1 + G.length ≤ H.size := by
  by_cases h : G.length = 0
  · omega
  · have hk : G.length - 1 < G.length := by omega
    have := (hP (G.length - 1) _ (sk_w_at (List.getElem?_eq_getElem hk))).lt
    dsimp only at this
    omega
section SKC
variable {l : Launch} {E : sk_En} {d mc ms mc' ms' mc0 ms0 : Nat} {M M' : sk_M} {pc pc0 len nxt n idx d' : Nat} {aux : List Nat} {ls : List (Option sk_V)} {st as rest : List sk_V} {G : List sk_Sh} {σ : sk_St} {Q : Option sk_V → List sk_Sh → sk_St → Prop}
def sk_lV (M : sk_M) (idx : Nat) (M' : sk_M) : Prop := Cond.methodLink M.1.cls idx M'.1 ∈ sk_gw ∧ Cond.instanceMethod M'.1 ∈ sk_gw ∧ Cond.selects M'.1.cls M'.1 M'.1 ∈ sk_gw
def sk_lS (M : sk_M) (idx : Nat) (M' : sk_M) : Prop := Cond.methodLink M.1.cls idx M'.1 ∈ sk_gw ∧ Cond.static M'.1 ∈ sk_gw
def sk_lI (M : sk_M) (idx : Nat) (M' : sk_M) : Prop := Cond.methodLink M.1.cls idx M'.1 ∈ sk_gw ∧ Cond.instanceMethod M'.1 ∈ sk_gw ∧ M'.1.name = "<init>" ∧ M'.2.2.2.1 = none
def sk_lSN (M : sk_M) (idx : Nat) (M' : sk_M) : Prop := Cond.methodLinkNest M.1.cls idx M'.1 "SealKeeper" ∈ sk_nw ∧ Cond.static M'.1 ∈ sk_gw
def sk_lIN (M : sk_M) (idx : Nat) (M' : sk_M) : Prop := Cond.methodLinkNest M.1.cls idx M'.1 "SealKeeper" ∈ sk_nw ∧ Cond.instanceMethod M'.1 ∈ sk_gw ∧ M'.1.name = "<init>" ∧ M'.2.2.2.1 = none
theorem AW_callV {k ci : Nat} (h : sk_find pc M.2.2.2.2 = some (pc0, (.invokevirtual idx), len, nxt, aux)) (hL : sk_lV M idx M') (hC : sk_lC n M') (hp : sk_pop (n + 1) st [] = some (vr k :: as, rest)) (hG : G[k]? = some (.inl ci)) (hci : (sk_C ci).1 = M'.1.cls) (hci2 : Nat.blt ci 11 = true) (hW : Nat.ble (sk_cs rest) 8 = true) (hen : Nat.ble (sk_sl (vr k :: as)).length M'.2.2.1 = true) (hd : d' + 1 ≤ d) (hmc : mc0 = mc' + mc) (hms : ms0 = ms' + ms)
    (kk : AW l E d' mc' ms' M' 0 (sk_en M'.2.2.1 (vr k :: as)) [] G σ (fun v G' σ' => AW l E d mc ms M nxt ls (v.toList ++ rest) G' σ' Q)) : AW l E d mc0 ms0 M pc ls st G σ Q := by
  subst hmc; subst hms
  intro hM p e R s m args below meth c H locs cells slots Qf ar hF hR hl hc hs hfin
  obtain ⟨hdc, rfl, hA, hlen⟩ := sk_dec hM h
  obtain rfl : 3 = len := hlen.resolve_left (by simp [sk_il])
  obtain ⟨rfl, has⟩ := sk_pop_st hp
  have has : as.length = n := by simpa using has
  have hmet := sk_met hC (Nat.le_of_ble_eq_true hen) kk
  have hts := hF.2.2.2.2.2.2.2.1
  intro T hT X
  have hsz := X.heapSize
  have hw : vwCl[ci]? = some (sk_C ci) := sk_cl (by simpa [Nat.blt_eq] using hci2)
  obtain ⟨cell, c1, c2, c3⟩ := va_recv hF.2.2.2.2.2.2.2.2.1.1 hR.1 hw (sk_w_at hG)
  refine sk_behind (d := d) (rest := rest) (va_runV (cc := M.2.1) (nL := M.2.2.1) (Ts := sk_gw) (own := M.1.cls) (C := M'.1.cls) (index := idx) (bytes := M'.2.1) (maxL := M'.2.2.1) (ret := M'.2.2.2.1) (n := n) (b := E.1 + k) (As := as.map (sk_v E)) (rest := rest.map (sk_v E)) ⟨hF.1, hF.2.1, hF.2.2.2.1, hF.2.2.2.2.1, hts⟩ hmet ?_ ⟨sk_Pc_blind E _ _ _, ⟨cell, c1, c2, by rw [← hci]; exact c3⟩, fun U hU hWm => ⟨?_, sk_cx_move hF.2.2.2.2.2.2.2.2.1 hWm (by rw [hU]; exact hR.2.2), by rw [hU]; exact hR.1, ?_, hR.2.1⟩⟩ rfl (by simpa using has) hl.1 ?_ ?_ hdc ⟨by omega, by omega⟩) hM hF hR.2.2 ?_ hl hc.1 hs hfin T hT X
  · refine ⟨callB_of n hts (sk_gG hC.2.1) rfl rfl rfl (hts _ hC.2.2.1) (hts _ hL.1) hC.2.2.2.2.2 ⟨?_, ?_⟩, hts _ hL.2.1, hts _ hL.2.2⟩
    · have := hF.2.2.2.2.2.2.2.2.2.1
      show d' + 1 ≤ R.frames
      omega
    · have := hF.2.2.2.2.2.2.2.2.2.2
      have := hC.2.2.2.2.1
      show 8 + (M'.2.2.1 + 11) + 41 * d' ≤ R.locals
      omega
  · rw [List.map_cons, sk_vr hG hR.2.1]
  · rw [hU, ← hT]; omega
  · show ((vr k :: as).reverse ++ rest).map (sk_v E) = _
    simp only [List.reverse_cons, List.map_append, List.map_reverse, List.map_cons, List.map_nil, List.append_assoc, List.singleton_append, List.cons_append, List.nil_append]
    rw [sk_vr hG hR.2.1]
  · show 2 * 0 + ((rest.map (sk_v E)).map fun v => v.category).sum ≤ 8
    rw [sk_cs_eq]
    have := Nat.le_of_ble_eq_true hW
    omega
  · have := sk_low hR.1 (Nat.le_trans hF.2.2.2.2.2.2.2.2.1.2.2.2.2.2.2 hR.2.2.1)
    omega
theorem AW_callS (h : sk_find pc M.2.2.2.2 = some (pc0, (.invokestatic idx), len, nxt, aux)) (hL : sk_lS M idx M') (hC : sk_lC n M') (hp : sk_pop n st [] = some (as, rest)) (hW : Nat.ble (sk_cs rest) 8 = true) (hen : Nat.ble (sk_sl as).length M'.2.2.1 = true) (hd : d' + 1 ≤ d) (hmc : mc0 = mc' + mc) (hms : ms0 = ms' + ms)
    (kk : AW l E d' mc' ms' M' 0 (sk_en M'.2.2.1 as) [] G σ (fun v G' σ' => AW l E d mc ms M nxt ls (v.toList ++ rest) G' σ' Q)) : AW l E d mc0 ms0 M pc ls st G σ Q := by
  subst hmc; subst hms
  intro hM p e R s m args below meth c H locs cells slots Qf ar hF hR hl hc hs hfin
  obtain ⟨hdc, rfl, hA, hlen⟩ := sk_dec hM h
  obtain rfl : 3 = len := hlen.resolve_left (by simp [sk_il])
  obtain ⟨rfl, has⟩ := sk_pop_st hp
  have hmet := sk_met hC (Nat.le_of_ble_eq_true hen) kk
  have hts := hF.2.2.2.2.2.2.2.1
  intro T hT X
  have hsz := X.heapSize
  refine sk_behind (d := d) (rest := rest) (va_runS (cc := M.2.1) (nL := M.2.2.1) (Ts := sk_gw) (own := M.1.cls) (index := idx) (bytes := M'.2.1) (maxL := M'.2.2.1) (ret := M'.2.2.2.1) (n := n) (As := as.map (sk_v E)) (rest := rest.map (sk_v E)) ⟨hF.1, hF.2.1, hF.2.2.2.1, hF.2.2.2.2.1, hts⟩ hmet ?_ ⟨sk_Pc_blind E _ _ _, fun U hU hWm => ⟨rfl, sk_cx_move hF.2.2.2.2.2.2.2.2.1 hWm (by rw [hU]; exact hR.2.2), by rw [hU]; exact hR.1, ?_, hR.2.1⟩⟩ rfl (by simpa using has) hl.1 ?_ ?_ hdc ⟨by omega, by omega⟩) hM hF hR.2.2 ?_ hl hc.1 hs hfin T hT X
  · refine ⟨callB_of n hts (sk_gG hC.2.1) rfl rfl rfl (hts _ hC.2.2.1) (hts _ hL.1) hC.2.2.2.2.2 ⟨?_, ?_⟩, hts _ hL.2⟩
    · have := hF.2.2.2.2.2.2.2.2.2.1
      show d' + 1 ≤ R.frames
      omega
    · have := hF.2.2.2.2.2.2.2.2.2.2
      have := hC.2.2.2.2.1
      show 8 + (M'.2.2.1 + 11) + 41 * d' ≤ R.locals
      omega
  · rw [hU, ← hT]; omega
  · show (as.reverse ++ rest).map (sk_v E) = _
    simp only [List.map_append, List.map_reverse]
  · show 2 * 0 + ((rest.map (sk_v E)).map fun v => v.category).sum ≤ 8
    rw [sk_cs_eq]
    have := Nat.le_of_ble_eq_true hW
    omega
  · have := sk_low hR.1 (Nat.le_trans hF.2.2.2.2.2.2.2.2.1.2.2.2.2.2.2 hR.2.2.1)
    omega
theorem AW_callSN (h : sk_find pc M.2.2.2.2 = some (pc0, (.invokestatic idx), len, nxt, aux)) (hL : sk_lSN M idx M') (hC : sk_lC n M') (hp : sk_pop n st [] = some (as, rest)) (hW : Nat.ble (sk_cs rest) 8 = true) (hen : Nat.ble (sk_sl as).length M'.2.2.1 = true) (hd : d' + 1 ≤ d) (hmc : mc0 = mc' + mc) (hms : ms0 = ms' + ms)
    (kk : AW l E d' mc' ms' M' 0 (sk_en M'.2.2.1 as) [] G σ (fun v G' σ' => AW l E d mc ms M nxt ls (v.toList ++ rest) G' σ' Q)) : AW l E d mc0 ms0 M pc ls st G σ Q := by
  subst hmc; subst hms
  intro hM p e R s m args below meth c H locs cells slots Qf ar hF hR hl hc hs hfin
  obtain ⟨hdc, rfl, hA, hlen⟩ := sk_dec hM h
  obtain rfl : 3 = len := hlen.resolve_left (by simp [sk_il])
  obtain ⟨rfl, has⟩ := sk_pop_st hp
  have hmet := sk_met hC (Nat.le_of_ble_eq_true hen) kk
  have hts := hF.2.2.2.2.2.2.2.1
  intro T hT X
  have hsz := X.heapSize
  refine sk_behind (d := d) (rest := rest) (va_runSN (cc := M.2.1) (nL := M.2.2.1) (Ts := sk_gw) (own := M.1.cls) (host := "SealKeeper") (index := idx) (bytes := M'.2.1) (maxL := M'.2.2.1) (ret := M'.2.2.2.1) (n := n) (As := as.map (sk_v E)) (rest := rest.map (sk_v E)) ⟨hF.1, hF.2.1, hF.2.2.2.1, hF.2.2.2.2.1, hts⟩ hmet ?_ ⟨sk_Pc_blind E _ _ _, fun U hU hWm => ⟨rfl, sk_cx_move hF.2.2.2.2.2.2.2.2.1 hWm (by rw [hU]; exact hR.2.2), by rw [hU]; exact hR.1, ?_, hR.2.1⟩⟩ rfl (by simpa using has) hl.1 ?_ ?_ hdc ⟨by omega, by omega⟩) hM hF hR.2.2 ?_ hl hc.1 hs hfin T hT X
  · refine ⟨va_cnB n hts (sk_gG hC.2.1) rfl rfl rfl (hF.2.2.2.2.2.2.2.2.1.2.1 _ hL.1) (hts _ hC.2.2.1) hC.2.2.2.2.2 ⟨?_, ?_⟩, hts _ hL.2, trivial⟩
    · have := hF.2.2.2.2.2.2.2.2.2.1
      show d' + 1 ≤ R.frames
      omega
    · have := hF.2.2.2.2.2.2.2.2.2.2
      have := hC.2.2.2.2.1
      show 8 + (M'.2.2.1 + 11) + 41 * d' ≤ R.locals
      omega
  · rw [hU, ← hT]; omega
  · show (as.reverse ++ rest).map (sk_v E) = _
    simp only [List.map_append, List.map_reverse]
  · show 2 * 0 + ((rest.map (sk_v E)).map fun v => v.category).sum ≤ 8
    rw [sk_cs_eq]
    have := Nat.le_of_ble_eq_true hW
    omega
  · have := sk_low hR.1 (Nat.le_trans hF.2.2.2.2.2.2.2.2.1.2.2.2.2.2.2 hR.2.2.1)
    omega
theorem AW_callI {k : Nat} {sh : sk_Sh} (h : sk_find pc M.2.2.2.2 = some (pc0, (.invokespecial idx), len, nxt, aux)) (hL : sk_lI M idx M') (hC : sk_lC n M') (hp : sk_pop (n + 1) st [] = some (vr k :: as, rest)) (hG : G[k]? = some sh) (hW : Nat.ble (sk_cs rest) 8 = true) (hen : Nat.ble (sk_sl (vr k :: as)).length M'.2.2.1 = true) (hd : d' + 1 ≤ d) (hmc : mc0 = mc' + mc) (hms : ms0 = ms' + ms)
    (kk : AW l E d' mc' ms' M' 0 (sk_en M'.2.2.1 (vr k :: as)) [] G σ (fun v G' σ' => AW l E d mc ms M nxt ls (v.toList ++ rest) G' σ' Q)) : AW l E d mc0 ms0 M pc ls st G σ Q := by
  subst hmc; subst hms
  intro hM p e R s m args below meth c H locs cells slots Qf ar hF hR hl hc hs hfin
  obtain ⟨hdc, rfl, hA, hlen⟩ := sk_dec hM h
  obtain rfl : 3 = len := hlen.resolve_left (by simp [sk_il])
  obtain ⟨rfl, has⟩ := sk_pop_st hp
  have has : as.length = n := by simpa using has
  have hmet := sk_met hC (Nat.le_of_ble_eq_true hen) kk
  rw [hL.2.2.2] at hmet
  have hts := hF.2.2.2.2.2.2.2.1
  intro T hT X
  have hsz := X.heapSize
  refine sk_behind (d := d) (rest := rest) (va_runI (cc := M.2.1) (nL := M.2.2.1) (Ts := sk_gw) (own := M.1.cls) (index := idx) (bytes := M'.2.1) (maxL := M'.2.2.1) (n := n) (b := E.1 + k) (As := as.map (sk_v E)) (rest := rest.map (sk_v E)) ⟨hF.1, hF.2.1, hF.2.2.2.1, hF.2.2.2.2.1, hts⟩ hmet ?_ ⟨sk_Pc_blind E _ _ _, fun U hU hWm => ⟨?_, sk_cx_move hF.2.2.2.2.2.2.2.2.1 hWm (by rw [hU]; exact hR.2.2), by rw [hU]; exact hR.1, ?_, hR.2.1⟩⟩ rfl (by simpa using has) hl.1 ?_ ?_ hdc ⟨by omega, by omega⟩) hM hF hR.2.2 ?_ hl hc.1 hs hfin T hT X
  · refine ⟨callB_of n hts (hL.2.2.2 ▸ sk_gG hC.2.1) rfl rfl rfl (hts _ hC.2.2.1) (hts _ hL.1) hC.2.2.2.2.2 ⟨?_, ?_⟩, hL.2.2.1, hts _ hL.2.1⟩
    · have := hF.2.2.2.2.2.2.2.2.2.1
      show d' + 1 ≤ R.frames
      omega
    · have := hF.2.2.2.2.2.2.2.2.2.2
      have := hC.2.2.2.2.1
      show 8 + (M'.2.2.1 + 11) + 41 * d' ≤ R.locals
      omega
  · rw [List.map_cons, sk_vr hG hR.2.1]
  · rw [hU, ← hT]; omega
  · show ((vr k :: as).reverse ++ rest).map (sk_v E) = _
    simp only [List.reverse_cons, List.map_append, List.map_reverse, List.map_cons, List.map_nil, List.append_assoc, List.singleton_append, List.cons_append, List.nil_append]
    rw [sk_vr hG hR.2.1]
  · show 2 * 0 + ((rest.map (sk_v E)).map fun v => v.category).sum ≤ 8
    rw [sk_cs_eq]
    have := Nat.le_of_ble_eq_true hW
    omega
  · have := sk_low hR.1 (Nat.le_trans hF.2.2.2.2.2.2.2.2.1.2.2.2.2.2.2 hR.2.2.1)
    omega
theorem AW_callIN {k : Nat} {sh : sk_Sh} (h : sk_find pc M.2.2.2.2 = some (pc0, (.invokespecial idx), len, nxt, aux)) (hL : sk_lIN M idx M') (hC : sk_lC n M') (hp : sk_pop (n + 1) st [] = some (vr k :: as, rest)) (hG : G[k]? = some sh) (hW : Nat.ble (sk_cs rest) 8 = true) (hen : Nat.ble (sk_sl (vr k :: as)).length M'.2.2.1 = true) (hd : d' + 1 ≤ d) (hmc : mc0 = mc' + mc) (hms : ms0 = ms' + ms)
    (kk : AW l E d' mc' ms' M' 0 (sk_en M'.2.2.1 (vr k :: as)) [] G σ (fun v G' σ' => AW l E d mc ms M nxt ls (v.toList ++ rest) G' σ' Q)) : AW l E d mc0 ms0 M pc ls st G σ Q := by
  subst hmc; subst hms
  intro hM p e R s m args below meth c H locs cells slots Qf ar hF hR hl hc hs hfin
  obtain ⟨hdc, rfl, hA, hlen⟩ := sk_dec hM h
  obtain rfl : 3 = len := hlen.resolve_left (by simp [sk_il])
  obtain ⟨rfl, has⟩ := sk_pop_st hp
  have has : as.length = n := by simpa using has
  have hmet := sk_met hC (Nat.le_of_ble_eq_true hen) kk
  rw [hL.2.2.2] at hmet
  have hts := hF.2.2.2.2.2.2.2.1
  intro T hT X
  have hsz := X.heapSize
  refine sk_behind (d := d) (rest := rest) (va_runIN (cc := M.2.1) (nL := M.2.2.1) (Ts := sk_gw) (own := M.1.cls) (host := "SealKeeper") (index := idx) (bytes := M'.2.1) (maxL := M'.2.2.1) (n := n) (b := E.1 + k) (As := as.map (sk_v E)) (rest := rest.map (sk_v E)) ⟨hF.1, hF.2.1, hF.2.2.2.1, hF.2.2.2.2.1, hts⟩ hmet ?_ ⟨sk_Pc_blind E _ _ _, fun U hU hWm => ⟨?_, sk_cx_move hF.2.2.2.2.2.2.2.2.1 hWm (by rw [hU]; exact hR.2.2), by rw [hU]; exact hR.1, ?_, hR.2.1⟩⟩ rfl (by simpa using has) hl.1 ?_ ?_ hdc ⟨by omega, by omega⟩) hM hF hR.2.2 ?_ hl hc.1 hs hfin T hT X
  · refine ⟨va_cnB n hts (hL.2.2.2 ▸ sk_gG hC.2.1) rfl rfl rfl (hF.2.2.2.2.2.2.2.2.1.2.1 _ hL.1) (hts _ hC.2.2.1) hC.2.2.2.2.2 ⟨?_, ?_⟩, hL.2.2.1, hts _ hL.2.1⟩
    · have := hF.2.2.2.2.2.2.2.2.2.1
      show d' + 1 ≤ R.frames
      omega
    · have := hF.2.2.2.2.2.2.2.2.2.2
      have := hC.2.2.2.2.1
      show 8 + (M'.2.2.1 + 11) + 41 * d' ≤ R.locals
      omega
  · rw [List.map_cons, sk_vr hG hR.2.1]
  · rw [hU, ← hT]; omega
  · show ((vr k :: as).reverse ++ rest).map (sk_v E) = _
    simp only [List.reverse_cons, List.map_append, List.map_reverse, List.map_cons, List.map_nil, List.append_assoc, List.singleton_append, List.cons_append, List.nil_append]
    rw [sk_vr hG hR.2.1]
  · show 2 * 0 + ((rest.map (sk_v E)).map fun v => v.category).sum ≤ 8
    rw [sk_cs_eq]
    have := Nat.le_of_ble_eq_true hW
    omega
  · have := sk_low hR.1 (Nat.le_trans hF.2.2.2.2.2.2.2.2.1.2.2.2.2.2.2 hR.2.2.1)
    omega
end SKC
end
section
/-! ===== returns, switches, constants, what lies outside, making ===== -/
section SKO
variable {l : Launch} {E : sk_En} {d mc ms : Nat} {M : sk_M} {pc pc0 len nxt : Nat} {aux : List Nat} {ls : List (Option sk_V)} {st : List sk_V} {G : List sk_Sh} {σ : sk_St} {I : sk_SI} {L : sk_SL} {J : sk_SR} {Q : Option sk_V → List sk_Sh → sk_St → Prop}
theorem sk_retA {v : Option sk_V} (hret : sk_ok M → sk_ret M pc v) (hst : st = v.toList) (hq : Q v G σ) : AW l E d 0 ms M pc ls st G σ Q := by
  intro hM p e R s m args below meth c H locs cells slots Qf ar hF hR hl hc hs hfin
  subst hst
  have := hfin v G σ pc ar H locs slots hq hR (hret hM) (by simpa using hc.2) (by omega)
  have he : v.toList.map (sk_v E) = (v.map (sk_v E)).toList := by cases v <;> rfl
  rw [he]
  exact this
theorem AW_iret {x : Int} (h : sk_find pc M.2.2.2.2 = some (pc0, .ireturn, len, nxt, aux)) (hr : M.2.2.2.1 = some .int) (hq : Q (some (vi x)) G σ) : AW l E d 0 ms M pc ls [vi x] G σ Q := by
  refine sk_retA (v := some (vi x)) (fun hM => ?_) rfl hq
  obtain ⟨hd, -, -, hlen⟩ := sk_dec hM h
  obtain rfl : 1 = len := hlen.resolve_left (by simp [sk_il])
  exact ⟨hd, .int, hr, rfl⟩
theorem AW_zret {x : Int} (h : sk_find pc M.2.2.2.2 = some (pc0, .ireturn, len, nxt, aux)) (hr : M.2.2.2.1 = some .boolean) (hx : x = 0 ∨ x = 1) (hq : Q (some (vi x)) G σ) : AW l E d 0 ms M pc ls [vi x] G σ Q := by
  refine sk_retA (v := some (vi x)) (fun hM => ?_) rfl hq
  obtain ⟨hd, -, -, hlen⟩ := sk_dec hM h
  obtain rfl : 1 = len := hlen.resolve_left (by simp [sk_il])
  exact ⟨hd, .boolean, hr, (sk_b01 hx).1⟩
theorem AW_lret {x : Int64} (h : sk_find pc M.2.2.2.2 = some (pc0, .lreturn, len, nxt, aux)) (hr : M.2.2.2.1 = some .long) (hq : Q (some (vl x)) G σ) : AW l E d 0 ms M pc ls [vl x] G σ Q := by
  refine sk_retA (v := some (vl x)) (fun hM => ?_) rfl hq
  obtain ⟨hd, -, -, hlen⟩ := sk_dec hM h
  obtain rfl : 1 = len := hlen.resolve_left (by simp [sk_il])
  exact ⟨hd, hr⟩
theorem AW_vret (h : sk_find pc M.2.2.2.2 = some (pc0, .return_, len, nxt, aux)) (hr : M.2.2.2.1 = none) (hq : Q none G σ) : AW l E d 0 ms M pc ls [] G σ Q := by
  refine sk_retA (v := none) (fun hM => ?_) rfl hq
  obtain ⟨hd, -, -, hlen⟩ := sk_dec hM h
  obtain rfl : 1 = len := hlen.resolve_left (by simp [sk_il])
  exact ⟨hd, hr⟩
/-- the same int in another word -/
theorem AW_top {a b : Int} (h : a = b) (k : AW l E d mc ms M pc ls (vi b :: st) G σ Q) : AW l E d mc ms M pc ls (vi a :: st) G σ Q := h ▸ k
theorem AW_wrap {a b : Int} (h : Int32.ofInt a = Int32.ofInt b) (k : AW l E d mc ms M pc ls (vi b :: st) G σ Q) : AW l E d mc ms M pc ls (vi a :: st) G σ Q := by
  intro hM p e R s m args below meth c H locs cells slots Qf ar hF hR hl hc hs hfin
  have := k hM p e R s m args below meth c H locs cells slots Qf ar hF hR hl hc hs hfin
  simp only [List.map_cons, sk_v] at this ⊢
  rw [h]
  exact this
theorem sk_nI_of {a : Int} (h : 0 ≤ a) : Int32.ofInt a = nI a.toNat := by
  obtain ⟨n, rfl⟩ := Int.eq_ofNat_of_zero_le h
  rw [Int.toNat_natCast]
  exact Int32.ofInt_eq_ofNat
theorem AW_idiv {a b : Int} (h : sk_find pc M.2.2.2.2 = some (pc0, .idiv, len, nxt, aux)) (ha : 0 ≤ a ∧ a ≤ 2147483647) (hb : 0 < b ∧ b ≤ 2147483647) (k : AW l E d mc ms M nxt ls (vi (a / b) :: st) G σ Q) : AW l E d mc ms M pc ls (vi b :: vi a :: st) G σ Q := by
  intro hM p e R s m args below meth c H locs cells slots Qf ar hF hR hl hc hs hfin
  obtain ⟨hd, rfl, hA, hlen⟩ := sk_dec hM h
  obtain rfl : 1 = len := hlen.resolve_left (by simp [sk_il])
  have k1 := k hM p e R s m args below meth c H locs cells slots Qf ar hF hR hl hc hs hfin
  have hdiv : Int32.ofInt a / Int32.ofInt b = Int32.ofInt (a / b) := by
    have h0 : 0 ≤ a / b := Int.ediv_nonneg ha.1 (by omega)
    rw [sk_nI_of ha.1, sk_nI_of (by omega : 0 ≤ b), pk_div (by omega) (by omega) (by omega), sk_nI_of h0]
    congr 1
    obtain ⟨n, rfl⟩ := Int.eq_ofNat_of_zero_le ha.1
    obtain ⟨m, rfl⟩ := Int.eq_ofNat_of_zero_le (show 0 ≤ b by omega)
    simp only [Int.toNat_natCast]
    omega
  refine lv_idiv hF.1 hF.2.1 hd ?_ (by rw [hdiv]; exact k1)
  intro e0
  have := (sk_eq_iff (a := b) (b := 0) ⟨by omega, by omega⟩ sk_in0).mp e0
  omega
theorem AW_irem {a b : Int} (h : sk_find pc M.2.2.2.2 = some (pc0, .irem, len, nxt, aux)) (ha : 0 ≤ a ∧ a ≤ 2147483647) (hb : 0 < b ∧ b ≤ 2147483647) (k : AW l E d mc ms M nxt ls (vi (a % b) :: st) G σ Q) : AW l E d mc ms M pc ls (vi b :: vi a :: st) G σ Q := by
  intro hM p e R s m args below meth c H locs cells slots Qf ar hF hR hl hc hs hfin
  obtain ⟨hd, rfl, hA, hlen⟩ := sk_dec hM h
  obtain rfl : 1 = len := hlen.resolve_left (by simp [sk_il])
  have k1 := k hM p e R s m args below meth c H locs cells slots Qf ar hF hR hl hc hs hfin
  have hdiv : Int32.ofInt a - Int32.ofInt a / Int32.ofInt b * Int32.ofInt b = Int32.ofInt (a % b) := by
    have h0 : 0 ≤ a % b := Int.emod_nonneg a (by omega)
    rw [sk_nI_of ha.1, sk_nI_of (by omega : 0 ≤ b), pk_rem (by omega) (by omega) (by omega), sk_nI_of h0]
    congr 1
    obtain ⟨n, rfl⟩ := Int.eq_ofNat_of_zero_le ha.1
    obtain ⟨m, rfl⟩ := Int.eq_ofNat_of_zero_le (show 0 ≤ b by omega)
    simp only [Int.toNat_natCast]
    omega
  refine lv_irem hF.1 hF.2.1 hd ?_ (by rw [hdiv]; exact k1)
  intro e0
  have := (sk_eq_iff (a := b) (b := 0) ⟨by omega, by omega⟩ sk_in0).mp e0
  omega
theorem AW_tin {x df lo hi : Int} {offs : Array Int} {t0 t : Nat} {ts : List Nat} (i : Nat) (h : sk_find pc M.2.2.2.2 = some (pc0, (.tableswitch df lo hi offs), len, nxt, t0 :: ts)) (hx : x = lo + i) (ht : ts[i]? = some t) (hin : sk_in x) (k : AW l E d mc ms M t ls st G σ Q) : AW l E d mc ms M pc ls (vi x :: st) G σ Q := by
  intro hM p e R s m args below meth c H locs cells slots Qf ar hF hR hl hc hs hfin
  obtain ⟨hd, -, hA, -⟩ := sk_dec hM h
  have hA : (decide ((pc : Int) + df = (t0 : Int)) && decide (offs.toList.map (fun o => (pc : Int) + o) = ts.map (fun (t : Nat) => (t : Int))) && decide (hi - lo + 1 = (ts.length : Int))) = true := hA
  simp only [Bool.and_eq_true, decide_eq_true_eq] at hA
  have hi1 : i < ts.length := (List.getElem?_eq_some_iff.mp ht).1
  have h1 : (offs.toList.map (fun o => (pc : Int) + o))[i]? = some (t : Int) := by rw [hA.1.2, List.getElem?_map, ht]; rfl
  rw [List.getElem?_map, Option.map_eq_some_iff] at h1
  obtain ⟨o, ho, hot⟩ := h1
  refine lv_tableIn hF.1 hF.2.1 hd ?_ ?_ (off := o) ?_ hot (k hM p e R s m args below meth c H locs cells slots Qf ar hF hR hl hc hs hfin)
  · rw [sk_toInt hin]; omega
  · rw [sk_toInt hin]; omega
  · rw [sk_toInt hin, show (x - lo).toNat = i by omega, ← Array.getElem?_toList]; exact ho
theorem AW_tout {x df lo hi : Int} {offs : Array Int} {t0 : Nat} {ts : List Nat} (h : sk_find pc M.2.2.2.2 = some (pc0, (.tableswitch df lo hi offs), len, nxt, t0 :: ts)) (hx : x < lo ∨ hi < x) (hin : sk_in x) (k : AW l E d mc ms M t0 ls st G σ Q) : AW l E d mc ms M pc ls (vi x :: st) G σ Q := by
  intro hM p e R s m args below meth c H locs cells slots Qf ar hF hR hl hc hs hfin
  obtain ⟨hd, -, hA, -⟩ := sk_dec hM h
  have hA : (decide ((pc : Int) + df = (t0 : Int)) && decide (offs.toList.map (fun o => (pc : Int) + o) = ts.map (fun (t : Nat) => (t : Int))) && decide (hi - lo + 1 = (ts.length : Int))) = true := hA
  simp only [Bool.and_eq_true, decide_eq_true_eq] at hA
  exact lv_tableOut hF.1 hF.2.1 hd (by rw [sk_toInt hin]; exact hx) hA.1.1 (k hM p e R s m args below meth c H locs cells slots Qf ar hF hR hl hc hs hfin)
theorem AW_lsw {x df : Int} {ps : Array (Int × Int)} {off : Int} {t : Nat} (h : sk_find pc M.2.2.2.2 = some (pc0, (.lookupswitch df ps), len, nxt, aux)) (hp : (ps.toList.zip (ps.toList.drop 1)).all (fun (a, next) => a.1 < next.1) = true) (ho : Op.lookupswitch.offset ps.toList df x = off) (ht : (pc : Int) + off = (t : Int)) (hin : sk_in x) (k : AW l E d mc ms M t ls st G σ Q) : AW l E d mc ms M pc ls (vi x :: st) G σ Q := by
  intro hM p e R s m args below meth c H locs cells slots Qf ar hF hR hl hc hs hfin
  obtain ⟨hd, -, hA, -⟩ := sk_dec hM h
  exact lv_lookup hF.1 hF.2.1 hd hp (by rw [sk_toInt hin]; exact ho) ht (k hM p e R s m args below meth c H locs cells slots Qf ar hF hR hl hc hs hfin)
theorem AW_ldcM {idx q : Nat} (h : sk_find pc M.2.2.2.2 = some (pc0, (.ldc idx), len, nxt, [99, q])) (k : AW l E d mc ms M nxt ls (vi 1000000 :: st) G σ Q) : AW l E d mc ms M pc ls st G σ Q := by
  intro hM p e R s m args below meth c H locs cells slots Qf ar hF hR hl hc hs hfin
  obtain ⟨hd, rfl, hA, hlen⟩ := sk_dec hM h
  obtain rfl : 2 = len := hlen.resolve_left (by simp [sk_il])
  have hA : (decide (sk_str[99]?.map (fun t => (t.1, t.2.1)) = some (M.1.cls, idx)) || (Nat.beq 99 99 && decide (lw_tbl[q]? = some (.constant M.1.cls idx 1000000)))) = true := hA
  have hA : lw_tbl[q]? = some (.constant M.1.cls idx 1000000) := by
    rw [Bool.or_eq_true, Bool.and_eq_true, decide_eq_true_eq, decide_eq_true_eq] at hA
    rcases hA with hA | hA
    · exact absurd hA (by simp [sk_str])
    · exact hA.2
  exact lv_ldc hF.1 hF.2.1 hF.2.2.2.2.1 (hF.2.2.2.2.2.2.2.1 _ (sk_wd hA rfl)) hd (k hM p e R s m args below meth c H locs cells slots Qf ar hF hR hl hc hs hfin)
theorem AW_ldc2 {idx : Nat} {x : Int64} (h : sk_find pc M.2.2.2.2 = some (pc0, (.ldc2_w idx), len, nxt, aux)) (hw : Cond.constantLong M.1.cls idx x ∈ sk_gw) (k : AW l E d mc ms M nxt ls (vl x :: st) G σ Q) : AW l E d mc ms M pc ls st G σ Q := by
  intro hM p e R s m args below meth c H locs cells slots Qf ar hF hR hl hc hs hfin
  obtain ⟨hd, rfl, hA, hlen⟩ := sk_dec hM h
  obtain rfl : 3 = len := hlen.resolve_left (by simp [sk_il])
  exact lv_ldc2 hF.1 hF.2.1 hF.2.2.2.2.1 (hF.2.2.2.2.2.2.2.1 _ hw) hd (k hM p e R s m args below meth c H locs cells slots Qf ar hF hR hl hc hs hfin)
theorem AW_ldcS {idx x q : Nat} {t : String × Nat × String} (h : sk_find pc M.2.2.2.2 = some (pc0, (.ldc idx), len, nxt, [x, q])) (ht : sk_str[x]? = some t) (ht2 : t.1 = M.1.cls ∧ t.2.1 = idx) (k : AW l E d mc ms M nxt ls (vr (1000 + x) :: st) G σ Q) : AW l E d mc ms M pc ls st G σ Q := by
  intro hM p e R s m args below meth c H locs cells slots Qf ar hF hR hl hc hs hfin
  obtain ⟨hd, rfl, hA, hlen⟩ := sk_dec hM h
  obtain rfl : 2 = len := hlen.resolve_left (by simp [sk_il])
  have k1 := k hM p e R s m args below meth c H locs cells slots Qf ar hF hR hl hc hs hfin
  have hv : sk_v E (vr (1000 + x)) = .ref (E.2.2.2.1 x) := by
    show Value.ref (sk_ad E (1000 + x)) = _
    unfold sk_ad
    rw [if_neg (by omega), Nat.add_sub_cancel_left]
  rw [List.map_cons, hv] at k1
  have hz := hF.2.2.2.2.2.2.2.2.1.2.2.2.1.2.1 x t ht
  rw [ht2.1, ht2.2] at hz
  exact va_ldcS hF.1 hF.2.1 hF.2.2.2.2.1 hz hd k1
theorem sk_xv (x : Nat) : sk_v E (vr (1020 + x)) = .ref (E.2.2.2.1 (20 + x)) := by
  show Value.ref (sk_ad E (1020 + x)) = _
  unfold sk_ad
  rw [if_neg (by omega), show 1020 + x - 1000 = 20 + x by omega]
theorem AW_gets {idx x q : Nat} (h : sk_find pc M.2.2.2.2 = some (pc0, (.getstatic idx), len, nxt, [x, q])) (k : AW l E d mc ms M nxt ls (vr (1020 + x) :: st) G σ Q) : AW l E d mc ms M pc ls st G σ Q := by
  intro hM p e R s m args below meth c H locs cells slots Qf ar hF hR hl hc hs hfin
  obtain ⟨hd, rfl, hA, hlen⟩ := sk_dec hM h
  obtain rfl : 3 = len := hlen.resolve_left (by simp [sk_il])
  have hA : (decide (lw_tbl[q]? = some (.fieldLink M.1.cls idx "SealKeeper$Reader" (sk_tab.getD x ("", [])).1 "[I")) && Nat.blt x 3) = true := hA
  rw [Bool.and_eq_true, decide_eq_true_eq, Nat.blt_eq] at hA
  have k1 := k hM p e R s m args below meth c H locs cells slots Qf ar hF hR hl hc hs hfin
  rw [List.map_cons, sk_xv] at k1
  have ht : sk_tab[x]? = some (sk_tab.getD x ("", [])) := by
    have : x < sk_tab.length := hA.2
    rw [List.getD_eq_getElem?_getD, List.getElem?_eq_getElem this]
    rfl
  exact va_gets hF.1 hF.2.1 (hF.2.2.2.2.2.2.2.2.1.2.2.2.2.1 x _ ht).1 hR.2.2 hF.2.2.2.2.1 (hF.2.2.2.2.2.2.2.1 _ (sk_wd hA.1 rfl)) (fun _ h => h) hd k1
theorem AW_xld {x : Nat} {i : Int} {t : String × List Int} (h : sk_find pc M.2.2.2.2 = some (pc0, .iaload, len, nxt, aux)) (ht : sk_tab[x]? = some t) (hi : 0 ≤ i ∧ i < 13) (k : AW l E d mc ms M nxt ls (vi (t.2.getD i.toNat 0) :: st) G σ Q) : AW l E d mc ms M pc ls (vi i :: vr (1020 + x) :: st) G σ Q := by
  intro hM p e R s m args below meth c H locs cells slots Qf ar hF hR hl hc hs hfin
  obtain ⟨hd, rfl, hA, hlen⟩ := sk_dec hM h
  obtain rfl : 1 = len := hlen.resolve_left (by simp [sk_il])
  have k1 := k hM p e R s m args below meth c H locs cells slots Qf ar hF hR hl hc hs hfin
  show W p l e R s m args below meth c H locs cells slots Qf (F0 m pc ar (.int (Int32.ofInt i) :: sk_v E (vr (1020 + x)) :: st.map (sk_v E)))
  rw [sk_xv]
  refine va_ti hF.1 hF.2.1 (hF.2.2.2.2.2.2.2.2.1.2.2.2.2.1 x _ ht).2 hR.2.2 (sk_vin hi.1 (by omega) (by decide)) (v := .int (Int32.ofInt (t.2.getD i.toNat 0))) ?_ hd k1
  have := sk_nat hi.1 (by omega)
  rw [show (Int32.ofInt i).toNatClampNeg = i.toNat by omega]
theorem AW_xlen {x : Nat} (h : sk_find pc M.2.2.2.2 = some (pc0, .arraylength, len, nxt, aux)) (hx : x < 3) (k : AW l E d mc ms M nxt ls (vi 13 :: st) G σ Q) : AW l E d mc ms M pc ls (vr (1020 + x) :: st) G σ Q := by
  intro hM p e R s m args below meth c H locs cells slots Qf ar hF hR hl hc hs hfin
  obtain ⟨hd, rfl, hA, hlen⟩ := sk_dec hM h
  obtain rfl : 1 = len := hlen.resolve_left (by simp [sk_il])
  have k1 := k hM p e R s m args below meth c H locs cells slots Qf ar hF hR hl hc hs hfin
  show W p l e R s m args below meth c H locs cells slots Qf (F0 m pc ar (sk_v E (vr (1020 + x)) :: st.map (sk_v E)))
  rw [sk_xv]
  have ht : sk_tab[x]? = some (sk_tab.getD x ("", [])) := by
    have : x < sk_tab.length := hx
    rw [List.getD_eq_getElem?_getD, List.getElem?_eq_getElem this]
    rfl
  exact va_tlen hF.1 hF.2.1 (hF.2.2.2.2.2.2.2.2.1.2.2.2.2.1 x _ ht).2 hR.2.2 (v := Int32.ofInt 13) rfl hd k1
theorem sk_xs : sk_v E (vr 1030) = .ref (E.2.2.2.1 30) := by
  show Value.ref (sk_ad E 1030) = _
  unfold sk_ad
  rw [if_neg (by omega)]
theorem AW_sld {i : Int} (h : sk_find pc M.2.2.2.2 = some (pc0, .iaload, len, nxt, aux)) (hi : 0 ≤ i ∧ i < E.2.2.2.2.2.1) (hL : E.2.2.2.2.2.1 < 2147483648) (k : AW l E d mc ms M nxt ls (vi (E.2.2.2.2.2.2 i.toNat).toInt :: st) G σ Q) : AW l E d mc ms M pc ls (vi i :: vr 1030 :: st) G σ Q := by
  intro hM p e R s m args below meth c H locs cells slots Qf ar hF hR hl hc hs hfin
  obtain ⟨hd, rfl, hA, hlen⟩ := sk_dec hM h
  obtain rfl : 1 = len := hlen.resolve_left (by simp [sk_il])
  have k1 := k hM p e R s m args below meth c H locs cells slots Qf ar hF hR hl hc hs hfin
  show W p l e R s m args below meth c H locs cells slots Qf (F0 m pc ar (.int (Int32.ofInt i) :: sk_v E (vr 1030) :: st.map (sk_v E)))
  rw [sk_xs]
  have hx := hF.2.2.2.2.2.2.2.2.1.2.2.2.2.2.1
  refine va_sld hF.1 hF.2.1 hx.1 hx.2.1 (Nat.not_le.mpr hx.2.2) hR.2.2 (sk_vin hi.1 hi.2 hL) hd ?_
  have := sk_nat hi.1 (by omega)
  rw [show (Int32.ofInt i).toNatClampNeg = i.toNat by omega]
  rw [List.map_cons] at k1
  simp only [sk_v, sk_oi] at k1
  exact k1
theorem AW_slen (h : sk_find pc M.2.2.2.2 = some (pc0, .arraylength, len, nxt, aux)) (k : AW l E d mc ms M nxt ls (vi (E.2.2.2.2.2.1 : Int) :: st) G σ Q) : AW l E d mc ms M pc ls (vr 1030 :: st) G σ Q := by
  intro hM p e R s m args below meth c H locs cells slots Qf ar hF hR hl hc hs hfin
  obtain ⟨hd, rfl, hA, hlen⟩ := sk_dec hM h
  obtain rfl : 1 = len := hlen.resolve_left (by simp [sk_il])
  have k1 := k hM p e R s m args below meth c H locs cells slots Qf ar hF hR hl hc hs hfin
  show W p l e R s m args below meth c H locs cells slots Qf (F0 m pc ar (sk_v E (vr 1030) :: st.map (sk_v E)))
  rw [sk_xs]
  have hx := hF.2.2.2.2.2.2.2.2.1.2.2.2.2.2.1
  refine va_slen hF.1 hF.2.1 hx.1 hx.2.1 (Nat.not_le.mpr hx.2.2) hR.2.2 hd ?_
  rw [← Int32.ofInt_eq_ofNat]
  exact k1
/-! making -/
def sk_nI (I : sk_SI) (k : Nat) : sk_SI := fun k' => if k' = k then fun _ => 0 else I k'
def sk_nL (I : sk_SL) (k : Nat) : sk_SL := fun k' => if k' = k then fun _ => 0 else I k'
def sk_nJ (I : sk_SR) (k : Nat) : sk_SR := fun k' => if k' = k then fun _ => none else I k'
theorem sk_w_push {σ σ' : sk_St} {sh : sk_Sh} (ho : ∀ (k' : Nat) (sh' : sk_Sh), k' < G.length → sk_cell E σ' k' sh' = sk_cell E σ k' sh') : sk_w E (G ++ [sh]) σ' = sk_w E G σ ++ [(E.1 + G.length, sk_cell E σ' G.length sh)] := by
  apply List.ext_getElem?
  intro i
  rw [sk_w_get]
  by_cases hi : i < G.length
  · rw [List.getElem?_append_left hi, List.getElem?_append_left (by simpa [sk_w] using hi), sk_w_get, List.getElem?_eq_getElem hi]
    simp [ho i _ hi]
  · rw [List.getElem?_append_right (by omega), List.getElem?_append_right (by simpa [sk_w] using hi)]
    by_cases h0 : i = G.length
    · subst h0; simp [sk_w]
    · rw [List.getElem?_eq_none (by simp; omega), List.getElem?_eq_none (by simp [sk_w]; omega)]; rfl
theorem sk_new_o (k : Nat) (sh : sk_Sh) (h : k < G.length) : sk_cell E (sk_nI I G.length, sk_nL L G.length, sk_nJ J G.length) k sh = sk_cell E (I, L, J) k sh := by
  have h1 : k ≠ G.length := by omega
  exact sk_cell_o sh (by simp [sk_nI, h1]) (by simp [sk_nL, h1]) (by simp [sk_nJ, h1])
/-- a new cell: where it comes to lie -/
theorem sk_top {σ : sk_St} {p : Program} {e : Env} {R : Room} {s : State} {m : MethodId} {args : Array Value} {below : List Frame} {meth : Method} {c : Code} {H : Heap} {locs : List Loc} {cells slots : Nat} {T : State} (X : Stand p l e R s m args below meth c T locs cells slots) (hT : T.heap = H) (hR : sk_R E G σ s H locs) (hb : E.1 ≤ s.heap.size) (hz : s.heap.size + cells ≤ E.1 + G.length) : H.size = E.1 + G.length := by
  have h1 := X.heapSize
  have h2 := sk_low hR.1 (Nat.le_trans hb hR.2.2.1)
  rw [hT] at h1
  omega
end SKO
end
section
/-! ===== making cells ===== -/
section SKN
variable {l : Launch} {E : sk_En} {d mc ms : Nat} {M : sk_M} {pc pc0 len nxt : Nat} {aux : List Nat} {ls : List (Option sk_V)} {st : List sk_V} {G : List sk_Sh} {σ : sk_St} {I : sk_SI} {L : sk_SL} {J : sk_SR} {Q : Option sk_V → List sk_Sh → sk_St → Prop}
theorem sk_q {H1 : Heap} {q : Nat} {x : va_E} (hD : va_D (sk_A E) (sk_w E G σ ++ [(q, x)])) (hP : va_P E.2.1 vwCl (sk_w E G σ ++ [(q, x)]) H1) (hz : H1.size ≤ E.1 + G.length + 1) : q = E.1 + G.length := by
  have hlen : (sk_w E G σ).length = G.length := by simp [sk_w]
  have hlast : (sk_w E G σ ++ [(q, x)])[G.length]? = some (q, x) := by
    rw [List.getElem?_append_right (by omega), hlen, Nat.sub_self]; rfl
  have h1 : q < H1.size := (hP _ _ hlast).lt
  have h2 : E.1 ≤ q := hD.2 _ _ hlast
  by_cases h3 : q < E.1 + G.length
  · have hk : q - E.1 < G.length := by omega
    have h4 : (sk_w E G σ ++ [(q, x)])[q - E.1]? = some (E.1 + (q - E.1), sk_cell E σ (q - E.1) (G[q - E.1]'hk)) := by
      rw [List.getElem?_append_left (by omega)]
      exact sk_w_at (List.getElem?_eq_getElem hk)
    have := hD.1 _ _ _ _ hlast h4 (by dsimp only; omega)
    omega
  · omega
theorem AW_new {ci q1 q2 q3 idx N : Nat} (h : sk_find pc M.2.2.2.2 = some (pc0, (.new idx), len, nxt, [ci, q1, q2, q3])) (hG : G.length < 1000) (hN : (sk_C ci).2.2 = N) (k : AW l E d mc ms M nxt ls (vr G.length :: st) (G ++ [.inl ci]) (sk_nI I G.length, sk_nL L G.length, sk_nJ J G.length) Q) : AW l E d (mc + 1) (ms + N) M pc ls st G (I, L, J) Q := by
  intro hM p e R s m args below meth c H locs cells slots Qf ar hF hR hl hc hs hfin
  obtain ⟨hd, rfl, hA, hlen⟩ := sk_dec hM h
  obtain rfl : 3 = len := hlen.resolve_left (by simp [sk_il])
  have hA : (Nat.blt ci 11 && decide (lw_tbl[q1]? = some (.classLink M.1.cls idx (sk_C ci).1)) && decide (lw_tbl[q2]? = some (.instantiable (sk_C ci).1 (sk_C ci).2.2)) && decide (lw_tbl[q3]? = some (.initialized (sk_C ci).1))) = true := hA
  simp only [Bool.and_eq_true, decide_eq_true_eq, Nat.blt_eq] at hA
  obtain ⟨⟨⟨f1, f2⟩, f3⟩, f4⟩ := hA
  subst hN
  have hts := hF.2.2.2.2.2.2.2.1
  have hcx := hF.2.2.2.2.2.2.2.2.1
  have hfs : ∀ j, j < (sk_C ci).2.2 → defaultValue (sk_ty ci j) = vp_V ((List.range (sk_C ci).2.2).map (fun j => sk_fv E (sk_nI I G.length, sk_nL L G.length, sk_nJ J G.length) G.length j (sk_ty ci j))) j := by
    intro j hj
    have hh : sk_ty ci j = .int ∨ sk_ty ci j = .boolean ∨ sk_isR (sk_ty ci j) = true := by
      revert j
      rcases (show ci = 0 ∨ ci = 1 ∨ ci = 2 ∨ ci = 3 ∨ ci = 4 ∨ ci = 5 ∨ ci = 6 ∨ ci = 7 ∨ ci = 8 ∨ ci = 9 ∨ ci = 10 by omega) with rfl | rfl | rfl | rfl | rfl | rfl | rfl | rfl | rfl | rfl | rfl <;> decide +kernel
    unfold vp_V
    rw [List.getD_eq_getElem?_getD, sk_fs_get hj, Option.getD_some]
    simp only [sk_fv, sk_nI, sk_nJ, if_true]
    rcases hh with hh | hh | hh
    · rw [hh]; rfl
    · rw [hh]; rfl
    · rw [hh]
      generalize sk_ty ci j = ty at hh
      cases ty <;> first | rfl | cases hh
  refine va_new hF.1 hF.2.1 hts (sk_lays f1) (sk_ty ci) (sk_tyok f1) hF.2.2.2.2.1 (hts _ (sk_wd f2 rfl)) (hts _ (sk_wd f3 rfl)) (hts _ (sk_wd f4 rfl)) hcx.1 hR.1 (sk_w_D E G (I, L, J)) hR.2.2 (fun q hq => Nat.le_trans hcx.2.2.2.2.2.2 hq) (sk_cl f1) hfs (by omega) (by omega) hd (fun q H1 hP1 hD1 hS1 => ?_)
  intro T hT X
  have hsz := X.heapSize
  rw [hT] at hsz
  have hq := sk_q hD1 hP1 (by omega)
  subst hq
  have hw := sk_w_push (E := E) (G := G) (σ := (I, L, J)) (σ' := (sk_nI I G.length, sk_nL L G.length, sk_nJ J G.length)) (sh := .inl ci) (fun k' sh' hk => sk_new_o k' sh' hk)
  have hP2 : va_P E.2.1 vwCl (sk_w E (G ++ [.inl ci]) (sk_nI I G.length, sk_nL L G.length, sk_nJ J G.length)) H1 := by rw [hw]; exact hP1
  have hv : sk_v E (vr G.length) = .ref (E.1 + G.length) := sk_vr (G := G ++ [.inl ci]) (sh := .inl ci) (by simp) (by simp; omega)
  have k1 := k hM p e R s m args below meth c H1 locs (cells + 1) (slots + (sk_C ci).2.2) Qf ar hF ⟨hP2, by simp; omega, hS1⟩ hl ⟨by omega, by simp; omega⟩ (by omega) (fun v G' σ' pc' ar' H' locs' slots' r1 r2 r3 r4 r5 => by
    rw [show cells + 1 + mc = cells + (mc + 1) by omega]
    exact hfin v G' σ' pc' ar' H' locs' slots' r1 r2 r3 (by omega) r5)
  rw [List.map_cons, hv] at k1
  exact k1 T hT X
theorem sk_defI {n : Nat} (cA : ClassId) : vp_cell cA (n, .inl (fun _ => 0)) = arrV cA n (fun _ => defaultValue .int) := rfl
/-- a new array of ints, booleans or longs -/
theorem AW_newa {at' : ArrayType} {tc n : Nat} (h : sk_find pc M.2.2.2.2 = some (pc0, (.newarray at'), len, nxt, aux)) (hat : newarray.typeOf at' = .int ∧ tc = 0 ∨ newarray.typeOf at' = .boolean ∧ tc = 1 ∨ newarray.typeOf at' = .long ∧ tc = 2) (hw : Cond.arrayClass (newarray.typeOf at') ∈ sk_gw) (hn : n ≤ 1000000) (hG : G.length < 1000) (k : AW l E d mc ms M nxt ls (vr G.length :: st) (G ++ [.inr (tc, n)]) (sk_nI I G.length, sk_nL L G.length, sk_nJ J G.length) Q) : AW l E d (mc + 1) (ms + n) M pc ls (vi n :: st) G (I, L, J) Q := by
  intro hM p e R s m args below meth c H locs cells slots Qf ar hF hR hl hc hs hfin
  obtain ⟨hd, rfl, hA, hlen⟩ := sk_dec hM h
  obtain rfl : 2 = len := hlen.resolve_left (by simp [sk_il])
  have hts := hF.2.2.2.2.2.2.2.1
  have hcx := hF.2.2.2.2.2.2.2.2.1
  have ht : (sk_tys E)[tc]? = some (E.2.2.1 tc, newarray.typeOf at') := by
    rcases hat with ⟨h1, rfl⟩ | ⟨h1, rfl⟩ | ⟨h1, rfl⟩ <;> rw [h1] <;> rfl
  have ha : ∀ cA : ClassId, vp_cell cA (n, sk_pay E (sk_nI I G.length, sk_nL L G.length, sk_nJ J G.length) G.length tc) = arrV cA n (fun _ => defaultValue (newarray.typeOf at')) := by
    intro cA
    rcases hat with ⟨h1, rfl⟩ | ⟨h1, rfl⟩ | ⟨h1, rfl⟩ <;> rw [h1] <;> simp only [sk_pay, sk_nI, sk_nL, if_true] <;> rfl
  have hb : n * componentBytes (newarray.typeOf at') ≤ 536870912 := by
    rcases hat with ⟨h1, rfl⟩ | ⟨h1, rfl⟩ | ⟨h1, rfl⟩ <;> rw [h1] <;> simp only [componentBytes] <;> omega
  have hnn : Int32.ofInt (n : Int) = nI n := Int32.ofInt_eq_ofNat
  show W p l e R s m args below meth c H locs cells slots Qf (F0 m pc ar (.int (Int32.ofInt (n : Int)) :: st.map (sk_v E)))
  refine va_newa hF.1 hF.2.1 (hts _ hw) rfl hcx.1 hR.1 (sk_w_D E G (I, L, J)) hR.2.2 (fun q hq => Nat.le_trans hcx.2.2.2.2.2.2 hq) ha ?_ ?_ hb (by omega) (by omega) hd (fun q cA H1 hK1 hP1 hD1 hS1 => ?_)
  · rw [hnn]; exact nI_pos (by omega)
  · rw [hnn]; exact nI_clamp (by omega)
  have hcA : cA = E.2.2.1 tc := by
    have r1 := (hK1.2 (sk_tys E).length (cA, newarray.typeOf at') (by simp)).2
    have r2 := (hcx.1.2 tc _ ht).2
    rcases hat with ⟨h1, rfl⟩ | ⟨h1, rfl⟩ | ⟨h1, rfl⟩ <;> rw [h1] at r1 r2 <;> exact Option.some.inj (r1.symm.trans r2)
  subst hcA
  intro T hT X
  have hsz := X.heapSize
  rw [hT] at hsz
  have hq := sk_q hD1 hP1 (by omega)
  subst hq
  have hw2 := sk_w_push (E := E) (G := G) (σ := (I, L, J)) (σ' := (sk_nI I G.length, sk_nL L G.length, sk_nJ J G.length)) (sh := .inr (tc, n)) (fun k' sh' hk => sk_new_o k' sh' hk)
  have hP2 : va_P E.2.1 vwCl (sk_w E (G ++ [.inr (tc, n)]) (sk_nI I G.length, sk_nL L G.length, sk_nJ J G.length)) H1 := by rw [hw2]; exact hP1
  have hv : sk_v E (vr G.length) = .ref (E.1 + G.length) := sk_vr (G := G ++ [.inr (tc, n)]) (sh := .inr (tc, n)) (by simp) (by simp; omega)
  have k1 := k hM p e R s m args below meth c H1 locs (cells + 1) (slots + n) Qf ar hF ⟨hP2, by simp; omega, hS1⟩ hl ⟨by omega, by simp; omega⟩ (by omega) (fun v G' σ' pc' ar' H' locs' slots' r1 r2 r3 r4 r5 => by
    rw [show cells + 1 + mc = cells + (mc + 1) by omega]
    exact hfin v G' σ' pc' ar' H' locs' slots' r1 r2 r3 (by omega) r5)
  rw [List.map_cons, hv] at k1
  exact k1 T hT X
/-- a new array of Strings -/
theorem AW_newq {idx n : Nat} (h : sk_find pc M.2.2.2.2 = some (pc0, (.anewarray idx), len, nxt, aux)) (hw : Cond.classLink M.1.cls idx "java/lang/String" ∈ sk_gw) (hn : n ≤ 1000000) (hG : G.length < 1000) (k : AW l E d mc ms M nxt ls (vr G.length :: st) (G ++ [.inr (3, n)]) (sk_nI I G.length, sk_nL L G.length, sk_nJ J G.length) Q) : AW l E d (mc + 1) (ms + n) M pc ls (vi n :: st) G (I, L, J) Q := by
  intro hM p e R s m args below meth c H locs cells slots Qf ar hF hR hl hc hs hfin
  obtain ⟨hd, rfl, hA, hlen⟩ := sk_dec hM h
  obtain rfl : 3 = len := hlen.resolve_left (by simp [sk_il])
  have hts := hF.2.2.2.2.2.2.2.1
  have hcx := hF.2.2.2.2.2.2.2.2.1
  have ht : (sk_tys E)[3]? = some (E.2.2.1 3, .object "java/lang/String") := rfl
  have hnn : Int32.ofInt (n : Int) = nI n := Int32.ofInt_eq_ofNat
  show W p l e R s m args below meth c H locs cells slots Qf (F0 m pc ar (.int (Int32.ofInt (n : Int)) :: st.map (sk_v E)))
  refine va_newq (N' := n) hF.1 hF.2.1 hF.2.2.2.2.1 (hts _ hw) hcx.2.2.1 hcx.1 hR.1 (sk_w_D E G (I, L, J)) hR.2.2 (fun q hq => Nat.le_trans hcx.2.2.2.2.2.2 hq) ?_ ?_ (by omega) (by omega) (by omega) hd (fun q cA H1 hK1 hP1 hD1 hS1 => ?_)
  · rw [hnn]; exact nI_pos (by omega)
  · rw [hnn]; exact nI_clamp (by omega)
  have hcA : cA = E.2.2.1 3 := by
    obtain ⟨k1, c1, -, -, -, r1⟩ := (hK1.2 (sk_tys E).length (cA, .object "java/lang/String") (by simp)).2
    obtain ⟨k2, c2, -, -, -, r2⟩ := (hcx.1.2 3 _ ht).2
    exact Option.some.inj (r1.symm.trans r2)
  subst hcA
  intro T hT X
  have hsz := X.heapSize
  rw [hT] at hsz
  have hq := sk_q hD1 hP1 (by omega)
  subst hq
  have hw2 := sk_w_push (E := E) (G := G) (σ := (I, L, J)) (σ' := (sk_nI I G.length, sk_nL L G.length, sk_nJ J G.length)) (sh := .inr (3, n)) (fun k' sh' hk => sk_new_o k' sh' hk)
  have hce : sk_cell E (sk_nI I G.length, sk_nL L G.length, sk_nJ J G.length) G.length (.inr (3, n)) = .inl (E.2.2.1 3, n, .inr (.inr (.inr (.inr (fun _ => none))))) := by
    simp [sk_cell, sk_pay, sk_nJ]
  have hP2 : va_P E.2.1 vwCl (sk_w E (G ++ [.inr (3, n)]) (sk_nI I G.length, sk_nL L G.length, sk_nJ J G.length)) H1 := by rw [hw2, hce]; exact hP1
  have hv : sk_v E (vr G.length) = .ref (E.1 + G.length) := sk_vr (G := G ++ [.inr (3, n)]) (sh := .inr (3, n)) (by simp) (by simp; omega)
  have k1 := k hM p e R s m args below meth c H1 locs (cells + 1) (slots + n) Qf ar hF ⟨hP2, by simp; omega, hS1⟩ hl ⟨by omega, by simp; omega⟩ (by omega) (fun v G' σ' pc' ar' H' locs' slots' r1 r2 r3 r4 r5 => by
    rw [show cells + 1 + mc = cells + (mc + 1) by omega]
    exact hfin v G' σ' pc' ar' H' locs' slots' r1 r2 r3 (by omega) r5)
  rw [List.map_cons, hv] at k1
  exact k1 T hT X
/-- a String constant into an array of Strings -/
theorem AW_aast {k n x : Nat} {i : Int} (h : sk_find pc M.2.2.2.2 = some (pc0, .aastore, len, nxt, aux)) (hG : G[k]? = some (.inr (3, n))) (hi : 0 ≤ i ∧ i < n) (hn : n < 2147483648) (hx : x < 17) (kk : AW l E d mc ms M nxt ls st G (I, L, sk_uR J k i (some (1000 + x))) Q) : AW l E d mc ms M pc ls (vr (1000 + x) :: vi i :: vr k :: st) G (I, L, J) Q := by
  intro hM p e R s m args below meth c H locs cells slots Qf ar hF hR hl hc hs hfin
  obtain ⟨hd, rfl, hA, hlen⟩ := sk_dec hM h
  obtain rfl : 1 = len := hlen.resolve_left (by simp [sk_il])
  have hcx := hF.2.2.2.2.2.2.2.2.1
  have had : sk_ad E (1000 + x) = E.2.2.2.1 x := by
    unfold sk_ad
    rw [if_neg (by omega), Nat.add_sub_cancel_left]
  obtain ⟨cell, c1, c2, c3⟩ := vk_recv hcx.2.2.2.1.1 hx hR.2.2
  have hany : va_Any "java/lang/String" s H (E.2.2.2.1 x) := by
    obtain ⟨kC, hkC, -⟩ := Vm.findClass_spec c3
    refine ⟨cell, c1, c2, ⟨kC, hkC⟩, fun comp hcomp => ?_⟩
    cases c3.symm.trans hcomp
    show Vm.assignableAux s.vm (255 + 1) cell.cls cell.cls = true
    unfold Vm.assignableAux
    rw [beq_self_eq_true, Bool.true_or]
  show W p l e R s m args below meth c H locs cells slots Qf (F0 m pc ar (.ref (sk_ad E (1000 + x)) :: .int (Int32.ofInt i) :: sk_v E (vr k) :: st.map (sk_v E)))
  rw [sk_vr hG hR.2.1, had]
  refine va_astqM hF.1 hF.2.1 hcx.1 hR.1 (sk_w_D E G (I, L, J)) hR.2.2 k 3 (sk_w_at hG) rfl hany (sk_vin hi.1 hi.2 hn) hd (fun H1 locs1 hP1 _ hS1 => ?_)
  rw [sk_w_set (σ' := (I, L, sk_uR J k i (some (1000 + x)))) hG ?_ (fun k' sh' hk => sk_cell_o sh' rfl rfl (sk_uR_o hk))] at hP1
  · exact kk hM p e R s m args below meth c H1 locs1 cells slots Qf ar hF ⟨hP1, hR.2.1, hS1⟩ hl hc hs hfin
  · show Sum.inl _ = _
    congr 3
    show Sum.inr (Sum.inr (Sum.inr (Sum.inr _))) = _
    congr 4
    funext j
    have := sk_cn i hi.1 hi.2 hn
    simp only [sk_uR_s, sk_upR, va_up]
    by_cases hj : (j : Int) = i
    · rw [if_pos hj, if_pos (by omega), Option.map_some, had]
    · rw [if_neg hj, if_neg (by omega)]
theorem AW_objI {k idx : Nat} {sh : sk_Sh} (h : sk_find pc M.2.2.2.2 = some (pc0, (.invokespecial idx), len, nxt, aux)) (hw : Cond.methodLink M.1.cls idx objectInit ∈ sk_gw) (hw2 : Cond.instanceMethod objectInit ∈ sk_gw) (hw3 : Cond.code objectInit ⟨#[0xb1]⟩ 1 none ∈ sk_gw) (hG : G[k]? = some sh) (hd1 : 1 ≤ d) (hW : Nat.ble (sk_cs st) 8 = true) (kk : AW l E d mc ms M nxt ls st G σ Q) : AW l E d mc ms M pc ls (vr k :: st) G σ Q := by
  intro hM p e R s m args below meth c H locs cells slots Qf ar hF hR hl hc hs hfin
  obtain ⟨hd, rfl, hA, hlen⟩ := sk_dec hM h
  obtain rfl : 3 = len := hlen.resolve_left (by simp [sk_il])
  have hts := hF.2.2.2.2.2.2.2.1
  show W p l e R s m args below meth c H locs cells slots Qf (F0 m pc ar (sk_v E (vr k) :: st.map (sk_v E)))
  rw [sk_vr hG hR.2.1]
  refine W.objInit hF.1 hF.2.1 hF.2.2.2.2.1 (hts _ hw) (hts _ hw2) (hts _ hw3) rfl (by rw [hF.2.2.2.1]; exact hl.1) rfl hd ?_ ?_ (kk hM p e R s m args below meth c H locs cells slots Qf ar hF hR hl hc hs hfin)
  · have := hF.2.2.2.2.2.2.2.2.2.1
    omega
  · have := hF.2.2.2.2.2.2.2.2.2.2
    have h8 := Nat.le_of_ble_eq_true hW
    show 2 * 0 + ((st.map (sk_v E)).map fun v => v.category).sum + 12 ≤ R.locals
    rw [sk_cs_eq]
    omega
end SKN
end
