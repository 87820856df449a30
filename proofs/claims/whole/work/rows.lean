section
-- ===== PART A: goes FIRST, ahead of the names: the tables' words, and 'selects' of the private methods out of them =====
/-- a private method of a class that the tables say can be made, by its rows of tables_1 -/
def lw_okq (q : MethodName × Nat) : Prop := (q.1.cls ≠ "java/lang/invoke/MethodHandle" ∧ q.1.cls ≠ "java/lang/invoke/VarHandle") ∧ Cond.instantiable q.1.cls q.2 ∈ tables_1 ∧ Cond.privateMethod q.1 ∈ tables_1 ∧ Cond.instanceMethod q.1 ∈ tables_1
theorem lw_p0 : lw_okq (⟨"DirtPress", "error", "(I)I"⟩, 8) := ⟨⟨by decide +kernel, by decide +kernel⟩, List.mem_of_getElem? (i := 12) (by decide +kernel), List.mem_of_getElem? (i := 236) (by decide +kernel), List.mem_of_getElem? (i := 237) (by decide +kernel)⟩
theorem lw_p1 : lw_okq (⟨"DirtPress", "notTwo", "(II)Z"⟩, 8) := ⟨⟨by decide +kernel, by decide +kernel⟩, List.mem_of_getElem? (i := 12) (by decide +kernel), List.mem_of_getElem? (i := 249) (by decide +kernel), List.mem_of_getElem? (i := 250) (by decide +kernel)⟩
theorem lw_p2 : lw_okq (⟨"DirtPress", "notOne", "(I)Z"⟩, 8) := ⟨⟨by decide +kernel, by decide +kernel⟩, List.mem_of_getElem? (i := 12) (by decide +kernel), List.mem_of_getElem? (i := 253) (by decide +kernel), List.mem_of_getElem? (i := 254) (by decide +kernel)⟩
theorem lw_p3 : lw_okq (⟨"DirtPress$Reader", "readChain", "(II)V"⟩, 6) := ⟨⟨by decide +kernel, by decide +kernel⟩, List.mem_of_getElem? (i := 129) (by decide +kernel), List.mem_of_getElem? (i := 410) (by decide +kernel), List.mem_of_getElem? (i := 411) (by decide +kernel)⟩
theorem lw_p4 : lw_okq (⟨"DirtPress$Reader", "readUnit", "(I)V"⟩, 6) := ⟨⟨by decide +kernel, by decide +kernel⟩, List.mem_of_getElem? (i := 129) (by decide +kernel), List.mem_of_getElem? (i := 414) (by decide +kernel), List.mem_of_getElem? (i := 415) (by decide +kernel)⟩
theorem lw_p5 : lw_okq (⟨"DirtPress$Reader", "nameOf", "(I)I"⟩, 6) := ⟨⟨by decide +kernel, by decide +kernel⟩, List.mem_of_getElem? (i := 129) (by decide +kernel), List.mem_of_getElem? (i := 418) (by decide +kernel), List.mem_of_getElem? (i := 419) (by decide +kernel)⟩
theorem lw_p6 : lw_okq (⟨"DirtPress$Reader", "readNumber", "()V"⟩, 6) := ⟨⟨by decide +kernel, by decide +kernel⟩, List.mem_of_getElem? (i := 129) (by decide +kernel), List.mem_of_getElem? (i := 427) (by decide +kernel), List.mem_of_getElem? (i := 428) (by decide +kernel)⟩
theorem lw_p7 : lw_okq (⟨"DirtPress$Reader", "readClosing", "()V"⟩, 6) := ⟨⟨by decide +kernel, by decide +kernel⟩, List.mem_of_getElem? (i := 129) (by decide +kernel), List.mem_of_getElem? (i := 435) (by decide +kernel), List.mem_of_getElem? (i := 436) (by decide +kernel)⟩
theorem lw_p8 : lw_okq (⟨"DirtPress$Thought", "couldBear", "(LDirtPress$World;III)Z"⟩, 3) := ⟨⟨by decide +kernel, by decide +kernel⟩, List.mem_of_getElem? (i := 157) (by decide +kernel), List.mem_of_getElem? (i := 526) (by decide +kernel), List.mem_of_getElem? (i := 527) (by decide +kernel)⟩
theorem lw_p9 : lw_okq (⟨"DirtPress$Thought", "fitsSet", "(LDirtPress$World;LDirtPress$Sheet;I)Z"⟩, 3) := ⟨⟨by decide +kernel, by decide +kernel⟩, List.mem_of_getElem? (i := 157) (by decide +kernel), List.mem_of_getElem? (i := 591) (by decide +kernel), List.mem_of_getElem? (i := 592) (by decide +kernel)⟩
theorem lw_p10 : lw_okq (⟨"DirtPress$Speech", "say", "(IIII)I"⟩, 6) := ⟨⟨by decide +kernel, by decide +kernel⟩, List.mem_of_getElem? (i := 173) (by decide +kernel), List.mem_of_getElem? (i := 609) (by decide +kernel), List.mem_of_getElem? (i := 610) (by decide +kernel)⟩
theorem lw_p11 : lw_okq (⟨"DirtPress$Speech", "begin", "(I)V"⟩, 6) := ⟨⟨by decide +kernel, by decide +kernel⟩, List.mem_of_getElem? (i := 173) (by decide +kernel), List.mem_of_getElem? (i := 616) (by decide +kernel), List.mem_of_getElem? (i := 617) (by decide +kernel)⟩
theorem lw_p12 : lw_okq (⟨"DirtPress$Speech", "worked", "(IIII)I"⟩, 6) := ⟨⟨by decide +kernel, by decide +kernel⟩, List.mem_of_getElem? (i := 173) (by decide +kernel), List.mem_of_getElem? (i := 620) (by decide +kernel), List.mem_of_getElem? (i := 621) (by decide +kernel)⟩
theorem lw_p13 : lw_okq (⟨"DirtPress$Speech", "divided", "(II)I"⟩, 6) := ⟨⟨by decide +kernel, by decide +kernel⟩, List.mem_of_getElem? (i := 173) (by decide +kernel), List.mem_of_getElem? (i := 624) (by decide +kernel), List.mem_of_getElem? (i := 625) (by decide +kernel)⟩
theorem lw_p14 : lw_okq (⟨"DirtPressModel", "error", "(I)I"⟩, 22) := ⟨⟨by decide +kernel, by decide +kernel⟩, List.mem_of_getElem? (i := 700) (by decide +kernel), List.mem_of_getElem? (i := 780) (by decide +kernel), List.mem_of_getElem? (i := 781) (by decide +kernel)⟩
theorem lw_p15 : lw_okq (⟨"DirtPressModel", "whole", "()Z"⟩, 22) := ⟨⟨by decide +kernel, by decide +kernel⟩, List.mem_of_getElem? (i := 700) (by decide +kernel), List.mem_of_getElem? (i := 790) (by decide +kernel), List.mem_of_getElem? (i := 791) (by decide +kernel)⟩
def lw_privs_1 : List (MethodName × Nat) := [(⟨"DirtPress", "error", "(I)I"⟩, 8), (⟨"DirtPress", "notTwo", "(II)Z"⟩, 8), (⟨"DirtPress", "notOne", "(I)Z"⟩, 8), (⟨"DirtPress$Reader", "readChain", "(II)V"⟩, 6), (⟨"DirtPress$Reader", "readUnit", "(I)V"⟩, 6), (⟨"DirtPress$Reader", "nameOf", "(I)I"⟩, 6), (⟨"DirtPress$Reader", "readNumber", "()V"⟩, 6), (⟨"DirtPress$Reader", "readClosing", "()V"⟩, 6), (⟨"DirtPress$Thought", "couldBear", "(LDirtPress$World;III)Z"⟩, 3), (⟨"DirtPress$Thought", "fitsSet", "(LDirtPress$World;LDirtPress$Sheet;I)Z"⟩, 3), (⟨"DirtPress$Speech", "say", "(IIII)I"⟩, 6), (⟨"DirtPress$Speech", "begin", "(I)V"⟩, 6), (⟨"DirtPress$Speech", "worked", "(IIII)I"⟩, 6), (⟨"DirtPress$Speech", "divided", "(II)I"⟩, 6), (⟨"DirtPressModel", "error", "(I)I"⟩, 22), (⟨"DirtPressModel", "whole", "()Z"⟩, 22)]
theorem lw_r1 : ∀ q ∈ lw_privs_1, lw_okq q := List.forall_mem_cons.mpr ⟨lw_p0, List.forall_mem_cons.mpr ⟨lw_p1, List.forall_mem_cons.mpr ⟨lw_p2, List.forall_mem_cons.mpr ⟨lw_p3, List.forall_mem_cons.mpr ⟨lw_p4, List.forall_mem_cons.mpr ⟨lw_p5, List.forall_mem_cons.mpr ⟨lw_p6, List.forall_mem_cons.mpr ⟨lw_p7, List.forall_mem_cons.mpr ⟨lw_p8, List.forall_mem_cons.mpr ⟨lw_p9, List.forall_mem_cons.mpr ⟨lw_p10, List.forall_mem_cons.mpr ⟨lw_p11, List.forall_mem_cons.mpr ⟨lw_p12, List.forall_mem_cons.mpr ⟨lw_p13, List.forall_mem_cons.mpr ⟨lw_p14, List.forall_mem_cons.mpr ⟨lw_p15, fun _ h => absurd h List.not_mem_nil⟩⟩⟩⟩⟩⟩⟩⟩⟩⟩⟩⟩⟩⟩⟩⟩
theorem lw_p16 : lw_okq (⟨"DirtPressModel", "both", "()Z"⟩, 22) := ⟨⟨by decide +kernel, by decide +kernel⟩, List.mem_of_getElem? (i := 700) (by decide +kernel), List.mem_of_getElem? (i := 794) (by decide +kernel), List.mem_of_getElem? (i := 795) (by decide +kernel)⟩
theorem lw_p17 : lw_okq (⟨"DirtPressModel", "compared", "()Z"⟩, 22) := ⟨⟨by decide +kernel, by decide +kernel⟩, List.mem_of_getElem? (i := 700) (by decide +kernel), List.mem_of_getElem? (i := 798) (by decide +kernel), List.mem_of_getElem? (i := 799) (by decide +kernel)⟩
theorem lw_p18 : lw_okq (⟨"DirtPressModel", "sum", "()Z"⟩, 22) := ⟨⟨by decide +kernel, by decide +kernel⟩, List.mem_of_getElem? (i := 700) (by decide +kernel), List.mem_of_getElem? (i := 802) (by decide +kernel), List.mem_of_getElem? (i := 803) (by decide +kernel)⟩
theorem lw_p19 : lw_okq (⟨"DirtPressModel", "product", "()Z"⟩, 22) := ⟨⟨by decide +kernel, by decide +kernel⟩, List.mem_of_getElem? (i := 700) (by decide +kernel), List.mem_of_getElem? (i := 806) (by decide +kernel), List.mem_of_getElem? (i := 807) (by decide +kernel)⟩
theorem lw_p20 : lw_okq (⟨"DirtPressModel", "one", "()Z"⟩, 22) := ⟨⟨by decide +kernel, by decide +kernel⟩, List.mem_of_getElem? (i := 700) (by decide +kernel), List.mem_of_getElem? (i := 810) (by decide +kernel), List.mem_of_getElem? (i := 811) (by decide +kernel)⟩
theorem lw_p21 : lw_okq (⟨"DirtPressModel", "look", "()I"⟩, 22) := ⟨⟨by decide +kernel, by decide +kernel⟩, List.mem_of_getElem? (i := 700) (by decide +kernel), List.mem_of_getElem? (i := 814) (by decide +kernel), List.mem_of_getElem? (i := 815) (by decide +kernel)⟩
theorem lw_p22 : lw_okq (⟨"DirtPressModel", "isName", "(I)Z"⟩, 22) := ⟨⟨by decide +kernel, by decide +kernel⟩, List.mem_of_getElem? (i := 700) (by decide +kernel), List.mem_of_getElem? (i := 818) (by decide +kernel), List.mem_of_getElem? (i := 819) (by decide +kernel)⟩
theorem lw_p23 : lw_okq (⟨"DirtPressModel", "step1", "(II)V"⟩, 22) := ⟨⟨by decide +kernel, by decide +kernel⟩, List.mem_of_getElem? (i := 700) (by decide +kernel), List.mem_of_getElem? (i := 822) (by decide +kernel), List.mem_of_getElem? (i := 823) (by decide +kernel)⟩
theorem lw_p24 : lw_okq (⟨"DirtPressModel", "opens", "()Z"⟩, 22) := ⟨⟨by decide +kernel, by decide +kernel⟩, List.mem_of_getElem? (i := 700) (by decide +kernel), List.mem_of_getElem? (i := 826) (by decide +kernel), List.mem_of_getElem? (i := 827) (by decide +kernel)⟩
theorem lw_p25 : lw_okq (⟨"DirtPressModel", "hasText", "(I)Z"⟩, 22) := ⟨⟨by decide +kernel, by decide +kernel⟩, List.mem_of_getElem? (i := 700) (by decide +kernel), List.mem_of_getElem? (i := 834) (by decide +kernel), List.mem_of_getElem? (i := 835) (by decide +kernel)⟩
theorem lw_p26 : lw_okq (⟨"DirtPressModel", "born", "(III)I"⟩, 22) := ⟨⟨by decide +kernel, by decide +kernel⟩, List.mem_of_getElem? (i := 700) (by decide +kernel), List.mem_of_getElem? (i := 845) (by decide +kernel), List.mem_of_getElem? (i := 846) (by decide +kernel)⟩
theorem lw_p27 : lw_okq (⟨"DirtPressModel", "lays1", "(III)V"⟩, 22) := ⟨⟨by decide +kernel, by decide +kernel⟩, List.mem_of_getElem? (i := 700) (by decide +kernel), List.mem_of_getElem? (i := 849) (by decide +kernel), List.mem_of_getElem? (i := 850) (by decide +kernel)⟩
theorem lw_p28 : lw_okq (⟨"DirtPressModel", "has", "(II)I"⟩, 22) := ⟨⟨by decide +kernel, by decide +kernel⟩, List.mem_of_getElem? (i := 700) (by decide +kernel), List.mem_of_getElem? (i := 853) (by decide +kernel), List.mem_of_getElem? (i := 854) (by decide +kernel)⟩
theorem lw_p29 : lw_okq (⟨"DirtPressModel", "areTwo", "(II)Z"⟩, 22) := ⟨⟨by decide +kernel, by decide +kernel⟩, List.mem_of_getElem? (i := 700) (by decide +kernel), List.mem_of_getElem? (i := 861) (by decide +kernel), List.mem_of_getElem? (i := 862) (by decide +kernel)⟩
theorem lw_p30 : lw_okq (⟨"DirtPressModel", "isPerson", "(I)Z"⟩, 22) := ⟨⟨by decide +kernel, by decide +kernel⟩, List.mem_of_getElem? (i := 700) (by decide +kernel), List.mem_of_getElem? (i := 865) (by decide +kernel), List.mem_of_getElem? (i := 866) (by decide +kernel)⟩
theorem lw_p31 : lw_okq (⟨"DirtPressModel", "its", "(II)I"⟩, 22) := ⟨⟨by decide +kernel, by decide +kernel⟩, List.mem_of_getElem? (i := 700) (by decide +kernel), List.mem_of_getElem? (i := 873) (by decide +kernel), List.mem_of_getElem? (i := 874) (by decide +kernel)⟩
def lw_privs_2 : List (MethodName × Nat) := [(⟨"DirtPressModel", "both", "()Z"⟩, 22), (⟨"DirtPressModel", "compared", "()Z"⟩, 22), (⟨"DirtPressModel", "sum", "()Z"⟩, 22), (⟨"DirtPressModel", "product", "()Z"⟩, 22), (⟨"DirtPressModel", "one", "()Z"⟩, 22), (⟨"DirtPressModel", "look", "()I"⟩, 22), (⟨"DirtPressModel", "isName", "(I)Z"⟩, 22), (⟨"DirtPressModel", "step1", "(II)V"⟩, 22), (⟨"DirtPressModel", "opens", "()Z"⟩, 22), (⟨"DirtPressModel", "hasText", "(I)Z"⟩, 22), (⟨"DirtPressModel", "born", "(III)I"⟩, 22), (⟨"DirtPressModel", "lays1", "(III)V"⟩, 22), (⟨"DirtPressModel", "has", "(II)I"⟩, 22), (⟨"DirtPressModel", "areTwo", "(II)Z"⟩, 22), (⟨"DirtPressModel", "isPerson", "(I)Z"⟩, 22), (⟨"DirtPressModel", "its", "(II)I"⟩, 22)]
theorem lw_r2 : ∀ q ∈ lw_privs_2, lw_okq q := List.forall_mem_cons.mpr ⟨lw_p16, List.forall_mem_cons.mpr ⟨lw_p17, List.forall_mem_cons.mpr ⟨lw_p18, List.forall_mem_cons.mpr ⟨lw_p19, List.forall_mem_cons.mpr ⟨lw_p20, List.forall_mem_cons.mpr ⟨lw_p21, List.forall_mem_cons.mpr ⟨lw_p22, List.forall_mem_cons.mpr ⟨lw_p23, List.forall_mem_cons.mpr ⟨lw_p24, List.forall_mem_cons.mpr ⟨lw_p25, List.forall_mem_cons.mpr ⟨lw_p26, List.forall_mem_cons.mpr ⟨lw_p27, List.forall_mem_cons.mpr ⟨lw_p28, List.forall_mem_cons.mpr ⟨lw_p29, List.forall_mem_cons.mpr ⟨lw_p30, List.forall_mem_cons.mpr ⟨lw_p31, fun _ h => absurd h List.not_mem_nil⟩⟩⟩⟩⟩⟩⟩⟩⟩⟩⟩⟩⟩⟩⟩⟩
theorem lw_p32 : lw_okq (⟨"DirtPressModel", "heap", "(I)I"⟩, 22) := ⟨⟨by decide +kernel, by decide +kernel⟩, List.mem_of_getElem? (i := 700) (by decide +kernel), List.mem_of_getElem? (i := 877) (by decide +kernel), List.mem_of_getElem? (i := 878) (by decide +kernel)⟩
theorem lw_p33 : lw_okq (⟨"DirtPressModel", "worthOf", "(I)I"⟩, 22) := ⟨⟨by decide +kernel, by decide +kernel⟩, List.mem_of_getElem? (i := 700) (by decide +kernel), List.mem_of_getElem? (i := 881) (by decide +kernel), List.mem_of_getElem? (i := 882) (by decide +kernel)⟩
theorem lw_p34 : lw_okq (⟨"DirtPressModel", "worthTold", "(III)I"⟩, 22) := ⟨⟨by decide +kernel, by decide +kernel⟩, List.mem_of_getElem? (i := 700) (by decide +kernel), List.mem_of_getElem? (i := 885) (by decide +kernel), List.mem_of_getElem? (i := 886) (by decide +kernel)⟩
theorem lw_p35 : lw_okq (⟨"DirtPressModel", "worked", "(I)I"⟩, 22) := ⟨⟨by decide +kernel, by decide +kernel⟩, List.mem_of_getElem? (i := 700) (by decide +kernel), List.mem_of_getElem? (i := 889) (by decide +kernel), List.mem_of_getElem? (i := 890) (by decide +kernel)⟩
theorem lw_p36 : lw_okq (⟨"DirtPressModel", "fromOf", "(I)I"⟩, 22) := ⟨⟨by decide +kernel, by decide +kernel⟩, List.mem_of_getElem? (i := 700) (by decide +kernel), List.mem_of_getElem? (i := 899) (by decide +kernel), List.mem_of_getElem? (i := 900) (by decide +kernel)⟩
theorem lw_p37 : lw_okq (⟨"DirtPressModel", "change1", "(II)I"⟩, 22) := ⟨⟨by decide +kernel, by decide +kernel⟩, List.mem_of_getElem? (i := 700) (by decide +kernel), List.mem_of_getElem? (i := 907) (by decide +kernel), List.mem_of_getElem? (i := 908) (by decide +kernel)⟩
theorem lw_p38 : lw_okq (⟨"DirtPressModel", "gainOf", "(II)I"⟩, 22) := ⟨⟨by decide +kernel, by decide +kernel⟩, List.mem_of_getElem? (i := 700) (by decide +kernel), List.mem_of_getElem? (i := 933) (by decide +kernel), List.mem_of_getElem? (i := 934) (by decide +kernel)⟩
theorem lw_p39 : lw_okq (⟨"DirtPressModel", "getsAs", "(III)I"⟩, 22) := ⟨⟨by decide +kernel, by decide +kernel⟩, List.mem_of_getElem? (i := 700) (by decide +kernel), List.mem_of_getElem? (i := 937) (by decide +kernel), List.mem_of_getElem? (i := 938) (by decide +kernel)⟩
theorem lw_p40 : lw_okq (⟨"DirtPressModel", "gainTold", "(III)I"⟩, 22) := ⟨⟨by decide +kernel, by decide +kernel⟩, List.mem_of_getElem? (i := 700) (by decide +kernel), List.mem_of_getElem? (i := 941) (by decide +kernel), List.mem_of_getElem? (i := 942) (by decide +kernel)⟩
theorem lw_p41 : lw_okq (⟨"DirtPressModel", "areGiven", "(IIII)Z"⟩, 22) := ⟨⟨by decide +kernel, by decide +kernel⟩, List.mem_of_getElem? (i := 700) (by decide +kernel), List.mem_of_getElem? (i := 949) (by decide +kernel), List.mem_of_getElem? (i := 950) (by decide +kernel)⟩
theorem lw_p42 : lw_okq (⟨"DirtPressModel", "canGo", "(IIII)Z"⟩, 22) := ⟨⟨by decide +kernel, by decide +kernel⟩, List.mem_of_getElem? (i := 700) (by decide +kernel), List.mem_of_getElem? (i := 953) (by decide +kernel), List.mem_of_getElem? (i := 954) (by decide +kernel)⟩
theorem lw_p43 : lw_okq (⟨"DirtPressModel", "owed", "(II)I"⟩, 22) := ⟨⟨by decide +kernel, by decide +kernel⟩, List.mem_of_getElem? (i := 700) (by decide +kernel), List.mem_of_getElem? (i := 957) (by decide +kernel), List.mem_of_getElem? (i := 958) (by decide +kernel)⟩
theorem lw_p44 : lw_okq (⟨"DirtPressModel", "go", "(IIII)V"⟩, 22) := ⟨⟨by decide +kernel, by decide +kernel⟩, List.mem_of_getElem? (i := 700) (by decide +kernel), List.mem_of_getElem? (i := 961) (by decide +kernel), List.mem_of_getElem? (i := 962) (by decide +kernel)⟩
theorem lw_p45 : lw_okq (⟨"DirtPressModel", "gets", "(III)V"⟩, 22) := ⟨⟨by decide +kernel, by decide +kernel⟩, List.mem_of_getElem? (i := 700) (by decide +kernel), List.mem_of_getElem? (i := 965) (by decide +kernel), List.mem_of_getElem? (i := 966) (by decide +kernel)⟩
theorem lw_p46 : lw_okq (⟨"DirtPressModel", "whyNot", "(II)I"⟩, 22) := ⟨⟨by decide +kernel, by decide +kernel⟩, List.mem_of_getElem? (i := 700) (by decide +kernel), List.mem_of_getElem? (i := 985) (by decide +kernel), List.mem_of_getElem? (i := 986) (by decide +kernel)⟩
theorem lw_p47 : lw_okq (⟨"DirtPressModel", "aYear", "()V"⟩, 22) := ⟨⟨by decide +kernel, by decide +kernel⟩, List.mem_of_getElem? (i := 700) (by decide +kernel), List.mem_of_getElem? (i := 989) (by decide +kernel), List.mem_of_getElem? (i := 990) (by decide +kernel)⟩
def lw_privs_3 : List (MethodName × Nat) := [(⟨"DirtPressModel", "heap", "(I)I"⟩, 22), (⟨"DirtPressModel", "worthOf", "(I)I"⟩, 22), (⟨"DirtPressModel", "worthTold", "(III)I"⟩, 22), (⟨"DirtPressModel", "worked", "(I)I"⟩, 22), (⟨"DirtPressModel", "fromOf", "(I)I"⟩, 22), (⟨"DirtPressModel", "change1", "(II)I"⟩, 22), (⟨"DirtPressModel", "gainOf", "(II)I"⟩, 22), (⟨"DirtPressModel", "getsAs", "(III)I"⟩, 22), (⟨"DirtPressModel", "gainTold", "(III)I"⟩, 22), (⟨"DirtPressModel", "areGiven", "(IIII)Z"⟩, 22), (⟨"DirtPressModel", "canGo", "(IIII)Z"⟩, 22), (⟨"DirtPressModel", "owed", "(II)I"⟩, 22), (⟨"DirtPressModel", "go", "(IIII)V"⟩, 22), (⟨"DirtPressModel", "gets", "(III)V"⟩, 22), (⟨"DirtPressModel", "whyNot", "(II)I"⟩, 22), (⟨"DirtPressModel", "aYear", "()V"⟩, 22)]
theorem lw_r3 : ∀ q ∈ lw_privs_3, lw_okq q := List.forall_mem_cons.mpr ⟨lw_p32, List.forall_mem_cons.mpr ⟨lw_p33, List.forall_mem_cons.mpr ⟨lw_p34, List.forall_mem_cons.mpr ⟨lw_p35, List.forall_mem_cons.mpr ⟨lw_p36, List.forall_mem_cons.mpr ⟨lw_p37, List.forall_mem_cons.mpr ⟨lw_p38, List.forall_mem_cons.mpr ⟨lw_p39, List.forall_mem_cons.mpr ⟨lw_p40, List.forall_mem_cons.mpr ⟨lw_p41, List.forall_mem_cons.mpr ⟨lw_p42, List.forall_mem_cons.mpr ⟨lw_p43, List.forall_mem_cons.mpr ⟨lw_p44, List.forall_mem_cons.mpr ⟨lw_p45, List.forall_mem_cons.mpr ⟨lw_p46, List.forall_mem_cons.mpr ⟨lw_p47, fun _ h => absurd h List.not_mem_nil⟩⟩⟩⟩⟩⟩⟩⟩⟩⟩⟩⟩⟩⟩⟩⟩
theorem lw_p48 : lw_okq (⟨"DirtPressModel", "steals", "()I"⟩, 22) := ⟨⟨by decide +kernel, by decide +kernel⟩, List.mem_of_getElem? (i := 700) (by decide +kernel), List.mem_of_getElem? (i := 997) (by decide +kernel), List.mem_of_getElem? (i := 998) (by decide +kernel)⟩
theorem lw_p49 : lw_okq (⟨"DirtPressModel", "draw", "()I"⟩, 22) := ⟨⟨by decide +kernel, by decide +kernel⟩, List.mem_of_getElem? (i := 700) (by decide +kernel), List.mem_of_getElem? (i := 1001) (by decide +kernel), List.mem_of_getElem? (i := 1002) (by decide +kernel)⟩
theorem lw_p50 : lw_okq (⟨"DirtPressModel", "layDown", "()V"⟩, 22) := ⟨⟨by decide +kernel, by decide +kernel⟩, List.mem_of_getElem? (i := 700) (by decide +kernel), List.mem_of_getElem? (i := 1018) (by decide +kernel), List.mem_of_getElem? (i := 1019) (by decide +kernel)⟩
theorem lw_p51 : lw_okq (⟨"DirtPressModel", "layBack", "()V"⟩, 22) := ⟨⟨by decide +kernel, by decide +kernel⟩, List.mem_of_getElem? (i := 700) (by decide +kernel), List.mem_of_getElem? (i := 1022) (by decide +kernel), List.mem_of_getElem? (i := 1023) (by decide +kernel)⟩
theorem lw_p52 : lw_okq (⟨"DirtPressModel", "whoIsClean", "(I)I"⟩, 22) := ⟨⟨by decide +kernel, by decide +kernel⟩, List.mem_of_getElem? (i := 700) (by decide +kernel), List.mem_of_getElem? (i := 1030) (by decide +kernel), List.mem_of_getElem? (i := 1031) (by decide +kernel)⟩
theorem lw_p53 : lw_okq (⟨"DirtPressModel", "arePoured", "(III)Z"⟩, 22) := ⟨⟨by decide +kernel, by decide +kernel⟩, List.mem_of_getElem? (i := 700) (by decide +kernel), List.mem_of_getElem? (i := 1038) (by decide +kernel), List.mem_of_getElem? (i := 1039) (by decide +kernel)⟩
theorem lw_p54 : lw_okq (⟨"DirtPressModel", "fewestPayments", "()I"⟩, 22) := ⟨⟨by decide +kernel, by decide +kernel⟩, List.mem_of_getElem? (i := 700) (by decide +kernel), List.mem_of_getElem? (i := 1054) (by decide +kernel), List.mem_of_getElem? (i := 1055) (by decide +kernel)⟩
theorem lw_p55 : lw_okq (⟨"DirtPressModel", "balance", "(I)I"⟩, 22) := ⟨⟨by decide +kernel, by decide +kernel⟩, List.mem_of_getElem? (i := 700) (by decide +kernel), List.mem_of_getElem? (i := 1058) (by decide +kernel), List.mem_of_getElem? (i := 1059) (by decide +kernel)⟩
theorem lw_p56 : lw_okq (⟨"DirtPressModel", "pouredHeap", "(II)I"⟩, 22) := ⟨⟨by decide +kernel, by decide +kernel⟩, List.mem_of_getElem? (i := 700) (by decide +kernel), List.mem_of_getElem? (i := 1066) (by decide +kernel), List.mem_of_getElem? (i := 1067) (by decide +kernel)⟩
theorem lw_p57 : lw_okq (⟨"DirtPressModel", "lacks", "(I)I"⟩, 22) := ⟨⟨by decide +kernel, by decide +kernel⟩, List.mem_of_getElem? (i := 700) (by decide +kernel), List.mem_of_getElem? (i := 1077) (by decide +kernel), List.mem_of_getElem? (i := 1078) (by decide +kernel)⟩
theorem lw_p58 : lw_okq (⟨"DirtPressModel", "haveSo", "(II)Z"⟩, 22) := ⟨⟨by decide +kernel, by decide +kernel⟩, List.mem_of_getElem? (i := 700) (by decide +kernel), List.mem_of_getElem? (i := 1084) (by decide +kernel), List.mem_of_getElem? (i := 1085) (by decide +kernel)⟩
theorem lw_p59 : lw_okq (⟨"DirtPressModel", "kindNow", "()I"⟩, 22) := ⟨⟨by decide +kernel, by decide +kernel⟩, List.mem_of_getElem? (i := 700) (by decide +kernel), List.mem_of_getElem? (i := 1092) (by decide +kernel), List.mem_of_getElem? (i := 1093) (by decide +kernel)⟩
theorem lw_p60 : lw_okq (⟨"DirtPressModel", "washesAs", "(II)I"⟩, 22) := ⟨⟨by decide +kernel, by decide +kernel⟩, List.mem_of_getElem? (i := 700) (by decide +kernel), List.mem_of_getElem? (i := 1096) (by decide +kernel), List.mem_of_getElem? (i := 1097) (by decide +kernel)⟩
theorem lw_p61 : lw_okq (⟨"DirtPressModel", "starts", "(I)V"⟩, 22) := ⟨⟨by decide +kernel, by decide +kernel⟩, List.mem_of_getElem? (i := 700) (by decide +kernel), List.mem_of_getElem? (i := 1100) (by decide +kernel), List.mem_of_getElem? (i := 1101) (by decide +kernel)⟩
theorem lw_p62 : lw_okq (⟨"DirtPressModel", "wringsAs", "(II)I"⟩, 22) := ⟨⟨by decide +kernel, by decide +kernel⟩, List.mem_of_getElem? (i := 700) (by decide +kernel), List.mem_of_getElem? (i := 1104) (by decide +kernel), List.mem_of_getElem? (i := 1105) (by decide +kernel)⟩
theorem lw_p63 : lw_okq (⟨"DirtPressModel", "mNow", "()I"⟩, 22) := ⟨⟨by decide +kernel, by decide +kernel⟩, List.mem_of_getElem? (i := 700) (by decide +kernel), List.mem_of_getElem? (i := 1108) (by decide +kernel), List.mem_of_getElem? (i := 1109) (by decide +kernel)⟩
def lw_privs_4 : List (MethodName × Nat) := [(⟨"DirtPressModel", "steals", "()I"⟩, 22), (⟨"DirtPressModel", "draw", "()I"⟩, 22), (⟨"DirtPressModel", "layDown", "()V"⟩, 22), (⟨"DirtPressModel", "layBack", "()V"⟩, 22), (⟨"DirtPressModel", "whoIsClean", "(I)I"⟩, 22), (⟨"DirtPressModel", "arePoured", "(III)Z"⟩, 22), (⟨"DirtPressModel", "fewestPayments", "()I"⟩, 22), (⟨"DirtPressModel", "balance", "(I)I"⟩, 22), (⟨"DirtPressModel", "pouredHeap", "(II)I"⟩, 22), (⟨"DirtPressModel", "lacks", "(I)I"⟩, 22), (⟨"DirtPressModel", "haveSo", "(II)Z"⟩, 22), (⟨"DirtPressModel", "kindNow", "()I"⟩, 22), (⟨"DirtPressModel", "washesAs", "(II)I"⟩, 22), (⟨"DirtPressModel", "starts", "(I)V"⟩, 22), (⟨"DirtPressModel", "wringsAs", "(II)I"⟩, 22), (⟨"DirtPressModel", "mNow", "()I"⟩, 22)]
theorem lw_r4 : ∀ q ∈ lw_privs_4, lw_okq q := List.forall_mem_cons.mpr ⟨lw_p48, List.forall_mem_cons.mpr ⟨lw_p49, List.forall_mem_cons.mpr ⟨lw_p50, List.forall_mem_cons.mpr ⟨lw_p51, List.forall_mem_cons.mpr ⟨lw_p52, List.forall_mem_cons.mpr ⟨lw_p53, List.forall_mem_cons.mpr ⟨lw_p54, List.forall_mem_cons.mpr ⟨lw_p55, List.forall_mem_cons.mpr ⟨lw_p56, List.forall_mem_cons.mpr ⟨lw_p57, List.forall_mem_cons.mpr ⟨lw_p58, List.forall_mem_cons.mpr ⟨lw_p59, List.forall_mem_cons.mpr ⟨lw_p60, List.forall_mem_cons.mpr ⟨lw_p61, List.forall_mem_cons.mpr ⟨lw_p62, List.forall_mem_cons.mpr ⟨lw_p63, fun _ h => absurd h List.not_mem_nil⟩⟩⟩⟩⟩⟩⟩⟩⟩⟩⟩⟩⟩⟩⟩⟩
theorem lw_p64 : lw_okq (⟨"DirtPressModel", "airsAs", "(II)I"⟩, 22) := ⟨⟨by decide +kernel, by decide +kernel⟩, List.mem_of_getElem? (i := 700) (by decide +kernel), List.mem_of_getElem? (i := 1112) (by decide +kernel), List.mem_of_getElem? (i := 1113) (by decide +kernel)⟩
theorem lw_p65 : lw_okq (⟨"DirtPressModel", "partsAs", "(II)I"⟩, 22) := ⟨⟨by decide +kernel, by decide +kernel⟩, List.mem_of_getElem? (i := 700) (by decide +kernel), List.mem_of_getElem? (i := 1116) (by decide +kernel), List.mem_of_getElem? (i := 1117) (by decide +kernel)⟩
def lw_privs_5 : List (MethodName × Nat) := [(⟨"DirtPressModel", "airsAs", "(II)I"⟩, 22), (⟨"DirtPressModel", "partsAs", "(II)I"⟩, 22)]
theorem lw_r5 : ∀ q ∈ lw_privs_5, lw_okq q := List.forall_mem_cons.mpr ⟨lw_p64, List.forall_mem_cons.mpr ⟨lw_p65, fun _ h => absurd h List.not_mem_nil⟩⟩
def lw_privs : List (MethodName × Nat) := lw_privs_1 ++ (lw_privs_2 ++ (lw_privs_3 ++ (lw_privs_4 ++ (lw_privs_5))))
def lw_tbl : List Cond := k2_sels lw_privs ++ tables_1
theorem lw_privs_ok : ∀ q ∈ lw_privs, lw_okq q := by
  show ∀ q ∈ lw_privs_1 ++ (lw_privs_2 ++ (lw_privs_3 ++ (lw_privs_4 ++ (lw_privs_5)))), lw_okq q
  exact List.forall_mem_append.mpr ⟨lw_r1, List.forall_mem_append.mpr ⟨lw_r2, List.forall_mem_append.mpr ⟨lw_r3, List.forall_mem_append.mpr ⟨lw_r4, lw_r5⟩⟩⟩⟩
end
section
def RX0 : String := "DirtPress$Reader"
def TX0 : u_T := fun k => match k with
  | 0 => ("DirtPress$Reader", "made", "LDirtPress$Text;", true)
  | 1 => ("DirtPress$Reader", "tape", "[I", true)
  | 2 => ("DirtPress$Reader", "bytes", "I", false)
  | 3 => ("DirtPress$Reader", "place", "I", false)
  | 4 => ("DirtPress$Reader", "use", "I", false)
  | _ => ("DirtPress$Reader", "failed", "Z", false)
def tyX0 : Nat → FieldType := fun k => match k with
  | 0 => .object "DirtPress$Text"
  | 1 => .array .int
  | 2 => .int
  | 3 => .int
  | 4 => .int
  | _ => .boolean
abbrev wsX00 : List Cond := u_ws RX0 TX0 6
theorem nmX0 : ∀ a, a < 6 → ∀ b, b < 6 → a ≠ b → (TX0 a).2.1 ≠ (TX0 b).2.1 := by decide +kernel
theorem tyX0_ok : ∀ k, k < 6 → parseFieldDescriptor (TX0 k).2.2.1 = some (tyX0 k) := by decide +kernel
abbrev cX0_init : ByteArray := prog_2_method_1_code
def yX0_init : MethodName := ⟨RX0, "<init>", "()V"⟩
abbrev cX0_faultOf : ByteArray := prog_2_method_2_code
def yX0_faultOf : MethodName := ⟨RX0, "faultOf", "(LDirtPress$World;I)I"⟩
abbrev cX0_readChain : ByteArray := prog_2_method_3_code
def yX0_readChain : MethodName := ⟨RX0, "readChain", "(II)V"⟩
abbrev cX0_readUnit : ByteArray := prog_2_method_4_code
def yX0_readUnit : MethodName := ⟨RX0, "readUnit", "(I)V"⟩
abbrev cX0_readNumber : ByteArray := prog_2_method_5_code
def yX0_readNumber : MethodName := ⟨RX0, "readNumber", "()V"⟩
abbrev cX0_readClosing : ByteArray := prog_2_method_6_code
def yX0_readClosing : MethodName := ⟨RX0, "readClosing", "()V"⟩
abbrev cX0_nameOf : ByteArray := prog_2_method_7_code
def yX0_nameOf : MethodName := ⟨RX0, "nameOf", "(I)I"⟩
abbrev cX0_isDigit : ByteArray := prog_2_method_8_code
def yX0_isDigit : MethodName := ⟨RX0, "isDigit", "(I)Z"⟩
abbrev cX0_levelOf : ByteArray := prog_2_method_9_code
def yX0_levelOf : MethodName := ⟨RX0, "levelOf", "(I)I"⟩
def RX1 : String := "DirtPress$Sheet"
def TX1 : u_T := fun k => match k with
  | 0 => ("DirtPress$Sheet", "numbers", "[I", true)
  | 1 => ("DirtPress$Sheet", "bits", "I", false)
  | _ => ("DirtPress$Sheet", "length", "I", false)
def tyX1 : Nat → FieldType := fun k => match k with
  | 0 => .array .int
  | 1 => .int
  | _ => .int
abbrev wsX10 : List Cond := u_ws RX1 TX1 3
theorem nmX1 : ∀ a, a < 3 → ∀ b, b < 3 → a ≠ b → (TX1 a).2.1 ≠ (TX1 b).2.1 := by decide +kernel
theorem tyX1_ok : ∀ k, k < 3 → parseFieldDescriptor (TX1 k).2.2.1 = some (tyX1 k) := by decide +kernel
abbrev cX1_init : ByteArray := prog_3_method_1_code
def yX1_init : MethodName := ⟨RX1, "<init>", "()V"⟩
abbrev cX1_missing : ByteArray := prog_3_method_2_code
def yX1_missing : MethodName := ⟨RX1, "missing", "()Z"⟩
abbrev cX1_lose : ByteArray := prog_3_method_3_code
def yX1_lose : MethodName := ⟨RX1, "lose", "()V"⟩
abbrev cX1_begin : ByteArray := prog_3_method_4_code
def yX1_begin : MethodName := ⟨RX1, "begin", "(II)V"⟩
abbrev cX1_write : ByteArray := prog_3_method_5_code
def yX1_write : MethodName := ⟨RX1, "write", "(II)V"⟩
abbrev cX1_lacks : ByteArray := prog_3_method_6_code
def yX1_lacks : MethodName := ⟨RX1, "lacks", "(II)Z"⟩
def RX2 : String := "DirtPress$Speech"
def TX2 : u_T := fun k => match k with
  | 0 => ("DirtPress$Speech", "bodies", "[I", true)
  | 1 => ("DirtPress$Speech", "begun", "I", false)
  | 2 => ("DirtPress$Speech", "parted", "Z", false)
  | 3 => ("DirtPress$Speech", "k", "I", false)
  | 4 => ("DirtPress$Speech", "m", "I", false)
  | _ => ("DirtPress$Speech", "own", "I", false)
def tyX2 : Nat → FieldType := fun k => match k with
  | 0 => .array .int
  | 1 => .int
  | 2 => .boolean
  | 3 => .int
  | 4 => .int
  | _ => .int
abbrev wsX20 : List Cond := u_ws RX2 TX2 6
theorem nmX2 : ∀ a, a < 6 → ∀ b, b < 6 → a ≠ b → (TX2 a).2.1 ≠ (TX2 b).2.1 := by decide +kernel
theorem tyX2_ok : ∀ k, k < 6 → parseFieldDescriptor (TX2 k).2.2.1 = some (tyX2 k) := by decide +kernel
abbrev cX2_init : ByteArray := prog_4_method_1_code
def yX2_init : MethodName := ⟨RX2, "<init>", "()V"⟩
abbrev cX2_speak : ByteArray := prog_4_method_2_code
def yX2_speak : MethodName := ⟨RX2, "speak", "(LDirtPress$World;III)I"⟩
abbrev cX2_say : ByteArray := prog_4_method_3_code
def yX2_say : MethodName := ⟨RX2, "say", "(IIII)I"⟩
abbrev cX2_begin : ByteArray := prog_4_method_4_code
def yX2_begin : MethodName := ⟨RX2, "begin", "(I)V"⟩
abbrev cX2_worked : ByteArray := prog_4_method_5_code
def yX2_worked : MethodName := ⟨RX2, "worked", "(IIII)I"⟩
abbrev cX2_divided : ByteArray := prog_4_method_6_code
def yX2_divided : MethodName := ⟨RX2, "divided", "(II)I"⟩
def RX3 : String := "DirtPress$Text"
def TX3 : u_T := fun k => match k with
  | 0 => ("DirtPress$Text", "parts", "[I", true)
  | 1 => ("DirtPress$Text", "stack", "[I", true)
  | _ => ("DirtPress$Text", "size", "I", false)
def tyX3 : Nat → FieldType := fun k => match k with
  | 0 => .array .int
  | 1 => .array .int
  | _ => .int
abbrev wsX30 : List Cond := u_ws RX3 TX3 3
theorem nmX3 : ∀ a, a < 3 → ∀ b, b < 3 → a ≠ b → (TX3 a).2.1 ≠ (TX3 b).2.1 := by decide +kernel
theorem tyX3_ok : ∀ k, k < 3 → parseFieldDescriptor (TX3 k).2.2.1 = some (tyX3 k) := by decide +kernel
abbrev cX3_init : ByteArray := prog_5_method_1_code
def yX3_init : MethodName := ⟨RX3, "<init>", "()V"⟩
abbrev cX3_stands : ByteArray := prog_5_method_2_code
def yX3_stands : MethodName := ⟨RX3, "stands", "()Z"⟩
abbrev cX3_clear : ByteArray := prog_5_method_3_code
def yX3_clear : MethodName := ⟨RX3, "clear", "()V"⟩
abbrev cX3_add : ByteArray := prog_5_method_4_code
def yX3_add : MethodName := ⟨RX3, "add", "(I)V"⟩
abbrev cX3_copyFrom : ByteArray := prog_5_method_5_code
def yX3_copyFrom : MethodName := ⟨RX3, "copyFrom", "(LDirtPress$Text;)V"⟩
abbrev cX3_value : ByteArray := prog_5_method_6_code
def yX3_value : MethodName := ⟨RX3, "value", "(III)I"⟩
abbrev cX3_named : ByteArray := prog_5_method_7_code
def yX3_named : MethodName := ⟨RX3, "named", "(IIII)I"⟩
abbrev cX3_joined : ByteArray := prog_5_method_8_code
def yX3_joined : MethodName := ⟨RX3, "joined", "(III)I"⟩
def RX4 : String := "DirtPress$Thought"
def TX4 : u_T := fun k => match k with
  | 0 => ("DirtPress$Thought", "cells", "[I", true)
  | 1 => ("DirtPress$Thought", "sums", "[I", true)
  | _ => ("DirtPress$Thought", "groups", "[I", true)
def tyX4 : Nat → FieldType := fun k => match k with
  | 0 => .array .int
  | 1 => .array .int
  | _ => .array .int
abbrev wsX40 : List Cond := u_ws RX4 TX4 3
theorem nmX4 : ∀ a, a < 3 → ∀ b, b < 3 → a ≠ b → (TX4 a).2.1 ≠ (TX4 b).2.1 := by decide +kernel
theorem tyX4_ok : ∀ k, k < 3 → parseFieldDescriptor (TX4 k).2.2.1 = some (tyX4 k) := by decide +kernel
abbrev cX4_init : ByteArray := prog_6_method_1_code
def yX4_init : MethodName := ⟨RX4, "<init>", "()V"⟩
abbrev cX4_later : ByteArray := prog_6_method_2_code
def yX4_later : MethodName := ⟨RX4, "later", "(LDirtPress$World;III)I"⟩
abbrev cX4_firstBelow : ByteArray := prog_6_method_3_code
def yX4_firstBelow : MethodName := ⟨RX4, "firstBelow", "(LDirtPress$World;I)I"⟩
abbrev cX4_couldBear : ByteArray := prog_6_method_4_code
def yX4_couldBear : MethodName := ⟨RX4, "couldBear", "(LDirtPress$World;III)Z"⟩
abbrev cX4_pairsFor : ByteArray := prog_6_method_5_code
def yX4_pairsFor : MethodName := ⟨RX4, "pairsFor", "(LDirtPress$World;I)I"⟩
abbrev cX4_firstPairFor : ByteArray := prog_6_method_6_code
def yX4_firstPairFor : MethodName := ⟨RX4, "firstPairFor", "(LDirtPress$World;I)I"⟩
abbrev cX4_pairsBelow : ByteArray := prog_6_method_7_code
def yX4_pairsBelow : MethodName := ⟨RX4, "pairsBelow", "(LDirtPress$World;I)I"⟩
abbrev cX4_fewestPayments : ByteArray := prog_6_method_8_code
def yX4_fewestPayments : MethodName := ⟨RX4, "fewestPayments", "(LDirtPress$World;)I"⟩
abbrev cX4_fitsSet : ByteArray := prog_6_method_9_code
def yX4_fitsSet : MethodName := ⟨RX4, "fitsSet", "(LDirtPress$World;LDirtPress$Sheet;I)Z"⟩
abbrev cX4_setsThatFit : ByteArray := prog_6_method_10_code
def yX4_setsThatFit : MethodName := ⟨RX4, "setsThatFit", "(LDirtPress$World;LDirtPress$Sheet;)I"⟩
abbrev cX4_leastThatFits : ByteArray := prog_6_method_11_code
def yX4_leastThatFits : MethodName := ⟨RX4, "leastThatFits", "(LDirtPress$World;LDirtPress$Sheet;)I"⟩
def RX5 : String := "DirtPress$World"
def TX5 : u_T := fun k => match k with
  | 0 => ("DirtPress$World", "people", "I", false)
  | 1 => ("DirtPress$World", "km", "[I", true)
  | 2 => ("DirtPress$World", "father", "[I", true)
  | 3 => ("DirtPress$World", "mother", "[I", true)
  | 4 => ("DirtPress$World", "from", "[I", true)
  | 5 => ("DirtPress$World", "spoons", "[I", true)
  | 6 => ("DirtPress$World", "owed", "[I", true)
  | 7 => ("DirtPress$World", "year", "I", false)
  | 8 => ("DirtPress$World", "z", "I", false)
  | 9 => ("DirtPress$World", "tape", "[I", true)
  | 10 => ("DirtPress$World", "bytes", "I", false)
  | 11 => ("DirtPress$World", "gainText", "LDirtPress$Text;", true)
  | 12 => ("DirtPress$World", "worthText", "LDirtPress$Text;", true)
  | 13 => ("DirtPress$World", "waiting", "[I", true)
  | _ => ("DirtPress$World", "waits", "I", false)
def tyX5 : Nat → FieldType := fun k => match k with
  | 0 => .int
  | 1 => .array .int
  | 2 => .array .int
  | 3 => .array .int
  | 4 => .array .int
  | 5 => .array .int
  | 6 => .array .int
  | 7 => .int
  | 8 => .int
  | 9 => .array .int
  | 10 => .int
  | 11 => .object "DirtPress$Text"
  | 12 => .object "DirtPress$Text"
  | 13 => .array .int
  | _ => .int
abbrev wsX50 : List Cond := u_ws RX5 TX5 15
theorem nmX5 : ∀ a, a < 15 → ∀ b, b < 15 → a ≠ b → (TX5 a).2.1 ≠ (TX5 b).2.1 := by decide +kernel
theorem tyX5_ok : ∀ k, k < 15 → parseFieldDescriptor (TX5 k).2.2.1 = some (tyX5 k) := by decide +kernel
abbrev cX5_init : ByteArray := prog_7_method_1_code
def yX5_init : MethodName := ⟨RX5, "<init>", "()V"⟩
abbrev cX5_copyFrom : ByteArray := prog_7_method_2_code
def yX5_copyFrom : MethodName := ⟨RX5, "copyFrom", "(LDirtPress$World;)V"⟩
abbrev cX5_kindOf : ByteArray := prog_7_method_3_code
def yX5_kindOf : MethodName := ⟨RX5, "kindOf", "(I)I"⟩
abbrev cX5_numberOf : ByteArray := prog_7_method_4_code
def yX5_numberOf : MethodName := ⟨RX5, "numberOf", "(I)I"⟩
abbrev cX5_addOrphan : ByteArray := prog_7_method_5_code
def yX5_addOrphan : MethodName := ⟨RX5, "addOrphan", "(I)I"⟩
abbrev cX5_addChild : ByteArray := prog_7_method_6_code
def yX5_addChild : MethodName := ⟨RX5, "addChild", "(III)I"⟩
abbrev cX5_withForebears : ByteArray := prog_7_method_7_code
def yX5_withForebears : MethodName := ⟨RX5, "withForebears", "(I)I"⟩
abbrev cX5_poured : ByteArray := prog_7_method_8_code
def yX5_poured : MethodName := ⟨RX5, "poured", "(III)I"⟩
abbrev cX5_pouredTogether : ByteArray := prog_7_method_9_code
def yX5_pouredTogether : MethodName := ⟨RX5, "pouredTogether", "(II)I"⟩
abbrev cX5_canGo : ByteArray := prog_7_method_10_code
def yX5_canGo : MethodName := ⟨RX5, "canGo", "(IIII)Z"⟩
abbrev cX5_go : ByteArray := prog_7_method_11_code
def yX5_go : MethodName := ⟨RX5, "go", "(IIII)V"⟩
abbrev cX5_balanceOf : ByteArray := prog_7_method_12_code
def yX5_balanceOf : MethodName := ⟨RX5, "balanceOf", "(I)I"⟩
abbrev cX5_gets : ByteArray := prog_7_method_13_code
def yX5_gets : MethodName := ⟨RX5, "gets", "(IIII)I"⟩
abbrev cX5_gainOf : ByteArray := prog_7_method_14_code
def yX5_gainOf : MethodName := ⟨RX5, "gainOf", "(IIII)I"⟩
abbrev cX5_grow : ByteArray := prog_7_method_15_code
def yX5_grow : MethodName := ⟨RX5, "grow", "([II)V"⟩
abbrev cX5_goBy : ByteArray := prog_7_method_16_code
def yX5_goBy : MethodName := ⟨RX5, "goBy", "()V"⟩
abbrev cX5_draw : ByteArray := prog_7_method_17_code
def yX5_draw : MethodName := ⟨RX5, "draw", "()I"⟩
abbrev cX5_steal : ByteArray := prog_7_method_18_code
def yX5_steal : MethodName := ⟨RX5, "steal", "()I"⟩
abbrev cX5_textOf : ByteArray := prog_7_method_19_code
def yX5_textOf : MethodName := ⟨RX5, "textOf", "(I)LDirtPress$Text;"⟩
abbrev cX5_given : ByteArray := prog_7_method_20_code
def yX5_given : MethodName := ⟨RX5, "given", "(IIII)I"⟩
abbrev cX5_worthOf : ByteArray := prog_7_method_21_code
def yX5_worthOf : MethodName := ⟨RX5, "worthOf", "(I)I"⟩
def RX6 : String := "DirtPress"
def TX6 : u_T := fun k => match k with
  | 0 => ("DirtPress", "world", "LDirtPress$World;", true)
  | 1 => ("DirtPress", "kept", "LDirtPress$World;", true)
  | 2 => ("DirtPress", "images", "I", false)
  | 3 => ("DirtPress", "errors", "[I", true)
  | 4 => ("DirtPress", "sheets", "[LDirtPress$Sheet;", true)
  | 5 => ("DirtPress", "reader", "LDirtPress$Reader;", true)
  | 6 => ("DirtPress", "thought", "LDirtPress$Thought;", true)
  | _ => ("DirtPress", "latest", "LDirtPress$Speech;", true)
def tyX6 : Nat → FieldType := fun k => match k with
  | 0 => .object "DirtPress$World"
  | 1 => .object "DirtPress$World"
  | 2 => .int
  | 3 => .array .int
  | 4 => .array (.object "DirtPress$Sheet")
  | 5 => .object "DirtPress$Reader"
  | 6 => .object "DirtPress$Thought"
  | _ => .object "DirtPress$Speech"
abbrev wsX60 : List Cond := u_ws RX6 TX6 8
theorem nmX6 : ∀ a, a < 8 → ∀ b, b < 8 → a ≠ b → (TX6 a).2.1 ≠ (TX6 b).2.1 := by decide +kernel
theorem tyX6_ok : ∀ k, k < 8 → parseFieldDescriptor (TX6 k).2.2.1 = some (tyX6 k) := by decide +kernel
abbrev cX6_init : ByteArray := prog_1_method_1_code
def yX6_init : MethodName := ⟨RX6, "<init>", "()V"⟩
abbrev cX6_person : ByteArray := prog_1_method_2_code
def yX6_person : MethodName := ⟨RX6, "person", "(I)I"⟩
abbrev cX6_child : ByteArray := prog_1_method_3_code
def yX6_child : MethodName := ⟨RX6, "child", "(III)I"⟩
abbrev cX6_personIs : ByteArray := prog_1_method_4_code
def yX6_personIs : MethodName := ⟨RX6, "personIs", "(II)I"⟩
abbrev cX6_become : ByteArray := prog_1_method_5_code
def yX6_become : MethodName := ⟨RX6, "become", "(II)I"⟩
abbrev cX6_as : ByteArray := prog_1_method_6_code
def yX6_as : MethodName := ⟨RX6, "as", "(II)I"⟩
abbrev cX6_hold : ByteArray := prog_1_method_7_code
def yX6_hold : MethodName := ⟨RX6, "hold", "(II)I"⟩
abbrev cX6_spoon : ByteArray := prog_1_method_8_code
def yX6_spoon : MethodName := ⟨RX6, "spoon", "(III)I"⟩
abbrev cX6_gain : ByteArray := prog_1_method_9_code
def yX6_gain : MethodName := ⟨RX6, "gain", "(II)I"⟩
abbrev cX6_lend : ByteArray := prog_1_method_10_code
def yX6_lend : MethodName := ⟨RX6, "lend", "(IIII)I"⟩
abbrev cX6_repay : ByteArray := prog_1_method_11_code
def yX6_repay : MethodName := ⟨RX6, "repay", "(IIII)I"⟩
abbrev cX6_owes : ByteArray := prog_1_method_12_code
def yX6_owes : MethodName := ⟨RX6, "owes", "(II)I"⟩
abbrev cX6_feed : ByteArray := prog_1_method_13_code
def yX6_feed : MethodName := ⟨RX6, "feed", "(JI)I"⟩
abbrev cX6_text : ByteArray := prog_1_method_14_code
def yX6_text : MethodName := ⟨RX6, "text", "(I)I"⟩
abbrev cX6_untell : ByteArray := prog_1_method_15_code
def yX6_untell : MethodName := ⟨RX6, "untell", "(I)I"⟩
abbrev cX6_law : ByteArray := prog_1_method_16_code
def yX6_law : MethodName := ⟨RX6, "law", "(IIII)I"⟩
abbrev cX6_years : ByteArray := prog_1_method_17_code
def yX6_years : MethodName := ⟨RX6, "years", "(I)I"⟩
abbrev cX6_loose : ByteArray := prog_1_method_18_code
def yX6_loose : MethodName := ⟨RX6, "loose", "(I)I"⟩
abbrev cX6_year : ByteArray := prog_1_method_19_code
def yX6_year : MethodName := ⟨RX6, "year", "(I)I"⟩
abbrev cX6_seed : ByteArray := prog_1_method_20_code
def yX6_seed : MethodName := ⟨RX6, "seed", "(I)I"⟩
abbrev cX6_then : ByteArray := prog_1_method_21_code
def yX6_then : MethodName := ⟨RX6, "then", "(III)I"⟩
abbrev cX6_clean : ByteArray := prog_1_method_22_code
def yX6_clean : MethodName := ⟨RX6, "clean", "(II)I"⟩
abbrev cX6_parents : ByteArray := prog_1_method_23_code
def yX6_parents : MethodName := ⟨RX6, "parents", "(II)I"⟩
abbrev cX6_falseSorts : ByteArray := prog_1_method_24_code
def yX6_falseSorts : MethodName := ⟨RX6, "falseSorts", "(I)I"⟩
abbrev cX6_kin : ByteArray := prog_1_method_25_code
def yX6_kin : MethodName := ⟨RX6, "kin", "(II)I"⟩
abbrev cX6_nets : ByteArray := prog_1_method_26_code
def yX6_nets : MethodName := ⟨RX6, "nets", "(I)I"⟩
abbrev cX6_odds : ByteArray := prog_1_method_27_code
def yX6_odds : MethodName := ⟨RX6, "odds", "(II)I"⟩
abbrev cX6_fits : ByteArray := prog_1_method_28_code
def yX6_fits : MethodName := ⟨RX6, "fits", "(II)I"⟩
abbrev cX6_voice : ByteArray := prog_1_method_29_code
def yX6_voice : MethodName := ⟨RX6, "voice", "(III)I"⟩
abbrev cX6_body : ByteArray := prog_1_method_30_code
def yX6_body : MethodName := ⟨RX6, "body", "(I)I"⟩
abbrev cX6_sheet : ByteArray := prog_1_method_31_code
def yX6_sheet : MethodName := ⟨RX6, "sheet", "(III)I"⟩
abbrev cX6_put : ByteArray := prog_1_method_32_code
def yX6_put : MethodName := ⟨RX6, "put", "(III)I"⟩
abbrev cX6_move : ByteArray := prog_1_method_33_code
def yX6_move : MethodName := ⟨RX6, "move", "(IIIII)I"⟩
abbrev cX6_spoons : ByteArray := prog_1_method_34_code
def yX6_spoons : MethodName := ⟨RX6, "spoons", "(II)I"⟩
abbrev cX6_judge : ByteArray := prog_1_method_35_code
def yX6_judge : MethodName := ⟨RX6, "judge", "(I)I"⟩
abbrev cX6_image : ByteArray := prog_1_method_36_code
def yX6_image : MethodName := ⟨RX6, "image", "()I"⟩
abbrev cX6_restore : ByteArray := prog_1_method_37_code
def yX6_restore : MethodName := ⟨RX6, "restore", "()I"⟩
abbrev cX6_tell : ByteArray := prog_1_method_38_code
def yX6_tell : MethodName := ⟨RX6, "tell", "(I)I"⟩
abbrev cX6_check : ByteArray := prog_1_method_39_code
def yX6_check : MethodName := ⟨RX6, "check", "()I"⟩
abbrev cX6_count : ByteArray := prog_1_method_40_code
def yX6_count : MethodName := ⟨RX6, "count", "(I)I"⟩
abbrev cX6_told : ByteArray := prog_1_method_41_code
def yX6_told : MethodName := ⟨RX6, "told", "(I)I"⟩
abbrev cX6_error : ByteArray := prog_1_method_42_code
def yX6_error : MethodName := ⟨RX6, "error", "(I)I"⟩
abbrev cX6_notOne : ByteArray := prog_1_method_43_code
def yX6_notOne : MethodName := ⟨RX6, "notOne", "(I)Z"⟩
abbrev cX6_notTwo : ByteArray := prog_1_method_44_code
def yX6_notTwo : MethodName := ⟨RX6, "notTwo", "(II)Z"⟩
abbrev cX6_notKm : ByteArray := prog_1_method_45_code
def yX6_notKm : MethodName := ⟨RX6, "notKm", "(I)Z"⟩
abbrev cX6_notSort : ByteArray := prog_1_method_46_code
def yX6_notSort : MethodName := ⟨RX6, "notSort", "(I)Z"⟩
abbrev cX6_notUse : ByteArray := prog_1_method_47_code
def yX6_notUse : MethodName := ⟨RX6, "notUse", "(I)Z"⟩
abbrev cX6_notSheet : ByteArray := prog_1_method_48_code
def yX6_notSheet : MethodName := ⟨RX6, "notSheet", "(I)Z"⟩
abbrev cX6_notWithin : ByteArray := prog_1_method_49_code
def yX6_notWithin : MethodName := ⟨RX6, "notWithin", "(III)Z"⟩
abbrev cX6_held : ByteArray := prog_1_method_50_code
def yX6_held : MethodName := ⟨RX6, "held", "(III)I"⟩
abbrev cX6_truth : ByteArray := prog_1_method_51_code
def yX6_truth : MethodName := ⟨RX6, "truth", "(Z)I"⟩
abbrev cX6_cell : ByteArray := prog_1_method_52_code
def yX6_cell : MethodName := ⟨RX6, "cell", "(II)I"⟩
abbrev cX6_pair : ByteArray := prog_1_method_53_code
def yX6_pair : MethodName := ⟨RX6, "pair", "(II)I"⟩
abbrev cX6_together : ByteArray := prog_1_method_54_code
def yX6_together : MethodName := ⟨RX6, "together", "([II)I"⟩
abbrev cX6_isUnder : ByteArray := prog_1_method_55_code
def yX6_isUnder : MethodName := ⟨RX6, "isUnder", "(II)Z"⟩
abbrev cX6_commonDivisor : ByteArray := prog_1_method_56_code
def yX6_commonDivisor : MethodName := ⟨RX6, "commonDivisor", "(II)I"⟩
def RX7 : String := "DirtPressModel"
def TX7 : u_T := fun k => match k with
  | 0 => ("DirtPressModel", "s", "[I", true)
  | 1 => ("DirtPressModel", "kept", "[I", true)
  | 2 => ("DirtPressModel", "laid", "[I", true)
  | 3 => ("DirtPressModel", "images", "I", false)
  | 4 => ("DirtPressModel", "errors", "[I", true)
  | 5 => ("DirtPressModel", "at", "I", false)
  | 6 => ("DirtPressModel", "open", "I", false)
  | 7 => ("DirtPressModel", "steps", "I", false)
  | 8 => ("DirtPressModel", "use", "I", false)
  | 9 => ("DirtPressModel", "step", "[I", true)
  | 10 => ("DirtPressModel", "named", "[I", true)
  | 11 => ("DirtPressModel", "pile", "[I", true)
  | 12 => ("DirtPressModel", "sums1", "[I", true)
  | 13 => ("DirtPressModel", "parts1", "[I", true)
  | 14 => ("DirtPressModel", "traced", "I", false)
  | 15 => ("DirtPressModel", "trace", "[I", true)
  | 16 => ("DirtPressModel", "speaks", "I", false)
  | 17 => ("DirtPressModel", "isParted", "Z", false)
  | 18 => ("DirtPressModel", "bits", "[I", true)
  | 19 => ("DirtPressModel", "sizes", "[I", true)
  | 20 => ("DirtPressModel", "number", "[I", true)
  | _ => ("DirtPressModel", "aside", "[I", true)
def tyX7 : Nat → FieldType := fun k => match k with
  | 0 => .array .int
  | 1 => .array .int
  | 2 => .array .int
  | 3 => .int
  | 4 => .array .int
  | 5 => .int
  | 6 => .int
  | 7 => .int
  | 8 => .int
  | 9 => .array .int
  | 10 => .array .int
  | 11 => .array .int
  | 12 => .array .int
  | 13 => .array .int
  | 14 => .int
  | 15 => .array .int
  | 16 => .int
  | 17 => .boolean
  | 18 => .array .int
  | 19 => .array .int
  | 20 => .array .int
  | _ => .array .int
abbrev wsX70 : List Cond := u_ws RX7 TX7 22
theorem nmX7 : ∀ a, a < 22 → ∀ b, b < 22 → a ≠ b → (TX7 a).2.1 ≠ (TX7 b).2.1 := by decide +kernel
theorem tyX7_ok : ∀ k, k < 22 → parseFieldDescriptor (TX7 k).2.2.1 = some (tyX7 k) := by decide +kernel
abbrev cX7_init : ByteArray := prog_9_method_1_code
def yX7_init : MethodName := ⟨RX7, "<init>", "()V"⟩
abbrev cX7_error : ByteArray := prog_9_method_2_code
def yX7_error : MethodName := ⟨RX7, "error", "(I)I"⟩
abbrev cX7_in : ByteArray := prog_9_method_3_code
def yX7_in : MethodName := ⟨RX7, "in", "(III)Z"⟩
abbrev cX7_held : ByteArray := prog_9_method_4_code
def yX7_held : MethodName := ⟨RX7, "held", "(III)I"⟩
abbrev cX7_copyAll : ByteArray := prog_9_method_5_code
def yX7_copyAll : MethodName := ⟨RX7, "copyAll", "([I[I)V"⟩
abbrev cX7_layDown : ByteArray := prog_9_method_6_code
def yX7_layDown : MethodName := ⟨RX7, "layDown", "()V"⟩
abbrev cX7_layBack : ByteArray := prog_9_method_7_code
def yX7_layBack : MethodName := ⟨RX7, "layBack", "()V"⟩
abbrev cX7_isPerson : ByteArray := prog_9_method_8_code
def yX7_isPerson : MethodName := ⟨RX7, "isPerson", "(I)Z"⟩
abbrev cX7_isSort : ByteArray := prog_9_method_9_code
def yX7_isSort : MethodName := ⟨RX7, "isSort", "(I)Z"⟩
abbrev cX7_its : ByteArray := prog_9_method_10_code
def yX7_its : MethodName := ⟨RX7, "its", "(II)I"⟩
abbrev cX7_lays1 : ByteArray := prog_9_method_11_code
def yX7_lays1 : MethodName := ⟨RX7, "lays1", "(III)V"⟩
abbrev cX7_has : ByteArray := prog_9_method_12_code
def yX7_has : MethodName := ⟨RX7, "has", "(II)I"⟩
abbrev cX7_gets : ByteArray := prog_9_method_13_code
def yX7_gets : MethodName := ⟨RX7, "gets", "(III)V"⟩
abbrev cX7_owed : ByteArray := prog_9_method_14_code
def yX7_owed : MethodName := ⟨RX7, "owed", "(II)I"⟩
abbrev cX7_change1 : ByteArray := prog_9_method_15_code
def yX7_change1 : MethodName := ⟨RX7, "change1", "(II)I"⟩
abbrev cX7_heap : ByteArray := prog_9_method_16_code
def yX7_heap : MethodName := ⟨RX7, "heap", "(I)I"⟩
abbrev cX7_feed : ByteArray := prog_9_method_17_code
def yX7_feed : MethodName := ⟨RX7, "feed", "(JI)I"⟩
abbrev cX7_look : ByteArray := prog_9_method_18_code
def yX7_look : MethodName := ⟨RX7, "look", "()I"⟩
abbrev cX7_isName : ByteArray := prog_9_method_19_code
def yX7_isName : MethodName := ⟨RX7, "isName", "(I)Z"⟩
abbrev cX7_step1 : ByteArray := prog_9_method_20_code
def yX7_step1 : MethodName := ⟨RX7, "step1", "(II)V"⟩
abbrev cX7_whole : ByteArray := prog_9_method_21_code
def yX7_whole : MethodName := ⟨RX7, "whole", "()Z"⟩
abbrev cX7_both : ByteArray := prog_9_method_22_code
def yX7_both : MethodName := ⟨RX7, "both", "()Z"⟩
abbrev cX7_compared : ByteArray := prog_9_method_23_code
def yX7_compared : MethodName := ⟨RX7, "compared", "()Z"⟩
abbrev cX7_sum : ByteArray := prog_9_method_24_code
def yX7_sum : MethodName := ⟨RX7, "sum", "()Z"⟩
abbrev cX7_product : ByteArray := prog_9_method_25_code
def yX7_product : MethodName := ⟨RX7, "product", "()Z"⟩
abbrev cX7_opens : ByteArray := prog_9_method_26_code
def yX7_opens : MethodName := ⟨RX7, "opens", "()Z"⟩
abbrev cX7_one : ByteArray := prog_9_method_27_code
def yX7_one : MethodName := ⟨RX7, "one", "()Z"⟩
abbrev cX7_hasText : ByteArray := prog_9_method_28_code
def yX7_hasText : MethodName := ⟨RX7, "hasText", "(I)Z"⟩
abbrev cX7_text : ByteArray := prog_9_method_29_code
def yX7_text : MethodName := ⟨RX7, "text", "(I)I"⟩
abbrev cX7_untell : ByteArray := prog_9_method_30_code
def yX7_untell : MethodName := ⟨RX7, "untell", "(I)I"⟩
abbrev cX7_joined : ByteArray := prog_9_method_31_code
def yX7_joined : MethodName := ⟨RX7, "joined", "(III)I"⟩
abbrev cX7_worked : ByteArray := prog_9_method_32_code
def yX7_worked : MethodName := ⟨RX7, "worked", "(I)I"⟩
abbrev cX7_getsAs : ByteArray := prog_9_method_33_code
def yX7_getsAs : MethodName := ⟨RX7, "getsAs", "(III)I"⟩
abbrev cX7_gainTold : ByteArray := prog_9_method_34_code
def yX7_gainTold : MethodName := ⟨RX7, "gainTold", "(III)I"⟩
abbrev cX7_worthTold : ByteArray := prog_9_method_35_code
def yX7_worthTold : MethodName := ⟨RX7, "worthTold", "(III)I"⟩
abbrev cX7_gainOf : ByteArray := prog_9_method_36_code
def yX7_gainOf : MethodName := ⟨RX7, "gainOf", "(II)I"⟩
abbrev cX7_worthOf : ByteArray := prog_9_method_37_code
def yX7_worthOf : MethodName := ⟨RX7, "worthOf", "(I)I"⟩
abbrev cX7_fromOf : ByteArray := prog_9_method_38_code
def yX7_fromOf : MethodName := ⟨RX7, "fromOf", "(I)I"⟩
abbrev cX7_aYear : ByteArray := prog_9_method_39_code
def yX7_aYear : MethodName := ⟨RX7, "aYear", "()V"⟩
abbrev cX7_draw : ByteArray := prog_9_method_40_code
def yX7_draw : MethodName := ⟨RX7, "draw", "()I"⟩
abbrev cX7_isKind : ByteArray := prog_9_method_41_code
def yX7_isKind : MethodName := ⟨RX7, "isKind", "(I)Z"⟩
abbrev cX7_born : ByteArray := prog_9_method_42_code
def yX7_born : MethodName := ⟨RX7, "born", "(III)I"⟩
abbrev cX7_person : ByteArray := prog_9_method_43_code
def yX7_person : MethodName := ⟨RX7, "person", "(I)I"⟩
abbrev cX7_areTwo : ByteArray := prog_9_method_44_code
def yX7_areTwo : MethodName := ⟨RX7, "areTwo", "(II)Z"⟩
abbrev cX7_child : ByteArray := prog_9_method_45_code
def yX7_child : MethodName := ⟨RX7, "child", "(III)I"⟩
abbrev cX7_personIs : ByteArray := prog_9_method_46_code
def yX7_personIs : MethodName := ⟨RX7, "personIs", "(II)I"⟩
abbrev cX7_become : ByteArray := prog_9_method_47_code
def yX7_become : MethodName := ⟨RX7, "become", "(II)I"⟩
abbrev cX7_as : ByteArray := prog_9_method_48_code
def yX7_as : MethodName := ⟨RX7, "as", "(II)I"⟩
abbrev cX7_hold : ByteArray := prog_9_method_49_code
def yX7_hold : MethodName := ⟨RX7, "hold", "(II)I"⟩
abbrev cX7_spoon : ByteArray := prog_9_method_50_code
def yX7_spoon : MethodName := ⟨RX7, "spoon", "(III)I"⟩
abbrev cX7_gain : ByteArray := prog_9_method_51_code
def yX7_gain : MethodName := ⟨RX7, "gain", "(II)I"⟩
abbrev cX7_areGiven : ByteArray := prog_9_method_52_code
def yX7_areGiven : MethodName := ⟨RX7, "areGiven", "(IIII)Z"⟩
abbrev cX7_canGo : ByteArray := prog_9_method_53_code
def yX7_canGo : MethodName := ⟨RX7, "canGo", "(IIII)Z"⟩
abbrev cX7_go : ByteArray := prog_9_method_54_code
def yX7_go : MethodName := ⟨RX7, "go", "(IIII)V"⟩
abbrev cX7_lend : ByteArray := prog_9_method_55_code
def yX7_lend : MethodName := ⟨RX7, "lend", "(IIII)I"⟩
abbrev cX7_repay : ByteArray := prog_9_method_56_code
def yX7_repay : MethodName := ⟨RX7, "repay", "(IIII)I"⟩
abbrev cX7_owes : ByteArray := prog_9_method_57_code
def yX7_owes : MethodName := ⟨RX7, "owes", "(II)I"⟩
abbrev cX7_law : ByteArray := prog_9_method_58_code
def yX7_law : MethodName := ⟨RX7, "law", "(IIII)I"⟩
abbrev cX7_whyNot : ByteArray := prog_9_method_59_code
def yX7_whyNot : MethodName := ⟨RX7, "whyNot", "(II)I"⟩
abbrev cX7_years : ByteArray := prog_9_method_60_code
def yX7_years : MethodName := ⟨RX7, "years", "(I)I"⟩
abbrev cX7_steals : ByteArray := prog_9_method_61_code
def yX7_steals : MethodName := ⟨RX7, "steals", "()I"⟩
abbrev cX7_loose : ByteArray := prog_9_method_62_code
def yX7_loose : MethodName := ⟨RX7, "loose", "(I)I"⟩
abbrev cX7_year : ByteArray := prog_9_method_63_code
def yX7_year : MethodName := ⟨RX7, "year", "(I)I"⟩
abbrev cX7_seed : ByteArray := prog_9_method_64_code
def yX7_seed : MethodName := ⟨RX7, "seed", "(I)I"⟩
abbrev cX7_then : ByteArray := prog_9_method_65_code
def yX7_then : MethodName := ⟨RX7, "then", "(III)I"⟩
abbrev cX7_whoIsClean : ByteArray := prog_9_method_66_code
def yX7_whoIsClean : MethodName := ⟨RX7, "whoIsClean", "(I)I"⟩
abbrev cX7_clean : ByteArray := prog_9_method_67_code
def yX7_clean : MethodName := ⟨RX7, "clean", "(II)I"⟩
abbrev cX7_arePoured : ByteArray := prog_9_method_68_code
def yX7_arePoured : MethodName := ⟨RX7, "arePoured", "(III)Z"⟩
abbrev cX7_parents : ByteArray := prog_9_method_69_code
def yX7_parents : MethodName := ⟨RX7, "parents", "(II)I"⟩
abbrev cX7_falseSorts : ByteArray := prog_9_method_70_code
def yX7_falseSorts : MethodName := ⟨RX7, "falseSorts", "(I)I"⟩
abbrev cX7_kin : ByteArray := prog_9_method_71_code
def yX7_kin : MethodName := ⟨RX7, "kin", "(II)I"⟩
abbrev cX7_balance : ByteArray := prog_9_method_72_code
def yX7_balance : MethodName := ⟨RX7, "balance", "(I)I"⟩
abbrev cX7_fewestPayments : ByteArray := prog_9_method_73_code
def yX7_fewestPayments : MethodName := ⟨RX7, "fewestPayments", "()I"⟩
abbrev cX7_nets : ByteArray := prog_9_method_74_code
def yX7_nets : MethodName := ⟨RX7, "nets", "(I)I"⟩
abbrev cX7_divisor : ByteArray := prog_9_method_75_code
def yX7_divisor : MethodName := ⟨RX7, "divisor", "(II)I"⟩
abbrev cX7_pouredHeap : ByteArray := prog_9_method_76_code
def yX7_pouredHeap : MethodName := ⟨RX7, "pouredHeap", "(II)I"⟩
abbrev cX7_odds : ByteArray := prog_9_method_77_code
def yX7_odds : MethodName := ⟨RX7, "odds", "(II)I"⟩
abbrev cX7_haveSo : ByteArray := prog_9_method_78_code
def yX7_haveSo : MethodName := ⟨RX7, "haveSo", "(II)Z"⟩
abbrev cX7_fits : ByteArray := prog_9_method_79_code
def yX7_fits : MethodName := ⟨RX7, "fits", "(II)I"⟩
abbrev cX7_starts : ByteArray := prog_9_method_80_code
def yX7_starts : MethodName := ⟨RX7, "starts", "(I)V"⟩
abbrev cX7_above : ByteArray := prog_9_method_81_code
def yX7_above : MethodName := ⟨RX7, "above", "(I)I"⟩
abbrev cX7_kindNow : ByteArray := prog_9_method_82_code
def yX7_kindNow : MethodName := ⟨RX7, "kindNow", "()I"⟩
abbrev cX7_mNow : ByteArray := prog_9_method_83_code
def yX7_mNow : MethodName := ⟨RX7, "mNow", "()I"⟩
abbrev cX7_washesAs : ByteArray := prog_9_method_84_code
def yX7_washesAs : MethodName := ⟨RX7, "washesAs", "(II)I"⟩
abbrev cX7_wringsAs : ByteArray := prog_9_method_85_code
def yX7_wringsAs : MethodName := ⟨RX7, "wringsAs", "(II)I"⟩
abbrev cX7_airsAs : ByteArray := prog_9_method_86_code
def yX7_airsAs : MethodName := ⟨RX7, "airsAs", "(II)I"⟩
abbrev cX7_partsAs : ByteArray := prog_9_method_87_code
def yX7_partsAs : MethodName := ⟨RX7, "partsAs", "(II)I"⟩
abbrev cX7_voice : ByteArray := prog_9_method_88_code
def yX7_voice : MethodName := ⟨RX7, "voice", "(III)I"⟩
abbrev cX7_body : ByteArray := prog_9_method_89_code
def yX7_body : MethodName := ⟨RX7, "body", "(I)I"⟩
abbrev cX7_isSheet : ByteArray := prog_9_method_90_code
def yX7_isSheet : MethodName := ⟨RX7, "isSheet", "(I)Z"⟩
abbrev cX7_sheet : ByteArray := prog_9_method_91_code
def yX7_sheet : MethodName := ⟨RX7, "sheet", "(III)I"⟩
abbrev cX7_put : ByteArray := prog_9_method_92_code
def yX7_put : MethodName := ⟨RX7, "put", "(III)I"⟩
abbrev cX7_move : ByteArray := prog_9_method_93_code
def yX7_move : MethodName := ⟨RX7, "move", "(IIIII)I"⟩
abbrev cX7_lacks : ByteArray := prog_9_method_94_code
def yX7_lacks : MethodName := ⟨RX7, "lacks", "(I)I"⟩
abbrev cX7_spoons : ByteArray := prog_9_method_95_code
def yX7_spoons : MethodName := ⟨RX7, "spoons", "(II)I"⟩
abbrev cX7_judge : ByteArray := prog_9_method_96_code
def yX7_judge : MethodName := ⟨RX7, "judge", "(I)I"⟩
abbrev cX7_image : ByteArray := prog_9_method_97_code
def yX7_image : MethodName := ⟨RX7, "image", "()I"⟩
abbrev cX7_restore : ByteArray := prog_9_method_98_code
def yX7_restore : MethodName := ⟨RX7, "restore", "()I"⟩
abbrev cX7_tell : ByteArray := prog_9_method_99_code
def yX7_tell : MethodName := ⟨RX7, "tell", "(I)I"⟩
abbrev cX7_check : ByteArray := prog_9_method_100_code
def yX7_check : MethodName := ⟨RX7, "check", "()I"⟩
abbrev cX7_count : ByteArray := prog_9_method_101_code
def yX7_count : MethodName := ⟨RX7, "count", "(I)I"⟩
abbrev cX7_told : ByteArray := prog_9_method_102_code
def yX7_told : MethodName := ⟨RX7, "told", "(I)I"⟩
def RL : String := "DirtPressLaw"
abbrev cL_law : ByteArray := code
def yL_law : MethodName := ⟨RL, "law", "([I)Z"⟩
abbrev vwCl : List vw_C := [(RX0, TX0, 6), (RX1, TX1, 3), (RX2, TX2, 6), (RX3, TX3, 3), (RX4, TX4, 3), (RX5, TX5, 15), (RX6, TX6, 8), (RX7, TX7, 22)]
/-- the tables' words that keep -/
def GW : List Cond := lw_tbl.filter goodWord
theorem GW_in : ∀ w ∈ GW, w ∈ lw_tbl := fun w h => (List.mem_filter.mp h).1
theorem gdS : GoodIn GW GW := fun w h => ⟨h, good_of_word (List.mem_filter.mp h).2⟩
theorem wdg {i : Nat} {w : Cond} (h : lw_tbl[i]? = some w) (hg : goodWord w = true) : w ∈ GW := List.mem_filter.mpr ⟨List.mem_of_getElem? h, hg⟩
end
section
theorem dX0_init_0 : decode cX0_init 0 = .ok (.aload_n 0, 1) := by decide +kernel
theorem dX0_init_1 : decode cX0_init 1 = .ok (.invokespecial 3, 3) := by decide +kernel
theorem dX0_init_4 : decode cX0_init 4 = .ok (.aload_n 0, 1) := by decide +kernel
theorem dX0_init_5 : decode cX0_init 5 = .ok (.new 9, 3) := by decide +kernel
theorem dX0_init_8 : decode cX0_init 8 = .ok (.dup, 1) := by decide +kernel
theorem dX0_init_9 : decode cX0_init 9 = .ok (.invokespecial 11, 3) := by decide +kernel
theorem dX0_init_12 : decode cX0_init 12 = .ok (.putfield 12, 3) := by decide +kernel
theorem dX0_init_15 : decode cX0_init 15 = .ok (.aload_n 0, 1) := by decide +kernel
theorem dX0_init_16 : decode cX0_init 16 = .ok (.bipush 60, 2) := by decide +kernel
theorem dX0_init_18 : decode cX0_init 18 = .ok (.newarray .int, 2) := by decide +kernel
theorem dX0_init_20 : decode cX0_init 20 = .ok (.putfield 18, 3) := by decide +kernel
theorem dX0_init_23 : decode cX0_init 23 = .ok (.return_, 1) := by decide +kernel
theorem dX0_faultOf_0 : decode cX0_faultOf 0 = .ok (.aload_n 1, 1) := by decide +kernel
theorem dX0_faultOf_1 : decode cX0_faultOf 1 = .ok (.getfield 22, 3) := by decide +kernel
theorem dX0_faultOf_4 : decode cX0_faultOf 4 = .ok (.iconst 0, 1) := by decide +kernel
theorem dX0_faultOf_5 : decode cX0_faultOf 5 = .ok (.aload_n 0, 1) := by decide +kernel
theorem dX0_faultOf_6 : decode cX0_faultOf 6 = .ok (.getfield 18, 3) := by decide +kernel
theorem dX0_faultOf_9 : decode cX0_faultOf 9 = .ok (.iconst 0, 1) := by decide +kernel
theorem dX0_faultOf_10 : decode cX0_faultOf 10 = .ok (.bipush 60, 2) := by decide +kernel
theorem dX0_faultOf_12 : decode cX0_faultOf 12 = .ok (.invokestatic 25, 3) := by decide +kernel
theorem dX0_faultOf_15 : decode cX0_faultOf 15 = .ok (.aload_n 0, 1) := by decide +kernel
theorem dX0_faultOf_16 : decode cX0_faultOf 16 = .ok (.aload_n 1, 1) := by decide +kernel
theorem dX0_faultOf_17 : decode cX0_faultOf 17 = .ok (.getfield 31, 3) := by decide +kernel
theorem dX0_faultOf_20 : decode cX0_faultOf 20 = .ok (.putfield 35, 3) := by decide +kernel
theorem dX0_faultOf_23 : decode cX0_faultOf 23 = .ok (.aload_n 0, 1) := by decide +kernel
theorem dX0_faultOf_24 : decode cX0_faultOf 24 = .ok (.iload_n 2, 1) := by decide +kernel
theorem dX0_faultOf_25 : decode cX0_faultOf 25 = .ok (.putfield 36, 3) := by decide +kernel
theorem dX0_faultOf_28 : decode cX0_faultOf 28 = .ok (.aload_n 0, 1) := by decide +kernel
theorem dX0_faultOf_29 : decode cX0_faultOf 29 = .ok (.iconst 0, 1) := by decide +kernel
theorem dX0_faultOf_30 : decode cX0_faultOf 30 = .ok (.putfield 39, 3) := by decide +kernel
theorem dX0_faultOf_33 : decode cX0_faultOf 33 = .ok (.aload_n 0, 1) := by decide +kernel
theorem dX0_faultOf_34 : decode cX0_faultOf 34 = .ok (.iconst 0, 1) := by decide +kernel
theorem dX0_faultOf_35 : decode cX0_faultOf 35 = .ok (.putfield 42, 3) := by decide +kernel
theorem dX0_faultOf_38 : decode cX0_faultOf 38 = .ok (.aload_n 0, 1) := by decide +kernel
theorem dX0_faultOf_39 : decode cX0_faultOf 39 = .ok (.getfield 12, 3) := by decide +kernel
theorem dX0_faultOf_42 : decode cX0_faultOf 42 = .ok (.invokevirtual 46, 3) := by decide +kernel
theorem dX0_faultOf_45 : decode cX0_faultOf 45 = .ok (.aload_n 0, 1) := by decide +kernel
theorem dX0_faultOf_46 : decode cX0_faultOf 46 = .ok (.iconst 0, 1) := by decide +kernel
theorem dX0_faultOf_47 : decode cX0_faultOf 47 = .ok (.iconst 0, 1) := by decide +kernel
theorem dX0_faultOf_48 : decode cX0_faultOf 48 = .ok (.invokevirtual 49, 3) := by decide +kernel
theorem dX0_faultOf_51 : decode cX0_faultOf 51 = .ok (.aload_n 0, 1) := by decide +kernel
theorem dX0_faultOf_52 : decode cX0_faultOf 52 = .ok (.getfield 42, 3) := by decide +kernel
theorem dX0_faultOf_55 : decode cX0_faultOf 55 = .ok (.ifCond .ne 14, 3) := by decide +kernel
theorem dX0_faultOf_58 : decode cX0_faultOf 58 = .ok (.aload_n 0, 1) := by decide +kernel
theorem dX0_faultOf_59 : decode cX0_faultOf 59 = .ok (.getfield 39, 3) := by decide +kernel
theorem dX0_faultOf_62 : decode cX0_faultOf 62 = .ok (.aload_n 0, 1) := by decide +kernel
theorem dX0_faultOf_63 : decode cX0_faultOf 63 = .ok (.getfield 35, 3) := by decide +kernel
theorem dX0_faultOf_66 : decode cX0_faultOf 66 = .ok (.if_icmp .ge 10, 3) := by decide +kernel
theorem dX0_faultOf_69 : decode cX0_faultOf 69 = .ok (.aload_n 0, 1) := by decide +kernel
theorem dX0_faultOf_70 : decode cX0_faultOf 70 = .ok (.getfield 39, 3) := by decide +kernel
theorem dX0_faultOf_73 : decode cX0_faultOf 73 = .ok (.goto 4, 3) := by decide +kernel
theorem dX0_faultOf_76 : decode cX0_faultOf 76 = .ok (.iconst (-1), 1) := by decide +kernel
theorem dX0_faultOf_77 : decode cX0_faultOf 77 = .ok (.ireturn, 1) := by decide +kernel
theorem dX0_readChain_0 : decode cX0_readChain 0 = .ok (.iload_n 1, 1) := by decide +kernel
theorem dX0_readChain_1 : decode cX0_readChain 1 = .ok (.iconst 4, 1) := by decide +kernel
theorem dX0_readChain_2 : decode cX0_readChain 2 = .ok (.if_icmp .le 9, 3) := by decide +kernel
theorem dX0_readChain_5 : decode cX0_readChain 5 = .ok (.aload_n 0, 1) := by decide +kernel
theorem dX0_readChain_6 : decode cX0_readChain 6 = .ok (.iload_n 2, 1) := by decide +kernel
theorem dX0_readChain_7 : decode cX0_readChain 7 = .ok (.invokevirtual 53, 3) := by decide +kernel
theorem dX0_readChain_10 : decode cX0_readChain 10 = .ok (.return_, 1) := by decide +kernel
theorem dX0_readChain_11 : decode cX0_readChain 11 = .ok (.aload_n 0, 1) := by decide +kernel
theorem dX0_readChain_12 : decode cX0_readChain 12 = .ok (.iload_n 1, 1) := by decide +kernel
theorem dX0_readChain_13 : decode cX0_readChain 13 = .ok (.iconst 1, 1) := by decide +kernel
theorem dX0_readChain_14 : decode cX0_readChain 14 = .ok (.iadd, 1) := by decide +kernel
theorem dX0_readChain_15 : decode cX0_readChain 15 = .ok (.iload_n 2, 1) := by decide +kernel
theorem dX0_readChain_16 : decode cX0_readChain 16 = .ok (.invokevirtual 49, 3) := by decide +kernel
theorem dX0_readChain_19 : decode cX0_readChain 19 = .ok (.aload_n 0, 1) := by decide +kernel
theorem dX0_readChain_20 : decode cX0_readChain 20 = .ok (.getfield 42, 3) := by decide +kernel
theorem dX0_readChain_23 : decode cX0_readChain 23 = .ok (.ifCond .ne 76, 3) := by decide +kernel
theorem dX0_readChain_26 : decode cX0_readChain 26 = .ok (.aload_n 0, 1) := by decide +kernel
theorem dX0_readChain_27 : decode cX0_readChain 27 = .ok (.getfield 39, 3) := by decide +kernel
theorem dX0_readChain_30 : decode cX0_readChain 30 = .ok (.aload_n 0, 1) := by decide +kernel
theorem dX0_readChain_31 : decode cX0_readChain 31 = .ok (.getfield 35, 3) := by decide +kernel
theorem dX0_readChain_34 : decode cX0_readChain 34 = .ok (.if_icmp .ge 65, 3) := by decide +kernel
theorem dX0_readChain_37 : decode cX0_readChain 37 = .ok (.aload_n 0, 1) := by decide +kernel
theorem dX0_readChain_38 : decode cX0_readChain 38 = .ok (.getfield 18, 3) := by decide +kernel
theorem dX0_readChain_41 : decode cX0_readChain 41 = .ok (.aload_n 0, 1) := by decide +kernel
theorem dX0_readChain_42 : decode cX0_readChain 42 = .ok (.getfield 39, 3) := by decide +kernel
theorem dX0_readChain_45 : decode cX0_readChain 45 = .ok (.iaload, 1) := by decide +kernel
theorem dX0_readChain_46 : decode cX0_readChain 46 = .ok (.invokestatic 57, 3) := by decide +kernel
theorem dX0_readChain_49 : decode cX0_readChain 49 = .ok (.iload_n 1, 1) := by decide +kernel
theorem dX0_readChain_50 : decode cX0_readChain 50 = .ok (.if_icmp .ne 49, 3) := by decide +kernel
theorem dX0_readChain_53 : decode cX0_readChain 53 = .ok (.aload_n 0, 1) := by decide +kernel
theorem dX0_readChain_54 : decode cX0_readChain 54 = .ok (.getfield 18, 3) := by decide +kernel
theorem dX0_readChain_57 : decode cX0_readChain 57 = .ok (.aload_n 0, 1) := by decide +kernel
theorem dX0_readChain_58 : decode cX0_readChain 58 = .ok (.getfield 39, 3) := by decide +kernel
theorem dX0_readChain_61 : decode cX0_readChain 61 = .ok (.iaload, 1) := by decide +kernel
theorem dX0_readChain_62 : decode cX0_readChain 62 = .ok (.istore_n 3, 1) := by decide +kernel
theorem dX0_readChain_63 : decode cX0_readChain 63 = .ok (.aload_n 0, 1) := by decide +kernel
theorem dX0_readChain_64 : decode cX0_readChain 64 = .ok (.dup, 1) := by decide +kernel
theorem dX0_readChain_65 : decode cX0_readChain 65 = .ok (.getfield 39, 3) := by decide +kernel
theorem dX0_readChain_68 : decode cX0_readChain 68 = .ok (.iconst 1, 1) := by decide +kernel
theorem dX0_readChain_69 : decode cX0_readChain 69 = .ok (.iadd, 1) := by decide +kernel
theorem dX0_readChain_70 : decode cX0_readChain 70 = .ok (.putfield 39, 3) := by decide +kernel
theorem dX0_readChain_73 : decode cX0_readChain 73 = .ok (.aload_n 0, 1) := by decide +kernel
theorem dX0_readChain_74 : decode cX0_readChain 74 = .ok (.iload_n 1, 1) := by decide +kernel
theorem dX0_readChain_75 : decode cX0_readChain 75 = .ok (.iconst 1, 1) := by decide +kernel
theorem dX0_readChain_76 : decode cX0_readChain 76 = .ok (.iadd, 1) := by decide +kernel
theorem dX0_readChain_77 : decode cX0_readChain 77 = .ok (.iload_n 2, 1) := by decide +kernel
theorem dX0_readChain_78 : decode cX0_readChain 78 = .ok (.invokevirtual 49, 3) := by decide +kernel
theorem dX0_readChain_81 : decode cX0_readChain 81 = .ok (.aload_n 0, 1) := by decide +kernel
theorem dX0_readChain_82 : decode cX0_readChain 82 = .ok (.getfield 12, 3) := by decide +kernel
theorem dX0_readChain_85 : decode cX0_readChain 85 = .ok (.iload_n 3, 1) := by decide +kernel
theorem dX0_readChain_86 : decode cX0_readChain 86 = .ok (.ineg, 1) := by decide +kernel
theorem dX0_readChain_87 : decode cX0_readChain 87 = .ok (.invokevirtual 61, 3) := by decide +kernel
theorem dX0_readChain_90 : decode cX0_readChain 90 = .ok (.iload_n 1, 1) := by decide +kernel
theorem dX0_readChain_91 : decode cX0_readChain 91 = .ok (.iconst 2, 1) := by decide +kernel
theorem dX0_readChain_92 : decode cX0_readChain 92 = .ok (.if_icmp .ne 4, 3) := by decide +kernel
theorem dX0_readChain_95 : decode cX0_readChain 95 = .ok (.return_, 1) := by decide +kernel
theorem dX0_readChain_96 : decode cX0_readChain 96 = .ok (.goto (-77), 3) := by decide +kernel
theorem dX0_readChain_99 : decode cX0_readChain 99 = .ok (.return_, 1) := by decide +kernel
theorem dX0_readUnit_0 : decode cX0_readUnit 0 = .ok (.aload_n 0, 1) := by decide +kernel
theorem dX0_readUnit_1 : decode cX0_readUnit 1 = .ok (.getfield 39, 3) := by decide +kernel
theorem dX0_readUnit_4 : decode cX0_readUnit 4 = .ok (.aload_n 0, 1) := by decide +kernel
theorem dX0_readUnit_5 : decode cX0_readUnit 5 = .ok (.getfield 35, 3) := by decide +kernel
theorem dX0_readUnit_8 : decode cX0_readUnit 8 = .ok (.if_icmp .ge 15, 3) := by decide +kernel
theorem dX0_readUnit_11 : decode cX0_readUnit 11 = .ok (.aload_n 0, 1) := by decide +kernel
theorem dX0_readUnit_12 : decode cX0_readUnit 12 = .ok (.getfield 18, 3) := by decide +kernel
theorem dX0_readUnit_15 : decode cX0_readUnit 15 = .ok (.aload_n 0, 1) := by decide +kernel
theorem dX0_readUnit_16 : decode cX0_readUnit 16 = .ok (.getfield 39, 3) := by decide +kernel
theorem dX0_readUnit_19 : decode cX0_readUnit 19 = .ok (.iaload, 1) := by decide +kernel
theorem dX0_readUnit_20 : decode cX0_readUnit 20 = .ok (.goto 4, 3) := by decide +kernel
theorem dX0_readUnit_23 : decode cX0_readUnit 23 = .ok (.iconst (-1), 1) := by decide +kernel
theorem dX0_readUnit_24 : decode cX0_readUnit 24 = .ok (.istore_n 2, 1) := by decide +kernel
theorem dX0_readUnit_25 : decode cX0_readUnit 25 = .ok (.aload_n 0, 1) := by decide +kernel
theorem dX0_readUnit_26 : decode cX0_readUnit 26 = .ok (.iload_n 2, 1) := by decide +kernel
theorem dX0_readUnit_27 : decode cX0_readUnit 27 = .ok (.invokevirtual 64, 3) := by decide +kernel
theorem dX0_readUnit_30 : decode cX0_readUnit 30 = .ok (.istore_n 3, 1) := by decide +kernel
theorem dX0_readUnit_31 : decode cX0_readUnit 31 = .ok (.iload_n 2, 1) := by decide +kernel
theorem dX0_readUnit_32 : decode cX0_readUnit 32 = .ok (.invokestatic 67, 3) := by decide +kernel
theorem dX0_readUnit_35 : decode cX0_readUnit 35 = .ok (.ifCond .eq 10, 3) := by decide +kernel
theorem dX0_readUnit_38 : decode cX0_readUnit 38 = .ok (.aload_n 0, 1) := by decide +kernel
theorem dX0_readUnit_39 : decode cX0_readUnit 39 = .ok (.invokevirtual 71, 3) := by decide +kernel
theorem dX0_readUnit_42 : decode cX0_readUnit 42 = .ok (.goto 110, 3) := by decide +kernel
theorem dX0_readUnit_45 : decode cX0_readUnit 45 = .ok (.iload_n 3, 1) := by decide +kernel
theorem dX0_readUnit_46 : decode cX0_readUnit 46 = .ok (.ifCond .le 25, 3) := by decide +kernel
theorem dX0_readUnit_49 : decode cX0_readUnit 49 = .ok (.aload_n 0, 1) := by decide +kernel
theorem dX0_readUnit_50 : decode cX0_readUnit 50 = .ok (.dup, 1) := by decide +kernel
theorem dX0_readUnit_51 : decode cX0_readUnit 51 = .ok (.getfield 39, 3) := by decide +kernel
theorem dX0_readUnit_54 : decode cX0_readUnit 54 = .ok (.iconst 1, 1) := by decide +kernel
theorem dX0_readUnit_55 : decode cX0_readUnit 55 = .ok (.iadd, 1) := by decide +kernel
theorem dX0_readUnit_56 : decode cX0_readUnit 56 = .ok (.putfield 39, 3) := by decide +kernel
theorem dX0_readUnit_59 : decode cX0_readUnit 59 = .ok (.aload_n 0, 1) := by decide +kernel
theorem dX0_readUnit_60 : decode cX0_readUnit 60 = .ok (.getfield 12, 3) := by decide +kernel
theorem dX0_readUnit_63 : decode cX0_readUnit 63 = .ok (.iload_n 3, 1) := by decide +kernel
theorem dX0_readUnit_64 : decode cX0_readUnit 64 = .ok (.ineg, 1) := by decide +kernel
theorem dX0_readUnit_65 : decode cX0_readUnit 65 = .ok (.invokevirtual 61, 3) := by decide +kernel
theorem dX0_readUnit_68 : decode cX0_readUnit 68 = .ok (.goto 84, 3) := by decide +kernel
theorem dX0_readUnit_71 : decode cX0_readUnit 71 = .ok (.iload_n 2, 1) := by decide +kernel
theorem dX0_readUnit_72 : decode cX0_readUnit 72 = .ok (.bipush 33, 2) := by decide +kernel
theorem dX0_readUnit_74 : decode cX0_readUnit 74 = .ok (.if_icmp .ne 37, 3) := by decide +kernel
theorem dX0_readUnit_77 : decode cX0_readUnit 77 = .ok (.iload_n 1, 1) := by decide +kernel
theorem dX0_readUnit_78 : decode cX0_readUnit 78 = .ok (.iconst 5, 1) := by decide +kernel
theorem dX0_readUnit_79 : decode cX0_readUnit 79 = .ok (.if_icmp .ge 32, 3) := by decide +kernel
theorem dX0_readUnit_82 : decode cX0_readUnit 82 = .ok (.aload_n 0, 1) := by decide +kernel
theorem dX0_readUnit_83 : decode cX0_readUnit 83 = .ok (.dup, 1) := by decide +kernel
theorem dX0_readUnit_84 : decode cX0_readUnit 84 = .ok (.getfield 39, 3) := by decide +kernel
theorem dX0_readUnit_87 : decode cX0_readUnit 87 = .ok (.iconst 1, 1) := by decide +kernel
theorem dX0_readUnit_88 : decode cX0_readUnit 88 = .ok (.iadd, 1) := by decide +kernel
theorem dX0_readUnit_89 : decode cX0_readUnit 89 = .ok (.putfield 39, 3) := by decide +kernel
theorem dX0_readUnit_92 : decode cX0_readUnit 92 = .ok (.aload_n 0, 1) := by decide +kernel
theorem dX0_readUnit_93 : decode cX0_readUnit 93 = .ok (.iload_n 1, 1) := by decide +kernel
theorem dX0_readUnit_94 : decode cX0_readUnit 94 = .ok (.iconst 1, 1) := by decide +kernel
theorem dX0_readUnit_95 : decode cX0_readUnit 95 = .ok (.iadd, 1) := by decide +kernel
theorem dX0_readUnit_96 : decode cX0_readUnit 96 = .ok (.invokevirtual 53, 3) := by decide +kernel
theorem dX0_readUnit_99 : decode cX0_readUnit 99 = .ok (.aload_n 0, 1) := by decide +kernel
theorem dX0_readUnit_100 : decode cX0_readUnit 100 = .ok (.getfield 12, 3) := by decide +kernel
theorem dX0_readUnit_103 : decode cX0_readUnit 103 = .ok (.iload_n 2, 1) := by decide +kernel
theorem dX0_readUnit_104 : decode cX0_readUnit 104 = .ok (.ineg, 1) := by decide +kernel
theorem dX0_readUnit_105 : decode cX0_readUnit 105 = .ok (.invokevirtual 61, 3) := by decide +kernel
theorem dX0_readUnit_108 : decode cX0_readUnit 108 = .ok (.goto 44, 3) := by decide +kernel
theorem dX0_readUnit_111 : decode cX0_readUnit 111 = .ok (.iload_n 2, 1) := by decide +kernel
theorem dX0_readUnit_112 : decode cX0_readUnit 112 = .ok (.bipush 40, 2) := by decide +kernel
theorem dX0_readUnit_114 : decode cX0_readUnit 114 = .ok (.if_icmp .ne 33, 3) := by decide +kernel
theorem dX0_readUnit_117 : decode cX0_readUnit 117 = .ok (.iload_n 1, 1) := by decide +kernel
theorem dX0_readUnit_118 : decode cX0_readUnit 118 = .ok (.iconst 5, 1) := by decide +kernel
theorem dX0_readUnit_119 : decode cX0_readUnit 119 = .ok (.if_icmp .ge 28, 3) := by decide +kernel
theorem dX0_readUnit_122 : decode cX0_readUnit 122 = .ok (.aload_n 0, 1) := by decide +kernel
theorem dX0_readUnit_123 : decode cX0_readUnit 123 = .ok (.dup, 1) := by decide +kernel
theorem dX0_readUnit_124 : decode cX0_readUnit 124 = .ok (.getfield 39, 3) := by decide +kernel
theorem dX0_readUnit_127 : decode cX0_readUnit 127 = .ok (.iconst 1, 1) := by decide +kernel
theorem dX0_readUnit_128 : decode cX0_readUnit 128 = .ok (.iadd, 1) := by decide +kernel
theorem dX0_readUnit_129 : decode cX0_readUnit 129 = .ok (.putfield 39, 3) := by decide +kernel
theorem dX0_readUnit_132 : decode cX0_readUnit 132 = .ok (.aload_n 0, 1) := by decide +kernel
theorem dX0_readUnit_133 : decode cX0_readUnit 133 = .ok (.iconst 0, 1) := by decide +kernel
theorem dX0_readUnit_134 : decode cX0_readUnit 134 = .ok (.iload_n 1, 1) := by decide +kernel
theorem dX0_readUnit_135 : decode cX0_readUnit 135 = .ok (.iconst 1, 1) := by decide +kernel
theorem dX0_readUnit_136 : decode cX0_readUnit 136 = .ok (.iadd, 1) := by decide +kernel
theorem dX0_readUnit_137 : decode cX0_readUnit 137 = .ok (.invokevirtual 49, 3) := by decide +kernel
theorem dX0_readUnit_140 : decode cX0_readUnit 140 = .ok (.aload_n 0, 1) := by decide +kernel
theorem dX0_readUnit_141 : decode cX0_readUnit 141 = .ok (.invokevirtual 74, 3) := by decide +kernel
theorem dX0_readUnit_144 : decode cX0_readUnit 144 = .ok (.goto 8, 3) := by decide +kernel
theorem dX0_readUnit_147 : decode cX0_readUnit 147 = .ok (.aload_n 0, 1) := by decide +kernel
theorem dX0_readUnit_148 : decode cX0_readUnit 148 = .ok (.iconst 1, 1) := by decide +kernel
theorem dX0_readUnit_149 : decode cX0_readUnit 149 = .ok (.putfield 42, 3) := by decide +kernel
theorem dX0_readUnit_152 : decode cX0_readUnit 152 = .ok (.return_, 1) := by decide +kernel
theorem dX0_readNumber_0 : decode cX0_readNumber 0 = .ok (.iconst 0, 1) := by decide +kernel
theorem dX0_readNumber_1 : decode cX0_readNumber 1 = .ok (.istore_n 1, 1) := by decide +kernel
theorem dX0_readNumber_2 : decode cX0_readNumber 2 = .ok (.iconst 0, 1) := by decide +kernel
theorem dX0_readNumber_3 : decode cX0_readNumber 3 = .ok (.istore_n 2, 1) := by decide +kernel
theorem dX0_readNumber_4 : decode cX0_readNumber 4 = .ok (.iload_n 2, 1) := by decide +kernel
theorem dX0_readNumber_5 : decode cX0_readNumber 5 = .ok (.iconst 4, 1) := by decide +kernel
theorem dX0_readNumber_6 : decode cX0_readNumber 6 = .ok (.if_icmp .ge 63, 3) := by decide +kernel
theorem dX0_readNumber_9 : decode cX0_readNumber 9 = .ok (.aload_n 0, 1) := by decide +kernel
theorem dX0_readNumber_10 : decode cX0_readNumber 10 = .ok (.getfield 39, 3) := by decide +kernel
theorem dX0_readNumber_13 : decode cX0_readNumber 13 = .ok (.aload_n 0, 1) := by decide +kernel
theorem dX0_readNumber_14 : decode cX0_readNumber 14 = .ok (.getfield 35, 3) := by decide +kernel
theorem dX0_readNumber_17 : decode cX0_readNumber 17 = .ok (.if_icmp .ge 52, 3) := by decide +kernel
theorem dX0_readNumber_20 : decode cX0_readNumber 20 = .ok (.aload_n 0, 1) := by decide +kernel
theorem dX0_readNumber_21 : decode cX0_readNumber 21 = .ok (.getfield 18, 3) := by decide +kernel
theorem dX0_readNumber_24 : decode cX0_readNumber 24 = .ok (.aload_n 0, 1) := by decide +kernel
theorem dX0_readNumber_25 : decode cX0_readNumber 25 = .ok (.getfield 39, 3) := by decide +kernel
theorem dX0_readNumber_28 : decode cX0_readNumber 28 = .ok (.iaload, 1) := by decide +kernel
theorem dX0_readNumber_29 : decode cX0_readNumber 29 = .ok (.invokestatic 67, 3) := by decide +kernel
theorem dX0_readNumber_32 : decode cX0_readNumber 32 = .ok (.ifCond .eq 37, 3) := by decide +kernel
theorem dX0_readNumber_35 : decode cX0_readNumber 35 = .ok (.iload_n 1, 1) := by decide +kernel
theorem dX0_readNumber_36 : decode cX0_readNumber 36 = .ok (.bipush 10, 2) := by decide +kernel
theorem dX0_readNumber_38 : decode cX0_readNumber 38 = .ok (.imul, 1) := by decide +kernel
theorem dX0_readNumber_39 : decode cX0_readNumber 39 = .ok (.aload_n 0, 1) := by decide +kernel
theorem dX0_readNumber_40 : decode cX0_readNumber 40 = .ok (.getfield 18, 3) := by decide +kernel
theorem dX0_readNumber_43 : decode cX0_readNumber 43 = .ok (.aload_n 0, 1) := by decide +kernel
theorem dX0_readNumber_44 : decode cX0_readNumber 44 = .ok (.getfield 39, 3) := by decide +kernel
theorem dX0_readNumber_47 : decode cX0_readNumber 47 = .ok (.iaload, 1) := by decide +kernel
theorem dX0_readNumber_48 : decode cX0_readNumber 48 = .ok (.iadd, 1) := by decide +kernel
theorem dX0_readNumber_49 : decode cX0_readNumber 49 = .ok (.bipush 48, 2) := by decide +kernel
theorem dX0_readNumber_51 : decode cX0_readNumber 51 = .ok (.isub, 1) := by decide +kernel
theorem dX0_readNumber_52 : decode cX0_readNumber 52 = .ok (.istore_n 1, 1) := by decide +kernel
theorem dX0_readNumber_53 : decode cX0_readNumber 53 = .ok (.aload_n 0, 1) := by decide +kernel
theorem dX0_readNumber_54 : decode cX0_readNumber 54 = .ok (.dup, 1) := by decide +kernel
theorem dX0_readNumber_55 : decode cX0_readNumber 55 = .ok (.getfield 39, 3) := by decide +kernel
theorem dX0_readNumber_58 : decode cX0_readNumber 58 = .ok (.iconst 1, 1) := by decide +kernel
theorem dX0_readNumber_59 : decode cX0_readNumber 59 = .ok (.iadd, 1) := by decide +kernel
theorem dX0_readNumber_60 : decode cX0_readNumber 60 = .ok (.putfield 39, 3) := by decide +kernel
theorem dX0_readNumber_63 : decode cX0_readNumber 63 = .ok (.iinc 2 1, 3) := by decide +kernel
theorem dX0_readNumber_66 : decode cX0_readNumber 66 = .ok (.goto (-62), 3) := by decide +kernel
theorem dX0_readNumber_69 : decode cX0_readNumber 69 = .ok (.aload_n 0, 1) := by decide +kernel
theorem dX0_readNumber_70 : decode cX0_readNumber 70 = .ok (.getfield 12, 3) := by decide +kernel
theorem dX0_readNumber_73 : decode cX0_readNumber 73 = .ok (.iload_n 1, 1) := by decide +kernel
theorem dX0_readNumber_74 : decode cX0_readNumber 74 = .ok (.invokevirtual 61, 3) := by decide +kernel
theorem dX0_readNumber_77 : decode cX0_readNumber 77 = .ok (.return_, 1) := by decide +kernel
theorem dX0_readClosing_0 : decode cX0_readClosing 0 = .ok (.aload_n 0, 1) := by decide +kernel
theorem dX0_readClosing_1 : decode cX0_readClosing 1 = .ok (.getfield 42, 3) := by decide +kernel
theorem dX0_readClosing_4 : decode cX0_readClosing 4 = .ok (.ifCond .ne 28, 3) := by decide +kernel
theorem dX0_readClosing_7 : decode cX0_readClosing 7 = .ok (.aload_n 0, 1) := by decide +kernel
theorem dX0_readClosing_8 : decode cX0_readClosing 8 = .ok (.getfield 39, 3) := by decide +kernel
theorem dX0_readClosing_11 : decode cX0_readClosing 11 = .ok (.aload_n 0, 1) := by decide +kernel
theorem dX0_readClosing_12 : decode cX0_readClosing 12 = .ok (.getfield 35, 3) := by decide +kernel
theorem dX0_readClosing_15 : decode cX0_readClosing 15 = .ok (.if_icmp .ge 17, 3) := by decide +kernel
theorem dX0_readClosing_18 : decode cX0_readClosing 18 = .ok (.aload_n 0, 1) := by decide +kernel
theorem dX0_readClosing_19 : decode cX0_readClosing 19 = .ok (.getfield 18, 3) := by decide +kernel
theorem dX0_readClosing_22 : decode cX0_readClosing 22 = .ok (.aload_n 0, 1) := by decide +kernel
theorem dX0_readClosing_23 : decode cX0_readClosing 23 = .ok (.getfield 39, 3) := by decide +kernel
theorem dX0_readClosing_26 : decode cX0_readClosing 26 = .ok (.iaload, 1) := by decide +kernel
theorem dX0_readClosing_27 : decode cX0_readClosing 27 = .ok (.bipush 41, 2) := by decide +kernel
theorem dX0_readClosing_29 : decode cX0_readClosing 29 = .ok (.if_icmp .eq 9, 3) := by decide +kernel
theorem dX0_readClosing_32 : decode cX0_readClosing 32 = .ok (.aload_n 0, 1) := by decide +kernel
theorem dX0_readClosing_33 : decode cX0_readClosing 33 = .ok (.iconst 1, 1) := by decide +kernel
theorem dX0_readClosing_34 : decode cX0_readClosing 34 = .ok (.putfield 42, 3) := by decide +kernel
theorem dX0_readClosing_37 : decode cX0_readClosing 37 = .ok (.return_, 1) := by decide +kernel
theorem dX0_readClosing_38 : decode cX0_readClosing 38 = .ok (.aload_n 0, 1) := by decide +kernel
theorem dX0_readClosing_39 : decode cX0_readClosing 39 = .ok (.dup, 1) := by decide +kernel
theorem dX0_readClosing_40 : decode cX0_readClosing 40 = .ok (.getfield 39, 3) := by decide +kernel
theorem dX0_readClosing_43 : decode cX0_readClosing 43 = .ok (.iconst 1, 1) := by decide +kernel
theorem dX0_readClosing_44 : decode cX0_readClosing 44 = .ok (.iadd, 1) := by decide +kernel
theorem dX0_readClosing_45 : decode cX0_readClosing 45 = .ok (.putfield 39, 3) := by decide +kernel
theorem dX0_readClosing_48 : decode cX0_readClosing 48 = .ok (.return_, 1) := by decide +kernel
theorem dX0_nameOf_0 : decode cX0_nameOf 0 = .ok (.iconst 0, 1) := by decide +kernel
theorem dX0_nameOf_1 : decode cX0_nameOf 1 = .ok (.istore_n 2, 1) := by decide +kernel
theorem dX0_nameOf_2 : decode cX0_nameOf 2 = .ok (.iload_n 2, 1) := by decide +kernel
theorem dX0_nameOf_3 : decode cX0_nameOf 3 = .ok (.iconst 3, 1) := by decide +kernel
theorem dX0_nameOf_4 : decode cX0_nameOf 4 = .ok (.if_icmp .ge 29, 3) := by decide +kernel
theorem dX0_nameOf_7 : decode cX0_nameOf 7 = .ok (.getstatic 77, 3) := by decide +kernel
theorem dX0_nameOf_10 : decode cX0_nameOf 10 = .ok (.aload_n 0, 1) := by decide +kernel
theorem dX0_nameOf_11 : decode cX0_nameOf 11 = .ok (.getfield 36, 3) := by decide +kernel
theorem dX0_nameOf_14 : decode cX0_nameOf 14 = .ok (.iconst 3, 1) := by decide +kernel
theorem dX0_nameOf_15 : decode cX0_nameOf 15 = .ok (.imul, 1) := by decide +kernel
theorem dX0_nameOf_16 : decode cX0_nameOf 16 = .ok (.iload_n 2, 1) := by decide +kernel
theorem dX0_nameOf_17 : decode cX0_nameOf 17 = .ok (.iadd, 1) := by decide +kernel
theorem dX0_nameOf_18 : decode cX0_nameOf 18 = .ok (.caload, 1) := by decide +kernel
theorem dX0_nameOf_19 : decode cX0_nameOf 19 = .ok (.iload_n 1, 1) := by decide +kernel
theorem dX0_nameOf_20 : decode cX0_nameOf 20 = .ok (.if_icmp .ne 7, 3) := by decide +kernel
theorem dX0_nameOf_23 : decode cX0_nameOf 23 = .ok (.iload_n 2, 1) := by decide +kernel
theorem dX0_nameOf_24 : decode cX0_nameOf 24 = .ok (.iconst 1, 1) := by decide +kernel
theorem dX0_nameOf_25 : decode cX0_nameOf 25 = .ok (.iadd, 1) := by decide +kernel
theorem dX0_nameOf_26 : decode cX0_nameOf 26 = .ok (.ireturn, 1) := by decide +kernel
theorem dX0_nameOf_27 : decode cX0_nameOf 27 = .ok (.iinc 2 1, 3) := by decide +kernel
theorem dX0_nameOf_30 : decode cX0_nameOf 30 = .ok (.goto (-28), 3) := by decide +kernel
theorem dX0_nameOf_33 : decode cX0_nameOf 33 = .ok (.iconst 0, 1) := by decide +kernel
theorem dX0_nameOf_34 : decode cX0_nameOf 34 = .ok (.ireturn, 1) := by decide +kernel
theorem dX0_isDigit_0 : decode cX0_isDigit 0 = .ok (.iload_n 0, 1) := by decide +kernel
theorem dX0_isDigit_1 : decode cX0_isDigit 1 = .ok (.bipush 48, 2) := by decide +kernel
theorem dX0_isDigit_3 : decode cX0_isDigit 3 = .ok (.if_icmp .lt 13, 3) := by decide +kernel
theorem dX0_isDigit_6 : decode cX0_isDigit 6 = .ok (.iload_n 0, 1) := by decide +kernel
theorem dX0_isDigit_7 : decode cX0_isDigit 7 = .ok (.bipush 57, 2) := by decide +kernel
theorem dX0_isDigit_9 : decode cX0_isDigit 9 = .ok (.if_icmp .gt 7, 3) := by decide +kernel
theorem dX0_isDigit_12 : decode cX0_isDigit 12 = .ok (.iconst 1, 1) := by decide +kernel
theorem dX0_isDigit_13 : decode cX0_isDigit 13 = .ok (.goto 4, 3) := by decide +kernel
theorem dX0_isDigit_16 : decode cX0_isDigit 16 = .ok (.iconst 0, 1) := by decide +kernel
theorem dX0_isDigit_17 : decode cX0_isDigit 17 = .ok (.ireturn, 1) := by decide +kernel
theorem dX0_levelOf_0 : decode cX0_levelOf 0 = .ok (.iload_n 0, 1) := by decide +kernel
theorem dX0_levelOf_1 : decode cX0_levelOf 1 = .ok (.lookupswitch 101 #[(37, 99), (38, 93), (42, 99), (43, 97), (45, 97), (47, 99), (60, 95), (61, 95), (62, 95), (124, 91)], 91) := by decide +kernel
theorem dX0_levelOf_92 : decode cX0_levelOf 92 = .ok (.iconst 0, 1) := by decide +kernel
theorem dX0_levelOf_93 : decode cX0_levelOf 93 = .ok (.ireturn, 1) := by decide +kernel
theorem dX0_levelOf_94 : decode cX0_levelOf 94 = .ok (.iconst 1, 1) := by decide +kernel
theorem dX0_levelOf_95 : decode cX0_levelOf 95 = .ok (.ireturn, 1) := by decide +kernel
theorem dX0_levelOf_96 : decode cX0_levelOf 96 = .ok (.iconst 2, 1) := by decide +kernel
theorem dX0_levelOf_97 : decode cX0_levelOf 97 = .ok (.ireturn, 1) := by decide +kernel
theorem dX0_levelOf_98 : decode cX0_levelOf 98 = .ok (.iconst 3, 1) := by decide +kernel
theorem dX0_levelOf_99 : decode cX0_levelOf 99 = .ok (.ireturn, 1) := by decide +kernel
theorem dX0_levelOf_100 : decode cX0_levelOf 100 = .ok (.iconst 4, 1) := by decide +kernel
theorem dX0_levelOf_101 : decode cX0_levelOf 101 = .ok (.ireturn, 1) := by decide +kernel
theorem dX0_levelOf_102 : decode cX0_levelOf 102 = .ok (.iconst (-1), 1) := by decide +kernel
theorem dX0_levelOf_103 : decode cX0_levelOf 103 = .ok (.ireturn, 1) := by decide +kernel
theorem dX1_init_0 : decode cX1_init 0 = .ok (.aload_n 0, 1) := by decide +kernel
theorem dX1_init_1 : decode cX1_init 1 = .ok (.invokespecial 3, 3) := by decide +kernel
theorem dX1_init_4 : decode cX1_init 4 = .ok (.aload_n 0, 1) := by decide +kernel
theorem dX1_init_5 : decode cX1_init 5 = .ok (.bipush 24, 2) := by decide +kernel
theorem dX1_init_7 : decode cX1_init 7 = .ok (.newarray .int, 2) := by decide +kernel
theorem dX1_init_9 : decode cX1_init 9 = .ok (.putfield 9, 3) := by decide +kernel
theorem dX1_init_12 : decode cX1_init 12 = .ok (.return_, 1) := by decide +kernel
theorem dX1_missing_0 : decode cX1_missing 0 = .ok (.aload_n 0, 1) := by decide +kernel
theorem dX1_missing_1 : decode cX1_missing 1 = .ok (.getfield 15, 3) := by decide +kernel
theorem dX1_missing_4 : decode cX1_missing 4 = .ok (.ifCond .ne 7, 3) := by decide +kernel
theorem dX1_missing_7 : decode cX1_missing 7 = .ok (.iconst 1, 1) := by decide +kernel
theorem dX1_missing_8 : decode cX1_missing 8 = .ok (.goto 4, 3) := by decide +kernel
theorem dX1_missing_11 : decode cX1_missing 11 = .ok (.iconst 0, 1) := by decide +kernel
theorem dX1_missing_12 : decode cX1_missing 12 = .ok (.ireturn, 1) := by decide +kernel
theorem dX1_lose_0 : decode cX1_lose 0 = .ok (.aload_n 0, 1) := by decide +kernel
theorem dX1_lose_1 : decode cX1_lose 1 = .ok (.iconst 0, 1) := by decide +kernel
theorem dX1_lose_2 : decode cX1_lose 2 = .ok (.iconst 0, 1) := by decide +kernel
theorem dX1_lose_3 : decode cX1_lose 3 = .ok (.invokevirtual 19, 3) := by decide +kernel
theorem dX1_lose_6 : decode cX1_lose 6 = .ok (.return_, 1) := by decide +kernel
theorem dX1_begin_0 : decode cX1_begin 0 = .ok (.aload_n 0, 1) := by decide +kernel
theorem dX1_begin_1 : decode cX1_begin 1 = .ok (.iload_n 1, 1) := by decide +kernel
theorem dX1_begin_2 : decode cX1_begin 2 = .ok (.putfield 15, 3) := by decide +kernel
theorem dX1_begin_5 : decode cX1_begin 5 = .ok (.aload_n 0, 1) := by decide +kernel
theorem dX1_begin_6 : decode cX1_begin 6 = .ok (.iload_n 2, 1) := by decide +kernel
theorem dX1_begin_7 : decode cX1_begin 7 = .ok (.putfield 23, 3) := by decide +kernel
theorem dX1_begin_10 : decode cX1_begin 10 = .ok (.iconst 0, 1) := by decide +kernel
theorem dX1_begin_11 : decode cX1_begin 11 = .ok (.istore_n 3, 1) := by decide +kernel
theorem dX1_begin_12 : decode cX1_begin 12 = .ok (.iload_n 3, 1) := by decide +kernel
theorem dX1_begin_13 : decode cX1_begin 13 = .ok (.bipush 24, 2) := by decide +kernel
theorem dX1_begin_15 : decode cX1_begin 15 = .ok (.if_icmp .ge 16, 3) := by decide +kernel
theorem dX1_begin_18 : decode cX1_begin 18 = .ok (.aload_n 0, 1) := by decide +kernel
theorem dX1_begin_19 : decode cX1_begin 19 = .ok (.getfield 9, 3) := by decide +kernel
theorem dX1_begin_22 : decode cX1_begin 22 = .ok (.iload_n 3, 1) := by decide +kernel
theorem dX1_begin_23 : decode cX1_begin 23 = .ok (.iconst 0, 1) := by decide +kernel
theorem dX1_begin_24 : decode cX1_begin 24 = .ok (.iastore, 1) := by decide +kernel
theorem dX1_begin_25 : decode cX1_begin 25 = .ok (.iinc 3 1, 3) := by decide +kernel
theorem dX1_begin_28 : decode cX1_begin 28 = .ok (.goto (-16), 3) := by decide +kernel
theorem dX1_begin_31 : decode cX1_begin 31 = .ok (.return_, 1) := by decide +kernel
theorem dX1_write_0 : decode cX1_write 0 = .ok (.aload_n 0, 1) := by decide +kernel
theorem dX1_write_1 : decode cX1_write 1 = .ok (.getfield 15, 3) := by decide +kernel
theorem dX1_write_4 : decode cX1_write 4 = .ok (.bipush 8, 2) := by decide +kernel
theorem dX1_write_6 : decode cX1_write 6 = .ok (.if_icmp .ne 14, 3) := by decide +kernel
theorem dX1_write_9 : decode cX1_write 9 = .ok (.aload_n 0, 1) := by decide +kernel
theorem dX1_write_10 : decode cX1_write 10 = .ok (.getfield 9, 3) := by decide +kernel
theorem dX1_write_13 : decode cX1_write 13 = .ok (.iload_n 1, 1) := by decide +kernel
theorem dX1_write_14 : decode cX1_write 14 = .ok (.iload_n 2, 1) := by decide +kernel
theorem dX1_write_15 : decode cX1_write 15 = .ok (.i2b, 1) := by decide +kernel
theorem dX1_write_16 : decode cX1_write 16 = .ok (.iastore, 1) := by decide +kernel
theorem dX1_write_17 : decode cX1_write 17 = .ok (.goto 30, 3) := by decide +kernel
theorem dX1_write_20 : decode cX1_write 20 = .ok (.aload_n 0, 1) := by decide +kernel
theorem dX1_write_21 : decode cX1_write 21 = .ok (.getfield 15, 3) := by decide +kernel
theorem dX1_write_24 : decode cX1_write 24 = .ok (.bipush 16, 2) := by decide +kernel
theorem dX1_write_26 : decode cX1_write 26 = .ok (.if_icmp .ne 14, 3) := by decide +kernel
theorem dX1_write_29 : decode cX1_write 29 = .ok (.aload_n 0, 1) := by decide +kernel
theorem dX1_write_30 : decode cX1_write 30 = .ok (.getfield 9, 3) := by decide +kernel
theorem dX1_write_33 : decode cX1_write 33 = .ok (.iload_n 1, 1) := by decide +kernel
theorem dX1_write_34 : decode cX1_write 34 = .ok (.iload_n 2, 1) := by decide +kernel
theorem dX1_write_35 : decode cX1_write 35 = .ok (.i2s, 1) := by decide +kernel
theorem dX1_write_36 : decode cX1_write 36 = .ok (.iastore, 1) := by decide +kernel
theorem dX1_write_37 : decode cX1_write 37 = .ok (.goto 10, 3) := by decide +kernel
theorem dX1_write_40 : decode cX1_write 40 = .ok (.aload_n 0, 1) := by decide +kernel
theorem dX1_write_41 : decode cX1_write 41 = .ok (.getfield 9, 3) := by decide +kernel
theorem dX1_write_44 : decode cX1_write 44 = .ok (.iload_n 1, 1) := by decide +kernel
theorem dX1_write_45 : decode cX1_write 45 = .ok (.iload_n 2, 1) := by decide +kernel
theorem dX1_write_46 : decode cX1_write 46 = .ok (.iastore, 1) := by decide +kernel
theorem dX1_write_47 : decode cX1_write 47 = .ok (.return_, 1) := by decide +kernel
theorem dX1_lacks_0 : decode cX1_lacks 0 = .ok (.iload_n 1, 1) := by decide +kernel
theorem dX1_lacks_1 : decode cX1_lacks 1 = .ok (.ifCond .lt 21, 3) := by decide +kernel
theorem dX1_lacks_4 : decode cX1_lacks 4 = .ok (.iload_n 2, 1) := by decide +kernel
theorem dX1_lacks_5 : decode cX1_lacks 5 = .ok (.aload_n 0, 1) := by decide +kernel
theorem dX1_lacks_6 : decode cX1_lacks 6 = .ok (.getfield 23, 3) := by decide +kernel
theorem dX1_lacks_9 : decode cX1_lacks 9 = .ok (.if_icmp .gt 13, 3) := by decide +kernel
theorem dX1_lacks_12 : decode cX1_lacks 12 = .ok (.iload_n 1, 1) := by decide +kernel
theorem dX1_lacks_13 : decode cX1_lacks 13 = .ok (.aload_n 0, 1) := by decide +kernel
theorem dX1_lacks_14 : decode cX1_lacks 14 = .ok (.getfield 23, 3) := by decide +kernel
theorem dX1_lacks_17 : decode cX1_lacks 17 = .ok (.iload_n 2, 1) := by decide +kernel
theorem dX1_lacks_18 : decode cX1_lacks 18 = .ok (.isub, 1) := by decide +kernel
theorem dX1_lacks_19 : decode cX1_lacks 19 = .ok (.if_icmp .le 7, 3) := by decide +kernel
theorem dX1_lacks_22 : decode cX1_lacks 22 = .ok (.iconst 1, 1) := by decide +kernel
theorem dX1_lacks_23 : decode cX1_lacks 23 = .ok (.goto 4, 3) := by decide +kernel
theorem dX1_lacks_26 : decode cX1_lacks 26 = .ok (.iconst 0, 1) := by decide +kernel
theorem dX1_lacks_27 : decode cX1_lacks 27 = .ok (.ireturn, 1) := by decide +kernel
theorem dX2_init_0 : decode cX2_init 0 = .ok (.aload_n 0, 1) := by decide +kernel
theorem dX2_init_1 : decode cX2_init 1 = .ok (.invokespecial 3, 3) := by decide +kernel
theorem dX2_init_4 : decode cX2_init 4 = .ok (.aload_n 0, 1) := by decide +kernel
theorem dX2_init_5 : decode cX2_init 5 = .ok (.bipush 30, 2) := by decide +kernel
theorem dX2_init_7 : decode cX2_init 7 = .ok (.newarray .int, 2) := by decide +kernel
theorem dX2_init_9 : decode cX2_init 9 = .ok (.putfield 9, 3) := by decide +kernel
theorem dX2_init_12 : decode cX2_init 12 = .ok (.return_, 1) := by decide +kernel
theorem dX2_speak_0 : decode cX2_speak 0 = .ok (.aload_n 0, 1) := by decide +kernel
theorem dX2_speak_1 : decode cX2_speak 1 = .ok (.iload_n 2, 1) := by decide +kernel
theorem dX2_speak_2 : decode cX2_speak 2 = .ok (.putfield 15, 3) := by decide +kernel
theorem dX2_speak_5 : decode cX2_speak 5 = .ok (.aload_n 0, 1) := by decide +kernel
theorem dX2_speak_6 : decode cX2_speak 6 = .ok (.aload_n 1, 1) := by decide +kernel
theorem dX2_speak_7 : decode cX2_speak 7 = .ok (.iload_n 2, 1) := by decide +kernel
theorem dX2_speak_8 : decode cX2_speak 8 = .ok (.invokevirtual 19, 3) := by decide +kernel
theorem dX2_speak_11 : decode cX2_speak 11 = .ok (.putfield 25, 3) := by decide +kernel
theorem dX2_speak_14 : decode cX2_speak 14 = .ok (.aload_n 0, 1) := by decide +kernel
theorem dX2_speak_15 : decode cX2_speak 15 = .ok (.aload_n 1, 1) := by decide +kernel
theorem dX2_speak_16 : decode cX2_speak 16 = .ok (.iload_n 2, 1) := by decide +kernel
theorem dX2_speak_17 : decode cX2_speak 17 = .ok (.invokevirtual 28, 3) := by decide +kernel
theorem dX2_speak_20 : decode cX2_speak 20 = .ok (.putfield 31, 3) := by decide +kernel
theorem dX2_speak_23 : decode cX2_speak 23 = .ok (.aload_n 0, 1) := by decide +kernel
theorem dX2_speak_24 : decode cX2_speak 24 = .ok (.iconst 0, 1) := by decide +kernel
theorem dX2_speak_25 : decode cX2_speak 25 = .ok (.putfield 34, 3) := by decide +kernel
theorem dX2_speak_28 : decode cX2_speak 28 = .ok (.aload_n 0, 1) := by decide +kernel
theorem dX2_speak_29 : decode cX2_speak 29 = .ok (.iconst 0, 1) := by decide +kernel
theorem dX2_speak_30 : decode cX2_speak 30 = .ok (.putfield 37, 3) := by decide +kernel
theorem dX2_speak_33 : decode cX2_speak 33 = .ok (.aload_n 0, 1) := by decide +kernel
theorem dX2_speak_34 : decode cX2_speak 34 = .ok (.iload_n 3, 1) := by decide +kernel
theorem dX2_speak_35 : decode cX2_speak 35 = .ok (.aload_n 0, 1) := by decide +kernel
theorem dX2_speak_36 : decode cX2_speak 36 = .ok (.getfield 31, 3) := by decide +kernel
theorem dX2_speak_39 : decode cX2_speak 39 = .ok (.iload 4, 2) := by decide +kernel
theorem dX2_speak_41 : decode cX2_speak 41 = .ok (.iconst 0, 1) := by decide +kernel
theorem dX2_speak_42 : decode cX2_speak 42 = .ok (.invokevirtual 41, 3) := by decide +kernel
theorem dX2_speak_45 : decode cX2_speak 45 = .ok (.ireturn, 1) := by decide +kernel
theorem dX2_say_0 : decode cX2_say 0 = .ok (.aload_n 0, 1) := by decide +kernel
theorem dX2_say_1 : decode cX2_say 1 = .ok (.getfield 37, 3) := by decide +kernel
theorem dX2_say_4 : decode cX2_say 4 = .ok (.ifCond .eq 5, 3) := by decide +kernel
theorem dX2_say_7 : decode cX2_say 7 = .ok (.iconst 0, 1) := by decide +kernel
theorem dX2_say_8 : decode cX2_say 8 = .ok (.ireturn, 1) := by decide +kernel
theorem dX2_say_9 : decode cX2_say 9 = .ok (.iload_n 2, 1) := by decide +kernel
theorem dX2_say_10 : decode cX2_say 10 = .ok (.istore 5, 2) := by decide +kernel
theorem dX2_say_12 : decode cX2_say 12 = .ok (.iconst 0, 1) := by decide +kernel
theorem dX2_say_13 : decode cX2_say 13 = .ok (.istore 6, 2) := by decide +kernel
theorem dX2_say_15 : decode cX2_say 15 = .ok (.iload 6, 2) := by decide +kernel
theorem dX2_say_17 : decode cX2_say 17 = .ok (.bipush 7, 2) := by decide +kernel
theorem dX2_say_19 : decode cX2_say 19 = .ok (.if_icmp .ge 35, 3) := by decide +kernel
theorem dX2_say_22 : decode cX2_say 22 = .ok (.iload 5, 2) := by decide +kernel
theorem dX2_say_24 : decode cX2_say 24 = .ok (.ifCond .lt 30, 3) := by decide +kernel
theorem dX2_say_27 : decode cX2_say 27 = .ok (.getstatic 45, 3) := by decide +kernel
theorem dX2_say_30 : decode cX2_say 30 = .ok (.iload 5, 2) := by decide +kernel
theorem dX2_say_32 : decode cX2_say 32 = .ok (.iconst 4, 1) := by decide +kernel
theorem dX2_say_33 : decode cX2_say 33 = .ok (.imul, 1) := by decide +kernel
theorem dX2_say_34 : decode cX2_say 34 = .ok (.iload_n 1, 1) := by decide +kernel
theorem dX2_say_35 : decode cX2_say 35 = .ok (.iadd, 1) := by decide +kernel
theorem dX2_say_36 : decode cX2_say 36 = .ok (.iaload, 1) := by decide +kernel
theorem dX2_say_37 : decode cX2_say 37 = .ok (.ifCond .ne 17, 3) := by decide +kernel
theorem dX2_say_40 : decode cX2_say 40 = .ok (.getstatic 48, 3) := by decide +kernel
theorem dX2_say_43 : decode cX2_say 43 = .ok (.iload 5, 2) := by decide +kernel
theorem dX2_say_45 : decode cX2_say 45 = .ok (.iaload, 1) := by decide +kernel
theorem dX2_say_46 : decode cX2_say 46 = .ok (.istore 5, 2) := by decide +kernel
theorem dX2_say_48 : decode cX2_say 48 = .ok (.iinc 6 1, 3) := by decide +kernel
theorem dX2_say_51 : decode cX2_say 51 = .ok (.goto (-36), 3) := by decide +kernel
theorem dX2_say_54 : decode cX2_say 54 = .ok (.iload 5, 2) := by decide +kernel
theorem dX2_say_56 : decode cX2_say 56 = .ok (.ifCond .lt 10, 3) := by decide +kernel
theorem dX2_say_59 : decode cX2_say 59 = .ok (.iload 4, 2) := by decide +kernel
theorem dX2_say_61 : decode cX2_say 61 = .ok (.bipush 20, 2) := by decide +kernel
theorem dX2_say_63 : decode cX2_say 63 = .ok (.if_icmp .lt 5, 3) := by decide +kernel
theorem dX2_say_66 : decode cX2_say 66 = .ok (.iconst 0, 1) := by decide +kernel
theorem dX2_say_67 : decode cX2_say 67 = .ok (.ireturn, 1) := by decide +kernel
theorem dX2_say_68 : decode cX2_say 68 = .ok (.getstatic 45, 3) := by decide +kernel
theorem dX2_say_71 : decode cX2_say 71 = .ok (.iload 5, 2) := by decide +kernel
theorem dX2_say_73 : decode cX2_say 73 = .ok (.iconst 4, 1) := by decide +kernel
theorem dX2_say_74 : decode cX2_say 74 = .ok (.imul, 1) := by decide +kernel
theorem dX2_say_75 : decode cX2_say 75 = .ok (.iload_n 1, 1) := by decide +kernel
theorem dX2_say_76 : decode cX2_say 76 = .ok (.iadd, 1) := by decide +kernel
theorem dX2_say_77 : decode cX2_say 77 = .ok (.iaload, 1) := by decide +kernel
theorem dX2_say_78 : decode cX2_say 78 = .ok (.istore 6, 2) := by decide +kernel
theorem dX2_say_80 : decode cX2_say 80 = .ok (.aload_n 0, 1) := by decide +kernel
theorem dX2_say_81 : decode cX2_say 81 = .ok (.iload 6, 2) := by decide +kernel
theorem dX2_say_83 : decode cX2_say 83 = .ok (.invokevirtual 51, 3) := by decide +kernel
theorem dX2_say_86 : decode cX2_say 86 = .ok (.aload_n 0, 1) := by decide +kernel
theorem dX2_say_87 : decode cX2_say 87 = .ok (.iload 6, 2) := by decide +kernel
theorem dX2_say_89 : decode cX2_say 89 = .ok (.getstatic 48, 3) := by decide +kernel
theorem dX2_say_92 : decode cX2_say 92 = .ok (.iload 5, 2) := by decide +kernel
theorem dX2_say_94 : decode cX2_say 94 = .ok (.iaload, 1) := by decide +kernel
theorem dX2_say_95 : decode cX2_say 95 = .ok (.iload_n 3, 1) := by decide +kernel
theorem dX2_say_96 : decode cX2_say 96 = .ok (.iload 4, 2) := by decide +kernel
theorem dX2_say_98 : decode cX2_say 98 = .ok (.iconst 1, 1) := by decide +kernel
theorem dX2_say_99 : decode cX2_say 99 = .ok (.iadd, 1) := by decide +kernel
theorem dX2_say_100 : decode cX2_say 100 = .ok (.invokevirtual 55, 3) := by decide +kernel
theorem dX2_say_103 : decode cX2_say 103 = .ok (.ireturn, 1) := by decide +kernel
theorem dX2_begin_0 : decode cX2_begin 0 = .ok (.aload_n 0, 1) := by decide +kernel
theorem dX2_begin_1 : decode cX2_begin 1 = .ok (.getfield 34, 3) := by decide +kernel
theorem dX2_begin_4 : decode cX2_begin 4 = .ok (.bipush 30, 2) := by decide +kernel
theorem dX2_begin_6 : decode cX2_begin 6 = .ok (.if_icmp .ge 23, 3) := by decide +kernel
theorem dX2_begin_9 : decode cX2_begin 9 = .ok (.aload_n 0, 1) := by decide +kernel
theorem dX2_begin_10 : decode cX2_begin 10 = .ok (.getfield 9, 3) := by decide +kernel
theorem dX2_begin_13 : decode cX2_begin 13 = .ok (.aload_n 0, 1) := by decide +kernel
theorem dX2_begin_14 : decode cX2_begin 14 = .ok (.getfield 34, 3) := by decide +kernel
theorem dX2_begin_17 : decode cX2_begin 17 = .ok (.iload_n 1, 1) := by decide +kernel
theorem dX2_begin_18 : decode cX2_begin 18 = .ok (.iastore, 1) := by decide +kernel
theorem dX2_begin_19 : decode cX2_begin 19 = .ok (.aload_n 0, 1) := by decide +kernel
theorem dX2_begin_20 : decode cX2_begin 20 = .ok (.dup, 1) := by decide +kernel
theorem dX2_begin_21 : decode cX2_begin 21 = .ok (.getfield 34, 3) := by decide +kernel
theorem dX2_begin_24 : decode cX2_begin 24 = .ok (.iconst 1, 1) := by decide +kernel
theorem dX2_begin_25 : decode cX2_begin 25 = .ok (.iadd, 1) := by decide +kernel
theorem dX2_begin_26 : decode cX2_begin 26 = .ok (.putfield 34, 3) := by decide +kernel
theorem dX2_begin_29 : decode cX2_begin 29 = .ok (.return_, 1) := by decide +kernel
theorem dX2_worked_0 : decode cX2_worked 0 = .ok (.iload_n 1, 1) := by decide +kernel
theorem dX2_worked_1 : decode cX2_worked 1 = .ok (.lookupswitch 286 #[(10, 115), (11, 122), (12, 137), (13, 155), (20, 170), (21, 182), (30, 205), (40, 217), (50, 229), (51, 241), (60, 256), (70, 268), (71, 271)], 115) := by decide +kernel
theorem dX2_worked_116 : decode cX2_worked 116 = .ok (.iload_n 3, 1) := by decide +kernel
theorem dX2_worked_117 : decode cX2_worked 117 = .ok (.aload_n 0, 1) := by decide +kernel
theorem dX2_worked_118 : decode cX2_worked 118 = .ok (.getfield 15, 3) := by decide +kernel
theorem dX2_worked_121 : decode cX2_worked 121 = .ok (.iadd, 1) := by decide +kernel
theorem dX2_worked_122 : decode cX2_worked 122 = .ok (.ireturn, 1) := by decide +kernel
theorem dX2_worked_123 : decode cX2_worked 123 = .ok (.aload_n 0, 1) := by decide +kernel
theorem dX2_worked_124 : decode cX2_worked 124 = .ok (.iconst 0, 1) := by decide +kernel
theorem dX2_worked_125 : decode cX2_worked 125 = .ok (.aload_n 0, 1) := by decide +kernel
theorem dX2_worked_126 : decode cX2_worked 126 = .ok (.getfield 31, 3) := by decide +kernel
theorem dX2_worked_129 : decode cX2_worked 129 = .ok (.iload_n 3, 1) := by decide +kernel
theorem dX2_worked_130 : decode cX2_worked 130 = .ok (.iload 4, 2) := by decide +kernel
theorem dX2_worked_132 : decode cX2_worked 132 = .ok (.invokevirtual 41, 3) := by decide +kernel
theorem dX2_worked_135 : decode cX2_worked 135 = .ok (.iconst 2, 1) := by decide +kernel
theorem dX2_worked_136 : decode cX2_worked 136 = .ok (.imul, 1) := by decide +kernel
theorem dX2_worked_137 : decode cX2_worked 137 = .ok (.ireturn, 1) := by decide +kernel
theorem dX2_worked_138 : decode cX2_worked 138 = .ok (.aload_n 0, 1) := by decide +kernel
theorem dX2_worked_139 : decode cX2_worked 139 = .ok (.iconst 1, 1) := by decide +kernel
theorem dX2_worked_140 : decode cX2_worked 140 = .ok (.aload_n 0, 1) := by decide +kernel
theorem dX2_worked_141 : decode cX2_worked 141 = .ok (.getfield 31, 3) := by decide +kernel
theorem dX2_worked_144 : decode cX2_worked 144 = .ok (.iload_n 3, 1) := by decide +kernel
theorem dX2_worked_145 : decode cX2_worked 145 = .ok (.iload 4, 2) := by decide +kernel
theorem dX2_worked_147 : decode cX2_worked 147 = .ok (.invokevirtual 41, 3) := by decide +kernel
theorem dX2_worked_150 : decode cX2_worked 150 = .ok (.aload_n 0, 1) := by decide +kernel
theorem dX2_worked_151 : decode cX2_worked 151 = .ok (.getfield 25, 3) := by decide +kernel
theorem dX2_worked_154 : decode cX2_worked 154 = .ok (.isub, 1) := by decide +kernel
theorem dX2_worked_155 : decode cX2_worked 155 = .ok (.ireturn, 1) := by decide +kernel
theorem dX2_worked_156 : decode cX2_worked 156 = .ok (.aload_n 0, 1) := by decide +kernel
theorem dX2_worked_157 : decode cX2_worked 157 = .ok (.iload_n 3, 1) := by decide +kernel
theorem dX2_worked_158 : decode cX2_worked 158 = .ok (.aload_n 0, 1) := by decide +kernel
theorem dX2_worked_159 : decode cX2_worked 159 = .ok (.getfield 25, 3) := by decide +kernel
theorem dX2_worked_162 : decode cX2_worked 162 = .ok (.aload_n 0, 1) := by decide +kernel
theorem dX2_worked_163 : decode cX2_worked 163 = .ok (.getfield 15, 3) := by decide +kernel
theorem dX2_worked_166 : decode cX2_worked 166 = .ok (.isub, 1) := by decide +kernel
theorem dX2_worked_167 : decode cX2_worked 167 = .ok (.invokevirtual 58, 3) := by decide +kernel
theorem dX2_worked_170 : decode cX2_worked 170 = .ok (.ireturn, 1) := by decide +kernel
theorem dX2_worked_171 : decode cX2_worked 171 = .ok (.aload_n 0, 1) := by decide +kernel
theorem dX2_worked_172 : decode cX2_worked 172 = .ok (.iconst 0, 1) := by decide +kernel
theorem dX2_worked_173 : decode cX2_worked 173 = .ok (.iload_n 2, 1) := by decide +kernel
theorem dX2_worked_174 : decode cX2_worked 174 = .ok (.iload_n 3, 1) := by decide +kernel
theorem dX2_worked_175 : decode cX2_worked 175 = .ok (.iload 4, 2) := by decide +kernel
theorem dX2_worked_177 : decode cX2_worked 177 = .ok (.invokevirtual 41, 3) := by decide +kernel
theorem dX2_worked_180 : decode cX2_worked 180 = .ok (.iconst 4, 1) := by decide +kernel
theorem dX2_worked_181 : decode cX2_worked 181 = .ok (.isub, 1) := by decide +kernel
theorem dX2_worked_182 : decode cX2_worked 182 = .ok (.ireturn, 1) := by decide +kernel
theorem dX2_worked_183 : decode cX2_worked 183 = .ok (.aload_n 0, 1) := by decide +kernel
theorem dX2_worked_184 : decode cX2_worked 184 = .ok (.iconst 3, 1) := by decide +kernel
theorem dX2_worked_185 : decode cX2_worked 185 = .ok (.iload_n 2, 1) := by decide +kernel
theorem dX2_worked_186 : decode cX2_worked 186 = .ok (.iload_n 3, 1) := by decide +kernel
theorem dX2_worked_187 : decode cX2_worked 187 = .ok (.iload 4, 2) := by decide +kernel
theorem dX2_worked_189 : decode cX2_worked 189 = .ok (.invokevirtual 41, 3) := by decide +kernel
theorem dX2_worked_192 : decode cX2_worked 192 = .ok (.aload_n 0, 1) := by decide +kernel
theorem dX2_worked_193 : decode cX2_worked 193 = .ok (.iconst 1, 1) := by decide +kernel
theorem dX2_worked_194 : decode cX2_worked 194 = .ok (.aload_n 0, 1) := by decide +kernel
theorem dX2_worked_195 : decode cX2_worked 195 = .ok (.getfield 31, 3) := by decide +kernel
theorem dX2_worked_198 : decode cX2_worked 198 = .ok (.iconst 1, 1) := by decide +kernel
theorem dX2_worked_199 : decode cX2_worked 199 = .ok (.iload 4, 2) := by decide +kernel
theorem dX2_worked_201 : decode cX2_worked 201 = .ok (.invokevirtual 41, 3) := by decide +kernel
theorem dX2_worked_204 : decode cX2_worked 204 = .ok (.iadd, 1) := by decide +kernel
theorem dX2_worked_205 : decode cX2_worked 205 = .ok (.ireturn, 1) := by decide +kernel
theorem dX2_worked_206 : decode cX2_worked 206 = .ok (.iconst 0, 1) := by decide +kernel
theorem dX2_worked_207 : decode cX2_worked 207 = .ok (.aload_n 0, 1) := by decide +kernel
theorem dX2_worked_208 : decode cX2_worked 208 = .ok (.iconst 1, 1) := by decide +kernel
theorem dX2_worked_209 : decode cX2_worked 209 = .ok (.iload_n 2, 1) := by decide +kernel
theorem dX2_worked_210 : decode cX2_worked 210 = .ok (.iload_n 3, 1) := by decide +kernel
theorem dX2_worked_211 : decode cX2_worked 211 = .ok (.iload 4, 2) := by decide +kernel
theorem dX2_worked_213 : decode cX2_worked 213 = .ok (.invokevirtual 41, 3) := by decide +kernel
theorem dX2_worked_216 : decode cX2_worked 216 = .ok (.isub, 1) := by decide +kernel
theorem dX2_worked_217 : decode cX2_worked 217 = .ok (.ireturn, 1) := by decide +kernel
theorem dX2_worked_218 : decode cX2_worked 218 = .ok (.aload_n 0, 1) := by decide +kernel
theorem dX2_worked_219 : decode cX2_worked 219 = .ok (.iconst 2, 1) := by decide +kernel
theorem dX2_worked_220 : decode cX2_worked 220 = .ok (.iload_n 2, 1) := by decide +kernel
theorem dX2_worked_221 : decode cX2_worked 221 = .ok (.iload_n 3, 1) := by decide +kernel
theorem dX2_worked_222 : decode cX2_worked 222 = .ok (.iconst 2, 1) := by decide +kernel
theorem dX2_worked_223 : decode cX2_worked 223 = .ok (.idiv, 1) := by decide +kernel
theorem dX2_worked_224 : decode cX2_worked 224 = .ok (.iload 4, 2) := by decide +kernel
theorem dX2_worked_226 : decode cX2_worked 226 = .ok (.invokevirtual 41, 3) := by decide +kernel
theorem dX2_worked_229 : decode cX2_worked 229 = .ok (.ireturn, 1) := by decide +kernel
theorem dX2_worked_230 : decode cX2_worked 230 = .ok (.aload_n 0, 1) := by decide +kernel
theorem dX2_worked_231 : decode cX2_worked 231 = .ok (.iconst 0, 1) := by decide +kernel
theorem dX2_worked_232 : decode cX2_worked 232 = .ok (.iload_n 2, 1) := by decide +kernel
theorem dX2_worked_233 : decode cX2_worked 233 = .ok (.iload_n 3, 1) := by decide +kernel
theorem dX2_worked_234 : decode cX2_worked 234 = .ok (.iload 4, 2) := by decide +kernel
theorem dX2_worked_236 : decode cX2_worked 236 = .ok (.invokevirtual 41, 3) := by decide +kernel
theorem dX2_worked_239 : decode cX2_worked 239 = .ok (.iconst 3, 1) := by decide +kernel
theorem dX2_worked_240 : decode cX2_worked 240 = .ok (.imul, 1) := by decide +kernel
theorem dX2_worked_241 : decode cX2_worked 241 = .ok (.ireturn, 1) := by decide +kernel
theorem dX2_worked_242 : decode cX2_worked 242 = .ok (.aload_n 0, 1) := by decide +kernel
theorem dX2_worked_243 : decode cX2_worked 243 = .ok (.iconst 2, 1) := by decide +kernel
theorem dX2_worked_244 : decode cX2_worked 244 = .ok (.iload_n 2, 1) := by decide +kernel
theorem dX2_worked_245 : decode cX2_worked 245 = .ok (.iload_n 3, 1) := by decide +kernel
theorem dX2_worked_246 : decode cX2_worked 246 = .ok (.iload 4, 2) := by decide +kernel
theorem dX2_worked_248 : decode cX2_worked 248 = .ok (.invokevirtual 41, 3) := by decide +kernel
theorem dX2_worked_251 : decode cX2_worked 251 = .ok (.aload_n 0, 1) := by decide +kernel
theorem dX2_worked_252 : decode cX2_worked 252 = .ok (.getfield 15, 3) := by decide +kernel
theorem dX2_worked_255 : decode cX2_worked 255 = .ok (.ixor, 1) := by decide +kernel
theorem dX2_worked_256 : decode cX2_worked 256 = .ok (.ireturn, 1) := by decide +kernel
theorem dX2_worked_257 : decode cX2_worked 257 = .ok (.aload_n 0, 1) := by decide +kernel
theorem dX2_worked_258 : decode cX2_worked 258 = .ok (.iconst 1, 1) := by decide +kernel
theorem dX2_worked_259 : decode cX2_worked 259 = .ok (.iload_n 2, 1) := by decide +kernel
theorem dX2_worked_260 : decode cX2_worked 260 = .ok (.iload_n 3, 1) := by decide +kernel
theorem dX2_worked_261 : decode cX2_worked 261 = .ok (.iconst 1, 1) := by decide +kernel
theorem dX2_worked_262 : decode cX2_worked 262 = .ok (.iadd, 1) := by decide +kernel
theorem dX2_worked_263 : decode cX2_worked 263 = .ok (.iload 4, 2) := by decide +kernel
theorem dX2_worked_265 : decode cX2_worked 265 = .ok (.invokevirtual 41, 3) := by decide +kernel
theorem dX2_worked_268 : decode cX2_worked 268 = .ok (.ireturn, 1) := by decide +kernel
theorem dX2_worked_269 : decode cX2_worked 269 = .ok (.bipush 9, 2) := by decide +kernel
theorem dX2_worked_271 : decode cX2_worked 271 = .ok (.ireturn, 1) := by decide +kernel
theorem dX2_worked_272 : decode cX2_worked 272 = .ok (.aload_n 0, 1) := by decide +kernel
theorem dX2_worked_273 : decode cX2_worked 273 = .ok (.iconst 1, 1) := by decide +kernel
theorem dX2_worked_274 : decode cX2_worked 274 = .ok (.iload_n 2, 1) := by decide +kernel
theorem dX2_worked_275 : decode cX2_worked 275 = .ok (.iload_n 3, 1) := by decide +kernel
theorem dX2_worked_276 : decode cX2_worked 276 = .ok (.iload 4, 2) := by decide +kernel
theorem dX2_worked_278 : decode cX2_worked 278 = .ok (.invokevirtual 41, 3) := by decide +kernel
theorem dX2_worked_281 : decode cX2_worked 281 = .ok (.aload_n 0, 1) := by decide +kernel
theorem dX2_worked_282 : decode cX2_worked 282 = .ok (.getfield 25, 3) := by decide +kernel
theorem dX2_worked_285 : decode cX2_worked 285 = .ok (.iadd, 1) := by decide +kernel
theorem dX2_worked_286 : decode cX2_worked 286 = .ok (.ireturn, 1) := by decide +kernel
theorem dX2_worked_287 : decode cX2_worked 287 = .ok (.iconst 0, 1) := by decide +kernel
theorem dX2_worked_288 : decode cX2_worked 288 = .ok (.ireturn, 1) := by decide +kernel
theorem dX2_divided_0 : decode cX2_divided 0 = .ok (.iload_n 2, 1) := by decide +kernel
theorem dX2_divided_1 : decode cX2_divided 1 = .ok (.ifCond .ne 10, 3) := by decide +kernel
theorem dX2_divided_4 : decode cX2_divided 4 = .ok (.aload_n 0, 1) := by decide +kernel
theorem dX2_divided_5 : decode cX2_divided 5 = .ok (.iconst 1, 1) := by decide +kernel
theorem dX2_divided_6 : decode cX2_divided 6 = .ok (.putfield 37, 3) := by decide +kernel
theorem dX2_divided_9 : decode cX2_divided 9 = .ok (.iconst 0, 1) := by decide +kernel
theorem dX2_divided_10 : decode cX2_divided 10 = .ok (.ireturn, 1) := by decide +kernel
theorem dX2_divided_11 : decode cX2_divided 11 = .ok (.iload_n 1, 1) := by decide +kernel
theorem dX2_divided_12 : decode cX2_divided 12 = .ok (.iload_n 2, 1) := by decide +kernel
theorem dX2_divided_13 : decode cX2_divided 13 = .ok (.idiv, 1) := by decide +kernel
theorem dX2_divided_14 : decode cX2_divided 14 = .ok (.ireturn, 1) := by decide +kernel
theorem dX3_init_0 : decode cX3_init 0 = .ok (.aload_n 0, 1) := by decide +kernel
theorem dX3_init_1 : decode cX3_init 1 = .ok (.invokespecial 3, 3) := by decide +kernel
theorem dX3_init_4 : decode cX3_init 4 = .ok (.aload_n 0, 1) := by decide +kernel
theorem dX3_init_5 : decode cX3_init 5 = .ok (.bipush 60, 2) := by decide +kernel
theorem dX3_init_7 : decode cX3_init 7 = .ok (.newarray .int, 2) := by decide +kernel
theorem dX3_init_9 : decode cX3_init 9 = .ok (.putfield 9, 3) := by decide +kernel
theorem dX3_init_12 : decode cX3_init 12 = .ok (.aload_n 0, 1) := by decide +kernel
theorem dX3_init_13 : decode cX3_init 13 = .ok (.bipush 60, 2) := by decide +kernel
theorem dX3_init_15 : decode cX3_init 15 = .ok (.newarray .int, 2) := by decide +kernel
theorem dX3_init_17 : decode cX3_init 17 = .ok (.putfield 15, 3) := by decide +kernel
theorem dX3_init_20 : decode cX3_init 20 = .ok (.return_, 1) := by decide +kernel
theorem dX3_stands_0 : decode cX3_stands 0 = .ok (.aload_n 0, 1) := by decide +kernel
theorem dX3_stands_1 : decode cX3_stands 1 = .ok (.getfield 18, 3) := by decide +kernel
theorem dX3_stands_4 : decode cX3_stands 4 = .ok (.ifCond .le 7, 3) := by decide +kernel
theorem dX3_stands_7 : decode cX3_stands 7 = .ok (.iconst 1, 1) := by decide +kernel
theorem dX3_stands_8 : decode cX3_stands 8 = .ok (.goto 4, 3) := by decide +kernel
theorem dX3_stands_11 : decode cX3_stands 11 = .ok (.iconst 0, 1) := by decide +kernel
theorem dX3_stands_12 : decode cX3_stands 12 = .ok (.ireturn, 1) := by decide +kernel
theorem dX3_clear_0 : decode cX3_clear 0 = .ok (.aload_n 0, 1) := by decide +kernel
theorem dX3_clear_1 : decode cX3_clear 1 = .ok (.iconst 0, 1) := by decide +kernel
theorem dX3_clear_2 : decode cX3_clear 2 = .ok (.putfield 18, 3) := by decide +kernel
theorem dX3_clear_5 : decode cX3_clear 5 = .ok (.return_, 1) := by decide +kernel
theorem dX3_add_0 : decode cX3_add 0 = .ok (.aload_n 0, 1) := by decide +kernel
theorem dX3_add_1 : decode cX3_add 1 = .ok (.getfield 18, 3) := by decide +kernel
theorem dX3_add_4 : decode cX3_add 4 = .ok (.aload_n 0, 1) := by decide +kernel
theorem dX3_add_5 : decode cX3_add 5 = .ok (.getfield 9, 3) := by decide +kernel
theorem dX3_add_8 : decode cX3_add 8 = .ok (.arraylength, 1) := by decide +kernel
theorem dX3_add_9 : decode cX3_add 9 = .ok (.if_icmp .ge 23, 3) := by decide +kernel
theorem dX3_add_12 : decode cX3_add 12 = .ok (.aload_n 0, 1) := by decide +kernel
theorem dX3_add_13 : decode cX3_add 13 = .ok (.getfield 9, 3) := by decide +kernel
theorem dX3_add_16 : decode cX3_add 16 = .ok (.aload_n 0, 1) := by decide +kernel
theorem dX3_add_17 : decode cX3_add 17 = .ok (.getfield 18, 3) := by decide +kernel
theorem dX3_add_20 : decode cX3_add 20 = .ok (.iload_n 1, 1) := by decide +kernel
theorem dX3_add_21 : decode cX3_add 21 = .ok (.iastore, 1) := by decide +kernel
theorem dX3_add_22 : decode cX3_add 22 = .ok (.aload_n 0, 1) := by decide +kernel
theorem dX3_add_23 : decode cX3_add 23 = .ok (.dup, 1) := by decide +kernel
theorem dX3_add_24 : decode cX3_add 24 = .ok (.getfield 18, 3) := by decide +kernel
theorem dX3_add_27 : decode cX3_add 27 = .ok (.iconst 1, 1) := by decide +kernel
theorem dX3_add_28 : decode cX3_add 28 = .ok (.iadd, 1) := by decide +kernel
theorem dX3_add_29 : decode cX3_add 29 = .ok (.putfield 18, 3) := by decide +kernel
theorem dX3_add_32 : decode cX3_add 32 = .ok (.return_, 1) := by decide +kernel
theorem dX3_copyFrom_0 : decode cX3_copyFrom 0 = .ok (.aload_n 1, 1) := by decide +kernel
theorem dX3_copyFrom_1 : decode cX3_copyFrom 1 = .ok (.getfield 9, 3) := by decide +kernel
theorem dX3_copyFrom_4 : decode cX3_copyFrom 4 = .ok (.iconst 0, 1) := by decide +kernel
theorem dX3_copyFrom_5 : decode cX3_copyFrom 5 = .ok (.aload_n 0, 1) := by decide +kernel
theorem dX3_copyFrom_6 : decode cX3_copyFrom 6 = .ok (.getfield 9, 3) := by decide +kernel
theorem dX3_copyFrom_9 : decode cX3_copyFrom 9 = .ok (.iconst 0, 1) := by decide +kernel
theorem dX3_copyFrom_10 : decode cX3_copyFrom 10 = .ok (.bipush 60, 2) := by decide +kernel
theorem dX3_copyFrom_12 : decode cX3_copyFrom 12 = .ok (.invokestatic 22, 3) := by decide +kernel
theorem dX3_copyFrom_15 : decode cX3_copyFrom 15 = .ok (.aload_n 0, 1) := by decide +kernel
theorem dX3_copyFrom_16 : decode cX3_copyFrom 16 = .ok (.aload_n 1, 1) := by decide +kernel
theorem dX3_copyFrom_17 : decode cX3_copyFrom 17 = .ok (.getfield 18, 3) := by decide +kernel
theorem dX3_copyFrom_20 : decode cX3_copyFrom 20 = .ok (.putfield 18, 3) := by decide +kernel
theorem dX3_copyFrom_23 : decode cX3_copyFrom 23 = .ok (.return_, 1) := by decide +kernel
theorem dX3_value_0 : decode cX3_value 0 = .ok (.iconst 0, 1) := by decide +kernel
theorem dX3_value_1 : decode cX3_value 1 = .ok (.istore 4, 2) := by decide +kernel
theorem dX3_value_3 : decode cX3_value 3 = .ok (.iconst 0, 1) := by decide +kernel
theorem dX3_value_4 : decode cX3_value 4 = .ok (.istore 5, 2) := by decide +kernel
theorem dX3_value_6 : decode cX3_value 6 = .ok (.iload 5, 2) := by decide +kernel
theorem dX3_value_8 : decode cX3_value 8 = .ok (.aload_n 0, 1) := by decide +kernel
theorem dX3_value_9 : decode cX3_value 9 = .ok (.getfield 18, 3) := by decide +kernel
theorem dX3_value_12 : decode cX3_value 12 = .ok (.if_icmp .ge 157, 3) := by decide +kernel
theorem dX3_value_15 : decode cX3_value 15 = .ok (.aload_n 0, 1) := by decide +kernel
theorem dX3_value_16 : decode cX3_value 16 = .ok (.getfield 9, 3) := by decide +kernel
theorem dX3_value_19 : decode cX3_value 19 = .ok (.iload 5, 2) := by decide +kernel
theorem dX3_value_21 : decode cX3_value 21 = .ok (.iaload, 1) := by decide +kernel
theorem dX3_value_22 : decode cX3_value 22 = .ok (.istore 6, 2) := by decide +kernel
theorem dX3_value_24 : decode cX3_value 24 = .ok (.iload 6, 2) := by decide +kernel
theorem dX3_value_26 : decode cX3_value 26 = .ok (.bipush (-3), 2) := by decide +kernel
theorem dX3_value_28 : decode cX3_value 28 = .ok (.if_icmp .lt 46, 3) := by decide +kernel
theorem dX3_value_31 : decode cX3_value 31 = .ok (.iload 4, 2) := by decide +kernel
theorem dX3_value_33 : decode cX3_value 33 = .ok (.aload_n 0, 1) := by decide +kernel
theorem dX3_value_34 : decode cX3_value 34 = .ok (.getfield 15, 3) := by decide +kernel
theorem dX3_value_37 : decode cX3_value 37 = .ok (.arraylength, 1) := by decide +kernel
theorem dX3_value_38 : decode cX3_value 38 = .ok (.if_icmp .lt 5, 3) := by decide +kernel
theorem dX3_value_41 : decode cX3_value 41 = .ok (.iconst 0, 1) := by decide +kernel
theorem dX3_value_42 : decode cX3_value 42 = .ok (.ireturn, 1) := by decide +kernel
theorem dX3_value_43 : decode cX3_value 43 = .ok (.aload_n 0, 1) := by decide +kernel
theorem dX3_value_44 : decode cX3_value 44 = .ok (.getfield 15, 3) := by decide +kernel
theorem dX3_value_47 : decode cX3_value 47 = .ok (.iload 4, 2) := by decide +kernel
theorem dX3_value_49 : decode cX3_value 49 = .ok (.iload 6, 2) := by decide +kernel
theorem dX3_value_51 : decode cX3_value 51 = .ok (.ifCond .lt 8, 3) := by decide +kernel
theorem dX3_value_54 : decode cX3_value 54 = .ok (.iload 6, 2) := by decide +kernel
theorem dX3_value_56 : decode cX3_value 56 = .ok (.goto 11, 3) := by decide +kernel
theorem dX3_value_59 : decode cX3_value 59 = .ok (.iload 6, 2) := by decide +kernel
theorem dX3_value_61 : decode cX3_value 61 = .ok (.iload_n 1, 1) := by decide +kernel
theorem dX3_value_62 : decode cX3_value 62 = .ok (.iload_n 2, 1) := by decide +kernel
theorem dX3_value_63 : decode cX3_value 63 = .ok (.iload_n 3, 1) := by decide +kernel
theorem dX3_value_64 : decode cX3_value 64 = .ok (.invokestatic 28, 3) := by decide +kernel
theorem dX3_value_67 : decode cX3_value 67 = .ok (.iastore, 1) := by decide +kernel
theorem dX3_value_68 : decode cX3_value 68 = .ok (.iinc 4 1, 3) := by decide +kernel
theorem dX3_value_71 : decode cX3_value 71 = .ok (.goto 92, 3) := by decide +kernel
theorem dX3_value_74 : decode cX3_value 74 = .ok (.iload 6, 2) := by decide +kernel
theorem dX3_value_76 : decode cX3_value 76 = .ok (.bipush (-33), 2) := by decide +kernel
theorem dX3_value_78 : decode cX3_value 78 = .ok (.if_icmp .ne 43, 3) := by decide +kernel
theorem dX3_value_81 : decode cX3_value 81 = .ok (.iload 4, 2) := by decide +kernel
theorem dX3_value_83 : decode cX3_value 83 = .ok (.iconst 1, 1) := by decide +kernel
theorem dX3_value_84 : decode cX3_value 84 = .ok (.if_icmp .ge 5, 3) := by decide +kernel
theorem dX3_value_87 : decode cX3_value 87 = .ok (.iconst 0, 1) := by decide +kernel
theorem dX3_value_88 : decode cX3_value 88 = .ok (.ireturn, 1) := by decide +kernel
theorem dX3_value_89 : decode cX3_value 89 = .ok (.aload_n 0, 1) := by decide +kernel
theorem dX3_value_90 : decode cX3_value 90 = .ok (.getfield 15, 3) := by decide +kernel
theorem dX3_value_93 : decode cX3_value 93 = .ok (.iload 4, 2) := by decide +kernel
theorem dX3_value_95 : decode cX3_value 95 = .ok (.iconst 1, 1) := by decide +kernel
theorem dX3_value_96 : decode cX3_value 96 = .ok (.isub, 1) := by decide +kernel
theorem dX3_value_97 : decode cX3_value 97 = .ok (.aload_n 0, 1) := by decide +kernel
theorem dX3_value_98 : decode cX3_value 98 = .ok (.getfield 15, 3) := by decide +kernel
theorem dX3_value_101 : decode cX3_value 101 = .ok (.iload 4, 2) := by decide +kernel
theorem dX3_value_103 : decode cX3_value 103 = .ok (.iconst 1, 1) := by decide +kernel
theorem dX3_value_104 : decode cX3_value 104 = .ok (.isub, 1) := by decide +kernel
theorem dX3_value_105 : decode cX3_value 105 = .ok (.iaload, 1) := by decide +kernel
theorem dX3_value_106 : decode cX3_value 106 = .ok (.ifCond .ne 7, 3) := by decide +kernel
theorem dX3_value_109 : decode cX3_value 109 = .ok (.iconst 1, 1) := by decide +kernel
theorem dX3_value_110 : decode cX3_value 110 = .ok (.goto 4, 3) := by decide +kernel
theorem dX3_value_113 : decode cX3_value 113 = .ok (.iconst 0, 1) := by decide +kernel
theorem dX3_value_114 : decode cX3_value 114 = .ok (.invokestatic 32, 3) := by decide +kernel
theorem dX3_value_117 : decode cX3_value 117 = .ok (.iastore, 1) := by decide +kernel
theorem dX3_value_118 : decode cX3_value 118 = .ok (.goto 45, 3) := by decide +kernel
theorem dX3_value_121 : decode cX3_value 121 = .ok (.iload 4, 2) := by decide +kernel
theorem dX3_value_123 : decode cX3_value 123 = .ok (.iconst 2, 1) := by decide +kernel
theorem dX3_value_124 : decode cX3_value 124 = .ok (.if_icmp .ge 5, 3) := by decide +kernel
theorem dX3_value_127 : decode cX3_value 127 = .ok (.iconst 0, 1) := by decide +kernel
theorem dX3_value_128 : decode cX3_value 128 = .ok (.ireturn, 1) := by decide +kernel
theorem dX3_value_129 : decode cX3_value 129 = .ok (.iinc 4 (-1), 3) := by decide +kernel
theorem dX3_value_132 : decode cX3_value 132 = .ok (.aload_n 0, 1) := by decide +kernel
theorem dX3_value_133 : decode cX3_value 133 = .ok (.getfield 15, 3) := by decide +kernel
theorem dX3_value_136 : decode cX3_value 136 = .ok (.iload 4, 2) := by decide +kernel
theorem dX3_value_138 : decode cX3_value 138 = .ok (.iconst 1, 1) := by decide +kernel
theorem dX3_value_139 : decode cX3_value 139 = .ok (.isub, 1) := by decide +kernel
theorem dX3_value_140 : decode cX3_value 140 = .ok (.iload 6, 2) := by decide +kernel
theorem dX3_value_142 : decode cX3_value 142 = .ok (.ineg, 1) := by decide +kernel
theorem dX3_value_143 : decode cX3_value 143 = .ok (.aload_n 0, 1) := by decide +kernel
theorem dX3_value_144 : decode cX3_value 144 = .ok (.getfield 15, 3) := by decide +kernel
theorem dX3_value_147 : decode cX3_value 147 = .ok (.iload 4, 2) := by decide +kernel
theorem dX3_value_149 : decode cX3_value 149 = .ok (.iconst 1, 1) := by decide +kernel
theorem dX3_value_150 : decode cX3_value 150 = .ok (.isub, 1) := by decide +kernel
theorem dX3_value_151 : decode cX3_value 151 = .ok (.iaload, 1) := by decide +kernel
theorem dX3_value_152 : decode cX3_value 152 = .ok (.aload_n 0, 1) := by decide +kernel
theorem dX3_value_153 : decode cX3_value 153 = .ok (.getfield 15, 3) := by decide +kernel
theorem dX3_value_156 : decode cX3_value 156 = .ok (.iload 4, 2) := by decide +kernel
theorem dX3_value_158 : decode cX3_value 158 = .ok (.iaload, 1) := by decide +kernel
theorem dX3_value_159 : decode cX3_value 159 = .ok (.invokestatic 36, 3) := by decide +kernel
theorem dX3_value_162 : decode cX3_value 162 = .ok (.iastore, 1) := by decide +kernel
theorem dX3_value_163 : decode cX3_value 163 = .ok (.iinc 5 1, 3) := by decide +kernel
theorem dX3_value_166 : decode cX3_value 166 = .ok (.goto (-160), 3) := by decide +kernel
theorem dX3_value_169 : decode cX3_value 169 = .ok (.iload 4, 2) := by decide +kernel
theorem dX3_value_171 : decode cX3_value 171 = .ok (.ifCond .le 12, 3) := by decide +kernel
theorem dX3_value_174 : decode cX3_value 174 = .ok (.aload_n 0, 1) := by decide +kernel
theorem dX3_value_175 : decode cX3_value 175 = .ok (.getfield 15, 3) := by decide +kernel
theorem dX3_value_178 : decode cX3_value 178 = .ok (.iconst 0, 1) := by decide +kernel
theorem dX3_value_179 : decode cX3_value 179 = .ok (.iaload, 1) := by decide +kernel
theorem dX3_value_180 : decode cX3_value 180 = .ok (.goto 4, 3) := by decide +kernel
theorem dX3_value_183 : decode cX3_value 183 = .ok (.iconst 0, 1) := by decide +kernel
theorem dX3_value_184 : decode cX3_value 184 = .ok (.ireturn, 1) := by decide +kernel
theorem dX3_named_0 : decode cX3_named 0 = .ok (.iload_n 0, 1) := by decide +kernel
theorem dX3_named_1 : decode cX3_named 1 = .ok (.iconst (-1), 1) := by decide +kernel
theorem dX3_named_2 : decode cX3_named 2 = .ok (.if_icmp .ne 5, 3) := by decide +kernel
theorem dX3_named_5 : decode cX3_named 5 = .ok (.iload_n 1, 1) := by decide +kernel
theorem dX3_named_6 : decode cX3_named 6 = .ok (.ireturn, 1) := by decide +kernel
theorem dX3_named_7 : decode cX3_named 7 = .ok (.iload_n 0, 1) := by decide +kernel
theorem dX3_named_8 : decode cX3_named 8 = .ok (.bipush (-2), 2) := by decide +kernel
theorem dX3_named_10 : decode cX3_named 10 = .ok (.if_icmp .ne 7, 3) := by decide +kernel
theorem dX3_named_13 : decode cX3_named 13 = .ok (.iload_n 2, 1) := by decide +kernel
theorem dX3_named_14 : decode cX3_named 14 = .ok (.goto 4, 3) := by decide +kernel
theorem dX3_named_17 : decode cX3_named 17 = .ok (.iload_n 3, 1) := by decide +kernel
theorem dX3_named_18 : decode cX3_named 18 = .ok (.ireturn, 1) := by decide +kernel
theorem dX3_joined_0 : decode cX3_joined 0 = .ok (.iload_n 0, 1) := by decide +kernel
theorem dX3_joined_1 : decode cX3_joined 1 = .ok (.lookupswitch 188 #[(37, 176), (38, 105), (42, 160), (43, 152), (45, 156), (47, 164), (60, 119), (61, 130), (62, 141), (124, 91)], 91) := by decide +kernel
theorem dX3_joined_92 : decode cX3_joined 92 = .ok (.iload_n 1, 1) := by decide +kernel
theorem dX3_joined_93 : decode cX3_joined 93 = .ok (.ifCond .ne 7, 3) := by decide +kernel
theorem dX3_joined_96 : decode cX3_joined 96 = .ok (.iload_n 2, 1) := by decide +kernel
theorem dX3_joined_97 : decode cX3_joined 97 = .ok (.ifCond .eq 7, 3) := by decide +kernel
theorem dX3_joined_100 : decode cX3_joined 100 = .ok (.iconst 1, 1) := by decide +kernel
theorem dX3_joined_101 : decode cX3_joined 101 = .ok (.goto 4, 3) := by decide +kernel
theorem dX3_joined_104 : decode cX3_joined 104 = .ok (.iconst 0, 1) := by decide +kernel
theorem dX3_joined_105 : decode cX3_joined 105 = .ok (.ireturn, 1) := by decide +kernel
theorem dX3_joined_106 : decode cX3_joined 106 = .ok (.iload_n 1, 1) := by decide +kernel
theorem dX3_joined_107 : decode cX3_joined 107 = .ok (.ifCond .eq 11, 3) := by decide +kernel
theorem dX3_joined_110 : decode cX3_joined 110 = .ok (.iload_n 2, 1) := by decide +kernel
theorem dX3_joined_111 : decode cX3_joined 111 = .ok (.ifCond .eq 7, 3) := by decide +kernel
theorem dX3_joined_114 : decode cX3_joined 114 = .ok (.iconst 1, 1) := by decide +kernel
theorem dX3_joined_115 : decode cX3_joined 115 = .ok (.goto 4, 3) := by decide +kernel
theorem dX3_joined_118 : decode cX3_joined 118 = .ok (.iconst 0, 1) := by decide +kernel
theorem dX3_joined_119 : decode cX3_joined 119 = .ok (.ireturn, 1) := by decide +kernel
theorem dX3_joined_120 : decode cX3_joined 120 = .ok (.iload_n 1, 1) := by decide +kernel
theorem dX3_joined_121 : decode cX3_joined 121 = .ok (.iload_n 2, 1) := by decide +kernel
theorem dX3_joined_122 : decode cX3_joined 122 = .ok (.if_icmp .ge 7, 3) := by decide +kernel
theorem dX3_joined_125 : decode cX3_joined 125 = .ok (.iconst 1, 1) := by decide +kernel
theorem dX3_joined_126 : decode cX3_joined 126 = .ok (.goto 4, 3) := by decide +kernel
theorem dX3_joined_129 : decode cX3_joined 129 = .ok (.iconst 0, 1) := by decide +kernel
theorem dX3_joined_130 : decode cX3_joined 130 = .ok (.ireturn, 1) := by decide +kernel
theorem dX3_joined_131 : decode cX3_joined 131 = .ok (.iload_n 1, 1) := by decide +kernel
theorem dX3_joined_132 : decode cX3_joined 132 = .ok (.iload_n 2, 1) := by decide +kernel
theorem dX3_joined_133 : decode cX3_joined 133 = .ok (.if_icmp .ne 7, 3) := by decide +kernel
theorem dX3_joined_136 : decode cX3_joined 136 = .ok (.iconst 1, 1) := by decide +kernel
theorem dX3_joined_137 : decode cX3_joined 137 = .ok (.goto 4, 3) := by decide +kernel
theorem dX3_joined_140 : decode cX3_joined 140 = .ok (.iconst 0, 1) := by decide +kernel
theorem dX3_joined_141 : decode cX3_joined 141 = .ok (.ireturn, 1) := by decide +kernel
theorem dX3_joined_142 : decode cX3_joined 142 = .ok (.iload_n 1, 1) := by decide +kernel
theorem dX3_joined_143 : decode cX3_joined 143 = .ok (.iload_n 2, 1) := by decide +kernel
theorem dX3_joined_144 : decode cX3_joined 144 = .ok (.if_icmp .le 7, 3) := by decide +kernel
theorem dX3_joined_147 : decode cX3_joined 147 = .ok (.iconst 1, 1) := by decide +kernel
theorem dX3_joined_148 : decode cX3_joined 148 = .ok (.goto 4, 3) := by decide +kernel
theorem dX3_joined_151 : decode cX3_joined 151 = .ok (.iconst 0, 1) := by decide +kernel
theorem dX3_joined_152 : decode cX3_joined 152 = .ok (.ireturn, 1) := by decide +kernel
theorem dX3_joined_153 : decode cX3_joined 153 = .ok (.iload_n 1, 1) := by decide +kernel
theorem dX3_joined_154 : decode cX3_joined 154 = .ok (.iload_n 2, 1) := by decide +kernel
theorem dX3_joined_155 : decode cX3_joined 155 = .ok (.iadd, 1) := by decide +kernel
theorem dX3_joined_156 : decode cX3_joined 156 = .ok (.ireturn, 1) := by decide +kernel
theorem dX3_joined_157 : decode cX3_joined 157 = .ok (.iload_n 1, 1) := by decide +kernel
theorem dX3_joined_158 : decode cX3_joined 158 = .ok (.iload_n 2, 1) := by decide +kernel
theorem dX3_joined_159 : decode cX3_joined 159 = .ok (.isub, 1) := by decide +kernel
theorem dX3_joined_160 : decode cX3_joined 160 = .ok (.ireturn, 1) := by decide +kernel
theorem dX3_joined_161 : decode cX3_joined 161 = .ok (.iload_n 1, 1) := by decide +kernel
theorem dX3_joined_162 : decode cX3_joined 162 = .ok (.iload_n 2, 1) := by decide +kernel
theorem dX3_joined_163 : decode cX3_joined 163 = .ok (.imul, 1) := by decide +kernel
theorem dX3_joined_164 : decode cX3_joined 164 = .ok (.ireturn, 1) := by decide +kernel
theorem dX3_joined_165 : decode cX3_joined 165 = .ok (.iload_n 2, 1) := by decide +kernel
theorem dX3_joined_166 : decode cX3_joined 166 = .ok (.ifCond .ne 7, 3) := by decide +kernel
theorem dX3_joined_169 : decode cX3_joined 169 = .ok (.iconst 0, 1) := by decide +kernel
theorem dX3_joined_170 : decode cX3_joined 170 = .ok (.goto 6, 3) := by decide +kernel
theorem dX3_joined_173 : decode cX3_joined 173 = .ok (.iload_n 1, 1) := by decide +kernel
theorem dX3_joined_174 : decode cX3_joined 174 = .ok (.iload_n 2, 1) := by decide +kernel
theorem dX3_joined_175 : decode cX3_joined 175 = .ok (.idiv, 1) := by decide +kernel
theorem dX3_joined_176 : decode cX3_joined 176 = .ok (.ireturn, 1) := by decide +kernel
theorem dX3_joined_177 : decode cX3_joined 177 = .ok (.iload_n 2, 1) := by decide +kernel
theorem dX3_joined_178 : decode cX3_joined 178 = .ok (.ifCond .ne 7, 3) := by decide +kernel
theorem dX3_joined_181 : decode cX3_joined 181 = .ok (.iconst 0, 1) := by decide +kernel
theorem dX3_joined_182 : decode cX3_joined 182 = .ok (.goto 6, 3) := by decide +kernel
theorem dX3_joined_185 : decode cX3_joined 185 = .ok (.iload_n 1, 1) := by decide +kernel
theorem dX3_joined_186 : decode cX3_joined 186 = .ok (.iload_n 2, 1) := by decide +kernel
theorem dX3_joined_187 : decode cX3_joined 187 = .ok (.irem, 1) := by decide +kernel
theorem dX3_joined_188 : decode cX3_joined 188 = .ok (.ireturn, 1) := by decide +kernel
theorem dX3_joined_189 : decode cX3_joined 189 = .ok (.iconst 0, 1) := by decide +kernel
theorem dX3_joined_190 : decode cX3_joined 190 = .ok (.ireturn, 1) := by decide +kernel
theorem dX4_init_0 : decode cX4_init 0 = .ok (.aload_n 0, 1) := by decide +kernel
theorem dX4_init_1 : decode cX4_init 1 = .ok (.invokespecial 3, 3) := by decide +kernel
theorem dX4_init_4 : decode cX4_init 4 = .ok (.aload_n 0, 1) := by decide +kernel
theorem dX4_init_5 : decode cX4_init 5 = .ok (.bipush 40, 2) := by decide +kernel
theorem dX4_init_7 : decode cX4_init 7 = .ok (.newarray .int, 2) := by decide +kernel
theorem dX4_init_9 : decode cX4_init 9 = .ok (.putfield 9, 3) := by decide +kernel
theorem dX4_init_12 : decode cX4_init 12 = .ok (.aload_n 0, 1) := by decide +kernel
theorem dX4_init_13 : decode cX4_init 13 = .ok (.sipush 256, 3) := by decide +kernel
theorem dX4_init_16 : decode cX4_init 16 = .ok (.newarray .int, 2) := by decide +kernel
theorem dX4_init_18 : decode cX4_init 18 = .ok (.putfield 15, 3) := by decide +kernel
theorem dX4_init_21 : decode cX4_init 21 = .ok (.aload_n 0, 1) := by decide +kernel
theorem dX4_init_22 : decode cX4_init 22 = .ok (.sipush 256, 3) := by decide +kernel
theorem dX4_init_25 : decode cX4_init 25 = .ok (.newarray .int, 2) := by decide +kernel
theorem dX4_init_27 : decode cX4_init 27 = .ok (.putfield 18, 3) := by decide +kernel
theorem dX4_init_30 : decode cX4_init 30 = .ok (.return_, 1) := by decide +kernel
theorem dX4_later_0 : decode cX4_later 0 = .ok (.aload_n 1, 1) := by decide +kernel
theorem dX4_later_1 : decode cX4_later 1 = .ok (.getfield 21, 3) := by decide +kernel
theorem dX4_later_4 : decode cX4_later 4 = .ok (.iload_n 2, 1) := by decide +kernel
theorem dX4_later_5 : decode cX4_later 5 = .ok (.iload_n 3, 1) := by decide +kernel
theorem dX4_later_6 : decode cX4_later 6 = .ok (.invokestatic 26, 3) := by decide +kernel
theorem dX4_later_9 : decode cX4_later 9 = .ok (.iaload, 1) := by decide +kernel
theorem dX4_later_10 : decode cX4_later 10 = .ok (.istore 5, 2) := by decide +kernel
theorem dX4_later_12 : decode cX4_later 12 = .ok (.iconst 0, 1) := by decide +kernel
theorem dX4_later_13 : decode cX4_later 13 = .ok (.istore 6, 2) := by decide +kernel
theorem dX4_later_15 : decode cX4_later 15 = .ok (.iload 6, 2) := by decide +kernel
theorem dX4_later_17 : decode cX4_later 17 = .ok (.iload 4, 2) := by decide +kernel
theorem dX4_later_19 : decode cX4_later 19 = .ok (.if_icmp .ge 39, 3) := by decide +kernel
theorem dX4_later_22 : decode cX4_later 22 = .ok (.aload_n 1, 1) := by decide +kernel
theorem dX4_later_23 : decode cX4_later 23 = .ok (.iload_n 2, 1) := by decide +kernel
theorem dX4_later_24 : decode cX4_later 24 = .ok (.iload_n 3, 1) := by decide +kernel
theorem dX4_later_25 : decode cX4_later 25 = .ok (.iload 5, 2) := by decide +kernel
theorem dX4_later_27 : decode cX4_later 27 = .ok (.aload_n 1, 1) := by decide +kernel
theorem dX4_later_28 : decode cX4_later 28 = .ok (.getfield 30, 3) := by decide +kernel
theorem dX4_later_31 : decode cX4_later 31 = .ok (.iload 6, 2) := by decide +kernel
theorem dX4_later_33 : decode cX4_later 33 = .ok (.iadd, 1) := by decide +kernel
theorem dX4_later_34 : decode cX4_later 34 = .ok (.invokevirtual 34, 3) := by decide +kernel
theorem dX4_later_37 : decode cX4_later 37 = .ok (.istore 7, 2) := by decide +kernel
theorem dX4_later_39 : decode cX4_later 39 = .ok (.iload 5, 2) := by decide +kernel
theorem dX4_later_41 : decode cX4_later 41 = .ok (.iload 7, 2) := by decide +kernel
theorem dX4_later_43 : decode cX4_later 43 = .ok (.iadd, 1) := by decide +kernel
theorem dX4_later_44 : decode cX4_later 44 = .ok (.iconst 0, 1) := by decide +kernel
theorem dX4_later_45 : decode cX4_later 45 = .ok (.bipush 99, 2) := by decide +kernel
theorem dX4_later_47 : decode cX4_later 47 = .ok (.invokestatic 38, 3) := by decide +kernel
theorem dX4_later_50 : decode cX4_later 50 = .ok (.istore 5, 2) := by decide +kernel
theorem dX4_later_52 : decode cX4_later 52 = .ok (.iinc 6 1, 3) := by decide +kernel
theorem dX4_later_55 : decode cX4_later 55 = .ok (.goto (-40), 3) := by decide +kernel
theorem dX4_later_58 : decode cX4_later 58 = .ok (.iload 5, 2) := by decide +kernel
theorem dX4_later_60 : decode cX4_later 60 = .ok (.ireturn, 1) := by decide +kernel
theorem dX4_firstBelow_0 : decode cX4_firstBelow 0 = .ok (.aload_n 1, 1) := by decide +kernel
theorem dX4_firstBelow_1 : decode cX4_firstBelow 1 = .ok (.getfield 21, 3) := by decide +kernel
theorem dX4_firstBelow_4 : decode cX4_firstBelow 4 = .ok (.iconst 0, 1) := by decide +kernel
theorem dX4_firstBelow_5 : decode cX4_firstBelow 5 = .ok (.aload_n 0, 1) := by decide +kernel
theorem dX4_firstBelow_6 : decode cX4_firstBelow 6 = .ok (.getfield 9, 3) := by decide +kernel
theorem dX4_firstBelow_9 : decode cX4_firstBelow 9 = .ok (.iconst 0, 1) := by decide +kernel
theorem dX4_firstBelow_10 : decode cX4_firstBelow 10 = .ok (.bipush 40, 2) := by decide +kernel
theorem dX4_firstBelow_12 : decode cX4_firstBelow 12 = .ok (.invokestatic 42, 3) := by decide +kernel
theorem dX4_firstBelow_15 : decode cX4_firstBelow 15 = .ok (.iconst 0, 1) := by decide +kernel
theorem dX4_firstBelow_16 : decode cX4_firstBelow 16 = .ok (.istore_n 3, 1) := by decide +kernel
theorem dX4_firstBelow_17 : decode cX4_firstBelow 17 = .ok (.iload_n 3, 1) := by decide +kernel
theorem dX4_firstBelow_18 : decode cX4_firstBelow 18 = .ok (.bipush 60, 2) := by decide +kernel
theorem dX4_firstBelow_20 : decode cX4_firstBelow 20 = .ok (.if_icmp .gt 68, 3) := by decide +kernel
theorem dX4_firstBelow_23 : decode cX4_firstBelow 23 = .ok (.iload_n 3, 1) := by decide +kernel
theorem dX4_firstBelow_24 : decode cX4_firstBelow 24 = .ok (.ifCond .le 19, 3) := by decide +kernel
theorem dX4_firstBelow_27 : decode cX4_firstBelow 27 = .ok (.aload_n 1, 1) := by decide +kernel
theorem dX4_firstBelow_28 : decode cX4_firstBelow 28 = .ok (.aload_n 0, 1) := by decide +kernel
theorem dX4_firstBelow_29 : decode cX4_firstBelow 29 = .ok (.getfield 9, 3) := by decide +kernel
theorem dX4_firstBelow_32 : decode cX4_firstBelow 32 = .ok (.aload_n 1, 1) := by decide +kernel
theorem dX4_firstBelow_33 : decode cX4_firstBelow 33 = .ok (.getfield 30, 3) := by decide +kernel
theorem dX4_firstBelow_36 : decode cX4_firstBelow 36 = .ok (.iload_n 3, 1) := by decide +kernel
theorem dX4_firstBelow_37 : decode cX4_firstBelow 37 = .ok (.iadd, 1) := by decide +kernel
theorem dX4_firstBelow_38 : decode cX4_firstBelow 38 = .ok (.iconst 1, 1) := by decide +kernel
theorem dX4_firstBelow_39 : decode cX4_firstBelow 39 = .ok (.isub, 1) := by decide +kernel
theorem dX4_firstBelow_40 : decode cX4_firstBelow 40 = .ok (.invokevirtual 48, 3) := by decide +kernel
theorem dX4_firstBelow_43 : decode cX4_firstBelow 43 = .ok (.iconst 0, 1) := by decide +kernel
theorem dX4_firstBelow_44 : decode cX4_firstBelow 44 = .ok (.istore 4, 2) := by decide +kernel
theorem dX4_firstBelow_46 : decode cX4_firstBelow 46 = .ok (.iload 4, 2) := by decide +kernel
theorem dX4_firstBelow_48 : decode cX4_firstBelow 48 = .ok (.aload_n 1, 1) := by decide +kernel
theorem dX4_firstBelow_49 : decode cX4_firstBelow 49 = .ok (.getfield 52, 3) := by decide +kernel
theorem dX4_firstBelow_52 : decode cX4_firstBelow 52 = .ok (.if_icmp .ge 30, 3) := by decide +kernel
theorem dX4_firstBelow_55 : decode cX4_firstBelow 55 = .ok (.aload_n 0, 1) := by decide +kernel
theorem dX4_firstBelow_56 : decode cX4_firstBelow 56 = .ok (.getfield 9, 3) := by decide +kernel
theorem dX4_firstBelow_59 : decode cX4_firstBelow 59 = .ok (.iload 4, 2) := by decide +kernel
theorem dX4_firstBelow_61 : decode cX4_firstBelow 61 = .ok (.invokestatic 55, 3) := by decide +kernel
theorem dX4_firstBelow_64 : decode cX4_firstBelow 64 = .ok (.iload_n 2, 1) := by decide +kernel
theorem dX4_firstBelow_65 : decode cX4_firstBelow 65 = .ok (.if_icmp .ge 11, 3) := by decide +kernel
theorem dX4_firstBelow_68 : decode cX4_firstBelow 68 = .ok (.iload_n 3, 1) := by decide +kernel
theorem dX4_firstBelow_69 : decode cX4_firstBelow 69 = .ok (.bipush 8, 2) := by decide +kernel
theorem dX4_firstBelow_71 : decode cX4_firstBelow 71 = .ok (.imul, 1) := by decide +kernel
theorem dX4_firstBelow_72 : decode cX4_firstBelow 72 = .ok (.iload 4, 2) := by decide +kernel
theorem dX4_firstBelow_74 : decode cX4_firstBelow 74 = .ok (.iadd, 1) := by decide +kernel
theorem dX4_firstBelow_75 : decode cX4_firstBelow 75 = .ok (.ireturn, 1) := by decide +kernel
theorem dX4_firstBelow_76 : decode cX4_firstBelow 76 = .ok (.iinc 4 1, 3) := by decide +kernel
theorem dX4_firstBelow_79 : decode cX4_firstBelow 79 = .ok (.goto (-33), 3) := by decide +kernel
theorem dX4_firstBelow_82 : decode cX4_firstBelow 82 = .ok (.iinc 3 1, 3) := by decide +kernel
theorem dX4_firstBelow_85 : decode cX4_firstBelow 85 = .ok (.goto (-68), 3) := by decide +kernel
theorem dX4_firstBelow_88 : decode cX4_firstBelow 88 = .ok (.iconst (-1), 1) := by decide +kernel
theorem dX4_firstBelow_89 : decode cX4_firstBelow 89 = .ok (.ireturn, 1) := by decide +kernel
theorem dX4_couldBear_0 : decode cX4_couldBear 0 = .ok (.iload_n 2, 1) := by decide +kernel
theorem dX4_couldBear_1 : decode cX4_couldBear 1 = .ok (.iload 4, 2) := by decide +kernel
theorem dX4_couldBear_3 : decode cX4_couldBear 3 = .ok (.if_icmp .eq 9, 3) := by decide +kernel
theorem dX4_couldBear_6 : decode cX4_couldBear 6 = .ok (.iload_n 3, 1) := by decide +kernel
theorem dX4_couldBear_7 : decode cX4_couldBear 7 = .ok (.iload 4, 2) := by decide +kernel
theorem dX4_couldBear_9 : decode cX4_couldBear 9 = .ok (.if_icmp .ne 5, 3) := by decide +kernel
theorem dX4_couldBear_12 : decode cX4_couldBear 12 = .ok (.iconst 0, 1) := by decide +kernel
theorem dX4_couldBear_13 : decode cX4_couldBear 13 = .ok (.ireturn, 1) := by decide +kernel
theorem dX4_couldBear_14 : decode cX4_couldBear 14 = .ok (.iconst 0, 1) := by decide +kernel
theorem dX4_couldBear_15 : decode cX4_couldBear 15 = .ok (.istore 5, 2) := by decide +kernel
theorem dX4_couldBear_17 : decode cX4_couldBear 17 = .ok (.iload 5, 2) := by decide +kernel
theorem dX4_couldBear_19 : decode cX4_couldBear 19 = .ok (.iconst 5, 1) := by decide +kernel
theorem dX4_couldBear_20 : decode cX4_couldBear 20 = .ok (.if_icmp .ge 34, 3) := by decide +kernel
theorem dX4_couldBear_23 : decode cX4_couldBear 23 = .ok (.aload_n 1, 1) := by decide +kernel
theorem dX4_couldBear_24 : decode cX4_couldBear 24 = .ok (.iload_n 2, 1) := by decide +kernel
theorem dX4_couldBear_25 : decode cX4_couldBear 25 = .ok (.iload_n 3, 1) := by decide +kernel
theorem dX4_couldBear_26 : decode cX4_couldBear 26 = .ok (.iload 5, 2) := by decide +kernel
theorem dX4_couldBear_28 : decode cX4_couldBear 28 = .ok (.invokevirtual 59, 3) := by decide +kernel
theorem dX4_couldBear_31 : decode cX4_couldBear 31 = .ok (.aload_n 1, 1) := by decide +kernel
theorem dX4_couldBear_32 : decode cX4_couldBear 32 = .ok (.getfield 21, 3) := by decide +kernel
theorem dX4_couldBear_35 : decode cX4_couldBear 35 = .ok (.iload 4, 2) := by decide +kernel
theorem dX4_couldBear_37 : decode cX4_couldBear 37 = .ok (.iload 5, 2) := by decide +kernel
theorem dX4_couldBear_39 : decode cX4_couldBear 39 = .ok (.invokestatic 26, 3) := by decide +kernel
theorem dX4_couldBear_42 : decode cX4_couldBear 42 = .ok (.iaload, 1) := by decide +kernel
theorem dX4_couldBear_43 : decode cX4_couldBear 43 = .ok (.if_icmp .eq 5, 3) := by decide +kernel
theorem dX4_couldBear_46 : decode cX4_couldBear 46 = .ok (.iconst 0, 1) := by decide +kernel
theorem dX4_couldBear_47 : decode cX4_couldBear 47 = .ok (.ireturn, 1) := by decide +kernel
theorem dX4_couldBear_48 : decode cX4_couldBear 48 = .ok (.iinc 5 1, 3) := by decide +kernel
theorem dX4_couldBear_51 : decode cX4_couldBear 51 = .ok (.goto (-34), 3) := by decide +kernel
theorem dX4_couldBear_54 : decode cX4_couldBear 54 = .ok (.iconst 1, 1) := by decide +kernel
theorem dX4_couldBear_55 : decode cX4_couldBear 55 = .ok (.ireturn, 1) := by decide +kernel
theorem dX4_pairsFor_0 : decode cX4_pairsFor 0 = .ok (.iconst 0, 1) := by decide +kernel
theorem dX4_pairsFor_1 : decode cX4_pairsFor 1 = .ok (.istore_n 3, 1) := by decide +kernel
theorem dX4_pairsFor_2 : decode cX4_pairsFor 2 = .ok (.iconst 0, 1) := by decide +kernel
theorem dX4_pairsFor_3 : decode cX4_pairsFor 3 = .ok (.istore 4, 2) := by decide +kernel
theorem dX4_pairsFor_5 : decode cX4_pairsFor 5 = .ok (.iload 4, 2) := by decide +kernel
theorem dX4_pairsFor_7 : decode cX4_pairsFor 7 = .ok (.aload_n 1, 1) := by decide +kernel
theorem dX4_pairsFor_8 : decode cX4_pairsFor 8 = .ok (.getfield 52, 3) := by decide +kernel
theorem dX4_pairsFor_11 : decode cX4_pairsFor 11 = .ok (.if_icmp .ge 46, 3) := by decide +kernel
theorem dX4_pairsFor_14 : decode cX4_pairsFor 14 = .ok (.iload 4, 2) := by decide +kernel
theorem dX4_pairsFor_16 : decode cX4_pairsFor 16 = .ok (.iconst 1, 1) := by decide +kernel
theorem dX4_pairsFor_17 : decode cX4_pairsFor 17 = .ok (.iadd, 1) := by decide +kernel
theorem dX4_pairsFor_18 : decode cX4_pairsFor 18 = .ok (.istore 5, 2) := by decide +kernel
theorem dX4_pairsFor_20 : decode cX4_pairsFor 20 = .ok (.iload 5, 2) := by decide +kernel
theorem dX4_pairsFor_22 : decode cX4_pairsFor 22 = .ok (.aload_n 1, 1) := by decide +kernel
theorem dX4_pairsFor_23 : decode cX4_pairsFor 23 = .ok (.getfield 52, 3) := by decide +kernel
theorem dX4_pairsFor_26 : decode cX4_pairsFor 26 = .ok (.if_icmp .ge 25, 3) := by decide +kernel
theorem dX4_pairsFor_29 : decode cX4_pairsFor 29 = .ok (.iload_n 3, 1) := by decide +kernel
theorem dX4_pairsFor_30 : decode cX4_pairsFor 30 = .ok (.aload_n 0, 1) := by decide +kernel
theorem dX4_pairsFor_31 : decode cX4_pairsFor 31 = .ok (.aload_n 1, 1) := by decide +kernel
theorem dX4_pairsFor_32 : decode cX4_pairsFor 32 = .ok (.iload 4, 2) := by decide +kernel
theorem dX4_pairsFor_34 : decode cX4_pairsFor 34 = .ok (.iload 5, 2) := by decide +kernel
theorem dX4_pairsFor_36 : decode cX4_pairsFor 36 = .ok (.iload_n 2, 1) := by decide +kernel
theorem dX4_pairsFor_37 : decode cX4_pairsFor 37 = .ok (.invokevirtual 62, 3) := by decide +kernel
theorem dX4_pairsFor_40 : decode cX4_pairsFor 40 = .ok (.invokestatic 66, 3) := by decide +kernel
theorem dX4_pairsFor_43 : decode cX4_pairsFor 43 = .ok (.iadd, 1) := by decide +kernel
theorem dX4_pairsFor_44 : decode cX4_pairsFor 44 = .ok (.istore_n 3, 1) := by decide +kernel
theorem dX4_pairsFor_45 : decode cX4_pairsFor 45 = .ok (.iinc 5 1, 3) := by decide +kernel
theorem dX4_pairsFor_48 : decode cX4_pairsFor 48 = .ok (.goto (-28), 3) := by decide +kernel
theorem dX4_pairsFor_51 : decode cX4_pairsFor 51 = .ok (.iinc 4 1, 3) := by decide +kernel
theorem dX4_pairsFor_54 : decode cX4_pairsFor 54 = .ok (.goto (-49), 3) := by decide +kernel
theorem dX4_pairsFor_57 : decode cX4_pairsFor 57 = .ok (.iload_n 3, 1) := by decide +kernel
theorem dX4_pairsFor_58 : decode cX4_pairsFor 58 = .ok (.ireturn, 1) := by decide +kernel
theorem dX4_firstPairFor_0 : decode cX4_firstPairFor 0 = .ok (.iconst 0, 1) := by decide +kernel
theorem dX4_firstPairFor_1 : decode cX4_firstPairFor 1 = .ok (.istore_n 3, 1) := by decide +kernel
theorem dX4_firstPairFor_2 : decode cX4_firstPairFor 2 = .ok (.iload_n 3, 1) := by decide +kernel
theorem dX4_firstPairFor_3 : decode cX4_firstPairFor 3 = .ok (.aload_n 1, 1) := by decide +kernel
theorem dX4_firstPairFor_4 : decode cX4_firstPairFor 4 = .ok (.getfield 52, 3) := by decide +kernel
theorem dX4_firstPairFor_7 : decode cX4_firstPairFor 7 = .ok (.if_icmp .ge 48, 3) := by decide +kernel
theorem dX4_firstPairFor_10 : decode cX4_firstPairFor 10 = .ok (.iload_n 3, 1) := by decide +kernel
theorem dX4_firstPairFor_11 : decode cX4_firstPairFor 11 = .ok (.iconst 1, 1) := by decide +kernel
theorem dX4_firstPairFor_12 : decode cX4_firstPairFor 12 = .ok (.iadd, 1) := by decide +kernel
theorem dX4_firstPairFor_13 : decode cX4_firstPairFor 13 = .ok (.istore 4, 2) := by decide +kernel
theorem dX4_firstPairFor_15 : decode cX4_firstPairFor 15 = .ok (.iload 4, 2) := by decide +kernel
theorem dX4_firstPairFor_17 : decode cX4_firstPairFor 17 = .ok (.aload_n 1, 1) := by decide +kernel
theorem dX4_firstPairFor_18 : decode cX4_firstPairFor 18 = .ok (.getfield 52, 3) := by decide +kernel
theorem dX4_firstPairFor_21 : decode cX4_firstPairFor 21 = .ok (.if_icmp .ge 28, 3) := by decide +kernel
theorem dX4_firstPairFor_24 : decode cX4_firstPairFor 24 = .ok (.aload_n 0, 1) := by decide +kernel
theorem dX4_firstPairFor_25 : decode cX4_firstPairFor 25 = .ok (.aload_n 1, 1) := by decide +kernel
theorem dX4_firstPairFor_26 : decode cX4_firstPairFor 26 = .ok (.iload_n 3, 1) := by decide +kernel
theorem dX4_firstPairFor_27 : decode cX4_firstPairFor 27 = .ok (.iload 4, 2) := by decide +kernel
theorem dX4_firstPairFor_29 : decode cX4_firstPairFor 29 = .ok (.iload_n 2, 1) := by decide +kernel
theorem dX4_firstPairFor_30 : decode cX4_firstPairFor 30 = .ok (.invokevirtual 62, 3) := by decide +kernel
theorem dX4_firstPairFor_33 : decode cX4_firstPairFor 33 = .ok (.ifCond .eq 10, 3) := by decide +kernel
theorem dX4_firstPairFor_36 : decode cX4_firstPairFor 36 = .ok (.iload_n 3, 1) := by decide +kernel
theorem dX4_firstPairFor_37 : decode cX4_firstPairFor 37 = .ok (.iload 4, 2) := by decide +kernel
theorem dX4_firstPairFor_39 : decode cX4_firstPairFor 39 = .ok (.invokestatic 70, 3) := by decide +kernel
theorem dX4_firstPairFor_42 : decode cX4_firstPairFor 42 = .ok (.ireturn, 1) := by decide +kernel
theorem dX4_firstPairFor_43 : decode cX4_firstPairFor 43 = .ok (.iinc 4 1, 3) := by decide +kernel
theorem dX4_firstPairFor_46 : decode cX4_firstPairFor 46 = .ok (.goto (-31), 3) := by decide +kernel
theorem dX4_firstPairFor_49 : decode cX4_firstPairFor 49 = .ok (.iinc 3 1, 3) := by decide +kernel
theorem dX4_firstPairFor_52 : decode cX4_firstPairFor 52 = .ok (.goto (-50), 3) := by decide +kernel
theorem dX4_firstPairFor_55 : decode cX4_firstPairFor 55 = .ok (.iconst (-1), 1) := by decide +kernel
theorem dX4_firstPairFor_56 : decode cX4_firstPairFor 56 = .ok (.ireturn, 1) := by decide +kernel
theorem dX4_pairsBelow_0 : decode cX4_pairsBelow 0 = .ok (.iconst 0, 1) := by decide +kernel
theorem dX4_pairsBelow_1 : decode cX4_pairsBelow 1 = .ok (.istore_n 3, 1) := by decide +kernel
theorem dX4_pairsBelow_2 : decode cX4_pairsBelow 2 = .ok (.iconst 0, 1) := by decide +kernel
theorem dX4_pairsBelow_3 : decode cX4_pairsBelow 3 = .ok (.istore 4, 2) := by decide +kernel
theorem dX4_pairsBelow_5 : decode cX4_pairsBelow 5 = .ok (.iload 4, 2) := by decide +kernel
theorem dX4_pairsBelow_7 : decode cX4_pairsBelow 7 = .ok (.aload_n 1, 1) := by decide +kernel
theorem dX4_pairsBelow_8 : decode cX4_pairsBelow 8 = .ok (.getfield 52, 3) := by decide +kernel
theorem dX4_pairsBelow_11 : decode cX4_pairsBelow 11 = .ok (.if_icmp .ge 53, 3) := by decide +kernel
theorem dX4_pairsBelow_14 : decode cX4_pairsBelow 14 = .ok (.iload 4, 2) := by decide +kernel
theorem dX4_pairsBelow_16 : decode cX4_pairsBelow 16 = .ok (.iconst 1, 1) := by decide +kernel
theorem dX4_pairsBelow_17 : decode cX4_pairsBelow 17 = .ok (.iadd, 1) := by decide +kernel
theorem dX4_pairsBelow_18 : decode cX4_pairsBelow 18 = .ok (.istore 5, 2) := by decide +kernel
theorem dX4_pairsBelow_20 : decode cX4_pairsBelow 20 = .ok (.iload 5, 2) := by decide +kernel
theorem dX4_pairsBelow_22 : decode cX4_pairsBelow 22 = .ok (.aload_n 1, 1) := by decide +kernel
theorem dX4_pairsBelow_23 : decode cX4_pairsBelow 23 = .ok (.getfield 52, 3) := by decide +kernel
theorem dX4_pairsBelow_26 : decode cX4_pairsBelow 26 = .ok (.if_icmp .ge 32, 3) := by decide +kernel
theorem dX4_pairsBelow_29 : decode cX4_pairsBelow 29 = .ok (.iload_n 3, 1) := by decide +kernel
theorem dX4_pairsBelow_30 : decode cX4_pairsBelow 30 = .ok (.aload_n 1, 1) := by decide +kernel
theorem dX4_pairsBelow_31 : decode cX4_pairsBelow 31 = .ok (.iload 4, 2) := by decide +kernel
theorem dX4_pairsBelow_33 : decode cX4_pairsBelow 33 = .ok (.iload 5, 2) := by decide +kernel
theorem dX4_pairsBelow_35 : decode cX4_pairsBelow 35 = .ok (.invokevirtual 73, 3) := by decide +kernel
theorem dX4_pairsBelow_38 : decode cX4_pairsBelow 38 = .ok (.iload_n 2, 1) := by decide +kernel
theorem dX4_pairsBelow_39 : decode cX4_pairsBelow 39 = .ok (.if_icmp .ge 7, 3) := by decide +kernel
theorem dX4_pairsBelow_42 : decode cX4_pairsBelow 42 = .ok (.iconst 1, 1) := by decide +kernel
theorem dX4_pairsBelow_43 : decode cX4_pairsBelow 43 = .ok (.goto 4, 3) := by decide +kernel
theorem dX4_pairsBelow_46 : decode cX4_pairsBelow 46 = .ok (.iconst 0, 1) := by decide +kernel
theorem dX4_pairsBelow_47 : decode cX4_pairsBelow 47 = .ok (.invokestatic 66, 3) := by decide +kernel
theorem dX4_pairsBelow_50 : decode cX4_pairsBelow 50 = .ok (.iadd, 1) := by decide +kernel
theorem dX4_pairsBelow_51 : decode cX4_pairsBelow 51 = .ok (.istore_n 3, 1) := by decide +kernel
theorem dX4_pairsBelow_52 : decode cX4_pairsBelow 52 = .ok (.iinc 5 1, 3) := by decide +kernel
theorem dX4_pairsBelow_55 : decode cX4_pairsBelow 55 = .ok (.goto (-35), 3) := by decide +kernel
theorem dX4_pairsBelow_58 : decode cX4_pairsBelow 58 = .ok (.iinc 4 1, 3) := by decide +kernel
theorem dX4_pairsBelow_61 : decode cX4_pairsBelow 61 = .ok (.goto (-56), 3) := by decide +kernel
theorem dX4_pairsBelow_64 : decode cX4_pairsBelow 64 = .ok (.iload_n 3, 1) := by decide +kernel
theorem dX4_pairsBelow_65 : decode cX4_pairsBelow 65 = .ok (.ireturn, 1) := by decide +kernel
theorem dX4_fewestPayments_0 : decode cX4_fewestPayments 0 = .ok (.iconst 0, 1) := by decide +kernel
theorem dX4_fewestPayments_1 : decode cX4_fewestPayments 1 = .ok (.istore_n 2, 1) := by decide +kernel
theorem dX4_fewestPayments_2 : decode cX4_fewestPayments 2 = .ok (.iload_n 2, 1) := by decide +kernel
theorem dX4_fewestPayments_3 : decode cX4_fewestPayments 3 = .ok (.aload_n 1, 1) := by decide +kernel
theorem dX4_fewestPayments_4 : decode cX4_fewestPayments 4 = .ok (.getfield 52, 3) := by decide +kernel
theorem dX4_fewestPayments_7 : decode cX4_fewestPayments 7 = .ok (.if_icmp .ge 52, 3) := by decide +kernel
theorem dX4_fewestPayments_10 : decode cX4_fewestPayments 10 = .ok (.aload_n 1, 1) := by decide +kernel
theorem dX4_fewestPayments_11 : decode cX4_fewestPayments 11 = .ok (.iload_n 2, 1) := by decide +kernel
theorem dX4_fewestPayments_12 : decode cX4_fewestPayments 12 = .ok (.invokevirtual 76, 3) := by decide +kernel
theorem dX4_fewestPayments_15 : decode cX4_fewestPayments 15 = .ok (.istore_n 3, 1) := by decide +kernel
theorem dX4_fewestPayments_16 : decode cX4_fewestPayments 16 = .ok (.iconst 0, 1) := by decide +kernel
theorem dX4_fewestPayments_17 : decode cX4_fewestPayments 17 = .ok (.istore 4, 2) := by decide +kernel
theorem dX4_fewestPayments_19 : decode cX4_fewestPayments 19 = .ok (.iload 4, 2) := by decide +kernel
theorem dX4_fewestPayments_21 : decode cX4_fewestPayments 21 = .ok (.iconst 1, 1) := by decide +kernel
theorem dX4_fewestPayments_22 : decode cX4_fewestPayments 22 = .ok (.iload_n 2, 1) := by decide +kernel
theorem dX4_fewestPayments_23 : decode cX4_fewestPayments 23 = .ok (.ishl, 1) := by decide +kernel
theorem dX4_fewestPayments_24 : decode cX4_fewestPayments 24 = .ok (.if_icmp .ge 29, 3) := by decide +kernel
theorem dX4_fewestPayments_27 : decode cX4_fewestPayments 27 = .ok (.aload_n 0, 1) := by decide +kernel
theorem dX4_fewestPayments_28 : decode cX4_fewestPayments 28 = .ok (.getfield 15, 3) := by decide +kernel
theorem dX4_fewestPayments_31 : decode cX4_fewestPayments 31 = .ok (.iload 4, 2) := by decide +kernel
theorem dX4_fewestPayments_33 : decode cX4_fewestPayments 33 = .ok (.iconst 1, 1) := by decide +kernel
theorem dX4_fewestPayments_34 : decode cX4_fewestPayments 34 = .ok (.iload_n 2, 1) := by decide +kernel
theorem dX4_fewestPayments_35 : decode cX4_fewestPayments 35 = .ok (.ishl, 1) := by decide +kernel
theorem dX4_fewestPayments_36 : decode cX4_fewestPayments 36 = .ok (.ior, 1) := by decide +kernel
theorem dX4_fewestPayments_37 : decode cX4_fewestPayments 37 = .ok (.aload_n 0, 1) := by decide +kernel
theorem dX4_fewestPayments_38 : decode cX4_fewestPayments 38 = .ok (.getfield 15, 3) := by decide +kernel
theorem dX4_fewestPayments_41 : decode cX4_fewestPayments 41 = .ok (.iload 4, 2) := by decide +kernel
theorem dX4_fewestPayments_43 : decode cX4_fewestPayments 43 = .ok (.iaload, 1) := by decide +kernel
theorem dX4_fewestPayments_44 : decode cX4_fewestPayments 44 = .ok (.iload_n 3, 1) := by decide +kernel
theorem dX4_fewestPayments_45 : decode cX4_fewestPayments 45 = .ok (.iadd, 1) := by decide +kernel
theorem dX4_fewestPayments_46 : decode cX4_fewestPayments 46 = .ok (.iastore, 1) := by decide +kernel
theorem dX4_fewestPayments_47 : decode cX4_fewestPayments 47 = .ok (.iinc 4 1, 3) := by decide +kernel
theorem dX4_fewestPayments_50 : decode cX4_fewestPayments 50 = .ok (.goto (-31), 3) := by decide +kernel
theorem dX4_fewestPayments_53 : decode cX4_fewestPayments 53 = .ok (.iinc 2 1, 3) := by decide +kernel
theorem dX4_fewestPayments_56 : decode cX4_fewestPayments 56 = .ok (.goto (-54), 3) := by decide +kernel
theorem dX4_fewestPayments_59 : decode cX4_fewestPayments 59 = .ok (.iconst 1, 1) := by decide +kernel
theorem dX4_fewestPayments_60 : decode cX4_fewestPayments 60 = .ok (.aload_n 1, 1) := by decide +kernel
theorem dX4_fewestPayments_61 : decode cX4_fewestPayments 61 = .ok (.getfield 52, 3) := by decide +kernel
theorem dX4_fewestPayments_64 : decode cX4_fewestPayments 64 = .ok (.ishl, 1) := by decide +kernel
theorem dX4_fewestPayments_65 : decode cX4_fewestPayments 65 = .ok (.istore_n 2, 1) := by decide +kernel
theorem dX4_fewestPayments_66 : decode cX4_fewestPayments 66 = .ok (.iconst 1, 1) := by decide +kernel
theorem dX4_fewestPayments_67 : decode cX4_fewestPayments 67 = .ok (.istore_n 3, 1) := by decide +kernel
theorem dX4_fewestPayments_68 : decode cX4_fewestPayments 68 = .ok (.iload_n 3, 1) := by decide +kernel
theorem dX4_fewestPayments_69 : decode cX4_fewestPayments 69 = .ok (.iload_n 2, 1) := by decide +kernel
theorem dX4_fewestPayments_70 : decode cX4_fewestPayments 70 = .ok (.if_icmp .ge 84, 3) := by decide +kernel
theorem dX4_fewestPayments_73 : decode cX4_fewestPayments 73 = .ok (.iconst 0, 1) := by decide +kernel
theorem dX4_fewestPayments_74 : decode cX4_fewestPayments 74 = .ok (.istore 4, 2) := by decide +kernel
theorem dX4_fewestPayments_76 : decode cX4_fewestPayments 76 = .ok (.iconst 0, 1) := by decide +kernel
theorem dX4_fewestPayments_77 : decode cX4_fewestPayments 77 = .ok (.istore 5, 2) := by decide +kernel
theorem dX4_fewestPayments_79 : decode cX4_fewestPayments 79 = .ok (.iload 5, 2) := by decide +kernel
theorem dX4_fewestPayments_81 : decode cX4_fewestPayments 81 = .ok (.aload_n 1, 1) := by decide +kernel
theorem dX4_fewestPayments_82 : decode cX4_fewestPayments 82 = .ok (.getfield 52, 3) := by decide +kernel
theorem dX4_fewestPayments_85 : decode cX4_fewestPayments 85 = .ok (.if_icmp .ge 37, 3) := by decide +kernel
theorem dX4_fewestPayments_88 : decode cX4_fewestPayments 88 = .ok (.iload_n 3, 1) := by decide +kernel
theorem dX4_fewestPayments_89 : decode cX4_fewestPayments 89 = .ok (.iload 5, 2) := by decide +kernel
theorem dX4_fewestPayments_91 : decode cX4_fewestPayments 91 = .ok (.ishr, 1) := by decide +kernel
theorem dX4_fewestPayments_92 : decode cX4_fewestPayments 92 = .ok (.iconst 1, 1) := by decide +kernel
theorem dX4_fewestPayments_93 : decode cX4_fewestPayments 93 = .ok (.iand, 1) := by decide +kernel
theorem dX4_fewestPayments_94 : decode cX4_fewestPayments 94 = .ok (.iconst 1, 1) := by decide +kernel
theorem dX4_fewestPayments_95 : decode cX4_fewestPayments 95 = .ok (.if_icmp .ne 21, 3) := by decide +kernel
theorem dX4_fewestPayments_98 : decode cX4_fewestPayments 98 = .ok (.iload 4, 2) := by decide +kernel
theorem dX4_fewestPayments_100 : decode cX4_fewestPayments 100 = .ok (.aload_n 0, 1) := by decide +kernel
theorem dX4_fewestPayments_101 : decode cX4_fewestPayments 101 = .ok (.getfield 18, 3) := by decide +kernel
theorem dX4_fewestPayments_104 : decode cX4_fewestPayments 104 = .ok (.iload_n 3, 1) := by decide +kernel
theorem dX4_fewestPayments_105 : decode cX4_fewestPayments 105 = .ok (.iconst 1, 1) := by decide +kernel
theorem dX4_fewestPayments_106 : decode cX4_fewestPayments 106 = .ok (.iload 5, 2) := by decide +kernel
theorem dX4_fewestPayments_108 : decode cX4_fewestPayments 108 = .ok (.ishl, 1) := by decide +kernel
theorem dX4_fewestPayments_109 : decode cX4_fewestPayments 109 = .ok (.ixor, 1) := by decide +kernel
theorem dX4_fewestPayments_110 : decode cX4_fewestPayments 110 = .ok (.iaload, 1) := by decide +kernel
theorem dX4_fewestPayments_111 : decode cX4_fewestPayments 111 = .ok (.invokestatic 80, 3) := by decide +kernel
theorem dX4_fewestPayments_114 : decode cX4_fewestPayments 114 = .ok (.istore 4, 2) := by decide +kernel
theorem dX4_fewestPayments_116 : decode cX4_fewestPayments 116 = .ok (.iinc 5 1, 3) := by decide +kernel
theorem dX4_fewestPayments_119 : decode cX4_fewestPayments 119 = .ok (.goto (-40), 3) := by decide +kernel
theorem dX4_fewestPayments_122 : decode cX4_fewestPayments 122 = .ok (.aload_n 0, 1) := by decide +kernel
theorem dX4_fewestPayments_123 : decode cX4_fewestPayments 123 = .ok (.getfield 18, 3) := by decide +kernel
theorem dX4_fewestPayments_126 : decode cX4_fewestPayments 126 = .ok (.iload_n 3, 1) := by decide +kernel
theorem dX4_fewestPayments_127 : decode cX4_fewestPayments 127 = .ok (.iload 4, 2) := by decide +kernel
theorem dX4_fewestPayments_129 : decode cX4_fewestPayments 129 = .ok (.aload_n 0, 1) := by decide +kernel
theorem dX4_fewestPayments_130 : decode cX4_fewestPayments 130 = .ok (.getfield 15, 3) := by decide +kernel
theorem dX4_fewestPayments_133 : decode cX4_fewestPayments 133 = .ok (.iload_n 3, 1) := by decide +kernel
theorem dX4_fewestPayments_134 : decode cX4_fewestPayments 134 = .ok (.iaload, 1) := by decide +kernel
theorem dX4_fewestPayments_135 : decode cX4_fewestPayments 135 = .ok (.ifCond .ne 7, 3) := by decide +kernel
theorem dX4_fewestPayments_138 : decode cX4_fewestPayments 138 = .ok (.iconst 1, 1) := by decide +kernel
theorem dX4_fewestPayments_139 : decode cX4_fewestPayments 139 = .ok (.goto 4, 3) := by decide +kernel
theorem dX4_fewestPayments_142 : decode cX4_fewestPayments 142 = .ok (.iconst 0, 1) := by decide +kernel
theorem dX4_fewestPayments_143 : decode cX4_fewestPayments 143 = .ok (.invokestatic 66, 3) := by decide +kernel
theorem dX4_fewestPayments_146 : decode cX4_fewestPayments 146 = .ok (.iadd, 1) := by decide +kernel
theorem dX4_fewestPayments_147 : decode cX4_fewestPayments 147 = .ok (.iastore, 1) := by decide +kernel
theorem dX4_fewestPayments_148 : decode cX4_fewestPayments 148 = .ok (.iinc 3 1, 3) := by decide +kernel
theorem dX4_fewestPayments_151 : decode cX4_fewestPayments 151 = .ok (.goto (-83), 3) := by decide +kernel
theorem dX4_fewestPayments_154 : decode cX4_fewestPayments 154 = .ok (.aload_n 1, 1) := by decide +kernel
theorem dX4_fewestPayments_155 : decode cX4_fewestPayments 155 = .ok (.getfield 52, 3) := by decide +kernel
theorem dX4_fewestPayments_158 : decode cX4_fewestPayments 158 = .ok (.aload_n 0, 1) := by decide +kernel
theorem dX4_fewestPayments_159 : decode cX4_fewestPayments 159 = .ok (.getfield 18, 3) := by decide +kernel
theorem dX4_fewestPayments_162 : decode cX4_fewestPayments 162 = .ok (.iload_n 2, 1) := by decide +kernel
theorem dX4_fewestPayments_163 : decode cX4_fewestPayments 163 = .ok (.iconst 1, 1) := by decide +kernel
theorem dX4_fewestPayments_164 : decode cX4_fewestPayments 164 = .ok (.isub, 1) := by decide +kernel
theorem dX4_fewestPayments_165 : decode cX4_fewestPayments 165 = .ok (.iaload, 1) := by decide +kernel
theorem dX4_fewestPayments_166 : decode cX4_fewestPayments 166 = .ok (.isub, 1) := by decide +kernel
theorem dX4_fewestPayments_167 : decode cX4_fewestPayments 167 = .ok (.ireturn, 1) := by decide +kernel
theorem dX4_fitsSet_0 : decode cX4_fitsSet 0 = .ok (.iconst 0, 1) := by decide +kernel
theorem dX4_fitsSet_1 : decode cX4_fitsSet 1 = .ok (.istore 4, 2) := by decide +kernel
theorem dX4_fitsSet_3 : decode cX4_fitsSet 3 = .ok (.iload 4, 2) := by decide +kernel
theorem dX4_fitsSet_5 : decode cX4_fitsSet 5 = .ok (.aload_n 2, 1) := by decide +kernel
theorem dX4_fitsSet_6 : decode cX4_fitsSet 6 = .ok (.getfield 85, 3) := by decide +kernel
theorem dX4_fitsSet_9 : decode cX4_fitsSet 9 = .ok (.if_icmp .ge 77, 3) := by decide +kernel
theorem dX4_fitsSet_12 : decode cX4_fitsSet 12 = .ok (.iload 4, 2) := by decide +kernel
theorem dX4_fitsSet_14 : decode cX4_fitsSet 14 = .ok (.iconst 5, 1) := by decide +kernel
theorem dX4_fitsSet_15 : decode cX4_fitsSet 15 = .ok (.if_icmp .ge 71, 3) := by decide +kernel
theorem dX4_fitsSet_18 : decode cX4_fitsSet 18 = .ok (.iconst 0, 1) := by decide +kernel
theorem dX4_fitsSet_19 : decode cX4_fitsSet 19 = .ok (.istore 5, 2) := by decide +kernel
theorem dX4_fitsSet_21 : decode cX4_fitsSet 21 = .ok (.iconst 0, 1) := by decide +kernel
theorem dX4_fitsSet_22 : decode cX4_fitsSet 22 = .ok (.istore 6, 2) := by decide +kernel
theorem dX4_fitsSet_24 : decode cX4_fitsSet 24 = .ok (.iload 6, 2) := by decide +kernel
theorem dX4_fitsSet_26 : decode cX4_fitsSet 26 = .ok (.aload_n 1, 1) := by decide +kernel
theorem dX4_fitsSet_27 : decode cX4_fitsSet 27 = .ok (.getfield 52, 3) := by decide +kernel
theorem dX4_fitsSet_30 : decode cX4_fitsSet 30 = .ok (.if_icmp .ge 36, 3) := by decide +kernel
theorem dX4_fitsSet_33 : decode cX4_fitsSet 33 = .ok (.iload_n 3, 1) := by decide +kernel
theorem dX4_fitsSet_34 : decode cX4_fitsSet 34 = .ok (.iload 6, 2) := by decide +kernel
theorem dX4_fitsSet_36 : decode cX4_fitsSet 36 = .ok (.ishr, 1) := by decide +kernel
theorem dX4_fitsSet_37 : decode cX4_fitsSet 37 = .ok (.iconst 1, 1) := by decide +kernel
theorem dX4_fitsSet_38 : decode cX4_fitsSet 38 = .ok (.iand, 1) := by decide +kernel
theorem dX4_fitsSet_39 : decode cX4_fitsSet 39 = .ok (.iconst 1, 1) := by decide +kernel
theorem dX4_fitsSet_40 : decode cX4_fitsSet 40 = .ok (.if_icmp .ne 20, 3) := by decide +kernel
theorem dX4_fitsSet_43 : decode cX4_fitsSet 43 = .ok (.iload 5, 2) := by decide +kernel
theorem dX4_fitsSet_45 : decode cX4_fitsSet 45 = .ok (.aload_n 1, 1) := by decide +kernel
theorem dX4_fitsSet_46 : decode cX4_fitsSet 46 = .ok (.getfield 21, 3) := by decide +kernel
theorem dX4_fitsSet_49 : decode cX4_fitsSet 49 = .ok (.iload 6, 2) := by decide +kernel
theorem dX4_fitsSet_51 : decode cX4_fitsSet 51 = .ok (.iload 4, 2) := by decide +kernel
theorem dX4_fitsSet_53 : decode cX4_fitsSet 53 = .ok (.invokestatic 26, 3) := by decide +kernel
theorem dX4_fitsSet_56 : decode cX4_fitsSet 56 = .ok (.iaload, 1) := by decide +kernel
theorem dX4_fitsSet_57 : decode cX4_fitsSet 57 = .ok (.iadd, 1) := by decide +kernel
theorem dX4_fitsSet_58 : decode cX4_fitsSet 58 = .ok (.istore 5, 2) := by decide +kernel
theorem dX4_fitsSet_60 : decode cX4_fitsSet 60 = .ok (.iinc 6 1, 3) := by decide +kernel
theorem dX4_fitsSet_63 : decode cX4_fitsSet 63 = .ok (.goto (-39), 3) := by decide +kernel
theorem dX4_fitsSet_66 : decode cX4_fitsSet 66 = .ok (.iload 5, 2) := by decide +kernel
theorem dX4_fitsSet_68 : decode cX4_fitsSet 68 = .ok (.aload_n 2, 1) := by decide +kernel
theorem dX4_fitsSet_69 : decode cX4_fitsSet 69 = .ok (.getfield 90, 3) := by decide +kernel
theorem dX4_fitsSet_72 : decode cX4_fitsSet 72 = .ok (.iload 4, 2) := by decide +kernel
theorem dX4_fitsSet_74 : decode cX4_fitsSet 74 = .ok (.iaload, 1) := by decide +kernel
theorem dX4_fitsSet_75 : decode cX4_fitsSet 75 = .ok (.if_icmp .eq 5, 3) := by decide +kernel
theorem dX4_fitsSet_78 : decode cX4_fitsSet 78 = .ok (.iconst 0, 1) := by decide +kernel
theorem dX4_fitsSet_79 : decode cX4_fitsSet 79 = .ok (.ireturn, 1) := by decide +kernel
theorem dX4_fitsSet_80 : decode cX4_fitsSet 80 = .ok (.iinc 4 1, 3) := by decide +kernel
theorem dX4_fitsSet_83 : decode cX4_fitsSet 83 = .ok (.goto (-80), 3) := by decide +kernel
theorem dX4_fitsSet_86 : decode cX4_fitsSet 86 = .ok (.iconst 1, 1) := by decide +kernel
theorem dX4_fitsSet_87 : decode cX4_fitsSet 87 = .ok (.ireturn, 1) := by decide +kernel
theorem dX4_setsThatFit_0 : decode cX4_setsThatFit 0 = .ok (.iconst 0, 1) := by decide +kernel
theorem dX4_setsThatFit_1 : decode cX4_setsThatFit 1 = .ok (.istore_n 3, 1) := by decide +kernel
theorem dX4_setsThatFit_2 : decode cX4_setsThatFit 2 = .ok (.iconst 1, 1) := by decide +kernel
theorem dX4_setsThatFit_3 : decode cX4_setsThatFit 3 = .ok (.istore 4, 2) := by decide +kernel
theorem dX4_setsThatFit_5 : decode cX4_setsThatFit 5 = .ok (.iload 4, 2) := by decide +kernel
theorem dX4_setsThatFit_7 : decode cX4_setsThatFit 7 = .ok (.iconst 1, 1) := by decide +kernel
theorem dX4_setsThatFit_8 : decode cX4_setsThatFit 8 = .ok (.aload_n 1, 1) := by decide +kernel
theorem dX4_setsThatFit_9 : decode cX4_setsThatFit 9 = .ok (.getfield 52, 3) := by decide +kernel
theorem dX4_setsThatFit_12 : decode cX4_setsThatFit 12 = .ok (.ishl, 1) := by decide +kernel
theorem dX4_setsThatFit_13 : decode cX4_setsThatFit 13 = .ok (.if_icmp .ge 23, 3) := by decide +kernel
theorem dX4_setsThatFit_16 : decode cX4_setsThatFit 16 = .ok (.iload_n 3, 1) := by decide +kernel
theorem dX4_setsThatFit_17 : decode cX4_setsThatFit 17 = .ok (.aload_n 0, 1) := by decide +kernel
theorem dX4_setsThatFit_18 : decode cX4_setsThatFit 18 = .ok (.aload_n 1, 1) := by decide +kernel
theorem dX4_setsThatFit_19 : decode cX4_setsThatFit 19 = .ok (.aload_n 2, 1) := by decide +kernel
theorem dX4_setsThatFit_20 : decode cX4_setsThatFit 20 = .ok (.iload 4, 2) := by decide +kernel
theorem dX4_setsThatFit_22 : decode cX4_setsThatFit 22 = .ok (.invokevirtual 93, 3) := by decide +kernel
theorem dX4_setsThatFit_25 : decode cX4_setsThatFit 25 = .ok (.invokestatic 66, 3) := by decide +kernel
theorem dX4_setsThatFit_28 : decode cX4_setsThatFit 28 = .ok (.iadd, 1) := by decide +kernel
theorem dX4_setsThatFit_29 : decode cX4_setsThatFit 29 = .ok (.istore_n 3, 1) := by decide +kernel
theorem dX4_setsThatFit_30 : decode cX4_setsThatFit 30 = .ok (.iinc 4 1, 3) := by decide +kernel
theorem dX4_setsThatFit_33 : decode cX4_setsThatFit 33 = .ok (.goto (-28), 3) := by decide +kernel
theorem dX4_setsThatFit_36 : decode cX4_setsThatFit 36 = .ok (.iload_n 3, 1) := by decide +kernel
theorem dX4_setsThatFit_37 : decode cX4_setsThatFit 37 = .ok (.ireturn, 1) := by decide +kernel
theorem dX4_leastThatFits_0 : decode cX4_leastThatFits 0 = .ok (.iconst 1, 1) := by decide +kernel
theorem dX4_leastThatFits_1 : decode cX4_leastThatFits 1 = .ok (.istore_n 3, 1) := by decide +kernel
theorem dX4_leastThatFits_2 : decode cX4_leastThatFits 2 = .ok (.iload_n 3, 1) := by decide +kernel
theorem dX4_leastThatFits_3 : decode cX4_leastThatFits 3 = .ok (.iconst 1, 1) := by decide +kernel
theorem dX4_leastThatFits_4 : decode cX4_leastThatFits 4 = .ok (.aload_n 1, 1) := by decide +kernel
theorem dX4_leastThatFits_5 : decode cX4_leastThatFits 5 = .ok (.getfield 52, 3) := by decide +kernel
theorem dX4_leastThatFits_8 : decode cX4_leastThatFits 8 = .ok (.ishl, 1) := by decide +kernel
theorem dX4_leastThatFits_9 : decode cX4_leastThatFits 9 = .ok (.if_icmp .ge 21, 3) := by decide +kernel
theorem dX4_leastThatFits_12 : decode cX4_leastThatFits 12 = .ok (.aload_n 0, 1) := by decide +kernel
theorem dX4_leastThatFits_13 : decode cX4_leastThatFits 13 = .ok (.aload_n 1, 1) := by decide +kernel
theorem dX4_leastThatFits_14 : decode cX4_leastThatFits 14 = .ok (.aload_n 2, 1) := by decide +kernel
theorem dX4_leastThatFits_15 : decode cX4_leastThatFits 15 = .ok (.iload_n 3, 1) := by decide +kernel
theorem dX4_leastThatFits_16 : decode cX4_leastThatFits 16 = .ok (.invokevirtual 93, 3) := by decide +kernel
theorem dX4_leastThatFits_19 : decode cX4_leastThatFits 19 = .ok (.ifCond .eq 5, 3) := by decide +kernel
theorem dX4_leastThatFits_22 : decode cX4_leastThatFits 22 = .ok (.iload_n 3, 1) := by decide +kernel
theorem dX4_leastThatFits_23 : decode cX4_leastThatFits 23 = .ok (.ireturn, 1) := by decide +kernel
theorem dX4_leastThatFits_24 : decode cX4_leastThatFits 24 = .ok (.iinc 3 1, 3) := by decide +kernel
theorem dX4_leastThatFits_27 : decode cX4_leastThatFits 27 = .ok (.goto (-25), 3) := by decide +kernel
theorem dX4_leastThatFits_30 : decode cX4_leastThatFits 30 = .ok (.iconst 0, 1) := by decide +kernel
theorem dX4_leastThatFits_31 : decode cX4_leastThatFits 31 = .ok (.ireturn, 1) := by decide +kernel
theorem dX5_init_0 : decode cX5_init 0 = .ok (.aload_n 0, 1) := by decide +kernel
theorem dX5_init_1 : decode cX5_init 1 = .ok (.invokespecial 3, 3) := by decide +kernel
theorem dX5_init_4 : decode cX5_init 4 = .ok (.aload_n 0, 1) := by decide +kernel
theorem dX5_init_5 : decode cX5_init 5 = .ok (.bipush 8, 2) := by decide +kernel
theorem dX5_init_7 : decode cX5_init 7 = .ok (.newarray .int, 2) := by decide +kernel
theorem dX5_init_9 : decode cX5_init 9 = .ok (.putfield 9, 3) := by decide +kernel
theorem dX5_init_12 : decode cX5_init 12 = .ok (.aload_n 0, 1) := by decide +kernel
theorem dX5_init_13 : decode cX5_init 13 = .ok (.bipush 8, 2) := by decide +kernel
theorem dX5_init_15 : decode cX5_init 15 = .ok (.newarray .int, 2) := by decide +kernel
theorem dX5_init_17 : decode cX5_init 17 = .ok (.putfield 15, 3) := by decide +kernel
theorem dX5_init_20 : decode cX5_init 20 = .ok (.aload_n 0, 1) := by decide +kernel
theorem dX5_init_21 : decode cX5_init 21 = .ok (.bipush 8, 2) := by decide +kernel
theorem dX5_init_23 : decode cX5_init 23 = .ok (.newarray .int, 2) := by decide +kernel
theorem dX5_init_25 : decode cX5_init 25 = .ok (.putfield 18, 3) := by decide +kernel
theorem dX5_init_28 : decode cX5_init 28 = .ok (.aload_n 0, 1) := by decide +kernel
theorem dX5_init_29 : decode cX5_init 29 = .ok (.bipush 8, 2) := by decide +kernel
theorem dX5_init_31 : decode cX5_init 31 = .ok (.newarray .int, 2) := by decide +kernel
theorem dX5_init_33 : decode cX5_init 33 = .ok (.putfield 21, 3) := by decide +kernel
theorem dX5_init_36 : decode cX5_init 36 = .ok (.aload_n 0, 1) := by decide +kernel
theorem dX5_init_37 : decode cX5_init 37 = .ok (.bipush 40, 2) := by decide +kernel
theorem dX5_init_39 : decode cX5_init 39 = .ok (.newarray .int, 2) := by decide +kernel
theorem dX5_init_41 : decode cX5_init 41 = .ok (.putfield 24, 3) := by decide +kernel
theorem dX5_init_44 : decode cX5_init 44 = .ok (.aload_n 0, 1) := by decide +kernel
theorem dX5_init_45 : decode cX5_init 45 = .ok (.bipush 64, 2) := by decide +kernel
theorem dX5_init_47 : decode cX5_init 47 = .ok (.newarray .int, 2) := by decide +kernel
theorem dX5_init_49 : decode cX5_init 49 = .ok (.putfield 27, 3) := by decide +kernel
theorem dX5_init_52 : decode cX5_init 52 = .ok (.aload_n 0, 1) := by decide +kernel
theorem dX5_init_53 : decode cX5_init 53 = .ok (.iconst 1, 1) := by decide +kernel
theorem dX5_init_54 : decode cX5_init 54 = .ok (.putfield 30, 3) := by decide +kernel
theorem dX5_init_57 : decode cX5_init 57 = .ok (.aload_n 0, 1) := by decide +kernel
theorem dX5_init_58 : decode cX5_init 58 = .ok (.bipush 60, 2) := by decide +kernel
theorem dX5_init_60 : decode cX5_init 60 = .ok (.newarray .int, 2) := by decide +kernel
theorem dX5_init_62 : decode cX5_init 62 = .ok (.putfield 34, 3) := by decide +kernel
theorem dX5_init_65 : decode cX5_init 65 = .ok (.aload_n 0, 1) := by decide +kernel
theorem dX5_init_66 : decode cX5_init 66 = .ok (.new 37, 3) := by decide +kernel
theorem dX5_init_69 : decode cX5_init 69 = .ok (.dup, 1) := by decide +kernel
theorem dX5_init_70 : decode cX5_init 70 = .ok (.invokespecial 39, 3) := by decide +kernel
theorem dX5_init_73 : decode cX5_init 73 = .ok (.putfield 40, 3) := by decide +kernel
theorem dX5_init_76 : decode cX5_init 76 = .ok (.aload_n 0, 1) := by decide +kernel
theorem dX5_init_77 : decode cX5_init 77 = .ok (.new 37, 3) := by decide +kernel
theorem dX5_init_80 : decode cX5_init 80 = .ok (.dup, 1) := by decide +kernel
theorem dX5_init_81 : decode cX5_init 81 = .ok (.invokespecial 39, 3) := by decide +kernel
theorem dX5_init_84 : decode cX5_init 84 = .ok (.putfield 44, 3) := by decide +kernel
theorem dX5_init_87 : decode cX5_init 87 = .ok (.aload_n 0, 1) := by decide +kernel
theorem dX5_init_88 : decode cX5_init 88 = .ok (.bipush 24, 2) := by decide +kernel
theorem dX5_init_90 : decode cX5_init 90 = .ok (.newarray .int, 2) := by decide +kernel
theorem dX5_init_92 : decode cX5_init 92 = .ok (.putfield 47, 3) := by decide +kernel
theorem dX5_init_95 : decode cX5_init 95 = .ok (.return_, 1) := by decide +kernel
theorem dX5_copyFrom_0 : decode cX5_copyFrom 0 = .ok (.aload_n 0, 1) := by decide +kernel
theorem dX5_copyFrom_1 : decode cX5_copyFrom 1 = .ok (.aload_n 1, 1) := by decide +kernel
theorem dX5_copyFrom_2 : decode cX5_copyFrom 2 = .ok (.getfield 50, 3) := by decide +kernel
theorem dX5_copyFrom_5 : decode cX5_copyFrom 5 = .ok (.putfield 50, 3) := by decide +kernel
theorem dX5_copyFrom_8 : decode cX5_copyFrom 8 = .ok (.aload_n 1, 1) := by decide +kernel
theorem dX5_copyFrom_9 : decode cX5_copyFrom 9 = .ok (.getfield 9, 3) := by decide +kernel
theorem dX5_copyFrom_12 : decode cX5_copyFrom 12 = .ok (.iconst 0, 1) := by decide +kernel
theorem dX5_copyFrom_13 : decode cX5_copyFrom 13 = .ok (.aload_n 0, 1) := by decide +kernel
theorem dX5_copyFrom_14 : decode cX5_copyFrom 14 = .ok (.getfield 9, 3) := by decide +kernel
theorem dX5_copyFrom_17 : decode cX5_copyFrom 17 = .ok (.iconst 0, 1) := by decide +kernel
theorem dX5_copyFrom_18 : decode cX5_copyFrom 18 = .ok (.bipush 8, 2) := by decide +kernel
theorem dX5_copyFrom_20 : decode cX5_copyFrom 20 = .ok (.invokestatic 53, 3) := by decide +kernel
theorem dX5_copyFrom_23 : decode cX5_copyFrom 23 = .ok (.aload_n 1, 1) := by decide +kernel
theorem dX5_copyFrom_24 : decode cX5_copyFrom 24 = .ok (.getfield 15, 3) := by decide +kernel
theorem dX5_copyFrom_27 : decode cX5_copyFrom 27 = .ok (.iconst 0, 1) := by decide +kernel
theorem dX5_copyFrom_28 : decode cX5_copyFrom 28 = .ok (.aload_n 0, 1) := by decide +kernel
theorem dX5_copyFrom_29 : decode cX5_copyFrom 29 = .ok (.getfield 15, 3) := by decide +kernel
theorem dX5_copyFrom_32 : decode cX5_copyFrom 32 = .ok (.iconst 0, 1) := by decide +kernel
theorem dX5_copyFrom_33 : decode cX5_copyFrom 33 = .ok (.bipush 8, 2) := by decide +kernel
theorem dX5_copyFrom_35 : decode cX5_copyFrom 35 = .ok (.invokestatic 53, 3) := by decide +kernel
theorem dX5_copyFrom_38 : decode cX5_copyFrom 38 = .ok (.aload_n 1, 1) := by decide +kernel
theorem dX5_copyFrom_39 : decode cX5_copyFrom 39 = .ok (.getfield 18, 3) := by decide +kernel
theorem dX5_copyFrom_42 : decode cX5_copyFrom 42 = .ok (.iconst 0, 1) := by decide +kernel
theorem dX5_copyFrom_43 : decode cX5_copyFrom 43 = .ok (.aload_n 0, 1) := by decide +kernel
theorem dX5_copyFrom_44 : decode cX5_copyFrom 44 = .ok (.getfield 18, 3) := by decide +kernel
theorem dX5_copyFrom_47 : decode cX5_copyFrom 47 = .ok (.iconst 0, 1) := by decide +kernel
theorem dX5_copyFrom_48 : decode cX5_copyFrom 48 = .ok (.bipush 8, 2) := by decide +kernel
theorem dX5_copyFrom_50 : decode cX5_copyFrom 50 = .ok (.invokestatic 53, 3) := by decide +kernel
theorem dX5_copyFrom_53 : decode cX5_copyFrom 53 = .ok (.aload_n 1, 1) := by decide +kernel
theorem dX5_copyFrom_54 : decode cX5_copyFrom 54 = .ok (.getfield 21, 3) := by decide +kernel
theorem dX5_copyFrom_57 : decode cX5_copyFrom 57 = .ok (.iconst 0, 1) := by decide +kernel
theorem dX5_copyFrom_58 : decode cX5_copyFrom 58 = .ok (.aload_n 0, 1) := by decide +kernel
theorem dX5_copyFrom_59 : decode cX5_copyFrom 59 = .ok (.getfield 21, 3) := by decide +kernel
theorem dX5_copyFrom_62 : decode cX5_copyFrom 62 = .ok (.iconst 0, 1) := by decide +kernel
theorem dX5_copyFrom_63 : decode cX5_copyFrom 63 = .ok (.bipush 8, 2) := by decide +kernel
theorem dX5_copyFrom_65 : decode cX5_copyFrom 65 = .ok (.invokestatic 53, 3) := by decide +kernel
theorem dX5_copyFrom_68 : decode cX5_copyFrom 68 = .ok (.aload_n 1, 1) := by decide +kernel
theorem dX5_copyFrom_69 : decode cX5_copyFrom 69 = .ok (.getfield 24, 3) := by decide +kernel
theorem dX5_copyFrom_72 : decode cX5_copyFrom 72 = .ok (.iconst 0, 1) := by decide +kernel
theorem dX5_copyFrom_73 : decode cX5_copyFrom 73 = .ok (.aload_n 0, 1) := by decide +kernel
theorem dX5_copyFrom_74 : decode cX5_copyFrom 74 = .ok (.getfield 24, 3) := by decide +kernel
theorem dX5_copyFrom_77 : decode cX5_copyFrom 77 = .ok (.iconst 0, 1) := by decide +kernel
theorem dX5_copyFrom_78 : decode cX5_copyFrom 78 = .ok (.bipush 40, 2) := by decide +kernel
theorem dX5_copyFrom_80 : decode cX5_copyFrom 80 = .ok (.invokestatic 53, 3) := by decide +kernel
theorem dX5_copyFrom_83 : decode cX5_copyFrom 83 = .ok (.aload_n 1, 1) := by decide +kernel
theorem dX5_copyFrom_84 : decode cX5_copyFrom 84 = .ok (.getfield 27, 3) := by decide +kernel
theorem dX5_copyFrom_87 : decode cX5_copyFrom 87 = .ok (.iconst 0, 1) := by decide +kernel
theorem dX5_copyFrom_88 : decode cX5_copyFrom 88 = .ok (.aload_n 0, 1) := by decide +kernel
theorem dX5_copyFrom_89 : decode cX5_copyFrom 89 = .ok (.getfield 27, 3) := by decide +kernel
theorem dX5_copyFrom_92 : decode cX5_copyFrom 92 = .ok (.iconst 0, 1) := by decide +kernel
theorem dX5_copyFrom_93 : decode cX5_copyFrom 93 = .ok (.bipush 64, 2) := by decide +kernel
theorem dX5_copyFrom_95 : decode cX5_copyFrom 95 = .ok (.invokestatic 53, 3) := by decide +kernel
theorem dX5_copyFrom_98 : decode cX5_copyFrom 98 = .ok (.aload_n 0, 1) := by decide +kernel
theorem dX5_copyFrom_99 : decode cX5_copyFrom 99 = .ok (.aload_n 1, 1) := by decide +kernel
theorem dX5_copyFrom_100 : decode cX5_copyFrom 100 = .ok (.getfield 59, 3) := by decide +kernel
theorem dX5_copyFrom_103 : decode cX5_copyFrom 103 = .ok (.putfield 59, 3) := by decide +kernel
theorem dX5_copyFrom_106 : decode cX5_copyFrom 106 = .ok (.aload_n 0, 1) := by decide +kernel
theorem dX5_copyFrom_107 : decode cX5_copyFrom 107 = .ok (.aload_n 1, 1) := by decide +kernel
theorem dX5_copyFrom_108 : decode cX5_copyFrom 108 = .ok (.getfield 30, 3) := by decide +kernel
theorem dX5_copyFrom_111 : decode cX5_copyFrom 111 = .ok (.putfield 30, 3) := by decide +kernel
theorem dX5_copyFrom_114 : decode cX5_copyFrom 114 = .ok (.aload_n 1, 1) := by decide +kernel
theorem dX5_copyFrom_115 : decode cX5_copyFrom 115 = .ok (.getfield 34, 3) := by decide +kernel
theorem dX5_copyFrom_118 : decode cX5_copyFrom 118 = .ok (.iconst 0, 1) := by decide +kernel
theorem dX5_copyFrom_119 : decode cX5_copyFrom 119 = .ok (.aload_n 0, 1) := by decide +kernel
theorem dX5_copyFrom_120 : decode cX5_copyFrom 120 = .ok (.getfield 34, 3) := by decide +kernel
theorem dX5_copyFrom_123 : decode cX5_copyFrom 123 = .ok (.iconst 0, 1) := by decide +kernel
theorem dX5_copyFrom_124 : decode cX5_copyFrom 124 = .ok (.bipush 60, 2) := by decide +kernel
theorem dX5_copyFrom_126 : decode cX5_copyFrom 126 = .ok (.invokestatic 53, 3) := by decide +kernel
theorem dX5_copyFrom_129 : decode cX5_copyFrom 129 = .ok (.aload_n 0, 1) := by decide +kernel
theorem dX5_copyFrom_130 : decode cX5_copyFrom 130 = .ok (.aload_n 1, 1) := by decide +kernel
theorem dX5_copyFrom_131 : decode cX5_copyFrom 131 = .ok (.getfield 62, 3) := by decide +kernel
theorem dX5_copyFrom_134 : decode cX5_copyFrom 134 = .ok (.putfield 62, 3) := by decide +kernel
theorem dX5_copyFrom_137 : decode cX5_copyFrom 137 = .ok (.aload_n 0, 1) := by decide +kernel
theorem dX5_copyFrom_138 : decode cX5_copyFrom 138 = .ok (.getfield 40, 3) := by decide +kernel
theorem dX5_copyFrom_141 : decode cX5_copyFrom 141 = .ok (.aload_n 1, 1) := by decide +kernel
theorem dX5_copyFrom_142 : decode cX5_copyFrom 142 = .ok (.getfield 40, 3) := by decide +kernel
theorem dX5_copyFrom_145 : decode cX5_copyFrom 145 = .ok (.invokevirtual 65, 3) := by decide +kernel
theorem dX5_copyFrom_148 : decode cX5_copyFrom 148 = .ok (.aload_n 0, 1) := by decide +kernel
theorem dX5_copyFrom_149 : decode cX5_copyFrom 149 = .ok (.getfield 44, 3) := by decide +kernel
theorem dX5_copyFrom_152 : decode cX5_copyFrom 152 = .ok (.aload_n 1, 1) := by decide +kernel
theorem dX5_copyFrom_153 : decode cX5_copyFrom 153 = .ok (.getfield 44, 3) := by decide +kernel
theorem dX5_copyFrom_156 : decode cX5_copyFrom 156 = .ok (.invokevirtual 65, 3) := by decide +kernel
theorem dX5_copyFrom_159 : decode cX5_copyFrom 159 = .ok (.aload_n 1, 1) := by decide +kernel
theorem dX5_copyFrom_160 : decode cX5_copyFrom 160 = .ok (.getfield 47, 3) := by decide +kernel
theorem dX5_copyFrom_163 : decode cX5_copyFrom 163 = .ok (.iconst 0, 1) := by decide +kernel
theorem dX5_copyFrom_164 : decode cX5_copyFrom 164 = .ok (.aload_n 0, 1) := by decide +kernel
theorem dX5_copyFrom_165 : decode cX5_copyFrom 165 = .ok (.getfield 47, 3) := by decide +kernel
theorem dX5_copyFrom_168 : decode cX5_copyFrom 168 = .ok (.iconst 0, 1) := by decide +kernel
theorem dX5_copyFrom_169 : decode cX5_copyFrom 169 = .ok (.bipush 24, 2) := by decide +kernel
theorem dX5_copyFrom_171 : decode cX5_copyFrom 171 = .ok (.invokestatic 53, 3) := by decide +kernel
theorem dX5_copyFrom_174 : decode cX5_copyFrom 174 = .ok (.aload_n 0, 1) := by decide +kernel
theorem dX5_copyFrom_175 : decode cX5_copyFrom 175 = .ok (.aload_n 1, 1) := by decide +kernel
theorem dX5_copyFrom_176 : decode cX5_copyFrom 176 = .ok (.getfield 69, 3) := by decide +kernel
theorem dX5_copyFrom_179 : decode cX5_copyFrom 179 = .ok (.putfield 69, 3) := by decide +kernel
theorem dX5_copyFrom_182 : decode cX5_copyFrom 182 = .ok (.return_, 1) := by decide +kernel
theorem dX5_kindOf_0 : decode cX5_kindOf 0 = .ok (.aload_n 0, 1) := by decide +kernel
theorem dX5_kindOf_1 : decode cX5_kindOf 1 = .ok (.getfield 9, 3) := by decide +kernel
theorem dX5_kindOf_4 : decode cX5_kindOf 4 = .ok (.iload_n 1, 1) := by decide +kernel
theorem dX5_kindOf_5 : decode cX5_kindOf 5 = .ok (.iaload, 1) := by decide +kernel
theorem dX5_kindOf_6 : decode cX5_kindOf 6 = .ok (.bipush 10, 2) := by decide +kernel
theorem dX5_kindOf_8 : decode cX5_kindOf 8 = .ok (.idiv, 1) := by decide +kernel
theorem dX5_kindOf_9 : decode cX5_kindOf 9 = .ok (.ireturn, 1) := by decide +kernel
theorem dX5_numberOf_0 : decode cX5_numberOf 0 = .ok (.aload_n 0, 1) := by decide +kernel
theorem dX5_numberOf_1 : decode cX5_numberOf 1 = .ok (.getfield 9, 3) := by decide +kernel
theorem dX5_numberOf_4 : decode cX5_numberOf 4 = .ok (.iload_n 1, 1) := by decide +kernel
theorem dX5_numberOf_5 : decode cX5_numberOf 5 = .ok (.iaload, 1) := by decide +kernel
theorem dX5_numberOf_6 : decode cX5_numberOf 6 = .ok (.bipush 10, 2) := by decide +kernel
theorem dX5_numberOf_8 : decode cX5_numberOf 8 = .ok (.irem, 1) := by decide +kernel
theorem dX5_numberOf_9 : decode cX5_numberOf 9 = .ok (.ireturn, 1) := by decide +kernel
theorem dX5_addOrphan_0 : decode cX5_addOrphan 0 = .ok (.aload_n 0, 1) := by decide +kernel
theorem dX5_addOrphan_1 : decode cX5_addOrphan 1 = .ok (.getfield 50, 3) := by decide +kernel
theorem dX5_addOrphan_4 : decode cX5_addOrphan 4 = .ok (.istore_n 2, 1) := by decide +kernel
theorem dX5_addOrphan_5 : decode cX5_addOrphan 5 = .ok (.aload_n 0, 1) := by decide +kernel
theorem dX5_addOrphan_6 : decode cX5_addOrphan 6 = .ok (.getfield 9, 3) := by decide +kernel
theorem dX5_addOrphan_9 : decode cX5_addOrphan 9 = .ok (.iload_n 2, 1) := by decide +kernel
theorem dX5_addOrphan_10 : decode cX5_addOrphan 10 = .ok (.iload_n 1, 1) := by decide +kernel
theorem dX5_addOrphan_11 : decode cX5_addOrphan 11 = .ok (.iastore, 1) := by decide +kernel
theorem dX5_addOrphan_12 : decode cX5_addOrphan 12 = .ok (.aload_n 0, 1) := by decide +kernel
theorem dX5_addOrphan_13 : decode cX5_addOrphan 13 = .ok (.getfield 15, 3) := by decide +kernel
theorem dX5_addOrphan_16 : decode cX5_addOrphan 16 = .ok (.iload_n 2, 1) := by decide +kernel
theorem dX5_addOrphan_17 : decode cX5_addOrphan 17 = .ok (.iconst (-1), 1) := by decide +kernel
theorem dX5_addOrphan_18 : decode cX5_addOrphan 18 = .ok (.iastore, 1) := by decide +kernel
theorem dX5_addOrphan_19 : decode cX5_addOrphan 19 = .ok (.aload_n 0, 1) := by decide +kernel
theorem dX5_addOrphan_20 : decode cX5_addOrphan 20 = .ok (.getfield 18, 3) := by decide +kernel
theorem dX5_addOrphan_23 : decode cX5_addOrphan 23 = .ok (.iload_n 2, 1) := by decide +kernel
theorem dX5_addOrphan_24 : decode cX5_addOrphan 24 = .ok (.iconst (-1), 1) := by decide +kernel
theorem dX5_addOrphan_25 : decode cX5_addOrphan 25 = .ok (.iastore, 1) := by decide +kernel
theorem dX5_addOrphan_26 : decode cX5_addOrphan 26 = .ok (.aload_n 0, 1) := by decide +kernel
theorem dX5_addOrphan_27 : decode cX5_addOrphan 27 = .ok (.dup, 1) := by decide +kernel
theorem dX5_addOrphan_28 : decode cX5_addOrphan 28 = .ok (.getfield 50, 3) := by decide +kernel
theorem dX5_addOrphan_31 : decode cX5_addOrphan 31 = .ok (.iconst 1, 1) := by decide +kernel
theorem dX5_addOrphan_32 : decode cX5_addOrphan 32 = .ok (.iadd, 1) := by decide +kernel
theorem dX5_addOrphan_33 : decode cX5_addOrphan 33 = .ok (.putfield 50, 3) := by decide +kernel
theorem dX5_addOrphan_36 : decode cX5_addOrphan 36 = .ok (.iload_n 2, 1) := by decide +kernel
theorem dX5_addOrphan_37 : decode cX5_addOrphan 37 = .ok (.ireturn, 1) := by decide +kernel
theorem dX5_addChild_0 : decode cX5_addChild 0 = .ok (.aload_n 0, 1) := by decide +kernel
theorem dX5_addChild_1 : decode cX5_addChild 1 = .ok (.iload_n 1, 1) := by decide +kernel
theorem dX5_addChild_2 : decode cX5_addChild 2 = .ok (.invokevirtual 72, 3) := by decide +kernel
theorem dX5_addChild_5 : decode cX5_addChild 5 = .ok (.istore 4, 2) := by decide +kernel
theorem dX5_addChild_7 : decode cX5_addChild 7 = .ok (.aload_n 0, 1) := by decide +kernel
theorem dX5_addChild_8 : decode cX5_addChild 8 = .ok (.getfield 15, 3) := by decide +kernel
theorem dX5_addChild_11 : decode cX5_addChild 11 = .ok (.iload 4, 2) := by decide +kernel
theorem dX5_addChild_13 : decode cX5_addChild 13 = .ok (.iload_n 2, 1) := by decide +kernel
theorem dX5_addChild_14 : decode cX5_addChild 14 = .ok (.iastore, 1) := by decide +kernel
theorem dX5_addChild_15 : decode cX5_addChild 15 = .ok (.aload_n 0, 1) := by decide +kernel
theorem dX5_addChild_16 : decode cX5_addChild 16 = .ok (.getfield 18, 3) := by decide +kernel
theorem dX5_addChild_19 : decode cX5_addChild 19 = .ok (.iload 4, 2) := by decide +kernel
theorem dX5_addChild_21 : decode cX5_addChild 21 = .ok (.iload_n 3, 1) := by decide +kernel
theorem dX5_addChild_22 : decode cX5_addChild 22 = .ok (.iastore, 1) := by decide +kernel
theorem dX5_addChild_23 : decode cX5_addChild 23 = .ok (.aload_n 0, 1) := by decide +kernel
theorem dX5_addChild_24 : decode cX5_addChild 24 = .ok (.getfield 21, 3) := by decide +kernel
theorem dX5_addChild_27 : decode cX5_addChild 27 = .ok (.iload 4, 2) := by decide +kernel
theorem dX5_addChild_29 : decode cX5_addChild 29 = .ok (.aload_n 0, 1) := by decide +kernel
theorem dX5_addChild_30 : decode cX5_addChild 30 = .ok (.iload_n 2, 1) := by decide +kernel
theorem dX5_addChild_31 : decode cX5_addChild 31 = .ok (.invokevirtual 76, 3) := by decide +kernel
theorem dX5_addChild_34 : decode cX5_addChild 34 = .ok (.aload_n 0, 1) := by decide +kernel
theorem dX5_addChild_35 : decode cX5_addChild 35 = .ok (.iload_n 3, 1) := by decide +kernel
theorem dX5_addChild_36 : decode cX5_addChild 36 = .ok (.invokevirtual 76, 3) := by decide +kernel
theorem dX5_addChild_39 : decode cX5_addChild 39 = .ok (.ior, 1) := by decide +kernel
theorem dX5_addChild_40 : decode cX5_addChild 40 = .ok (.iastore, 1) := by decide +kernel
theorem dX5_addChild_41 : decode cX5_addChild 41 = .ok (.iconst 0, 1) := by decide +kernel
theorem dX5_addChild_42 : decode cX5_addChild 42 = .ok (.istore 5, 2) := by decide +kernel
theorem dX5_addChild_44 : decode cX5_addChild 44 = .ok (.iload 5, 2) := by decide +kernel
theorem dX5_addChild_46 : decode cX5_addChild 46 = .ok (.iconst 5, 1) := by decide +kernel
theorem dX5_addChild_47 : decode cX5_addChild 47 = .ok (.if_icmp .ge 29, 3) := by decide +kernel
theorem dX5_addChild_50 : decode cX5_addChild 50 = .ok (.aload_n 0, 1) := by decide +kernel
theorem dX5_addChild_51 : decode cX5_addChild 51 = .ok (.getfield 24, 3) := by decide +kernel
theorem dX5_addChild_54 : decode cX5_addChild 54 = .ok (.iload 4, 2) := by decide +kernel
theorem dX5_addChild_56 : decode cX5_addChild 56 = .ok (.iload 5, 2) := by decide +kernel
theorem dX5_addChild_58 : decode cX5_addChild 58 = .ok (.invokestatic 79, 3) := by decide +kernel
theorem dX5_addChild_61 : decode cX5_addChild 61 = .ok (.aload_n 0, 1) := by decide +kernel
theorem dX5_addChild_62 : decode cX5_addChild 62 = .ok (.iload_n 2, 1) := by decide +kernel
theorem dX5_addChild_63 : decode cX5_addChild 63 = .ok (.iload_n 3, 1) := by decide +kernel
theorem dX5_addChild_64 : decode cX5_addChild 64 = .ok (.iload 5, 2) := by decide +kernel
theorem dX5_addChild_66 : decode cX5_addChild 66 = .ok (.invokevirtual 83, 3) := by decide +kernel
theorem dX5_addChild_69 : decode cX5_addChild 69 = .ok (.iastore, 1) := by decide +kernel
theorem dX5_addChild_70 : decode cX5_addChild 70 = .ok (.iinc 5 1, 3) := by decide +kernel
theorem dX5_addChild_73 : decode cX5_addChild 73 = .ok (.goto (-29), 3) := by decide +kernel
theorem dX5_addChild_76 : decode cX5_addChild 76 = .ok (.iload 4, 2) := by decide +kernel
theorem dX5_addChild_78 : decode cX5_addChild 78 = .ok (.ireturn, 1) := by decide +kernel
theorem dX5_withForebears_0 : decode cX5_withForebears 0 = .ok (.aload_n 0, 1) := by decide +kernel
theorem dX5_withForebears_1 : decode cX5_withForebears 1 = .ok (.getfield 21, 3) := by decide +kernel
theorem dX5_withForebears_4 : decode cX5_withForebears 4 = .ok (.iload_n 1, 1) := by decide +kernel
theorem dX5_withForebears_5 : decode cX5_withForebears 5 = .ok (.iaload, 1) := by decide +kernel
theorem dX5_withForebears_6 : decode cX5_withForebears 6 = .ok (.iconst 1, 1) := by decide +kernel
theorem dX5_withForebears_7 : decode cX5_withForebears 7 = .ok (.iload_n 1, 1) := by decide +kernel
theorem dX5_withForebears_8 : decode cX5_withForebears 8 = .ok (.ishl, 1) := by decide +kernel
theorem dX5_withForebears_9 : decode cX5_withForebears 9 = .ok (.ior, 1) := by decide +kernel
theorem dX5_withForebears_10 : decode cX5_withForebears 10 = .ok (.ireturn, 1) := by decide +kernel
theorem dX5_poured_0 : decode cX5_poured 0 = .ok (.aload_n 0, 1) := by decide +kernel
theorem dX5_poured_1 : decode cX5_poured 1 = .ok (.getfield 24, 3) := by decide +kernel
theorem dX5_poured_4 : decode cX5_poured 4 = .ok (.iload_n 1, 1) := by decide +kernel
theorem dX5_poured_5 : decode cX5_poured 5 = .ok (.iload_n 3, 1) := by decide +kernel
theorem dX5_poured_6 : decode cX5_poured 6 = .ok (.invokestatic 79, 3) := by decide +kernel
theorem dX5_poured_9 : decode cX5_poured 9 = .ok (.iaload, 1) := by decide +kernel
theorem dX5_poured_10 : decode cX5_poured 10 = .ok (.aload_n 0, 1) := by decide +kernel
theorem dX5_poured_11 : decode cX5_poured 11 = .ok (.getfield 24, 3) := by decide +kernel
theorem dX5_poured_14 : decode cX5_poured 14 = .ok (.iload_n 2, 1) := by decide +kernel
theorem dX5_poured_15 : decode cX5_poured 15 = .ok (.iload_n 3, 1) := by decide +kernel
theorem dX5_poured_16 : decode cX5_poured 16 = .ok (.invokestatic 79, 3) := by decide +kernel
theorem dX5_poured_19 : decode cX5_poured 19 = .ok (.iaload, 1) := by decide +kernel
theorem dX5_poured_20 : decode cX5_poured 20 = .ok (.iadd, 1) := by decide +kernel
theorem dX5_poured_21 : decode cX5_poured 21 = .ok (.iconst 2, 1) := by decide +kernel
theorem dX5_poured_22 : decode cX5_poured 22 = .ok (.idiv, 1) := by decide +kernel
theorem dX5_poured_23 : decode cX5_poured 23 = .ok (.ireturn, 1) := by decide +kernel
theorem dX5_pouredTogether_0 : decode cX5_pouredTogether 0 = .ok (.iconst 0, 1) := by decide +kernel
theorem dX5_pouredTogether_1 : decode cX5_pouredTogether 1 = .ok (.istore_n 3, 1) := by decide +kernel
theorem dX5_pouredTogether_2 : decode cX5_pouredTogether 2 = .ok (.iconst 0, 1) := by decide +kernel
theorem dX5_pouredTogether_3 : decode cX5_pouredTogether 3 = .ok (.istore 4, 2) := by decide +kernel
theorem dX5_pouredTogether_5 : decode cX5_pouredTogether 5 = .ok (.iload 4, 2) := by decide +kernel
theorem dX5_pouredTogether_7 : decode cX5_pouredTogether 7 = .ok (.iconst 5, 1) := by decide +kernel
theorem dX5_pouredTogether_8 : decode cX5_pouredTogether 8 = .ok (.if_icmp .ge 20, 3) := by decide +kernel
theorem dX5_pouredTogether_11 : decode cX5_pouredTogether 11 = .ok (.iload_n 3, 1) := by decide +kernel
theorem dX5_pouredTogether_12 : decode cX5_pouredTogether 12 = .ok (.aload_n 0, 1) := by decide +kernel
theorem dX5_pouredTogether_13 : decode cX5_pouredTogether 13 = .ok (.iload_n 1, 1) := by decide +kernel
theorem dX5_pouredTogether_14 : decode cX5_pouredTogether 14 = .ok (.iload_n 2, 1) := by decide +kernel
theorem dX5_pouredTogether_15 : decode cX5_pouredTogether 15 = .ok (.iload 4, 2) := by decide +kernel
theorem dX5_pouredTogether_17 : decode cX5_pouredTogether 17 = .ok (.invokevirtual 83, 3) := by decide +kernel
theorem dX5_pouredTogether_20 : decode cX5_pouredTogether 20 = .ok (.iadd, 1) := by decide +kernel
theorem dX5_pouredTogether_21 : decode cX5_pouredTogether 21 = .ok (.istore_n 3, 1) := by decide +kernel
theorem dX5_pouredTogether_22 : decode cX5_pouredTogether 22 = .ok (.iinc 4 1, 3) := by decide +kernel
theorem dX5_pouredTogether_25 : decode cX5_pouredTogether 25 = .ok (.goto (-20), 3) := by decide +kernel
theorem dX5_pouredTogether_28 : decode cX5_pouredTogether 28 = .ok (.iload_n 3, 1) := by decide +kernel
theorem dX5_pouredTogether_29 : decode cX5_pouredTogether 29 = .ok (.ireturn, 1) := by decide +kernel
theorem dX5_canGo_0 : decode cX5_canGo 0 = .ok (.aload_n 0, 1) := by decide +kernel
theorem dX5_canGo_1 : decode cX5_canGo 1 = .ok (.getfield 24, 3) := by decide +kernel
theorem dX5_canGo_4 : decode cX5_canGo 4 = .ok (.iload_n 1, 1) := by decide +kernel
theorem dX5_canGo_5 : decode cX5_canGo 5 = .ok (.iload_n 3, 1) := by decide +kernel
theorem dX5_canGo_6 : decode cX5_canGo 6 = .ok (.invokestatic 79, 3) := by decide +kernel
theorem dX5_canGo_9 : decode cX5_canGo 9 = .ok (.iaload, 1) := by decide +kernel
theorem dX5_canGo_10 : decode cX5_canGo 10 = .ok (.iload 4, 2) := by decide +kernel
theorem dX5_canGo_12 : decode cX5_canGo 12 = .ok (.if_icmp .lt 25, 3) := by decide +kernel
theorem dX5_canGo_15 : decode cX5_canGo 15 = .ok (.aload_n 0, 1) := by decide +kernel
theorem dX5_canGo_16 : decode cX5_canGo 16 = .ok (.getfield 24, 3) := by decide +kernel
theorem dX5_canGo_19 : decode cX5_canGo 19 = .ok (.iload_n 2, 1) := by decide +kernel
theorem dX5_canGo_20 : decode cX5_canGo 20 = .ok (.iload_n 3, 1) := by decide +kernel
theorem dX5_canGo_21 : decode cX5_canGo 21 = .ok (.invokestatic 79, 3) := by decide +kernel
theorem dX5_canGo_24 : decode cX5_canGo 24 = .ok (.iaload, 1) := by decide +kernel
theorem dX5_canGo_25 : decode cX5_canGo 25 = .ok (.iload 4, 2) := by decide +kernel
theorem dX5_canGo_27 : decode cX5_canGo 27 = .ok (.iadd, 1) := by decide +kernel
theorem dX5_canGo_28 : decode cX5_canGo 28 = .ok (.bipush 99, 2) := by decide +kernel
theorem dX5_canGo_30 : decode cX5_canGo 30 = .ok (.if_icmp .gt 7, 3) := by decide +kernel
theorem dX5_canGo_33 : decode cX5_canGo 33 = .ok (.iconst 1, 1) := by decide +kernel
theorem dX5_canGo_34 : decode cX5_canGo 34 = .ok (.goto 4, 3) := by decide +kernel
theorem dX5_canGo_37 : decode cX5_canGo 37 = .ok (.iconst 0, 1) := by decide +kernel
theorem dX5_canGo_38 : decode cX5_canGo 38 = .ok (.ireturn, 1) := by decide +kernel
theorem dX5_go_0 : decode cX5_go 0 = .ok (.aload_n 0, 1) := by decide +kernel
theorem dX5_go_1 : decode cX5_go 1 = .ok (.getfield 24, 3) := by decide +kernel
theorem dX5_go_4 : decode cX5_go 4 = .ok (.iload_n 1, 1) := by decide +kernel
theorem dX5_go_5 : decode cX5_go 5 = .ok (.iload_n 3, 1) := by decide +kernel
theorem dX5_go_6 : decode cX5_go 6 = .ok (.invokestatic 79, 3) := by decide +kernel
theorem dX5_go_9 : decode cX5_go 9 = .ok (.dup2, 1) := by decide +kernel
theorem dX5_go_10 : decode cX5_go 10 = .ok (.iaload, 1) := by decide +kernel
theorem dX5_go_11 : decode cX5_go 11 = .ok (.iload 4, 2) := by decide +kernel
theorem dX5_go_13 : decode cX5_go 13 = .ok (.isub, 1) := by decide +kernel
theorem dX5_go_14 : decode cX5_go 14 = .ok (.iastore, 1) := by decide +kernel
theorem dX5_go_15 : decode cX5_go 15 = .ok (.aload_n 0, 1) := by decide +kernel
theorem dX5_go_16 : decode cX5_go 16 = .ok (.getfield 24, 3) := by decide +kernel
theorem dX5_go_19 : decode cX5_go 19 = .ok (.iload_n 2, 1) := by decide +kernel
theorem dX5_go_20 : decode cX5_go 20 = .ok (.iload_n 3, 1) := by decide +kernel
theorem dX5_go_21 : decode cX5_go 21 = .ok (.invokestatic 79, 3) := by decide +kernel
theorem dX5_go_24 : decode cX5_go 24 = .ok (.dup2, 1) := by decide +kernel
theorem dX5_go_25 : decode cX5_go 25 = .ok (.iaload, 1) := by decide +kernel
theorem dX5_go_26 : decode cX5_go 26 = .ok (.iload 4, 2) := by decide +kernel
theorem dX5_go_28 : decode cX5_go 28 = .ok (.iadd, 1) := by decide +kernel
theorem dX5_go_29 : decode cX5_go 29 = .ok (.iastore, 1) := by decide +kernel
theorem dX5_go_30 : decode cX5_go 30 = .ok (.return_, 1) := by decide +kernel
theorem dX5_balanceOf_0 : decode cX5_balanceOf 0 = .ok (.iconst 0, 1) := by decide +kernel
theorem dX5_balanceOf_1 : decode cX5_balanceOf 1 = .ok (.istore_n 2, 1) := by decide +kernel
theorem dX5_balanceOf_2 : decode cX5_balanceOf 2 = .ok (.iconst 0, 1) := by decide +kernel
theorem dX5_balanceOf_3 : decode cX5_balanceOf 3 = .ok (.istore_n 3, 1) := by decide +kernel
theorem dX5_balanceOf_4 : decode cX5_balanceOf 4 = .ok (.iload_n 3, 1) := by decide +kernel
theorem dX5_balanceOf_5 : decode cX5_balanceOf 5 = .ok (.aload_n 0, 1) := by decide +kernel
theorem dX5_balanceOf_6 : decode cX5_balanceOf 6 = .ok (.getfield 50, 3) := by decide +kernel
theorem dX5_balanceOf_9 : decode cX5_balanceOf 9 = .ok (.if_icmp .ge 33, 3) := by decide +kernel
theorem dX5_balanceOf_12 : decode cX5_balanceOf 12 = .ok (.iload_n 2, 1) := by decide +kernel
theorem dX5_balanceOf_13 : decode cX5_balanceOf 13 = .ok (.aload_n 0, 1) := by decide +kernel
theorem dX5_balanceOf_14 : decode cX5_balanceOf 14 = .ok (.getfield 27, 3) := by decide +kernel
theorem dX5_balanceOf_17 : decode cX5_balanceOf 17 = .ok (.iload_n 3, 1) := by decide +kernel
theorem dX5_balanceOf_18 : decode cX5_balanceOf 18 = .ok (.iload_n 1, 1) := by decide +kernel
theorem dX5_balanceOf_19 : decode cX5_balanceOf 19 = .ok (.invokestatic 87, 3) := by decide +kernel
theorem dX5_balanceOf_22 : decode cX5_balanceOf 22 = .ok (.iaload, 1) := by decide +kernel
theorem dX5_balanceOf_23 : decode cX5_balanceOf 23 = .ok (.aload_n 0, 1) := by decide +kernel
theorem dX5_balanceOf_24 : decode cX5_balanceOf 24 = .ok (.getfield 27, 3) := by decide +kernel
theorem dX5_balanceOf_27 : decode cX5_balanceOf 27 = .ok (.iload_n 1, 1) := by decide +kernel
theorem dX5_balanceOf_28 : decode cX5_balanceOf 28 = .ok (.iload_n 3, 1) := by decide +kernel
theorem dX5_balanceOf_29 : decode cX5_balanceOf 29 = .ok (.invokestatic 87, 3) := by decide +kernel
theorem dX5_balanceOf_32 : decode cX5_balanceOf 32 = .ok (.iaload, 1) := by decide +kernel
theorem dX5_balanceOf_33 : decode cX5_balanceOf 33 = .ok (.isub, 1) := by decide +kernel
theorem dX5_balanceOf_34 : decode cX5_balanceOf 34 = .ok (.iadd, 1) := by decide +kernel
theorem dX5_balanceOf_35 : decode cX5_balanceOf 35 = .ok (.istore_n 2, 1) := by decide +kernel
theorem dX5_balanceOf_36 : decode cX5_balanceOf 36 = .ok (.iinc 3 1, 3) := by decide +kernel
theorem dX5_balanceOf_39 : decode cX5_balanceOf 39 = .ok (.goto (-35), 3) := by decide +kernel
theorem dX5_balanceOf_42 : decode cX5_balanceOf 42 = .ok (.iload_n 2, 1) := by decide +kernel
theorem dX5_balanceOf_43 : decode cX5_balanceOf 43 = .ok (.ireturn, 1) := by decide +kernel
theorem dX5_gets_0 : decode cX5_gets 0 = .ok (.aload_n 0, 1) := by decide +kernel
theorem dX5_gets_1 : decode cX5_gets 1 = .ok (.iload_n 1, 1) := by decide +kernel
theorem dX5_gets_2 : decode cX5_gets 2 = .ok (.invokevirtual 90, 3) := by decide +kernel
theorem dX5_gets_5 : decode cX5_gets 5 = .ok (.istore 5, 2) := by decide +kernel
theorem dX5_gets_7 : decode cX5_gets 7 = .ok (.iload 5, 2) := by decide +kernel
theorem dX5_gets_9 : decode cX5_gets 9 = .ok (.iconst 5, 1) := by decide +kernel
theorem dX5_gets_10 : decode cX5_gets 10 = .ok (.irem, 1) := by decide +kernel
theorem dX5_gets_11 : decode cX5_gets 11 = .ok (.iload_n 2, 1) := by decide +kernel
theorem dX5_gets_12 : decode cX5_gets 12 = .ok (.if_icmp .ne 7, 3) := by decide +kernel
theorem dX5_gets_15 : decode cX5_gets 15 = .ok (.iconst 1, 1) := by decide +kernel
theorem dX5_gets_16 : decode cX5_gets 16 = .ok (.goto 4, 3) := by decide +kernel
theorem dX5_gets_19 : decode cX5_gets 19 = .ok (.iconst 0, 1) := by decide +kernel
theorem dX5_gets_20 : decode cX5_gets 20 = .ok (.istore 6, 2) := by decide +kernel
theorem dX5_gets_22 : decode cX5_gets 22 = .ok (.iload_n 2, 1) := by decide +kernel
theorem dX5_gets_23 : decode cX5_gets 23 = .ok (.ifCond .ne 10, 3) := by decide +kernel
theorem dX5_gets_26 : decode cX5_gets 26 = .ok (.iload 6, 2) := by decide +kernel
theorem dX5_gets_28 : decode cX5_gets 28 = .ok (.iconst 2, 1) := by decide +kernel
theorem dX5_gets_29 : decode cX5_gets 29 = .ok (.iadd, 1) := by decide +kernel
theorem dX5_gets_30 : decode cX5_gets 30 = .ok (.goto 5, 3) := by decide +kernel
theorem dX5_gets_33 : decode cX5_gets 33 = .ok (.iload 6, 2) := by decide +kernel
theorem dX5_gets_35 : decode cX5_gets 35 = .ok (.istore 7, 2) := by decide +kernel
theorem dX5_gets_37 : decode cX5_gets 37 = .ok (.aload_n 0, 1) := by decide +kernel
theorem dX5_gets_38 : decode cX5_gets 38 = .ok (.iload_n 1, 1) := by decide +kernel
theorem dX5_gets_39 : decode cX5_gets 39 = .ok (.invokevirtual 93, 3) := by decide +kernel
theorem dX5_gets_42 : decode cX5_gets 42 = .ok (.tableswitch 88 1 6 #[38, 41, 46, 59, 67, 74], 38) := by decide +kernel
theorem dX5_gets_80 : decode cX5_gets 80 = .ok (.iload 7, 2) := by decide +kernel
theorem dX5_gets_82 : decode cX5_gets 82 = .ok (.ireturn, 1) := by decide +kernel
theorem dX5_gets_83 : decode cX5_gets 83 = .ok (.iconst 3, 1) := by decide +kernel
theorem dX5_gets_84 : decode cX5_gets 84 = .ok (.iload 6, 2) := by decide +kernel
theorem dX5_gets_86 : decode cX5_gets 86 = .ok (.imul, 1) := by decide +kernel
theorem dX5_gets_87 : decode cX5_gets 87 = .ok (.ireturn, 1) := by decide +kernel
theorem dX5_gets_88 : decode cX5_gets 88 = .ok (.iload_n 2, 1) := by decide +kernel
theorem dX5_gets_89 : decode cX5_gets 89 = .ok (.iconst 4, 1) := by decide +kernel
theorem dX5_gets_90 : decode cX5_gets 90 = .ok (.if_icmp .ne 8, 3) := by decide +kernel
theorem dX5_gets_93 : decode cX5_gets 93 = .ok (.iload 5, 2) := by decide +kernel
theorem dX5_gets_95 : decode cX5_gets 95 = .ok (.goto 5, 3) := by decide +kernel
theorem dX5_gets_98 : decode cX5_gets 98 = .ok (.iload 6, 2) := by decide +kernel
theorem dX5_gets_100 : decode cX5_gets 100 = .ok (.ireturn, 1) := by decide +kernel
theorem dX5_gets_101 : decode cX5_gets 101 = .ok (.iload 7, 2) := by decide +kernel
theorem dX5_gets_103 : decode cX5_gets 103 = .ok (.iload_n 3, 1) := by decide +kernel
theorem dX5_gets_104 : decode cX5_gets 104 = .ok (.bipush 10, 2) := by decide +kernel
theorem dX5_gets_106 : decode cX5_gets 106 = .ok (.idiv, 1) := by decide +kernel
theorem dX5_gets_107 : decode cX5_gets 107 = .ok (.iadd, 1) := by decide +kernel
theorem dX5_gets_108 : decode cX5_gets 108 = .ok (.ireturn, 1) := by decide +kernel
theorem dX5_gets_109 : decode cX5_gets 109 = .ok (.iconst 3, 1) := by decide +kernel
theorem dX5_gets_110 : decode cX5_gets 110 = .ok (.iload 6, 2) := by decide +kernel
theorem dX5_gets_112 : decode cX5_gets 112 = .ok (.imul, 1) := by decide +kernel
theorem dX5_gets_113 : decode cX5_gets 113 = .ok (.iconst 1, 1) := by decide +kernel
theorem dX5_gets_114 : decode cX5_gets 114 = .ok (.isub, 1) := by decide +kernel
theorem dX5_gets_115 : decode cX5_gets 115 = .ok (.ireturn, 1) := by decide +kernel
theorem dX5_gets_116 : decode cX5_gets 116 = .ok (.iload 4, 2) := by decide +kernel
theorem dX5_gets_118 : decode cX5_gets 118 = .ok (.iconst 2, 1) := by decide +kernel
theorem dX5_gets_119 : decode cX5_gets 119 = .ok (.irem, 1) := by decide +kernel
theorem dX5_gets_120 : decode cX5_gets 120 = .ok (.ifCond .ne 8, 3) := by decide +kernel
theorem dX5_gets_123 : decode cX5_gets 123 = .ok (.iload 6, 2) := by decide +kernel
theorem dX5_gets_125 : decode cX5_gets 125 = .ok (.goto 4, 3) := by decide +kernel
theorem dX5_gets_128 : decode cX5_gets 128 = .ok (.iconst 0, 1) := by decide +kernel
theorem dX5_gets_129 : decode cX5_gets 129 = .ok (.ireturn, 1) := by decide +kernel
theorem dX5_gets_130 : decode cX5_gets 130 = .ok (.iload 6, 2) := by decide +kernel
theorem dX5_gets_132 : decode cX5_gets 132 = .ok (.ireturn, 1) := by decide +kernel
theorem dX5_gainOf_0 : decode cX5_gainOf 0 = .ok (.aload_n 0, 1) := by decide +kernel
theorem dX5_gainOf_1 : decode cX5_gainOf 1 = .ok (.iconst 0, 1) := by decide +kernel
theorem dX5_gainOf_2 : decode cX5_gainOf 2 = .ok (.aload_n 0, 1) := by decide +kernel
theorem dX5_gainOf_3 : decode cX5_gainOf 3 = .ok (.iload_n 1, 1) := by decide +kernel
theorem dX5_gainOf_4 : decode cX5_gainOf 4 = .ok (.iload_n 2, 1) := by decide +kernel
theorem dX5_gainOf_5 : decode cX5_gainOf 5 = .ok (.iload_n 3, 1) := by decide +kernel
theorem dX5_gainOf_6 : decode cX5_gainOf 6 = .ok (.iload 4, 2) := by decide +kernel
theorem dX5_gainOf_8 : decode cX5_gainOf 8 = .ok (.invokevirtual 96, 3) := by decide +kernel
theorem dX5_gainOf_11 : decode cX5_gainOf 11 = .ok (.iload_n 2, 1) := by decide +kernel
theorem dX5_gainOf_12 : decode cX5_gainOf 12 = .ok (.iload 4, 2) := by decide +kernel
theorem dX5_gainOf_14 : decode cX5_gainOf 14 = .ok (.invokevirtual 100, 3) := by decide +kernel
theorem dX5_gainOf_17 : decode cX5_gainOf 17 = .ok (.ireturn, 1) := by decide +kernel
theorem dX5_grow_0 : decode cX5_grow 0 = .ok (.iconst 0, 1) := by decide +kernel
theorem dX5_grow_1 : decode cX5_grow 1 = .ok (.istore_n 3, 1) := by decide +kernel
theorem dX5_grow_2 : decode cX5_grow 2 = .ok (.iload_n 3, 1) := by decide +kernel
theorem dX5_grow_3 : decode cX5_grow 3 = .ok (.aload_n 0, 1) := by decide +kernel
theorem dX5_grow_4 : decode cX5_grow 4 = .ok (.getfield 50, 3) := by decide +kernel
theorem dX5_grow_7 : decode cX5_grow 7 = .ok (.if_icmp .ge 63, 3) := by decide +kernel
theorem dX5_grow_10 : decode cX5_grow 10 = .ok (.iconst 0, 1) := by decide +kernel
theorem dX5_grow_11 : decode cX5_grow 11 = .ok (.istore 4, 2) := by decide +kernel
theorem dX5_grow_13 : decode cX5_grow 13 = .ok (.iload 4, 2) := by decide +kernel
theorem dX5_grow_15 : decode cX5_grow 15 = .ok (.iconst 5, 1) := by decide +kernel
theorem dX5_grow_16 : decode cX5_grow 16 = .ok (.if_icmp .ge 48, 3) := by decide +kernel
theorem dX5_grow_19 : decode cX5_grow 19 = .ok (.iload_n 3, 1) := by decide +kernel
theorem dX5_grow_20 : decode cX5_grow 20 = .ok (.iload 4, 2) := by decide +kernel
theorem dX5_grow_22 : decode cX5_grow 22 = .ok (.invokestatic 79, 3) := by decide +kernel
theorem dX5_grow_25 : decode cX5_grow 25 = .ok (.istore 5, 2) := by decide +kernel
theorem dX5_grow_27 : decode cX5_grow 27 = .ok (.aload_n 0, 1) := by decide +kernel
theorem dX5_grow_28 : decode cX5_grow 28 = .ok (.iload_n 3, 1) := by decide +kernel
theorem dX5_grow_29 : decode cX5_grow 29 = .ok (.iload 4, 2) := by decide +kernel
theorem dX5_grow_31 : decode cX5_grow 31 = .ok (.aload_n 1, 1) := by decide +kernel
theorem dX5_grow_32 : decode cX5_grow 32 = .ok (.iload 5, 2) := by decide +kernel
theorem dX5_grow_34 : decode cX5_grow 34 = .ok (.iaload, 1) := by decide +kernel
theorem dX5_grow_35 : decode cX5_grow 35 = .ok (.iload_n 2, 1) := by decide +kernel
theorem dX5_grow_36 : decode cX5_grow 36 = .ok (.invokevirtual 103, 3) := by decide +kernel
theorem dX5_grow_39 : decode cX5_grow 39 = .ok (.istore 6, 2) := by decide +kernel
theorem dX5_grow_41 : decode cX5_grow 41 = .ok (.aload_n 1, 1) := by decide +kernel
theorem dX5_grow_42 : decode cX5_grow 42 = .ok (.iload 5, 2) := by decide +kernel
theorem dX5_grow_44 : decode cX5_grow 44 = .ok (.aload_n 1, 1) := by decide +kernel
theorem dX5_grow_45 : decode cX5_grow 45 = .ok (.iload 5, 2) := by decide +kernel
theorem dX5_grow_47 : decode cX5_grow 47 = .ok (.iaload, 1) := by decide +kernel
theorem dX5_grow_48 : decode cX5_grow 48 = .ok (.iload 6, 2) := by decide +kernel
theorem dX5_grow_50 : decode cX5_grow 50 = .ok (.iadd, 1) := by decide +kernel
theorem dX5_grow_51 : decode cX5_grow 51 = .ok (.iconst 0, 1) := by decide +kernel
theorem dX5_grow_52 : decode cX5_grow 52 = .ok (.bipush 99, 2) := by decide +kernel
theorem dX5_grow_54 : decode cX5_grow 54 = .ok (.invokestatic 106, 3) := by decide +kernel
theorem dX5_grow_57 : decode cX5_grow 57 = .ok (.iastore, 1) := by decide +kernel
theorem dX5_grow_58 : decode cX5_grow 58 = .ok (.iinc 4 1, 3) := by decide +kernel
theorem dX5_grow_61 : decode cX5_grow 61 = .ok (.goto (-48), 3) := by decide +kernel
theorem dX5_grow_64 : decode cX5_grow 64 = .ok (.iinc 3 1, 3) := by decide +kernel
theorem dX5_grow_67 : decode cX5_grow 67 = .ok (.goto (-65), 3) := by decide +kernel
theorem dX5_grow_70 : decode cX5_grow 70 = .ok (.return_, 1) := by decide +kernel
theorem dX5_goBy_0 : decode cX5_goBy 0 = .ok (.aload_n 0, 1) := by decide +kernel
theorem dX5_goBy_1 : decode cX5_goBy 1 = .ok (.aload_n 0, 1) := by decide +kernel
theorem dX5_goBy_2 : decode cX5_goBy 2 = .ok (.getfield 24, 3) := by decide +kernel
theorem dX5_goBy_5 : decode cX5_goBy 5 = .ok (.aload_n 0, 1) := by decide +kernel
theorem dX5_goBy_6 : decode cX5_goBy 6 = .ok (.getfield 59, 3) := by decide +kernel
theorem dX5_goBy_9 : decode cX5_goBy 9 = .ok (.invokevirtual 109, 3) := by decide +kernel
theorem dX5_goBy_12 : decode cX5_goBy 12 = .ok (.aload_n 0, 1) := by decide +kernel
theorem dX5_goBy_13 : decode cX5_goBy 13 = .ok (.dup, 1) := by decide +kernel
theorem dX5_goBy_14 : decode cX5_goBy 14 = .ok (.getfield 59, 3) := by decide +kernel
theorem dX5_goBy_17 : decode cX5_goBy 17 = .ok (.iconst 1, 1) := by decide +kernel
theorem dX5_goBy_18 : decode cX5_goBy 18 = .ok (.iadd, 1) := by decide +kernel
theorem dX5_goBy_19 : decode cX5_goBy 19 = .ok (.putfield 59, 3) := by decide +kernel
theorem dX5_goBy_22 : decode cX5_goBy 22 = .ok (.return_, 1) := by decide +kernel
theorem dX5_draw_0 : decode cX5_draw 0 = .ok (.aload_n 0, 1) := by decide +kernel
theorem dX5_draw_1 : decode cX5_draw 1 = .ok (.aload_n 0, 1) := by decide +kernel
theorem dX5_draw_2 : decode cX5_draw 2 = .ok (.getfield 30, 3) := by decide +kernel
theorem dX5_draw_5 : decode cX5_draw 5 = .ok (.ldc 113, 2) := by decide +kernel
theorem dX5_draw_7 : decode cX5_draw 7 = .ok (.imul, 1) := by decide +kernel
theorem dX5_draw_8 : decode cX5_draw 8 = .ok (.sipush 12345, 3) := by decide +kernel
theorem dX5_draw_11 : decode cX5_draw 11 = .ok (.iadd, 1) := by decide +kernel
theorem dX5_draw_12 : decode cX5_draw 12 = .ok (.putfield 30, 3) := by decide +kernel
theorem dX5_draw_15 : decode cX5_draw 15 = .ok (.aload_n 0, 1) := by decide +kernel
theorem dX5_draw_16 : decode cX5_draw 16 = .ok (.getfield 30, 3) := by decide +kernel
theorem dX5_draw_19 : decode cX5_draw 19 = .ok (.bipush 8, 2) := by decide +kernel
theorem dX5_draw_21 : decode cX5_draw 21 = .ok (.iushr, 1) := by decide +kernel
theorem dX5_draw_22 : decode cX5_draw 22 = .ok (.ireturn, 1) := by decide +kernel
theorem dX5_steal_0 : decode cX5_steal 0 = .ok (.aload_n 0, 1) := by decide +kernel
theorem dX5_steal_1 : decode cX5_steal 1 = .ok (.getfield 50, 3) := by decide +kernel
theorem dX5_steal_4 : decode cX5_steal 4 = .ok (.ifCond .ne 5, 3) := by decide +kernel
theorem dX5_steal_7 : decode cX5_steal 7 = .ok (.iconst 0, 1) := by decide +kernel
theorem dX5_steal_8 : decode cX5_steal 8 = .ok (.ireturn, 1) := by decide +kernel
theorem dX5_steal_9 : decode cX5_steal 9 = .ok (.aload_n 0, 1) := by decide +kernel
theorem dX5_steal_10 : decode cX5_steal 10 = .ok (.invokevirtual 114, 3) := by decide +kernel
theorem dX5_steal_13 : decode cX5_steal 13 = .ok (.aload_n 0, 1) := by decide +kernel
theorem dX5_steal_14 : decode cX5_steal 14 = .ok (.getfield 50, 3) := by decide +kernel
theorem dX5_steal_17 : decode cX5_steal 17 = .ok (.irem, 1) := by decide +kernel
theorem dX5_steal_18 : decode cX5_steal 18 = .ok (.istore_n 1, 1) := by decide +kernel
theorem dX5_steal_19 : decode cX5_steal 19 = .ok (.aload_n 0, 1) := by decide +kernel
theorem dX5_steal_20 : decode cX5_steal 20 = .ok (.invokevirtual 114, 3) := by decide +kernel
theorem dX5_steal_23 : decode cX5_steal 23 = .ok (.aload_n 0, 1) := by decide +kernel
theorem dX5_steal_24 : decode cX5_steal 24 = .ok (.getfield 50, 3) := by decide +kernel
theorem dX5_steal_27 : decode cX5_steal 27 = .ok (.irem, 1) := by decide +kernel
theorem dX5_steal_28 : decode cX5_steal 28 = .ok (.istore_n 2, 1) := by decide +kernel
theorem dX5_steal_29 : decode cX5_steal 29 = .ok (.aload_n 0, 1) := by decide +kernel
theorem dX5_steal_30 : decode cX5_steal 30 = .ok (.invokevirtual 114, 3) := by decide +kernel
theorem dX5_steal_33 : decode cX5_steal 33 = .ok (.iconst 5, 1) := by decide +kernel
theorem dX5_steal_34 : decode cX5_steal 34 = .ok (.irem, 1) := by decide +kernel
theorem dX5_steal_35 : decode cX5_steal 35 = .ok (.istore_n 3, 1) := by decide +kernel
theorem dX5_steal_36 : decode cX5_steal 36 = .ok (.iload_n 1, 1) := by decide +kernel
theorem dX5_steal_37 : decode cX5_steal 37 = .ok (.iload_n 2, 1) := by decide +kernel
theorem dX5_steal_38 : decode cX5_steal 38 = .ok (.if_icmp .ne 5, 3) := by decide +kernel
theorem dX5_steal_41 : decode cX5_steal 41 = .ok (.iconst 0, 1) := by decide +kernel
theorem dX5_steal_42 : decode cX5_steal 42 = .ok (.ireturn, 1) := by decide +kernel
theorem dX5_steal_43 : decode cX5_steal 43 = .ok (.bipush 99, 2) := by decide +kernel
theorem dX5_steal_45 : decode cX5_steal 45 = .ok (.aload_n 0, 1) := by decide +kernel
theorem dX5_steal_46 : decode cX5_steal 46 = .ok (.getfield 24, 3) := by decide +kernel
theorem dX5_steal_49 : decode cX5_steal 49 = .ok (.iload_n 2, 1) := by decide +kernel
theorem dX5_steal_50 : decode cX5_steal 50 = .ok (.iload_n 3, 1) := by decide +kernel
theorem dX5_steal_51 : decode cX5_steal 51 = .ok (.invokestatic 79, 3) := by decide +kernel
theorem dX5_steal_54 : decode cX5_steal 54 = .ok (.iaload, 1) := by decide +kernel
theorem dX5_steal_55 : decode cX5_steal 55 = .ok (.isub, 1) := by decide +kernel
theorem dX5_steal_56 : decode cX5_steal 56 = .ok (.istore 4, 2) := by decide +kernel
theorem dX5_steal_58 : decode cX5_steal 58 = .ok (.aload_n 0, 1) := by decide +kernel
theorem dX5_steal_59 : decode cX5_steal 59 = .ok (.getfield 24, 3) := by decide +kernel
theorem dX5_steal_62 : decode cX5_steal 62 = .ok (.iload_n 1, 1) := by decide +kernel
theorem dX5_steal_63 : decode cX5_steal 63 = .ok (.iload_n 3, 1) := by decide +kernel
theorem dX5_steal_64 : decode cX5_steal 64 = .ok (.invokestatic 79, 3) := by decide +kernel
theorem dX5_steal_67 : decode cX5_steal 67 = .ok (.iaload, 1) := by decide +kernel
theorem dX5_steal_68 : decode cX5_steal 68 = .ok (.iload 4, 2) := by decide +kernel
theorem dX5_steal_70 : decode cX5_steal 70 = .ok (.invokestatic 118, 3) := by decide +kernel
theorem dX5_steal_73 : decode cX5_steal 73 = .ok (.iconst 2, 1) := by decide +kernel
theorem dX5_steal_74 : decode cX5_steal 74 = .ok (.idiv, 1) := by decide +kernel
theorem dX5_steal_75 : decode cX5_steal 75 = .ok (.istore 5, 2) := by decide +kernel
theorem dX5_steal_77 : decode cX5_steal 77 = .ok (.aload_n 0, 1) := by decide +kernel
theorem dX5_steal_78 : decode cX5_steal 78 = .ok (.iload_n 1, 1) := by decide +kernel
theorem dX5_steal_79 : decode cX5_steal 79 = .ok (.iload_n 2, 1) := by decide +kernel
theorem dX5_steal_80 : decode cX5_steal 80 = .ok (.iload_n 3, 1) := by decide +kernel
theorem dX5_steal_81 : decode cX5_steal 81 = .ok (.iload 5, 2) := by decide +kernel
theorem dX5_steal_83 : decode cX5_steal 83 = .ok (.invokevirtual 123, 3) := by decide +kernel
theorem dX5_steal_86 : decode cX5_steal 86 = .ok (.iload 5, 2) := by decide +kernel
theorem dX5_steal_88 : decode cX5_steal 88 = .ok (.ireturn, 1) := by decide +kernel
theorem dX5_textOf_0 : decode cX5_textOf 0 = .ok (.iload_n 1, 1) := by decide +kernel
theorem dX5_textOf_1 : decode cX5_textOf 1 = .ok (.ifCond .ne 10, 3) := by decide +kernel
theorem dX5_textOf_4 : decode cX5_textOf 4 = .ok (.aload_n 0, 1) := by decide +kernel
theorem dX5_textOf_5 : decode cX5_textOf 5 = .ok (.getfield 40, 3) := by decide +kernel
theorem dX5_textOf_8 : decode cX5_textOf 8 = .ok (.goto 7, 3) := by decide +kernel
theorem dX5_textOf_11 : decode cX5_textOf 11 = .ok (.aload_n 0, 1) := by decide +kernel
theorem dX5_textOf_12 : decode cX5_textOf 12 = .ok (.getfield 44, 3) := by decide +kernel
theorem dX5_textOf_15 : decode cX5_textOf 15 = .ok (.areturn, 1) := by decide +kernel
theorem dX5_given_0 : decode cX5_given 0 = .ok (.aload_n 0, 1) := by decide +kernel
theorem dX5_given_1 : decode cX5_given 1 = .ok (.iload_n 1, 1) := by decide +kernel
theorem dX5_given_2 : decode cX5_given 2 = .ok (.invokevirtual 127, 3) := by decide +kernel
theorem dX5_given_5 : decode cX5_given 5 = .ok (.astore 5, 2) := by decide +kernel
theorem dX5_given_7 : decode cX5_given 7 = .ok (.aload 5, 2) := by decide +kernel
theorem dX5_given_9 : decode cX5_given 9 = .ok (.invokevirtual 131, 3) := by decide +kernel
theorem dX5_given_12 : decode cX5_given 12 = .ok (.ifCond .eq 15, 3) := by decide +kernel
theorem dX5_given_15 : decode cX5_given 15 = .ok (.aload 5, 2) := by decide +kernel
theorem dX5_given_17 : decode cX5_given 17 = .ok (.iload_n 2, 1) := by decide +kernel
theorem dX5_given_18 : decode cX5_given 18 = .ok (.iload_n 3, 1) := by decide +kernel
theorem dX5_given_19 : decode cX5_given 19 = .ok (.iload 4, 2) := by decide +kernel
theorem dX5_given_21 : decode cX5_given 21 = .ok (.invokevirtual 135, 3) := by decide +kernel
theorem dX5_given_24 : decode cX5_given 24 = .ok (.goto 4, 3) := by decide +kernel
theorem dX5_given_27 : decode cX5_given 27 = .ok (.iload_n 2, 1) := by decide +kernel
theorem dX5_given_28 : decode cX5_given 28 = .ok (.istore 6, 2) := by decide +kernel
theorem dX5_given_30 : decode cX5_given 30 = .ok (.iload_n 1, 1) := by decide +kernel
theorem dX5_given_31 : decode cX5_given 31 = .ok (.ifCond .ne 15, 3) := by decide +kernel
theorem dX5_given_34 : decode cX5_given 34 = .ok (.iload 6, 2) := by decide +kernel
theorem dX5_given_36 : decode cX5_given 36 = .ok (.bipush (-9), 2) := by decide +kernel
theorem dX5_given_38 : decode cX5_given 38 = .ok (.bipush 9, 2) := by decide +kernel
theorem dX5_given_40 : decode cX5_given 40 = .ok (.invokestatic 106, 3) := by decide +kernel
theorem dX5_given_43 : decode cX5_given 43 = .ok (.goto 12, 3) := by decide +kernel
theorem dX5_given_46 : decode cX5_given 46 = .ok (.iload 6, 2) := by decide +kernel
theorem dX5_given_48 : decode cX5_given 48 = .ok (.iconst 0, 1) := by decide +kernel
theorem dX5_given_49 : decode cX5_given 49 = .ok (.sipush 999, 3) := by decide +kernel
theorem dX5_given_52 : decode cX5_given 52 = .ok (.invokestatic 106, 3) := by decide +kernel
theorem dX5_given_55 : decode cX5_given 55 = .ok (.ireturn, 1) := by decide +kernel
theorem dX5_worthOf_0 : decode cX5_worthOf 0 = .ok (.iconst 0, 1) := by decide +kernel
theorem dX5_worthOf_1 : decode cX5_worthOf 1 = .ok (.istore_n 2, 1) := by decide +kernel
theorem dX5_worthOf_2 : decode cX5_worthOf 2 = .ok (.iconst 0, 1) := by decide +kernel
theorem dX5_worthOf_3 : decode cX5_worthOf 3 = .ok (.istore_n 3, 1) := by decide +kernel
theorem dX5_worthOf_4 : decode cX5_worthOf 4 = .ok (.iload_n 3, 1) := by decide +kernel
theorem dX5_worthOf_5 : decode cX5_worthOf 5 = .ok (.iconst 5, 1) := by decide +kernel
theorem dX5_worthOf_6 : decode cX5_worthOf 6 = .ok (.if_icmp .ge 29, 3) := by decide +kernel
theorem dX5_worthOf_9 : decode cX5_worthOf 9 = .ok (.iload_n 2, 1) := by decide +kernel
theorem dX5_worthOf_10 : decode cX5_worthOf 10 = .ok (.aload_n 0, 1) := by decide +kernel
theorem dX5_worthOf_11 : decode cX5_worthOf 11 = .ok (.iconst 1, 1) := by decide +kernel
theorem dX5_worthOf_12 : decode cX5_worthOf 12 = .ok (.aload_n 0, 1) := by decide +kernel
theorem dX5_worthOf_13 : decode cX5_worthOf 13 = .ok (.getfield 24, 3) := by decide +kernel
theorem dX5_worthOf_16 : decode cX5_worthOf 16 = .ok (.iload_n 1, 1) := by decide +kernel
theorem dX5_worthOf_17 : decode cX5_worthOf 17 = .ok (.iload_n 3, 1) := by decide +kernel
theorem dX5_worthOf_18 : decode cX5_worthOf 18 = .ok (.invokestatic 79, 3) := by decide +kernel
theorem dX5_worthOf_21 : decode cX5_worthOf 21 = .ok (.iaload, 1) := by decide +kernel
theorem dX5_worthOf_22 : decode cX5_worthOf 22 = .ok (.iload_n 3, 1) := by decide +kernel
theorem dX5_worthOf_23 : decode cX5_worthOf 23 = .ok (.iload_n 1, 1) := by decide +kernel
theorem dX5_worthOf_24 : decode cX5_worthOf 24 = .ok (.invokevirtual 100, 3) := by decide +kernel
theorem dX5_worthOf_27 : decode cX5_worthOf 27 = .ok (.iadd, 1) := by decide +kernel
theorem dX5_worthOf_28 : decode cX5_worthOf 28 = .ok (.istore_n 2, 1) := by decide +kernel
theorem dX5_worthOf_29 : decode cX5_worthOf 29 = .ok (.iinc 3 1, 3) := by decide +kernel
theorem dX5_worthOf_32 : decode cX5_worthOf 32 = .ok (.goto (-28), 3) := by decide +kernel
theorem dX5_worthOf_35 : decode cX5_worthOf 35 = .ok (.iload_n 2, 1) := by decide +kernel
theorem dX5_worthOf_36 : decode cX5_worthOf 36 = .ok (.ireturn, 1) := by decide +kernel
theorem dX6_init_0 : decode cX6_init 0 = .ok (.aload_n 0, 1) := by decide +kernel
theorem dX6_init_1 : decode cX6_init 1 = .ok (.invokespecial 3, 3) := by decide +kernel
theorem dX6_init_4 : decode cX6_init 4 = .ok (.aload_n 0, 1) := by decide +kernel
theorem dX6_init_5 : decode cX6_init 5 = .ok (.new 9, 3) := by decide +kernel
theorem dX6_init_8 : decode cX6_init 8 = .ok (.dup, 1) := by decide +kernel
theorem dX6_init_9 : decode cX6_init 9 = .ok (.invokespecial 11, 3) := by decide +kernel
theorem dX6_init_12 : decode cX6_init 12 = .ok (.putfield 12, 3) := by decide +kernel
theorem dX6_init_15 : decode cX6_init 15 = .ok (.aload_n 0, 1) := by decide +kernel
theorem dX6_init_16 : decode cX6_init 16 = .ok (.new 9, 3) := by decide +kernel
theorem dX6_init_19 : decode cX6_init 19 = .ok (.dup, 1) := by decide +kernel
theorem dX6_init_20 : decode cX6_init 20 = .ok (.invokespecial 11, 3) := by decide +kernel
theorem dX6_init_23 : decode cX6_init 23 = .ok (.putfield 16, 3) := by decide +kernel
theorem dX6_init_26 : decode cX6_init 26 = .ok (.aload_n 0, 1) := by decide +kernel
theorem dX6_init_27 : decode cX6_init 27 = .ok (.bipush 7, 2) := by decide +kernel
theorem dX6_init_29 : decode cX6_init 29 = .ok (.newarray .int, 2) := by decide +kernel
theorem dX6_init_31 : decode cX6_init 31 = .ok (.putfield 19, 3) := by decide +kernel
theorem dX6_init_34 : decode cX6_init 34 = .ok (.aload_n 0, 1) := by decide +kernel
theorem dX6_init_35 : decode cX6_init 35 = .ok (.iconst 4, 1) := by decide +kernel
theorem dX6_init_36 : decode cX6_init 36 = .ok (.anewarray 23, 3) := by decide +kernel
theorem dX6_init_39 : decode cX6_init 39 = .ok (.putfield 25, 3) := by decide +kernel
theorem dX6_init_42 : decode cX6_init 42 = .ok (.iconst 0, 1) := by decide +kernel
theorem dX6_init_43 : decode cX6_init 43 = .ok (.istore_n 1, 1) := by decide +kernel
theorem dX6_init_44 : decode cX6_init 44 = .ok (.iload_n 1, 1) := by decide +kernel
theorem dX6_init_45 : decode cX6_init 45 = .ok (.iconst 4, 1) := by decide +kernel
theorem dX6_init_46 : decode cX6_init 46 = .ok (.if_icmp .ge 22, 3) := by decide +kernel
theorem dX6_init_49 : decode cX6_init 49 = .ok (.aload_n 0, 1) := by decide +kernel
theorem dX6_init_50 : decode cX6_init 50 = .ok (.getfield 25, 3) := by decide +kernel
theorem dX6_init_53 : decode cX6_init 53 = .ok (.iload_n 1, 1) := by decide +kernel
theorem dX6_init_54 : decode cX6_init 54 = .ok (.new 23, 3) := by decide +kernel
theorem dX6_init_57 : decode cX6_init 57 = .ok (.dup, 1) := by decide +kernel
theorem dX6_init_58 : decode cX6_init 58 = .ok (.invokespecial 29, 3) := by decide +kernel
theorem dX6_init_61 : decode cX6_init 61 = .ok (.aastore, 1) := by decide +kernel
theorem dX6_init_62 : decode cX6_init 62 = .ok (.iinc 1 1, 3) := by decide +kernel
theorem dX6_init_65 : decode cX6_init 65 = .ok (.goto (-21), 3) := by decide +kernel
theorem dX6_init_68 : decode cX6_init 68 = .ok (.aload_n 0, 1) := by decide +kernel
theorem dX6_init_69 : decode cX6_init 69 = .ok (.new 30, 3) := by decide +kernel
theorem dX6_init_72 : decode cX6_init 72 = .ok (.dup, 1) := by decide +kernel
theorem dX6_init_73 : decode cX6_init 73 = .ok (.invokespecial 32, 3) := by decide +kernel
theorem dX6_init_76 : decode cX6_init 76 = .ok (.putfield 33, 3) := by decide +kernel
theorem dX6_init_79 : decode cX6_init 79 = .ok (.aload_n 0, 1) := by decide +kernel
theorem dX6_init_80 : decode cX6_init 80 = .ok (.new 37, 3) := by decide +kernel
theorem dX6_init_83 : decode cX6_init 83 = .ok (.dup, 1) := by decide +kernel
theorem dX6_init_84 : decode cX6_init 84 = .ok (.invokespecial 39, 3) := by decide +kernel
theorem dX6_init_87 : decode cX6_init 87 = .ok (.putfield 40, 3) := by decide +kernel
theorem dX6_init_90 : decode cX6_init 90 = .ok (.aload_n 0, 1) := by decide +kernel
theorem dX6_init_91 : decode cX6_init 91 = .ok (.new 44, 3) := by decide +kernel
theorem dX6_init_94 : decode cX6_init 94 = .ok (.dup, 1) := by decide +kernel
theorem dX6_init_95 : decode cX6_init 95 = .ok (.invokespecial 46, 3) := by decide +kernel
theorem dX6_init_98 : decode cX6_init 98 = .ok (.putfield 47, 3) := by decide +kernel
theorem dX6_init_101 : decode cX6_init 101 = .ok (.return_, 1) := by decide +kernel
theorem dX6_person_0 : decode cX6_person 0 = .ok (.iload_n 1, 1) := by decide +kernel
theorem dX6_person_1 : decode cX6_person 1 = .ok (.invokestatic 51, 3) := by decide +kernel
theorem dX6_person_4 : decode cX6_person 4 = .ok (.ifCond .eq 9, 3) := by decide +kernel
theorem dX6_person_7 : decode cX6_person 7 = .ok (.aload_n 0, 1) := by decide +kernel
theorem dX6_person_8 : decode cX6_person 8 = .ok (.iconst 1, 1) := by decide +kernel
theorem dX6_person_9 : decode cX6_person 9 = .ok (.invokevirtual 55, 3) := by decide +kernel
theorem dX6_person_12 : decode cX6_person 12 = .ok (.ireturn, 1) := by decide +kernel
theorem dX6_person_13 : decode cX6_person 13 = .ok (.aload_n 0, 1) := by decide +kernel
theorem dX6_person_14 : decode cX6_person 14 = .ok (.getfield 12, 3) := by decide +kernel
theorem dX6_person_17 : decode cX6_person 17 = .ok (.getfield 59, 3) := by decide +kernel
theorem dX6_person_20 : decode cX6_person 20 = .ok (.bipush 8, 2) := by decide +kernel
theorem dX6_person_22 : decode cX6_person 22 = .ok (.if_icmp .lt 9, 3) := by decide +kernel
theorem dX6_person_25 : decode cX6_person 25 = .ok (.aload_n 0, 1) := by decide +kernel
theorem dX6_person_26 : decode cX6_person 26 = .ok (.iconst 4, 1) := by decide +kernel
theorem dX6_person_27 : decode cX6_person 27 = .ok (.invokevirtual 55, 3) := by decide +kernel
theorem dX6_person_30 : decode cX6_person 30 = .ok (.ireturn, 1) := by decide +kernel
theorem dX6_person_31 : decode cX6_person 31 = .ok (.aload_n 0, 1) := by decide +kernel
theorem dX6_person_32 : decode cX6_person 32 = .ok (.getfield 12, 3) := by decide +kernel
theorem dX6_person_35 : decode cX6_person 35 = .ok (.iload_n 1, 1) := by decide +kernel
theorem dX6_person_36 : decode cX6_person 36 = .ok (.invokevirtual 63, 3) := by decide +kernel
theorem dX6_person_39 : decode cX6_person 39 = .ok (.ireturn, 1) := by decide +kernel
theorem dX6_child_0 : decode cX6_child 0 = .ok (.iload_n 1, 1) := by decide +kernel
theorem dX6_child_1 : decode cX6_child 1 = .ok (.invokestatic 51, 3) := by decide +kernel
theorem dX6_child_4 : decode cX6_child 4 = .ok (.ifCond .ne 12, 3) := by decide +kernel
theorem dX6_child_7 : decode cX6_child 7 = .ok (.aload_n 0, 1) := by decide +kernel
theorem dX6_child_8 : decode cX6_child 8 = .ok (.iload_n 2, 1) := by decide +kernel
theorem dX6_child_9 : decode cX6_child 9 = .ok (.iload_n 3, 1) := by decide +kernel
theorem dX6_child_10 : decode cX6_child 10 = .ok (.invokevirtual 66, 3) := by decide +kernel
theorem dX6_child_13 : decode cX6_child 13 = .ok (.ifCond .eq 9, 3) := by decide +kernel
theorem dX6_child_16 : decode cX6_child 16 = .ok (.aload_n 0, 1) := by decide +kernel
theorem dX6_child_17 : decode cX6_child 17 = .ok (.iconst 1, 1) := by decide +kernel
theorem dX6_child_18 : decode cX6_child 18 = .ok (.invokevirtual 55, 3) := by decide +kernel
theorem dX6_child_21 : decode cX6_child 21 = .ok (.ireturn, 1) := by decide +kernel
theorem dX6_child_22 : decode cX6_child 22 = .ok (.aload_n 0, 1) := by decide +kernel
theorem dX6_child_23 : decode cX6_child 23 = .ok (.getfield 12, 3) := by decide +kernel
theorem dX6_child_26 : decode cX6_child 26 = .ok (.getfield 59, 3) := by decide +kernel
theorem dX6_child_29 : decode cX6_child 29 = .ok (.bipush 8, 2) := by decide +kernel
theorem dX6_child_31 : decode cX6_child 31 = .ok (.if_icmp .lt 9, 3) := by decide +kernel
theorem dX6_child_34 : decode cX6_child 34 = .ok (.aload_n 0, 1) := by decide +kernel
theorem dX6_child_35 : decode cX6_child 35 = .ok (.iconst 4, 1) := by decide +kernel
theorem dX6_child_36 : decode cX6_child 36 = .ok (.invokevirtual 55, 3) := by decide +kernel
theorem dX6_child_39 : decode cX6_child 39 = .ok (.ireturn, 1) := by decide +kernel
theorem dX6_child_40 : decode cX6_child 40 = .ok (.aload_n 0, 1) := by decide +kernel
theorem dX6_child_41 : decode cX6_child 41 = .ok (.getfield 12, 3) := by decide +kernel
theorem dX6_child_44 : decode cX6_child 44 = .ok (.iload_n 1, 1) := by decide +kernel
theorem dX6_child_45 : decode cX6_child 45 = .ok (.iload_n 2, 1) := by decide +kernel
theorem dX6_child_46 : decode cX6_child 46 = .ok (.iload_n 3, 1) := by decide +kernel
theorem dX6_child_47 : decode cX6_child 47 = .ok (.invokevirtual 70, 3) := by decide +kernel
theorem dX6_child_50 : decode cX6_child 50 = .ok (.ireturn, 1) := by decide +kernel
theorem dX6_personIs_0 : decode cX6_personIs 0 = .ok (.aload_n 0, 1) := by decide +kernel
theorem dX6_personIs_1 : decode cX6_personIs 1 = .ok (.iload_n 1, 1) := by decide +kernel
theorem dX6_personIs_2 : decode cX6_personIs 2 = .ok (.invokevirtual 74, 3) := by decide +kernel
theorem dX6_personIs_5 : decode cX6_personIs 5 = .ok (.ifCond .eq 9, 3) := by decide +kernel
theorem dX6_personIs_8 : decode cX6_personIs 8 = .ok (.aload_n 0, 1) := by decide +kernel
theorem dX6_personIs_9 : decode cX6_personIs 9 = .ok (.iconst 1, 1) := by decide +kernel
theorem dX6_personIs_10 : decode cX6_personIs 10 = .ok (.invokevirtual 55, 3) := by decide +kernel
theorem dX6_personIs_13 : decode cX6_personIs 13 = .ok (.ireturn, 1) := by decide +kernel
theorem dX6_personIs_14 : decode cX6_personIs 14 = .ok (.iload_n 2, 1) := by decide +kernel
theorem dX6_personIs_15 : decode cX6_personIs 15 = .ok (.tableswitch 110 0 6 #[41, 50, 59, 69, 79, 91, 100], 41) := by decide +kernel
theorem dX6_personIs_56 : decode cX6_personIs 56 = .ok (.aload_n 0, 1) := by decide +kernel
theorem dX6_personIs_57 : decode cX6_personIs 57 = .ok (.getfield 12, 3) := by decide +kernel
theorem dX6_personIs_60 : decode cX6_personIs 60 = .ok (.iload_n 1, 1) := by decide +kernel
theorem dX6_personIs_61 : decode cX6_personIs 61 = .ok (.invokevirtual 77, 3) := by decide +kernel
theorem dX6_personIs_64 : decode cX6_personIs 64 = .ok (.ireturn, 1) := by decide +kernel
theorem dX6_personIs_65 : decode cX6_personIs 65 = .ok (.aload_n 0, 1) := by decide +kernel
theorem dX6_personIs_66 : decode cX6_personIs 66 = .ok (.getfield 12, 3) := by decide +kernel
theorem dX6_personIs_69 : decode cX6_personIs 69 = .ok (.iload_n 1, 1) := by decide +kernel
theorem dX6_personIs_70 : decode cX6_personIs 70 = .ok (.invokevirtual 80, 3) := by decide +kernel
theorem dX6_personIs_73 : decode cX6_personIs 73 = .ok (.ireturn, 1) := by decide +kernel
theorem dX6_personIs_74 : decode cX6_personIs 74 = .ok (.aload_n 0, 1) := by decide +kernel
theorem dX6_personIs_75 : decode cX6_personIs 75 = .ok (.getfield 12, 3) := by decide +kernel
theorem dX6_personIs_78 : decode cX6_personIs 78 = .ok (.getfield 83, 3) := by decide +kernel
theorem dX6_personIs_81 : decode cX6_personIs 81 = .ok (.iload_n 1, 1) := by decide +kernel
theorem dX6_personIs_82 : decode cX6_personIs 82 = .ok (.iaload, 1) := by decide +kernel
theorem dX6_personIs_83 : decode cX6_personIs 83 = .ok (.ireturn, 1) := by decide +kernel
theorem dX6_personIs_84 : decode cX6_personIs 84 = .ok (.aload_n 0, 1) := by decide +kernel
theorem dX6_personIs_85 : decode cX6_personIs 85 = .ok (.getfield 12, 3) := by decide +kernel
theorem dX6_personIs_88 : decode cX6_personIs 88 = .ok (.getfield 86, 3) := by decide +kernel
theorem dX6_personIs_91 : decode cX6_personIs 91 = .ok (.iload_n 1, 1) := by decide +kernel
theorem dX6_personIs_92 : decode cX6_personIs 92 = .ok (.iaload, 1) := by decide +kernel
theorem dX6_personIs_93 : decode cX6_personIs 93 = .ok (.ireturn, 1) := by decide +kernel
theorem dX6_personIs_94 : decode cX6_personIs 94 = .ok (.aload_n 0, 1) := by decide +kernel
theorem dX6_personIs_95 : decode cX6_personIs 95 = .ok (.getfield 12, 3) := by decide +kernel
theorem dX6_personIs_98 : decode cX6_personIs 98 = .ok (.getfield 89, 3) := by decide +kernel
theorem dX6_personIs_101 : decode cX6_personIs 101 = .ok (.iload_n 1, 1) := by decide +kernel
theorem dX6_personIs_102 : decode cX6_personIs 102 = .ok (.invokestatic 92, 3) := by decide +kernel
theorem dX6_personIs_105 : decode cX6_personIs 105 = .ok (.ireturn, 1) := by decide +kernel
theorem dX6_personIs_106 : decode cX6_personIs 106 = .ok (.aload_n 0, 1) := by decide +kernel
theorem dX6_personIs_107 : decode cX6_personIs 107 = .ok (.getfield 12, 3) := by decide +kernel
theorem dX6_personIs_110 : decode cX6_personIs 110 = .ok (.iload_n 1, 1) := by decide +kernel
theorem dX6_personIs_111 : decode cX6_personIs 111 = .ok (.invokevirtual 96, 3) := by decide +kernel
theorem dX6_personIs_114 : decode cX6_personIs 114 = .ok (.ireturn, 1) := by decide +kernel
theorem dX6_personIs_115 : decode cX6_personIs 115 = .ok (.aload_n 0, 1) := by decide +kernel
theorem dX6_personIs_116 : decode cX6_personIs 116 = .ok (.getfield 12, 3) := by decide +kernel
theorem dX6_personIs_119 : decode cX6_personIs 119 = .ok (.getfield 99, 3) := by decide +kernel
theorem dX6_personIs_122 : decode cX6_personIs 122 = .ok (.iload_n 1, 1) := by decide +kernel
theorem dX6_personIs_123 : decode cX6_personIs 123 = .ok (.iaload, 1) := by decide +kernel
theorem dX6_personIs_124 : decode cX6_personIs 124 = .ok (.ireturn, 1) := by decide +kernel
theorem dX6_personIs_125 : decode cX6_personIs 125 = .ok (.aload_n 0, 1) := by decide +kernel
theorem dX6_personIs_126 : decode cX6_personIs 126 = .ok (.iconst 1, 1) := by decide +kernel
theorem dX6_personIs_127 : decode cX6_personIs 127 = .ok (.invokevirtual 55, 3) := by decide +kernel
theorem dX6_personIs_130 : decode cX6_personIs 130 = .ok (.ireturn, 1) := by decide +kernel
theorem dX6_become_0 : decode cX6_become 0 = .ok (.aload_n 0, 1) := by decide +kernel
theorem dX6_become_1 : decode cX6_become 1 = .ok (.iload_n 1, 1) := by decide +kernel
theorem dX6_become_2 : decode cX6_become 2 = .ok (.invokevirtual 74, 3) := by decide +kernel
theorem dX6_become_5 : decode cX6_become 5 = .ok (.ifCond .ne 10, 3) := by decide +kernel
theorem dX6_become_8 : decode cX6_become 8 = .ok (.iload_n 2, 1) := by decide +kernel
theorem dX6_become_9 : decode cX6_become 9 = .ok (.invokestatic 51, 3) := by decide +kernel
theorem dX6_become_12 : decode cX6_become 12 = .ok (.ifCond .eq 9, 3) := by decide +kernel
theorem dX6_become_15 : decode cX6_become 15 = .ok (.aload_n 0, 1) := by decide +kernel
theorem dX6_become_16 : decode cX6_become 16 = .ok (.iconst 1, 1) := by decide +kernel
theorem dX6_become_17 : decode cX6_become 17 = .ok (.invokevirtual 55, 3) := by decide +kernel
theorem dX6_become_20 : decode cX6_become 20 = .ok (.ireturn, 1) := by decide +kernel
theorem dX6_become_21 : decode cX6_become 21 = .ok (.aload_n 0, 1) := by decide +kernel
theorem dX6_become_22 : decode cX6_become 22 = .ok (.getfield 12, 3) := by decide +kernel
theorem dX6_become_25 : decode cX6_become 25 = .ok (.iload_n 1, 1) := by decide +kernel
theorem dX6_become_26 : decode cX6_become 26 = .ok (.invokevirtual 77, 3) := by decide +kernel
theorem dX6_become_29 : decode cX6_become 29 = .ok (.istore_n 3, 1) := by decide +kernel
theorem dX6_become_30 : decode cX6_become 30 = .ok (.aload_n 0, 1) := by decide +kernel
theorem dX6_become_31 : decode cX6_become 31 = .ok (.getfield 12, 3) := by decide +kernel
theorem dX6_become_34 : decode cX6_become 34 = .ok (.getfield 102, 3) := by decide +kernel
theorem dX6_become_37 : decode cX6_become 37 = .ok (.iload_n 1, 1) := by decide +kernel
theorem dX6_become_38 : decode cX6_become 38 = .ok (.iload_n 2, 1) := by decide +kernel
theorem dX6_become_39 : decode cX6_become 39 = .ok (.iastore, 1) := by decide +kernel
theorem dX6_become_40 : decode cX6_become 40 = .ok (.iload_n 3, 1) := by decide +kernel
theorem dX6_become_41 : decode cX6_become 41 = .ok (.ireturn, 1) := by decide +kernel
theorem dX6_as_0 : decode cX6_as 0 = .ok (.aload_n 0, 1) := by decide +kernel
theorem dX6_as_1 : decode cX6_as 1 = .ok (.iload_n 1, 1) := by decide +kernel
theorem dX6_as_2 : decode cX6_as 2 = .ok (.invokevirtual 74, 3) := by decide +kernel
theorem dX6_as_5 : decode cX6_as 5 = .ok (.ifCond .ne 13, 3) := by decide +kernel
theorem dX6_as_8 : decode cX6_as 8 = .ok (.iload_n 2, 1) := by decide +kernel
theorem dX6_as_9 : decode cX6_as 9 = .ok (.ifCond .lt 9, 3) := by decide +kernel
theorem dX6_as_12 : decode cX6_as 12 = .ok (.iload_n 2, 1) := by decide +kernel
theorem dX6_as_13 : decode cX6_as 13 = .ok (.bipush 7, 2) := by decide +kernel
theorem dX6_as_15 : decode cX6_as 15 = .ok (.if_icmp .lt 9, 3) := by decide +kernel
theorem dX6_as_18 : decode cX6_as 18 = .ok (.aload_n 0, 1) := by decide +kernel
theorem dX6_as_19 : decode cX6_as 19 = .ok (.iconst 1, 1) := by decide +kernel
theorem dX6_as_20 : decode cX6_as 20 = .ok (.invokevirtual 55, 3) := by decide +kernel
theorem dX6_as_23 : decode cX6_as 23 = .ok (.ireturn, 1) := by decide +kernel
theorem dX6_as_24 : decode cX6_as 24 = .ok (.aload_n 0, 1) := by decide +kernel
theorem dX6_as_25 : decode cX6_as 25 = .ok (.getfield 12, 3) := by decide +kernel
theorem dX6_as_28 : decode cX6_as 28 = .ok (.iload_n 1, 1) := by decide +kernel
theorem dX6_as_29 : decode cX6_as 29 = .ok (.invokevirtual 77, 3) := by decide +kernel
theorem dX6_as_32 : decode cX6_as 32 = .ok (.iload_n 2, 1) := by decide +kernel
theorem dX6_as_33 : decode cX6_as 33 = .ok (.invokestatic 105, 3) := by decide +kernel
theorem dX6_as_36 : decode cX6_as 36 = .ok (.ifCond .ne 9, 3) := by decide +kernel
theorem dX6_as_39 : decode cX6_as 39 = .ok (.aload_n 0, 1) := by decide +kernel
theorem dX6_as_40 : decode cX6_as 40 = .ok (.iconst 5, 1) := by decide +kernel
theorem dX6_as_41 : decode cX6_as 41 = .ok (.invokevirtual 55, 3) := by decide +kernel
theorem dX6_as_44 : decode cX6_as 44 = .ok (.ireturn, 1) := by decide +kernel
theorem dX6_as_45 : decode cX6_as 45 = .ok (.aload_n 0, 1) := by decide +kernel
theorem dX6_as_46 : decode cX6_as 46 = .ok (.getfield 12, 3) := by decide +kernel
theorem dX6_as_49 : decode cX6_as 49 = .ok (.iload_n 1, 1) := by decide +kernel
theorem dX6_as_50 : decode cX6_as 50 = .ok (.invokevirtual 80, 3) := by decide +kernel
theorem dX6_as_53 : decode cX6_as 53 = .ok (.ireturn, 1) := by decide +kernel
theorem dX6_hold_0 : decode cX6_hold 0 = .ok (.aload_n 0, 1) := by decide +kernel
theorem dX6_hold_1 : decode cX6_hold 1 = .ok (.iload_n 1, 1) := by decide +kernel
theorem dX6_hold_2 : decode cX6_hold 2 = .ok (.invokevirtual 74, 3) := by decide +kernel
theorem dX6_hold_5 : decode cX6_hold 5 = .ok (.ifCond .ne 10, 3) := by decide +kernel
theorem dX6_hold_8 : decode cX6_hold 8 = .ok (.iload_n 2, 1) := by decide +kernel
theorem dX6_hold_9 : decode cX6_hold 9 = .ok (.invokestatic 108, 3) := by decide +kernel
theorem dX6_hold_12 : decode cX6_hold 12 = .ok (.ifCond .eq 9, 3) := by decide +kernel
theorem dX6_hold_15 : decode cX6_hold 15 = .ok (.aload_n 0, 1) := by decide +kernel
theorem dX6_hold_16 : decode cX6_hold 16 = .ok (.iconst 1, 1) := by decide +kernel
theorem dX6_hold_17 : decode cX6_hold 17 = .ok (.invokevirtual 55, 3) := by decide +kernel
theorem dX6_hold_20 : decode cX6_hold 20 = .ok (.ireturn, 1) := by decide +kernel
theorem dX6_hold_21 : decode cX6_hold 21 = .ok (.aload_n 0, 1) := by decide +kernel
theorem dX6_hold_22 : decode cX6_hold 22 = .ok (.getfield 12, 3) := by decide +kernel
theorem dX6_hold_25 : decode cX6_hold 25 = .ok (.getfield 89, 3) := by decide +kernel
theorem dX6_hold_28 : decode cX6_hold 28 = .ok (.iload_n 1, 1) := by decide +kernel
theorem dX6_hold_29 : decode cX6_hold 29 = .ok (.iload_n 2, 1) := by decide +kernel
theorem dX6_hold_30 : decode cX6_hold 30 = .ok (.invokestatic 111, 3) := by decide +kernel
theorem dX6_hold_33 : decode cX6_hold 33 = .ok (.iaload, 1) := by decide +kernel
theorem dX6_hold_34 : decode cX6_hold 34 = .ok (.ireturn, 1) := by decide +kernel
theorem dX6_spoon_0 : decode cX6_spoon 0 = .ok (.aload_n 0, 1) := by decide +kernel
theorem dX6_spoon_1 : decode cX6_spoon 1 = .ok (.iload_n 1, 1) := by decide +kernel
theorem dX6_spoon_2 : decode cX6_spoon 2 = .ok (.invokevirtual 74, 3) := by decide +kernel
theorem dX6_spoon_5 : decode cX6_spoon 5 = .ok (.ifCond .ne 20, 3) := by decide +kernel
theorem dX6_spoon_8 : decode cX6_spoon 8 = .ok (.iload_n 2, 1) := by decide +kernel
theorem dX6_spoon_9 : decode cX6_spoon 9 = .ok (.invokestatic 108, 3) := by decide +kernel
theorem dX6_spoon_12 : decode cX6_spoon 12 = .ok (.ifCond .ne 13, 3) := by decide +kernel
theorem dX6_spoon_15 : decode cX6_spoon 15 = .ok (.iload_n 3, 1) := by decide +kernel
theorem dX6_spoon_16 : decode cX6_spoon 16 = .ok (.iconst 0, 1) := by decide +kernel
theorem dX6_spoon_17 : decode cX6_spoon 17 = .ok (.bipush 99, 2) := by decide +kernel
theorem dX6_spoon_19 : decode cX6_spoon 19 = .ok (.invokestatic 115, 3) := by decide +kernel
theorem dX6_spoon_22 : decode cX6_spoon 22 = .ok (.ifCond .eq 9, 3) := by decide +kernel
theorem dX6_spoon_25 : decode cX6_spoon 25 = .ok (.aload_n 0, 1) := by decide +kernel
theorem dX6_spoon_26 : decode cX6_spoon 26 = .ok (.iconst 1, 1) := by decide +kernel
theorem dX6_spoon_27 : decode cX6_spoon 27 = .ok (.invokevirtual 55, 3) := by decide +kernel
theorem dX6_spoon_30 : decode cX6_spoon 30 = .ok (.ireturn, 1) := by decide +kernel
theorem dX6_spoon_31 : decode cX6_spoon 31 = .ok (.aload_n 0, 1) := by decide +kernel
theorem dX6_spoon_32 : decode cX6_spoon 32 = .ok (.getfield 12, 3) := by decide +kernel
theorem dX6_spoon_35 : decode cX6_spoon 35 = .ok (.getfield 89, 3) := by decide +kernel
theorem dX6_spoon_38 : decode cX6_spoon 38 = .ok (.iload_n 1, 1) := by decide +kernel
theorem dX6_spoon_39 : decode cX6_spoon 39 = .ok (.iload_n 2, 1) := by decide +kernel
theorem dX6_spoon_40 : decode cX6_spoon 40 = .ok (.invokestatic 111, 3) := by decide +kernel
theorem dX6_spoon_43 : decode cX6_spoon 43 = .ok (.iaload, 1) := by decide +kernel
theorem dX6_spoon_44 : decode cX6_spoon 44 = .ok (.istore 4, 2) := by decide +kernel
theorem dX6_spoon_46 : decode cX6_spoon 46 = .ok (.aload_n 0, 1) := by decide +kernel
theorem dX6_spoon_47 : decode cX6_spoon 47 = .ok (.getfield 12, 3) := by decide +kernel
theorem dX6_spoon_50 : decode cX6_spoon 50 = .ok (.getfield 89, 3) := by decide +kernel
theorem dX6_spoon_53 : decode cX6_spoon 53 = .ok (.iload_n 1, 1) := by decide +kernel
theorem dX6_spoon_54 : decode cX6_spoon 54 = .ok (.iload_n 2, 1) := by decide +kernel
theorem dX6_spoon_55 : decode cX6_spoon 55 = .ok (.invokestatic 111, 3) := by decide +kernel
theorem dX6_spoon_58 : decode cX6_spoon 58 = .ok (.iload_n 3, 1) := by decide +kernel
theorem dX6_spoon_59 : decode cX6_spoon 59 = .ok (.iastore, 1) := by decide +kernel
theorem dX6_spoon_60 : decode cX6_spoon 60 = .ok (.iload 4, 2) := by decide +kernel
theorem dX6_spoon_62 : decode cX6_spoon 62 = .ok (.ireturn, 1) := by decide +kernel
theorem dX6_gain_0 : decode cX6_gain 0 = .ok (.aload_n 0, 1) := by decide +kernel
theorem dX6_gain_1 : decode cX6_gain 1 = .ok (.iload_n 1, 1) := by decide +kernel
theorem dX6_gain_2 : decode cX6_gain 2 = .ok (.invokevirtual 74, 3) := by decide +kernel
theorem dX6_gain_5 : decode cX6_gain 5 = .ok (.ifCond .ne 10, 3) := by decide +kernel
theorem dX6_gain_8 : decode cX6_gain 8 = .ok (.iload_n 2, 1) := by decide +kernel
theorem dX6_gain_9 : decode cX6_gain 9 = .ok (.invokestatic 108, 3) := by decide +kernel
theorem dX6_gain_12 : decode cX6_gain 12 = .ok (.ifCond .eq 9, 3) := by decide +kernel
theorem dX6_gain_15 : decode cX6_gain 15 = .ok (.aload_n 0, 1) := by decide +kernel
theorem dX6_gain_16 : decode cX6_gain 16 = .ok (.iconst 1, 1) := by decide +kernel
theorem dX6_gain_17 : decode cX6_gain 17 = .ok (.invokevirtual 55, 3) := by decide +kernel
theorem dX6_gain_20 : decode cX6_gain 20 = .ok (.ireturn, 1) := by decide +kernel
theorem dX6_gain_21 : decode cX6_gain 21 = .ok (.aload_n 0, 1) := by decide +kernel
theorem dX6_gain_22 : decode cX6_gain 22 = .ok (.getfield 12, 3) := by decide +kernel
theorem dX6_gain_25 : decode cX6_gain 25 = .ok (.iload_n 1, 1) := by decide +kernel
theorem dX6_gain_26 : decode cX6_gain 26 = .ok (.iload_n 2, 1) := by decide +kernel
theorem dX6_gain_27 : decode cX6_gain 27 = .ok (.aload_n 0, 1) := by decide +kernel
theorem dX6_gain_28 : decode cX6_gain 28 = .ok (.getfield 12, 3) := by decide +kernel
theorem dX6_gain_31 : decode cX6_gain 31 = .ok (.getfield 89, 3) := by decide +kernel
theorem dX6_gain_34 : decode cX6_gain 34 = .ok (.iload_n 1, 1) := by decide +kernel
theorem dX6_gain_35 : decode cX6_gain 35 = .ok (.iload_n 2, 1) := by decide +kernel
theorem dX6_gain_36 : decode cX6_gain 36 = .ok (.invokestatic 111, 3) := by decide +kernel
theorem dX6_gain_39 : decode cX6_gain 39 = .ok (.iaload, 1) := by decide +kernel
theorem dX6_gain_40 : decode cX6_gain 40 = .ok (.aload_n 0, 1) := by decide +kernel
theorem dX6_gain_41 : decode cX6_gain 41 = .ok (.getfield 12, 3) := by decide +kernel
theorem dX6_gain_44 : decode cX6_gain 44 = .ok (.getfield 119, 3) := by decide +kernel
theorem dX6_gain_47 : decode cX6_gain 47 = .ok (.invokevirtual 122, 3) := by decide +kernel
theorem dX6_gain_50 : decode cX6_gain 50 = .ok (.ireturn, 1) := by decide +kernel
theorem dX6_lend_0 : decode cX6_lend 0 = .ok (.aload_n 0, 1) := by decide +kernel
theorem dX6_lend_1 : decode cX6_lend 1 = .ok (.iload_n 1, 1) := by decide +kernel
theorem dX6_lend_2 : decode cX6_lend 2 = .ok (.iload_n 2, 1) := by decide +kernel
theorem dX6_lend_3 : decode cX6_lend 3 = .ok (.invokevirtual 66, 3) := by decide +kernel
theorem dX6_lend_6 : decode cX6_lend 6 = .ok (.ifCond .ne 21, 3) := by decide +kernel
theorem dX6_lend_9 : decode cX6_lend 9 = .ok (.iload_n 3, 1) := by decide +kernel
theorem dX6_lend_10 : decode cX6_lend 10 = .ok (.invokestatic 108, 3) := by decide +kernel
theorem dX6_lend_13 : decode cX6_lend 13 = .ok (.ifCond .ne 14, 3) := by decide +kernel
theorem dX6_lend_16 : decode cX6_lend 16 = .ok (.iload 4, 2) := by decide +kernel
theorem dX6_lend_18 : decode cX6_lend 18 = .ok (.iconst 1, 1) := by decide +kernel
theorem dX6_lend_19 : decode cX6_lend 19 = .ok (.bipush 99, 2) := by decide +kernel
theorem dX6_lend_21 : decode cX6_lend 21 = .ok (.invokestatic 115, 3) := by decide +kernel
theorem dX6_lend_24 : decode cX6_lend 24 = .ok (.ifCond .eq 9, 3) := by decide +kernel
theorem dX6_lend_27 : decode cX6_lend 27 = .ok (.aload_n 0, 1) := by decide +kernel
theorem dX6_lend_28 : decode cX6_lend 28 = .ok (.iconst 1, 1) := by decide +kernel
theorem dX6_lend_29 : decode cX6_lend 29 = .ok (.invokevirtual 55, 3) := by decide +kernel
theorem dX6_lend_32 : decode cX6_lend 32 = .ok (.ireturn, 1) := by decide +kernel
theorem dX6_lend_33 : decode cX6_lend 33 = .ok (.iload_n 2, 1) := by decide +kernel
theorem dX6_lend_34 : decode cX6_lend 34 = .ok (.iload_n 1, 1) := by decide +kernel
theorem dX6_lend_35 : decode cX6_lend 35 = .ok (.invokestatic 126, 3) := by decide +kernel
theorem dX6_lend_38 : decode cX6_lend 38 = .ok (.istore 5, 2) := by decide +kernel
theorem dX6_lend_40 : decode cX6_lend 40 = .ok (.aload_n 0, 1) := by decide +kernel
theorem dX6_lend_41 : decode cX6_lend 41 = .ok (.getfield 12, 3) := by decide +kernel
theorem dX6_lend_44 : decode cX6_lend 44 = .ok (.iload_n 1, 1) := by decide +kernel
theorem dX6_lend_45 : decode cX6_lend 45 = .ok (.iload_n 2, 1) := by decide +kernel
theorem dX6_lend_46 : decode cX6_lend 46 = .ok (.iload_n 3, 1) := by decide +kernel
theorem dX6_lend_47 : decode cX6_lend 47 = .ok (.iload 4, 2) := by decide +kernel
theorem dX6_lend_49 : decode cX6_lend 49 = .ok (.invokevirtual 129, 3) := by decide +kernel
theorem dX6_lend_52 : decode cX6_lend 52 = .ok (.ifCond .eq 22, 3) := by decide +kernel
theorem dX6_lend_55 : decode cX6_lend 55 = .ok (.aload_n 0, 1) := by decide +kernel
theorem dX6_lend_56 : decode cX6_lend 56 = .ok (.getfield 12, 3) := by decide +kernel
theorem dX6_lend_59 : decode cX6_lend 59 = .ok (.getfield 133, 3) := by decide +kernel
theorem dX6_lend_62 : decode cX6_lend 62 = .ok (.iload 5, 2) := by decide +kernel
theorem dX6_lend_64 : decode cX6_lend 64 = .ok (.iaload, 1) := by decide +kernel
theorem dX6_lend_65 : decode cX6_lend 65 = .ok (.iload 4, 2) := by decide +kernel
theorem dX6_lend_67 : decode cX6_lend 67 = .ok (.iadd, 1) := by decide +kernel
theorem dX6_lend_68 : decode cX6_lend 68 = .ok (.sipush 999, 3) := by decide +kernel
theorem dX6_lend_71 : decode cX6_lend 71 = .ok (.if_icmp .le 9, 3) := by decide +kernel
theorem dX6_lend_74 : decode cX6_lend 74 = .ok (.aload_n 0, 1) := by decide +kernel
theorem dX6_lend_75 : decode cX6_lend 75 = .ok (.iconst 3, 1) := by decide +kernel
theorem dX6_lend_76 : decode cX6_lend 76 = .ok (.invokevirtual 55, 3) := by decide +kernel
theorem dX6_lend_79 : decode cX6_lend 79 = .ok (.ireturn, 1) := by decide +kernel
theorem dX6_lend_80 : decode cX6_lend 80 = .ok (.aload_n 0, 1) := by decide +kernel
theorem dX6_lend_81 : decode cX6_lend 81 = .ok (.getfield 12, 3) := by decide +kernel
theorem dX6_lend_84 : decode cX6_lend 84 = .ok (.iload_n 1, 1) := by decide +kernel
theorem dX6_lend_85 : decode cX6_lend 85 = .ok (.iload_n 2, 1) := by decide +kernel
theorem dX6_lend_86 : decode cX6_lend 86 = .ok (.iload_n 3, 1) := by decide +kernel
theorem dX6_lend_87 : decode cX6_lend 87 = .ok (.iload 4, 2) := by decide +kernel
theorem dX6_lend_89 : decode cX6_lend 89 = .ok (.invokevirtual 136, 3) := by decide +kernel
theorem dX6_lend_92 : decode cX6_lend 92 = .ok (.aload_n 0, 1) := by decide +kernel
theorem dX6_lend_93 : decode cX6_lend 93 = .ok (.getfield 12, 3) := by decide +kernel
theorem dX6_lend_96 : decode cX6_lend 96 = .ok (.getfield 133, 3) := by decide +kernel
theorem dX6_lend_99 : decode cX6_lend 99 = .ok (.iload 5, 2) := by decide +kernel
theorem dX6_lend_101 : decode cX6_lend 101 = .ok (.dup2, 1) := by decide +kernel
theorem dX6_lend_102 : decode cX6_lend 102 = .ok (.iaload, 1) := by decide +kernel
theorem dX6_lend_103 : decode cX6_lend 103 = .ok (.iload 4, 2) := by decide +kernel
theorem dX6_lend_105 : decode cX6_lend 105 = .ok (.iadd, 1) := by decide +kernel
theorem dX6_lend_106 : decode cX6_lend 106 = .ok (.iastore, 1) := by decide +kernel
theorem dX6_lend_107 : decode cX6_lend 107 = .ok (.aload_n 0, 1) := by decide +kernel
theorem dX6_lend_108 : decode cX6_lend 108 = .ok (.getfield 12, 3) := by decide +kernel
theorem dX6_lend_111 : decode cX6_lend 111 = .ok (.getfield 133, 3) := by decide +kernel
theorem dX6_lend_114 : decode cX6_lend 114 = .ok (.iload 5, 2) := by decide +kernel
theorem dX6_lend_116 : decode cX6_lend 116 = .ok (.iaload, 1) := by decide +kernel
theorem dX6_lend_117 : decode cX6_lend 117 = .ok (.ireturn, 1) := by decide +kernel
theorem dX6_repay_0 : decode cX6_repay 0 = .ok (.aload_n 0, 1) := by decide +kernel
theorem dX6_repay_1 : decode cX6_repay 1 = .ok (.iload_n 1, 1) := by decide +kernel
theorem dX6_repay_2 : decode cX6_repay 2 = .ok (.iload_n 2, 1) := by decide +kernel
theorem dX6_repay_3 : decode cX6_repay 3 = .ok (.invokevirtual 66, 3) := by decide +kernel
theorem dX6_repay_6 : decode cX6_repay 6 = .ok (.ifCond .ne 21, 3) := by decide +kernel
theorem dX6_repay_9 : decode cX6_repay 9 = .ok (.iload_n 3, 1) := by decide +kernel
theorem dX6_repay_10 : decode cX6_repay 10 = .ok (.invokestatic 108, 3) := by decide +kernel
theorem dX6_repay_13 : decode cX6_repay 13 = .ok (.ifCond .ne 14, 3) := by decide +kernel
theorem dX6_repay_16 : decode cX6_repay 16 = .ok (.iload 4, 2) := by decide +kernel
theorem dX6_repay_18 : decode cX6_repay 18 = .ok (.iconst 1, 1) := by decide +kernel
theorem dX6_repay_19 : decode cX6_repay 19 = .ok (.bipush 99, 2) := by decide +kernel
theorem dX6_repay_21 : decode cX6_repay 21 = .ok (.invokestatic 115, 3) := by decide +kernel
theorem dX6_repay_24 : decode cX6_repay 24 = .ok (.ifCond .eq 9, 3) := by decide +kernel
theorem dX6_repay_27 : decode cX6_repay 27 = .ok (.aload_n 0, 1) := by decide +kernel
theorem dX6_repay_28 : decode cX6_repay 28 = .ok (.iconst 1, 1) := by decide +kernel
theorem dX6_repay_29 : decode cX6_repay 29 = .ok (.invokevirtual 55, 3) := by decide +kernel
theorem dX6_repay_32 : decode cX6_repay 32 = .ok (.ireturn, 1) := by decide +kernel
theorem dX6_repay_33 : decode cX6_repay 33 = .ok (.iload_n 1, 1) := by decide +kernel
theorem dX6_repay_34 : decode cX6_repay 34 = .ok (.iload_n 2, 1) := by decide +kernel
theorem dX6_repay_35 : decode cX6_repay 35 = .ok (.invokestatic 126, 3) := by decide +kernel
theorem dX6_repay_38 : decode cX6_repay 38 = .ok (.istore 5, 2) := by decide +kernel
theorem dX6_repay_40 : decode cX6_repay 40 = .ok (.aload_n 0, 1) := by decide +kernel
theorem dX6_repay_41 : decode cX6_repay 41 = .ok (.getfield 12, 3) := by decide +kernel
theorem dX6_repay_44 : decode cX6_repay 44 = .ok (.iload_n 1, 1) := by decide +kernel
theorem dX6_repay_45 : decode cX6_repay 45 = .ok (.iload_n 2, 1) := by decide +kernel
theorem dX6_repay_46 : decode cX6_repay 46 = .ok (.iload_n 3, 1) := by decide +kernel
theorem dX6_repay_47 : decode cX6_repay 47 = .ok (.iload 4, 2) := by decide +kernel
theorem dX6_repay_49 : decode cX6_repay 49 = .ok (.invokevirtual 129, 3) := by decide +kernel
theorem dX6_repay_52 : decode cX6_repay 52 = .ok (.ifCond .eq 18, 3) := by decide +kernel
theorem dX6_repay_55 : decode cX6_repay 55 = .ok (.aload_n 0, 1) := by decide +kernel
theorem dX6_repay_56 : decode cX6_repay 56 = .ok (.getfield 12, 3) := by decide +kernel
theorem dX6_repay_59 : decode cX6_repay 59 = .ok (.getfield 133, 3) := by decide +kernel
theorem dX6_repay_62 : decode cX6_repay 62 = .ok (.iload 5, 2) := by decide +kernel
theorem dX6_repay_64 : decode cX6_repay 64 = .ok (.iaload, 1) := by decide +kernel
theorem dX6_repay_65 : decode cX6_repay 65 = .ok (.iload 4, 2) := by decide +kernel
theorem dX6_repay_67 : decode cX6_repay 67 = .ok (.if_icmp .ge 9, 3) := by decide +kernel
theorem dX6_repay_70 : decode cX6_repay 70 = .ok (.aload_n 0, 1) := by decide +kernel
theorem dX6_repay_71 : decode cX6_repay 71 = .ok (.iconst 3, 1) := by decide +kernel
theorem dX6_repay_72 : decode cX6_repay 72 = .ok (.invokevirtual 55, 3) := by decide +kernel
theorem dX6_repay_75 : decode cX6_repay 75 = .ok (.ireturn, 1) := by decide +kernel
theorem dX6_repay_76 : decode cX6_repay 76 = .ok (.aload_n 0, 1) := by decide +kernel
theorem dX6_repay_77 : decode cX6_repay 77 = .ok (.getfield 12, 3) := by decide +kernel
theorem dX6_repay_80 : decode cX6_repay 80 = .ok (.iload_n 1, 1) := by decide +kernel
theorem dX6_repay_81 : decode cX6_repay 81 = .ok (.iload_n 2, 1) := by decide +kernel
theorem dX6_repay_82 : decode cX6_repay 82 = .ok (.iload_n 3, 1) := by decide +kernel
theorem dX6_repay_83 : decode cX6_repay 83 = .ok (.iload 4, 2) := by decide +kernel
theorem dX6_repay_85 : decode cX6_repay 85 = .ok (.invokevirtual 136, 3) := by decide +kernel
theorem dX6_repay_88 : decode cX6_repay 88 = .ok (.aload_n 0, 1) := by decide +kernel
theorem dX6_repay_89 : decode cX6_repay 89 = .ok (.getfield 12, 3) := by decide +kernel
theorem dX6_repay_92 : decode cX6_repay 92 = .ok (.getfield 133, 3) := by decide +kernel
theorem dX6_repay_95 : decode cX6_repay 95 = .ok (.iload 5, 2) := by decide +kernel
theorem dX6_repay_97 : decode cX6_repay 97 = .ok (.dup2, 1) := by decide +kernel
theorem dX6_repay_98 : decode cX6_repay 98 = .ok (.iaload, 1) := by decide +kernel
theorem dX6_repay_99 : decode cX6_repay 99 = .ok (.iload 4, 2) := by decide +kernel
theorem dX6_repay_101 : decode cX6_repay 101 = .ok (.isub, 1) := by decide +kernel
theorem dX6_repay_102 : decode cX6_repay 102 = .ok (.iastore, 1) := by decide +kernel
theorem dX6_repay_103 : decode cX6_repay 103 = .ok (.aload_n 0, 1) := by decide +kernel
theorem dX6_repay_104 : decode cX6_repay 104 = .ok (.getfield 12, 3) := by decide +kernel
theorem dX6_repay_107 : decode cX6_repay 107 = .ok (.getfield 133, 3) := by decide +kernel
theorem dX6_repay_110 : decode cX6_repay 110 = .ok (.iload 5, 2) := by decide +kernel
theorem dX6_repay_112 : decode cX6_repay 112 = .ok (.iaload, 1) := by decide +kernel
theorem dX6_repay_113 : decode cX6_repay 113 = .ok (.ireturn, 1) := by decide +kernel
theorem dX6_owes_0 : decode cX6_owes 0 = .ok (.aload_n 0, 1) := by decide +kernel
theorem dX6_owes_1 : decode cX6_owes 1 = .ok (.iload_n 1, 1) := by decide +kernel
theorem dX6_owes_2 : decode cX6_owes 2 = .ok (.iload_n 2, 1) := by decide +kernel
theorem dX6_owes_3 : decode cX6_owes 3 = .ok (.invokevirtual 66, 3) := by decide +kernel
theorem dX6_owes_6 : decode cX6_owes 6 = .ok (.ifCond .eq 9, 3) := by decide +kernel
theorem dX6_owes_9 : decode cX6_owes 9 = .ok (.aload_n 0, 1) := by decide +kernel
theorem dX6_owes_10 : decode cX6_owes 10 = .ok (.iconst 1, 1) := by decide +kernel
theorem dX6_owes_11 : decode cX6_owes 11 = .ok (.invokevirtual 55, 3) := by decide +kernel
theorem dX6_owes_14 : decode cX6_owes 14 = .ok (.ireturn, 1) := by decide +kernel
theorem dX6_owes_15 : decode cX6_owes 15 = .ok (.aload_n 0, 1) := by decide +kernel
theorem dX6_owes_16 : decode cX6_owes 16 = .ok (.getfield 12, 3) := by decide +kernel
theorem dX6_owes_19 : decode cX6_owes 19 = .ok (.getfield 133, 3) := by decide +kernel
theorem dX6_owes_22 : decode cX6_owes 22 = .ok (.iload_n 1, 1) := by decide +kernel
theorem dX6_owes_23 : decode cX6_owes 23 = .ok (.iload_n 2, 1) := by decide +kernel
theorem dX6_owes_24 : decode cX6_owes 24 = .ok (.invokestatic 126, 3) := by decide +kernel
theorem dX6_owes_27 : decode cX6_owes 27 = .ok (.iaload, 1) := by decide +kernel
theorem dX6_owes_28 : decode cX6_owes 28 = .ok (.ireturn, 1) := by decide +kernel
theorem dX6_feed_0 : decode cX6_feed 0 = .ok (.iload_n 3, 1) := by decide +kernel
theorem dX6_feed_1 : decode cX6_feed 1 = .ok (.iconst 1, 1) := by decide +kernel
theorem dX6_feed_2 : decode cX6_feed 2 = .ok (.bipush 8, 2) := by decide +kernel
theorem dX6_feed_4 : decode cX6_feed 4 = .ok (.invokestatic 115, 3) := by decide +kernel
theorem dX6_feed_7 : decode cX6_feed 7 = .ok (.ifCond .eq 9, 3) := by decide +kernel
theorem dX6_feed_10 : decode cX6_feed 10 = .ok (.aload_n 0, 1) := by decide +kernel
theorem dX6_feed_11 : decode cX6_feed 11 = .ok (.iconst 1, 1) := by decide +kernel
theorem dX6_feed_12 : decode cX6_feed 12 = .ok (.invokevirtual 55, 3) := by decide +kernel
theorem dX6_feed_15 : decode cX6_feed 15 = .ok (.ireturn, 1) := by decide +kernel
theorem dX6_feed_16 : decode cX6_feed 16 = .ok (.aload_n 0, 1) := by decide +kernel
theorem dX6_feed_17 : decode cX6_feed 17 = .ok (.getfield 12, 3) := by decide +kernel
theorem dX6_feed_20 : decode cX6_feed 20 = .ok (.getfield 140, 3) := by decide +kernel
theorem dX6_feed_23 : decode cX6_feed 23 = .ok (.iload_n 3, 1) := by decide +kernel
theorem dX6_feed_24 : decode cX6_feed 24 = .ok (.iadd, 1) := by decide +kernel
theorem dX6_feed_25 : decode cX6_feed 25 = .ok (.bipush 60, 2) := by decide +kernel
theorem dX6_feed_27 : decode cX6_feed 27 = .ok (.if_icmp .le 9, 3) := by decide +kernel
theorem dX6_feed_30 : decode cX6_feed 30 = .ok (.aload_n 0, 1) := by decide +kernel
theorem dX6_feed_31 : decode cX6_feed 31 = .ok (.iconst 4, 1) := by decide +kernel
theorem dX6_feed_32 : decode cX6_feed 32 = .ok (.invokevirtual 55, 3) := by decide +kernel
theorem dX6_feed_35 : decode cX6_feed 35 = .ok (.ireturn, 1) := by decide +kernel
theorem dX6_feed_36 : decode cX6_feed 36 = .ok (.iconst 0, 1) := by decide +kernel
theorem dX6_feed_37 : decode cX6_feed 37 = .ok (.istore 4, 2) := by decide +kernel
theorem dX6_feed_39 : decode cX6_feed 39 = .ok (.iload 4, 2) := by decide +kernel
theorem dX6_feed_41 : decode cX6_feed 41 = .ok (.iload_n 3, 1) := by decide +kernel
theorem dX6_feed_42 : decode cX6_feed 42 = .ok (.if_icmp .ge 39, 3) := by decide +kernel
theorem dX6_feed_45 : decode cX6_feed 45 = .ok (.aload_n 0, 1) := by decide +kernel
theorem dX6_feed_46 : decode cX6_feed 46 = .ok (.getfield 12, 3) := by decide +kernel
theorem dX6_feed_49 : decode cX6_feed 49 = .ok (.getfield 143, 3) := by decide +kernel
theorem dX6_feed_52 : decode cX6_feed 52 = .ok (.aload_n 0, 1) := by decide +kernel
theorem dX6_feed_53 : decode cX6_feed 53 = .ok (.getfield 12, 3) := by decide +kernel
theorem dX6_feed_56 : decode cX6_feed 56 = .ok (.getfield 140, 3) := by decide +kernel
theorem dX6_feed_59 : decode cX6_feed 59 = .ok (.iload 4, 2) := by decide +kernel
theorem dX6_feed_61 : decode cX6_feed 61 = .ok (.iadd, 1) := by decide +kernel
theorem dX6_feed_62 : decode cX6_feed 62 = .ok (.lload_n 1, 1) := by decide +kernel
theorem dX6_feed_63 : decode cX6_feed 63 = .ok (.bipush 8, 2) := by decide +kernel
theorem dX6_feed_65 : decode cX6_feed 65 = .ok (.iload 4, 2) := by decide +kernel
theorem dX6_feed_67 : decode cX6_feed 67 = .ok (.imul, 1) := by decide +kernel
theorem dX6_feed_68 : decode cX6_feed 68 = .ok (.lushr, 1) := by decide +kernel
theorem dX6_feed_69 : decode cX6_feed 69 = .ok (.l2i, 1) := by decide +kernel
theorem dX6_feed_70 : decode cX6_feed 70 = .ok (.sipush 255, 3) := by decide +kernel
theorem dX6_feed_73 : decode cX6_feed 73 = .ok (.iand, 1) := by decide +kernel
theorem dX6_feed_74 : decode cX6_feed 74 = .ok (.iastore, 1) := by decide +kernel
theorem dX6_feed_75 : decode cX6_feed 75 = .ok (.iinc 4 1, 3) := by decide +kernel
theorem dX6_feed_78 : decode cX6_feed 78 = .ok (.goto (-39), 3) := by decide +kernel
theorem dX6_feed_81 : decode cX6_feed 81 = .ok (.aload_n 0, 1) := by decide +kernel
theorem dX6_feed_82 : decode cX6_feed 82 = .ok (.getfield 12, 3) := by decide +kernel
theorem dX6_feed_85 : decode cX6_feed 85 = .ok (.dup, 1) := by decide +kernel
theorem dX6_feed_86 : decode cX6_feed 86 = .ok (.getfield 140, 3) := by decide +kernel
theorem dX6_feed_89 : decode cX6_feed 89 = .ok (.iload_n 3, 1) := by decide +kernel
theorem dX6_feed_90 : decode cX6_feed 90 = .ok (.iadd, 1) := by decide +kernel
theorem dX6_feed_91 : decode cX6_feed 91 = .ok (.putfield 140, 3) := by decide +kernel
theorem dX6_feed_94 : decode cX6_feed 94 = .ok (.aload_n 0, 1) := by decide +kernel
theorem dX6_feed_95 : decode cX6_feed 95 = .ok (.getfield 12, 3) := by decide +kernel
theorem dX6_feed_98 : decode cX6_feed 98 = .ok (.getfield 140, 3) := by decide +kernel
theorem dX6_feed_101 : decode cX6_feed 101 = .ok (.ireturn, 1) := by decide +kernel
theorem dX6_text_0 : decode cX6_text 0 = .ok (.iload_n 1, 1) := by decide +kernel
theorem dX6_text_1 : decode cX6_text 1 = .ok (.invokestatic 146, 3) := by decide +kernel
theorem dX6_text_4 : decode cX6_text 4 = .ok (.ifCond .eq 9, 3) := by decide +kernel
theorem dX6_text_7 : decode cX6_text 7 = .ok (.aload_n 0, 1) := by decide +kernel
theorem dX6_text_8 : decode cX6_text 8 = .ok (.iconst 1, 1) := by decide +kernel
theorem dX6_text_9 : decode cX6_text 9 = .ok (.invokevirtual 55, 3) := by decide +kernel
theorem dX6_text_12 : decode cX6_text 12 = .ok (.ireturn, 1) := by decide +kernel
theorem dX6_text_13 : decode cX6_text 13 = .ok (.aload_n 0, 1) := by decide +kernel
theorem dX6_text_14 : decode cX6_text 14 = .ok (.getfield 33, 3) := by decide +kernel
theorem dX6_text_17 : decode cX6_text 17 = .ok (.aload_n 0, 1) := by decide +kernel
theorem dX6_text_18 : decode cX6_text 18 = .ok (.getfield 12, 3) := by decide +kernel
theorem dX6_text_21 : decode cX6_text 21 = .ok (.iload_n 1, 1) := by decide +kernel
theorem dX6_text_22 : decode cX6_text 22 = .ok (.invokevirtual 149, 3) := by decide +kernel
theorem dX6_text_25 : decode cX6_text 25 = .ok (.istore_n 2, 1) := by decide +kernel
theorem dX6_text_26 : decode cX6_text 26 = .ok (.aload_n 0, 1) := by decide +kernel
theorem dX6_text_27 : decode cX6_text 27 = .ok (.getfield 12, 3) := by decide +kernel
theorem dX6_text_30 : decode cX6_text 30 = .ok (.iconst 0, 1) := by decide +kernel
theorem dX6_text_31 : decode cX6_text 31 = .ok (.putfield 140, 3) := by decide +kernel
theorem dX6_text_34 : decode cX6_text 34 = .ok (.iload_n 2, 1) := by decide +kernel
theorem dX6_text_35 : decode cX6_text 35 = .ok (.ifCond .lt 8, 3) := by decide +kernel
theorem dX6_text_38 : decode cX6_text 38 = .ok (.bipush (-10), 2) := by decide +kernel
theorem dX6_text_40 : decode cX6_text 40 = .ok (.iload_n 2, 1) := by decide +kernel
theorem dX6_text_41 : decode cX6_text 41 = .ok (.isub, 1) := by decide +kernel
theorem dX6_text_42 : decode cX6_text 42 = .ok (.ireturn, 1) := by decide +kernel
theorem dX6_text_43 : decode cX6_text 43 = .ok (.aload_n 0, 1) := by decide +kernel
theorem dX6_text_44 : decode cX6_text 44 = .ok (.getfield 12, 3) := by decide +kernel
theorem dX6_text_47 : decode cX6_text 47 = .ok (.iload_n 1, 1) := by decide +kernel
theorem dX6_text_48 : decode cX6_text 48 = .ok (.invokevirtual 153, 3) := by decide +kernel
theorem dX6_text_51 : decode cX6_text 51 = .ok (.aload_n 0, 1) := by decide +kernel
theorem dX6_text_52 : decode cX6_text 52 = .ok (.getfield 33, 3) := by decide +kernel
theorem dX6_text_55 : decode cX6_text 55 = .ok (.getfield 157, 3) := by decide +kernel
theorem dX6_text_58 : decode cX6_text 58 = .ok (.invokevirtual 161, 3) := by decide +kernel
theorem dX6_text_61 : decode cX6_text 61 = .ok (.iconst 1, 1) := by decide +kernel
theorem dX6_text_62 : decode cX6_text 62 = .ok (.ireturn, 1) := by decide +kernel
theorem dX6_untell_0 : decode cX6_untell 0 = .ok (.iload_n 1, 1) := by decide +kernel
theorem dX6_untell_1 : decode cX6_untell 1 = .ok (.invokestatic 146, 3) := by decide +kernel
theorem dX6_untell_4 : decode cX6_untell 4 = .ok (.ifCond .eq 9, 3) := by decide +kernel
theorem dX6_untell_7 : decode cX6_untell 7 = .ok (.aload_n 0, 1) := by decide +kernel
theorem dX6_untell_8 : decode cX6_untell 8 = .ok (.iconst 1, 1) := by decide +kernel
theorem dX6_untell_9 : decode cX6_untell 9 = .ok (.invokevirtual 55, 3) := by decide +kernel
theorem dX6_untell_12 : decode cX6_untell 12 = .ok (.ireturn, 1) := by decide +kernel
theorem dX6_untell_13 : decode cX6_untell 13 = .ok (.aload_n 0, 1) := by decide +kernel
theorem dX6_untell_14 : decode cX6_untell 14 = .ok (.getfield 12, 3) := by decide +kernel
theorem dX6_untell_17 : decode cX6_untell 17 = .ok (.iload_n 1, 1) := by decide +kernel
theorem dX6_untell_18 : decode cX6_untell 18 = .ok (.invokevirtual 153, 3) := by decide +kernel
theorem dX6_untell_21 : decode cX6_untell 21 = .ok (.astore_n 2, 1) := by decide +kernel
theorem dX6_untell_22 : decode cX6_untell 22 = .ok (.aload_n 2, 1) := by decide +kernel
theorem dX6_untell_23 : decode cX6_untell 23 = .ok (.invokevirtual 167, 3) := by decide +kernel
theorem dX6_untell_26 : decode cX6_untell 26 = .ok (.invokestatic 171, 3) := by decide +kernel
theorem dX6_untell_29 : decode cX6_untell 29 = .ok (.istore_n 3, 1) := by decide +kernel
theorem dX6_untell_30 : decode cX6_untell 30 = .ok (.aload_n 2, 1) := by decide +kernel
theorem dX6_untell_31 : decode cX6_untell 31 = .ok (.invokevirtual 175, 3) := by decide +kernel
theorem dX6_untell_34 : decode cX6_untell 34 = .ok (.iload_n 3, 1) := by decide +kernel
theorem dX6_untell_35 : decode cX6_untell 35 = .ok (.ireturn, 1) := by decide +kernel
theorem dX6_law_0 : decode cX6_law 0 = .ok (.iload_n 1, 1) := by decide +kernel
theorem dX6_law_1 : decode cX6_law 1 = .ok (.invokestatic 146, 3) := by decide +kernel
theorem dX6_law_4 : decode cX6_law 4 = .ok (.ifCond .eq 9, 3) := by decide +kernel
theorem dX6_law_7 : decode cX6_law 7 = .ok (.aload_n 0, 1) := by decide +kernel
theorem dX6_law_8 : decode cX6_law 8 = .ok (.iconst 1, 1) := by decide +kernel
theorem dX6_law_9 : decode cX6_law 9 = .ok (.invokevirtual 55, 3) := by decide +kernel
theorem dX6_law_12 : decode cX6_law 12 = .ok (.ireturn, 1) := by decide +kernel
theorem dX6_law_13 : decode cX6_law 13 = .ok (.aload_n 0, 1) := by decide +kernel
theorem dX6_law_14 : decode cX6_law 14 = .ok (.getfield 12, 3) := by decide +kernel
theorem dX6_law_17 : decode cX6_law 17 = .ok (.iload_n 1, 1) := by decide +kernel
theorem dX6_law_18 : decode cX6_law 18 = .ok (.iload_n 2, 1) := by decide +kernel
theorem dX6_law_19 : decode cX6_law 19 = .ok (.iload_n 3, 1) := by decide +kernel
theorem dX6_law_20 : decode cX6_law 20 = .ok (.iload 4, 2) := by decide +kernel
theorem dX6_law_22 : decode cX6_law 22 = .ok (.invokevirtual 178, 3) := by decide +kernel
theorem dX6_law_25 : decode cX6_law 25 = .ok (.ireturn, 1) := by decide +kernel
theorem dX6_years_0 : decode cX6_years 0 = .ok (.iload_n 1, 1) := by decide +kernel
theorem dX6_years_1 : decode cX6_years 1 = .ok (.iconst 1, 1) := by decide +kernel
theorem dX6_years_2 : decode cX6_years 2 = .ok (.bipush 60, 2) := by decide +kernel
theorem dX6_years_4 : decode cX6_years 4 = .ok (.invokestatic 115, 3) := by decide +kernel
theorem dX6_years_7 : decode cX6_years 7 = .ok (.ifCond .eq 9, 3) := by decide +kernel
theorem dX6_years_10 : decode cX6_years 10 = .ok (.aload_n 0, 1) := by decide +kernel
theorem dX6_years_11 : decode cX6_years 11 = .ok (.iconst 1, 1) := by decide +kernel
theorem dX6_years_12 : decode cX6_years 12 = .ok (.invokevirtual 55, 3) := by decide +kernel
theorem dX6_years_15 : decode cX6_years 15 = .ok (.ireturn, 1) := by decide +kernel
theorem dX6_years_16 : decode cX6_years 16 = .ok (.aload_n 0, 1) := by decide +kernel
theorem dX6_years_17 : decode cX6_years 17 = .ok (.getfield 12, 3) := by decide +kernel
theorem dX6_years_20 : decode cX6_years 20 = .ok (.getfield 119, 3) := by decide +kernel
theorem dX6_years_23 : decode cX6_years 23 = .ok (.iload_n 1, 1) := by decide +kernel
theorem dX6_years_24 : decode cX6_years 24 = .ok (.iadd, 1) := by decide +kernel
theorem dX6_years_25 : decode cX6_years 25 = .ok (.sipush 999, 3) := by decide +kernel
theorem dX6_years_28 : decode cX6_years 28 = .ok (.if_icmp .le 9, 3) := by decide +kernel
theorem dX6_years_31 : decode cX6_years 31 = .ok (.aload_n 0, 1) := by decide +kernel
theorem dX6_years_32 : decode cX6_years 32 = .ok (.iconst 3, 1) := by decide +kernel
theorem dX6_years_33 : decode cX6_years 33 = .ok (.invokevirtual 55, 3) := by decide +kernel
theorem dX6_years_36 : decode cX6_years 36 = .ok (.ireturn, 1) := by decide +kernel
theorem dX6_years_37 : decode cX6_years 37 = .ok (.iconst 0, 1) := by decide +kernel
theorem dX6_years_38 : decode cX6_years 38 = .ok (.istore_n 2, 1) := by decide +kernel
theorem dX6_years_39 : decode cX6_years 39 = .ok (.iload_n 2, 1) := by decide +kernel
theorem dX6_years_40 : decode cX6_years 40 = .ok (.iload_n 1, 1) := by decide +kernel
theorem dX6_years_41 : decode cX6_years 41 = .ok (.if_icmp .ge 16, 3) := by decide +kernel
theorem dX6_years_44 : decode cX6_years 44 = .ok (.aload_n 0, 1) := by decide +kernel
theorem dX6_years_45 : decode cX6_years 45 = .ok (.getfield 12, 3) := by decide +kernel
theorem dX6_years_48 : decode cX6_years 48 = .ok (.invokevirtual 181, 3) := by decide +kernel
theorem dX6_years_51 : decode cX6_years 51 = .ok (.iinc 2 1, 3) := by decide +kernel
theorem dX6_years_54 : decode cX6_years 54 = .ok (.goto (-15), 3) := by decide +kernel
theorem dX6_years_57 : decode cX6_years 57 = .ok (.aload_n 0, 1) := by decide +kernel
theorem dX6_years_58 : decode cX6_years 58 = .ok (.getfield 12, 3) := by decide +kernel
theorem dX6_years_61 : decode cX6_years 61 = .ok (.getfield 119, 3) := by decide +kernel
theorem dX6_years_64 : decode cX6_years 64 = .ok (.ireturn, 1) := by decide +kernel
theorem dX6_loose_0 : decode cX6_loose 0 = .ok (.iload_n 1, 1) := by decide +kernel
theorem dX6_loose_1 : decode cX6_loose 1 = .ok (.iconst 1, 1) := by decide +kernel
theorem dX6_loose_2 : decode cX6_loose 2 = .ok (.bipush 20, 2) := by decide +kernel
theorem dX6_loose_4 : decode cX6_loose 4 = .ok (.invokestatic 115, 3) := by decide +kernel
theorem dX6_loose_7 : decode cX6_loose 7 = .ok (.ifCond .eq 9, 3) := by decide +kernel
theorem dX6_loose_10 : decode cX6_loose 10 = .ok (.aload_n 0, 1) := by decide +kernel
theorem dX6_loose_11 : decode cX6_loose 11 = .ok (.iconst 1, 1) := by decide +kernel
theorem dX6_loose_12 : decode cX6_loose 12 = .ok (.invokevirtual 55, 3) := by decide +kernel
theorem dX6_loose_15 : decode cX6_loose 15 = .ok (.ireturn, 1) := by decide +kernel
theorem dX6_loose_16 : decode cX6_loose 16 = .ok (.aload_n 0, 1) := by decide +kernel
theorem dX6_loose_17 : decode cX6_loose 17 = .ok (.getfield 12, 3) := by decide +kernel
theorem dX6_loose_20 : decode cX6_loose 20 = .ok (.getfield 119, 3) := by decide +kernel
theorem dX6_loose_23 : decode cX6_loose 23 = .ok (.iload_n 1, 1) := by decide +kernel
theorem dX6_loose_24 : decode cX6_loose 24 = .ok (.iadd, 1) := by decide +kernel
theorem dX6_loose_25 : decode cX6_loose 25 = .ok (.sipush 999, 3) := by decide +kernel
theorem dX6_loose_28 : decode cX6_loose 28 = .ok (.if_icmp .le 9, 3) := by decide +kernel
theorem dX6_loose_31 : decode cX6_loose 31 = .ok (.aload_n 0, 1) := by decide +kernel
theorem dX6_loose_32 : decode cX6_loose 32 = .ok (.iconst 3, 1) := by decide +kernel
theorem dX6_loose_33 : decode cX6_loose 33 = .ok (.invokevirtual 55, 3) := by decide +kernel
theorem dX6_loose_36 : decode cX6_loose 36 = .ok (.ireturn, 1) := by decide +kernel
theorem dX6_loose_37 : decode cX6_loose 37 = .ok (.iconst 0, 1) := by decide +kernel
theorem dX6_loose_38 : decode cX6_loose 38 = .ok (.istore_n 2, 1) := by decide +kernel
theorem dX6_loose_39 : decode cX6_loose 39 = .ok (.iconst 0, 1) := by decide +kernel
theorem dX6_loose_40 : decode cX6_loose 40 = .ok (.istore_n 3, 1) := by decide +kernel
theorem dX6_loose_41 : decode cX6_loose 41 = .ok (.iload_n 3, 1) := by decide +kernel
theorem dX6_loose_42 : decode cX6_loose 42 = .ok (.iload_n 1, 1) := by decide +kernel
theorem dX6_loose_43 : decode cX6_loose 43 = .ok (.if_icmp .ge 26, 3) := by decide +kernel
theorem dX6_loose_46 : decode cX6_loose 46 = .ok (.iload_n 2, 1) := by decide +kernel
theorem dX6_loose_47 : decode cX6_loose 47 = .ok (.aload_n 0, 1) := by decide +kernel
theorem dX6_loose_48 : decode cX6_loose 48 = .ok (.getfield 12, 3) := by decide +kernel
theorem dX6_loose_51 : decode cX6_loose 51 = .ok (.invokevirtual 184, 3) := by decide +kernel
theorem dX6_loose_54 : decode cX6_loose 54 = .ok (.iadd, 1) := by decide +kernel
theorem dX6_loose_55 : decode cX6_loose 55 = .ok (.istore_n 2, 1) := by decide +kernel
theorem dX6_loose_56 : decode cX6_loose 56 = .ok (.aload_n 0, 1) := by decide +kernel
theorem dX6_loose_57 : decode cX6_loose 57 = .ok (.getfield 12, 3) := by decide +kernel
theorem dX6_loose_60 : decode cX6_loose 60 = .ok (.invokevirtual 181, 3) := by decide +kernel
theorem dX6_loose_63 : decode cX6_loose 63 = .ok (.iinc 3 1, 3) := by decide +kernel
theorem dX6_loose_66 : decode cX6_loose 66 = .ok (.goto (-25), 3) := by decide +kernel
theorem dX6_loose_69 : decode cX6_loose 69 = .ok (.iload_n 2, 1) := by decide +kernel
theorem dX6_loose_70 : decode cX6_loose 70 = .ok (.ireturn, 1) := by decide +kernel
theorem dX6_year_0 : decode cX6_year 0 = .ok (.iload_n 1, 1) := by decide +kernel
theorem dX6_year_1 : decode cX6_year 1 = .ok (.iconst 0, 1) := by decide +kernel
theorem dX6_year_2 : decode cX6_year 2 = .ok (.sipush 999, 3) := by decide +kernel
theorem dX6_year_5 : decode cX6_year 5 = .ok (.invokestatic 115, 3) := by decide +kernel
theorem dX6_year_8 : decode cX6_year 8 = .ok (.ifCond .eq 9, 3) := by decide +kernel
theorem dX6_year_11 : decode cX6_year 11 = .ok (.aload_n 0, 1) := by decide +kernel
theorem dX6_year_12 : decode cX6_year 12 = .ok (.iconst 1, 1) := by decide +kernel
theorem dX6_year_13 : decode cX6_year 13 = .ok (.invokevirtual 55, 3) := by decide +kernel
theorem dX6_year_16 : decode cX6_year 16 = .ok (.ireturn, 1) := by decide +kernel
theorem dX6_year_17 : decode cX6_year 17 = .ok (.aload_n 0, 1) := by decide +kernel
theorem dX6_year_18 : decode cX6_year 18 = .ok (.getfield 12, 3) := by decide +kernel
theorem dX6_year_21 : decode cX6_year 21 = .ok (.getfield 119, 3) := by decide +kernel
theorem dX6_year_24 : decode cX6_year 24 = .ok (.istore_n 2, 1) := by decide +kernel
theorem dX6_year_25 : decode cX6_year 25 = .ok (.aload_n 0, 1) := by decide +kernel
theorem dX6_year_26 : decode cX6_year 26 = .ok (.getfield 12, 3) := by decide +kernel
theorem dX6_year_29 : decode cX6_year 29 = .ok (.iload_n 1, 1) := by decide +kernel
theorem dX6_year_30 : decode cX6_year 30 = .ok (.putfield 119, 3) := by decide +kernel
theorem dX6_year_33 : decode cX6_year 33 = .ok (.iload_n 2, 1) := by decide +kernel
theorem dX6_year_34 : decode cX6_year 34 = .ok (.ireturn, 1) := by decide +kernel
theorem dX6_seed_0 : decode cX6_seed 0 = .ok (.aload_n 0, 1) := by decide +kernel
theorem dX6_seed_1 : decode cX6_seed 1 = .ok (.getfield 12, 3) := by decide +kernel
theorem dX6_seed_4 : decode cX6_seed 4 = .ok (.getfield 188, 3) := by decide +kernel
theorem dX6_seed_7 : decode cX6_seed 7 = .ok (.istore_n 2, 1) := by decide +kernel
theorem dX6_seed_8 : decode cX6_seed 8 = .ok (.aload_n 0, 1) := by decide +kernel
theorem dX6_seed_9 : decode cX6_seed 9 = .ok (.getfield 12, 3) := by decide +kernel
theorem dX6_seed_12 : decode cX6_seed 12 = .ok (.iload_n 1, 1) := by decide +kernel
theorem dX6_seed_13 : decode cX6_seed 13 = .ok (.putfield 188, 3) := by decide +kernel
theorem dX6_seed_16 : decode cX6_seed 16 = .ok (.iload_n 2, 1) := by decide +kernel
theorem dX6_seed_17 : decode cX6_seed 17 = .ok (.ireturn, 1) := by decide +kernel
theorem dX6_then_0 : decode cX6_then 0 = .ok (.aload_n 0, 1) := by decide +kernel
theorem dX6_then_1 : decode cX6_then 1 = .ok (.iload_n 1, 1) := by decide +kernel
theorem dX6_then_2 : decode cX6_then 2 = .ok (.invokevirtual 74, 3) := by decide +kernel
theorem dX6_then_5 : decode cX6_then 5 = .ok (.ifCond .ne 20, 3) := by decide +kernel
theorem dX6_then_8 : decode cX6_then 8 = .ok (.iload_n 2, 1) := by decide +kernel
theorem dX6_then_9 : decode cX6_then 9 = .ok (.invokestatic 108, 3) := by decide +kernel
theorem dX6_then_12 : decode cX6_then 12 = .ok (.ifCond .ne 13, 3) := by decide +kernel
theorem dX6_then_15 : decode cX6_then 15 = .ok (.iload_n 3, 1) := by decide +kernel
theorem dX6_then_16 : decode cX6_then 16 = .ok (.iconst 0, 1) := by decide +kernel
theorem dX6_then_17 : decode cX6_then 17 = .ok (.bipush 60, 2) := by decide +kernel
theorem dX6_then_19 : decode cX6_then 19 = .ok (.invokestatic 115, 3) := by decide +kernel
theorem dX6_then_22 : decode cX6_then 22 = .ok (.ifCond .eq 9, 3) := by decide +kernel
theorem dX6_then_25 : decode cX6_then 25 = .ok (.aload_n 0, 1) := by decide +kernel
theorem dX6_then_26 : decode cX6_then 26 = .ok (.iconst 1, 1) := by decide +kernel
theorem dX6_then_27 : decode cX6_then 27 = .ok (.invokevirtual 55, 3) := by decide +kernel
theorem dX6_then_30 : decode cX6_then 30 = .ok (.ireturn, 1) := by decide +kernel
theorem dX6_then_31 : decode cX6_then 31 = .ok (.aload_n 0, 1) := by decide +kernel
theorem dX6_then_32 : decode cX6_then 32 = .ok (.getfield 40, 3) := by decide +kernel
theorem dX6_then_35 : decode cX6_then 35 = .ok (.aload_n 0, 1) := by decide +kernel
theorem dX6_then_36 : decode cX6_then 36 = .ok (.getfield 12, 3) := by decide +kernel
theorem dX6_then_39 : decode cX6_then 39 = .ok (.iload_n 1, 1) := by decide +kernel
theorem dX6_then_40 : decode cX6_then 40 = .ok (.iload_n 2, 1) := by decide +kernel
theorem dX6_then_41 : decode cX6_then 41 = .ok (.iload_n 3, 1) := by decide +kernel
theorem dX6_then_42 : decode cX6_then 42 = .ok (.invokevirtual 191, 3) := by decide +kernel
theorem dX6_then_45 : decode cX6_then 45 = .ok (.ireturn, 1) := by decide +kernel
theorem dX6_clean_0 : decode cX6_clean 0 = .ok (.iload_n 1, 1) := by decide +kernel
theorem dX6_clean_1 : decode cX6_clean 1 = .ok (.iconst 0, 1) := by decide +kernel
theorem dX6_clean_2 : decode cX6_clean 2 = .ok (.sipush 500, 3) := by decide +kernel
theorem dX6_clean_5 : decode cX6_clean 5 = .ok (.invokestatic 115, 3) := by decide +kernel
theorem dX6_clean_8 : decode cX6_clean 8 = .ok (.ifCond .ne 12, 3) := by decide +kernel
theorem dX6_clean_11 : decode cX6_clean 11 = .ok (.iload_n 2, 1) := by decide +kernel
theorem dX6_clean_12 : decode cX6_clean 12 = .ok (.iconst 0, 1) := by decide +kernel
theorem dX6_clean_13 : decode cX6_clean 13 = .ok (.iconst 1, 1) := by decide +kernel
theorem dX6_clean_14 : decode cX6_clean 14 = .ok (.invokestatic 115, 3) := by decide +kernel
theorem dX6_clean_17 : decode cX6_clean 17 = .ok (.ifCond .eq 9, 3) := by decide +kernel
theorem dX6_clean_20 : decode cX6_clean 20 = .ok (.aload_n 0, 1) := by decide +kernel
theorem dX6_clean_21 : decode cX6_clean 21 = .ok (.iconst 1, 1) := by decide +kernel
theorem dX6_clean_22 : decode cX6_clean 22 = .ok (.invokevirtual 55, 3) := by decide +kernel
theorem dX6_clean_25 : decode cX6_clean 25 = .ok (.ireturn, 1) := by decide +kernel
theorem dX6_clean_26 : decode cX6_clean 26 = .ok (.aload_n 0, 1) := by decide +kernel
theorem dX6_clean_27 : decode cX6_clean 27 = .ok (.getfield 40, 3) := by decide +kernel
theorem dX6_clean_30 : decode cX6_clean 30 = .ok (.aload_n 0, 1) := by decide +kernel
theorem dX6_clean_31 : decode cX6_clean 31 = .ok (.getfield 12, 3) := by decide +kernel
theorem dX6_clean_34 : decode cX6_clean 34 = .ok (.iload_n 1, 1) := by decide +kernel
theorem dX6_clean_35 : decode cX6_clean 35 = .ok (.invokevirtual 195, 3) := by decide +kernel
theorem dX6_clean_38 : decode cX6_clean 38 = .ok (.istore_n 3, 1) := by decide +kernel
theorem dX6_clean_39 : decode cX6_clean 39 = .ok (.iload_n 3, 1) := by decide +kernel
theorem dX6_clean_40 : decode cX6_clean 40 = .ok (.ifCond .ge 9, 3) := by decide +kernel
theorem dX6_clean_43 : decode cX6_clean 43 = .ok (.aload_n 0, 1) := by decide +kernel
theorem dX6_clean_44 : decode cX6_clean 44 = .ok (.iconst 2, 1) := by decide +kernel
theorem dX6_clean_45 : decode cX6_clean 45 = .ok (.invokevirtual 55, 3) := by decide +kernel
theorem dX6_clean_48 : decode cX6_clean 48 = .ok (.ireturn, 1) := by decide +kernel
theorem dX6_clean_49 : decode cX6_clean 49 = .ok (.iload_n 2, 1) := by decide +kernel
theorem dX6_clean_50 : decode cX6_clean 50 = .ok (.ifCond .ne 10, 3) := by decide +kernel
theorem dX6_clean_53 : decode cX6_clean 53 = .ok (.iload_n 3, 1) := by decide +kernel
theorem dX6_clean_54 : decode cX6_clean 54 = .ok (.bipush 8, 2) := by decide +kernel
theorem dX6_clean_56 : decode cX6_clean 56 = .ok (.irem, 1) := by decide +kernel
theorem dX6_clean_57 : decode cX6_clean 57 = .ok (.goto 7, 3) := by decide +kernel
theorem dX6_clean_60 : decode cX6_clean 60 = .ok (.iload_n 3, 1) := by decide +kernel
theorem dX6_clean_61 : decode cX6_clean 61 = .ok (.bipush 8, 2) := by decide +kernel
theorem dX6_clean_63 : decode cX6_clean 63 = .ok (.idiv, 1) := by decide +kernel
theorem dX6_clean_64 : decode cX6_clean 64 = .ok (.ireturn, 1) := by decide +kernel
theorem dX6_parents_0 : decode cX6_parents 0 = .ok (.aload_n 0, 1) := by decide +kernel
theorem dX6_parents_1 : decode cX6_parents 1 = .ok (.iload_n 1, 1) := by decide +kernel
theorem dX6_parents_2 : decode cX6_parents 2 = .ok (.invokevirtual 74, 3) := by decide +kernel
theorem dX6_parents_5 : decode cX6_parents 5 = .ok (.ifCond .ne 12, 3) := by decide +kernel
theorem dX6_parents_8 : decode cX6_parents 8 = .ok (.iload_n 2, 1) := by decide +kernel
theorem dX6_parents_9 : decode cX6_parents 9 = .ok (.iconst 0, 1) := by decide +kernel
theorem dX6_parents_10 : decode cX6_parents 10 = .ok (.iconst 2, 1) := by decide +kernel
theorem dX6_parents_11 : decode cX6_parents 11 = .ok (.invokestatic 115, 3) := by decide +kernel
theorem dX6_parents_14 : decode cX6_parents 14 = .ok (.ifCond .eq 9, 3) := by decide +kernel
theorem dX6_parents_17 : decode cX6_parents 17 = .ok (.aload_n 0, 1) := by decide +kernel
theorem dX6_parents_18 : decode cX6_parents 18 = .ok (.iconst 1, 1) := by decide +kernel
theorem dX6_parents_19 : decode cX6_parents 19 = .ok (.invokevirtual 55, 3) := by decide +kernel
theorem dX6_parents_22 : decode cX6_parents 22 = .ok (.ireturn, 1) := by decide +kernel
theorem dX6_parents_23 : decode cX6_parents 23 = .ok (.iload_n 2, 1) := by decide +kernel
theorem dX6_parents_24 : decode cX6_parents 24 = .ok (.ifCond .ne 16, 3) := by decide +kernel
theorem dX6_parents_27 : decode cX6_parents 27 = .ok (.aload_n 0, 1) := by decide +kernel
theorem dX6_parents_28 : decode cX6_parents 28 = .ok (.getfield 40, 3) := by decide +kernel
theorem dX6_parents_31 : decode cX6_parents 31 = .ok (.aload_n 0, 1) := by decide +kernel
theorem dX6_parents_32 : decode cX6_parents 32 = .ok (.getfield 12, 3) := by decide +kernel
theorem dX6_parents_35 : decode cX6_parents 35 = .ok (.iload_n 1, 1) := by decide +kernel
theorem dX6_parents_36 : decode cX6_parents 36 = .ok (.invokevirtual 198, 3) := by decide +kernel
theorem dX6_parents_39 : decode cX6_parents 39 = .ok (.ireturn, 1) := by decide +kernel
theorem dX6_parents_40 : decode cX6_parents 40 = .ok (.aload_n 0, 1) := by decide +kernel
theorem dX6_parents_41 : decode cX6_parents 41 = .ok (.getfield 40, 3) := by decide +kernel
theorem dX6_parents_44 : decode cX6_parents 44 = .ok (.aload_n 0, 1) := by decide +kernel
theorem dX6_parents_45 : decode cX6_parents 45 = .ok (.getfield 12, 3) := by decide +kernel
theorem dX6_parents_48 : decode cX6_parents 48 = .ok (.iload_n 1, 1) := by decide +kernel
theorem dX6_parents_49 : decode cX6_parents 49 = .ok (.invokevirtual 201, 3) := by decide +kernel
theorem dX6_parents_52 : decode cX6_parents 52 = .ok (.istore_n 3, 1) := by decide +kernel
theorem dX6_parents_53 : decode cX6_parents 53 = .ok (.iload_n 3, 1) := by decide +kernel
theorem dX6_parents_54 : decode cX6_parents 54 = .ok (.ifCond .ge 9, 3) := by decide +kernel
theorem dX6_parents_57 : decode cX6_parents 57 = .ok (.aload_n 0, 1) := by decide +kernel
theorem dX6_parents_58 : decode cX6_parents 58 = .ok (.iconst 2, 1) := by decide +kernel
theorem dX6_parents_59 : decode cX6_parents 59 = .ok (.invokevirtual 55, 3) := by decide +kernel
theorem dX6_parents_62 : decode cX6_parents 62 = .ok (.ireturn, 1) := by decide +kernel
theorem dX6_parents_63 : decode cX6_parents 63 = .ok (.iload_n 2, 1) := by decide +kernel
theorem dX6_parents_64 : decode cX6_parents 64 = .ok (.iconst 1, 1) := by decide +kernel
theorem dX6_parents_65 : decode cX6_parents 65 = .ok (.if_icmp .ne 10, 3) := by decide +kernel
theorem dX6_parents_68 : decode cX6_parents 68 = .ok (.iload_n 3, 1) := by decide +kernel
theorem dX6_parents_69 : decode cX6_parents 69 = .ok (.bipush 8, 2) := by decide +kernel
theorem dX6_parents_71 : decode cX6_parents 71 = .ok (.idiv, 1) := by decide +kernel
theorem dX6_parents_72 : decode cX6_parents 72 = .ok (.goto 7, 3) := by decide +kernel
theorem dX6_parents_75 : decode cX6_parents 75 = .ok (.iload_n 3, 1) := by decide +kernel
theorem dX6_parents_76 : decode cX6_parents 76 = .ok (.bipush 8, 2) := by decide +kernel
theorem dX6_parents_78 : decode cX6_parents 78 = .ok (.irem, 1) := by decide +kernel
theorem dX6_parents_79 : decode cX6_parents 79 = .ok (.ireturn, 1) := by decide +kernel
theorem dX6_falseSorts_0 : decode cX6_falseSorts 0 = .ok (.aload_n 0, 1) := by decide +kernel
theorem dX6_falseSorts_1 : decode cX6_falseSorts 1 = .ok (.iload_n 1, 1) := by decide +kernel
theorem dX6_falseSorts_2 : decode cX6_falseSorts 2 = .ok (.invokevirtual 74, 3) := by decide +kernel
theorem dX6_falseSorts_5 : decode cX6_falseSorts 5 = .ok (.ifCond .eq 9, 3) := by decide +kernel
theorem dX6_falseSorts_8 : decode cX6_falseSorts 8 = .ok (.aload_n 0, 1) := by decide +kernel
theorem dX6_falseSorts_9 : decode cX6_falseSorts 9 = .ok (.iconst 1, 1) := by decide +kernel
theorem dX6_falseSorts_10 : decode cX6_falseSorts 10 = .ok (.invokevirtual 55, 3) := by decide +kernel
theorem dX6_falseSorts_13 : decode cX6_falseSorts 13 = .ok (.ireturn, 1) := by decide +kernel
theorem dX6_falseSorts_14 : decode cX6_falseSorts 14 = .ok (.aload_n 0, 1) := by decide +kernel
theorem dX6_falseSorts_15 : decode cX6_falseSorts 15 = .ok (.getfield 12, 3) := by decide +kernel
theorem dX6_falseSorts_18 : decode cX6_falseSorts 18 = .ok (.getfield 83, 3) := by decide +kernel
theorem dX6_falseSorts_21 : decode cX6_falseSorts 21 = .ok (.iload_n 1, 1) := by decide +kernel
theorem dX6_falseSorts_22 : decode cX6_falseSorts 22 = .ok (.iaload, 1) := by decide +kernel
theorem dX6_falseSorts_23 : decode cX6_falseSorts 23 = .ok (.istore_n 2, 1) := by decide +kernel
theorem dX6_falseSorts_24 : decode cX6_falseSorts 24 = .ok (.aload_n 0, 1) := by decide +kernel
theorem dX6_falseSorts_25 : decode cX6_falseSorts 25 = .ok (.getfield 12, 3) := by decide +kernel
theorem dX6_falseSorts_28 : decode cX6_falseSorts 28 = .ok (.getfield 86, 3) := by decide +kernel
theorem dX6_falseSorts_31 : decode cX6_falseSorts 31 = .ok (.iload_n 1, 1) := by decide +kernel
theorem dX6_falseSorts_32 : decode cX6_falseSorts 32 = .ok (.iaload, 1) := by decide +kernel
theorem dX6_falseSorts_33 : decode cX6_falseSorts 33 = .ok (.istore_n 3, 1) := by decide +kernel
theorem dX6_falseSorts_34 : decode cX6_falseSorts 34 = .ok (.aload_n 0, 1) := by decide +kernel
theorem dX6_falseSorts_35 : decode cX6_falseSorts 35 = .ok (.iload_n 2, 1) := by decide +kernel
theorem dX6_falseSorts_36 : decode cX6_falseSorts 36 = .ok (.iload_n 3, 1) := by decide +kernel
theorem dX6_falseSorts_37 : decode cX6_falseSorts 37 = .ok (.invokevirtual 66, 3) := by decide +kernel
theorem dX6_falseSorts_40 : decode cX6_falseSorts 40 = .ok (.ifCond .eq 9, 3) := by decide +kernel
theorem dX6_falseSorts_43 : decode cX6_falseSorts 43 = .ok (.aload_n 0, 1) := by decide +kernel
theorem dX6_falseSorts_44 : decode cX6_falseSorts 44 = .ok (.iconst 3, 1) := by decide +kernel
theorem dX6_falseSorts_45 : decode cX6_falseSorts 45 = .ok (.invokevirtual 55, 3) := by decide +kernel
theorem dX6_falseSorts_48 : decode cX6_falseSorts 48 = .ok (.ireturn, 1) := by decide +kernel
theorem dX6_falseSorts_49 : decode cX6_falseSorts 49 = .ok (.iconst 0, 1) := by decide +kernel
theorem dX6_falseSorts_50 : decode cX6_falseSorts 50 = .ok (.istore 4, 2) := by decide +kernel
theorem dX6_falseSorts_52 : decode cX6_falseSorts 52 = .ok (.iconst 0, 1) := by decide +kernel
theorem dX6_falseSorts_53 : decode cX6_falseSorts 53 = .ok (.istore 5, 2) := by decide +kernel
theorem dX6_falseSorts_55 : decode cX6_falseSorts 55 = .ok (.iload 5, 2) := by decide +kernel
theorem dX6_falseSorts_57 : decode cX6_falseSorts 57 = .ok (.iconst 5, 1) := by decide +kernel
theorem dX6_falseSorts_58 : decode cX6_falseSorts 58 = .ok (.if_icmp .ge 81, 3) := by decide +kernel
theorem dX6_falseSorts_61 : decode cX6_falseSorts 61 = .ok (.aload_n 0, 1) := by decide +kernel
theorem dX6_falseSorts_62 : decode cX6_falseSorts 62 = .ok (.getfield 12, 3) := by decide +kernel
theorem dX6_falseSorts_65 : decode cX6_falseSorts 65 = .ok (.getfield 89, 3) := by decide +kernel
theorem dX6_falseSorts_68 : decode cX6_falseSorts 68 = .ok (.iload_n 1, 1) := by decide +kernel
theorem dX6_falseSorts_69 : decode cX6_falseSorts 69 = .ok (.iload 5, 2) := by decide +kernel
theorem dX6_falseSorts_71 : decode cX6_falseSorts 71 = .ok (.invokestatic 111, 3) := by decide +kernel
theorem dX6_falseSorts_74 : decode cX6_falseSorts 74 = .ok (.iaload, 1) := by decide +kernel
theorem dX6_falseSorts_75 : decode cX6_falseSorts 75 = .ok (.ifCond .le 7, 3) := by decide +kernel
theorem dX6_falseSorts_78 : decode cX6_falseSorts 78 = .ok (.iconst 1, 1) := by decide +kernel
theorem dX6_falseSorts_79 : decode cX6_falseSorts 79 = .ok (.goto 4, 3) := by decide +kernel
theorem dX6_falseSorts_82 : decode cX6_falseSorts 82 = .ok (.iconst 0, 1) := by decide +kernel
theorem dX6_falseSorts_83 : decode cX6_falseSorts 83 = .ok (.istore 6, 2) := by decide +kernel
theorem dX6_falseSorts_85 : decode cX6_falseSorts 85 = .ok (.iload 6, 2) := by decide +kernel
theorem dX6_falseSorts_87 : decode cX6_falseSorts 87 = .ok (.ifCond .eq 46, 3) := by decide +kernel
theorem dX6_falseSorts_90 : decode cX6_falseSorts 90 = .ok (.aload_n 0, 1) := by decide +kernel
theorem dX6_falseSorts_91 : decode cX6_falseSorts 91 = .ok (.getfield 12, 3) := by decide +kernel
theorem dX6_falseSorts_94 : decode cX6_falseSorts 94 = .ok (.getfield 89, 3) := by decide +kernel
theorem dX6_falseSorts_97 : decode cX6_falseSorts 97 = .ok (.iload_n 2, 1) := by decide +kernel
theorem dX6_falseSorts_98 : decode cX6_falseSorts 98 = .ok (.iload 5, 2) := by decide +kernel
theorem dX6_falseSorts_100 : decode cX6_falseSorts 100 = .ok (.invokestatic 111, 3) := by decide +kernel
theorem dX6_falseSorts_103 : decode cX6_falseSorts 103 = .ok (.iaload, 1) := by decide +kernel
theorem dX6_falseSorts_104 : decode cX6_falseSorts 104 = .ok (.ifCond .ne 29, 3) := by decide +kernel
theorem dX6_falseSorts_107 : decode cX6_falseSorts 107 = .ok (.aload_n 0, 1) := by decide +kernel
theorem dX6_falseSorts_108 : decode cX6_falseSorts 108 = .ok (.getfield 12, 3) := by decide +kernel
theorem dX6_falseSorts_111 : decode cX6_falseSorts 111 = .ok (.getfield 89, 3) := by decide +kernel
theorem dX6_falseSorts_114 : decode cX6_falseSorts 114 = .ok (.iload_n 3, 1) := by decide +kernel
theorem dX6_falseSorts_115 : decode cX6_falseSorts 115 = .ok (.iload 5, 2) := by decide +kernel
theorem dX6_falseSorts_117 : decode cX6_falseSorts 117 = .ok (.invokestatic 111, 3) := by decide +kernel
theorem dX6_falseSorts_120 : decode cX6_falseSorts 120 = .ok (.iaload, 1) := by decide +kernel
theorem dX6_falseSorts_121 : decode cX6_falseSorts 121 = .ok (.ifCond .ne 12, 3) := by decide +kernel
theorem dX6_falseSorts_124 : decode cX6_falseSorts 124 = .ok (.iload 4, 2) := by decide +kernel
theorem dX6_falseSorts_126 : decode cX6_falseSorts 126 = .ok (.iconst 1, 1) := by decide +kernel
theorem dX6_falseSorts_127 : decode cX6_falseSorts 127 = .ok (.iload 5, 2) := by decide +kernel
theorem dX6_falseSorts_129 : decode cX6_falseSorts 129 = .ok (.ishl, 1) := by decide +kernel
theorem dX6_falseSorts_130 : decode cX6_falseSorts 130 = .ok (.ior, 1) := by decide +kernel
theorem dX6_falseSorts_131 : decode cX6_falseSorts 131 = .ok (.istore 4, 2) := by decide +kernel
theorem dX6_falseSorts_133 : decode cX6_falseSorts 133 = .ok (.iinc 5 1, 3) := by decide +kernel
theorem dX6_falseSorts_136 : decode cX6_falseSorts 136 = .ok (.goto (-81), 3) := by decide +kernel
theorem dX6_falseSorts_139 : decode cX6_falseSorts 139 = .ok (.iload 4, 2) := by decide +kernel
theorem dX6_falseSorts_141 : decode cX6_falseSorts 141 = .ok (.ireturn, 1) := by decide +kernel
theorem dX6_kin_0 : decode cX6_kin 0 = .ok (.aload_n 0, 1) := by decide +kernel
theorem dX6_kin_1 : decode cX6_kin 1 = .ok (.iload_n 1, 1) := by decide +kernel
theorem dX6_kin_2 : decode cX6_kin 2 = .ok (.iload_n 2, 1) := by decide +kernel
theorem dX6_kin_3 : decode cX6_kin 3 = .ok (.invokevirtual 66, 3) := by decide +kernel
theorem dX6_kin_6 : decode cX6_kin 6 = .ok (.ifCond .eq 9, 3) := by decide +kernel
theorem dX6_kin_9 : decode cX6_kin 9 = .ok (.aload_n 0, 1) := by decide +kernel
theorem dX6_kin_10 : decode cX6_kin 10 = .ok (.iconst 1, 1) := by decide +kernel
theorem dX6_kin_11 : decode cX6_kin 11 = .ok (.invokevirtual 55, 3) := by decide +kernel
theorem dX6_kin_14 : decode cX6_kin 14 = .ok (.ireturn, 1) := by decide +kernel
theorem dX6_kin_15 : decode cX6_kin 15 = .ok (.aload_n 0, 1) := by decide +kernel
theorem dX6_kin_16 : decode cX6_kin 16 = .ok (.getfield 12, 3) := by decide +kernel
theorem dX6_kin_19 : decode cX6_kin 19 = .ok (.iload_n 1, 1) := by decide +kernel
theorem dX6_kin_20 : decode cX6_kin 20 = .ok (.invokevirtual 204, 3) := by decide +kernel
theorem dX6_kin_23 : decode cX6_kin 23 = .ok (.aload_n 0, 1) := by decide +kernel
theorem dX6_kin_24 : decode cX6_kin 24 = .ok (.getfield 12, 3) := by decide +kernel
theorem dX6_kin_27 : decode cX6_kin 27 = .ok (.iload_n 2, 1) := by decide +kernel
theorem dX6_kin_28 : decode cX6_kin 28 = .ok (.invokevirtual 204, 3) := by decide +kernel
theorem dX6_kin_31 : decode cX6_kin 31 = .ok (.iand, 1) := by decide +kernel
theorem dX6_kin_32 : decode cX6_kin 32 = .ok (.ireturn, 1) := by decide +kernel
theorem dX6_nets_0 : decode cX6_nets 0 = .ok (.iload_n 1, 1) := by decide +kernel
theorem dX6_nets_1 : decode cX6_nets 1 = .ok (.iconst 0, 1) := by decide +kernel
theorem dX6_nets_2 : decode cX6_nets 2 = .ok (.iconst 1, 1) := by decide +kernel
theorem dX6_nets_3 : decode cX6_nets 3 = .ok (.invokestatic 115, 3) := by decide +kernel
theorem dX6_nets_6 : decode cX6_nets 6 = .ok (.ifCond .eq 9, 3) := by decide +kernel
theorem dX6_nets_9 : decode cX6_nets 9 = .ok (.aload_n 0, 1) := by decide +kernel
theorem dX6_nets_10 : decode cX6_nets 10 = .ok (.iconst 1, 1) := by decide +kernel
theorem dX6_nets_11 : decode cX6_nets 11 = .ok (.invokevirtual 55, 3) := by decide +kernel
theorem dX6_nets_14 : decode cX6_nets 14 = .ok (.ireturn, 1) := by decide +kernel
theorem dX6_nets_15 : decode cX6_nets 15 = .ok (.iload_n 1, 1) := by decide +kernel
theorem dX6_nets_16 : decode cX6_nets 16 = .ok (.ifCond .ne 15, 3) := by decide +kernel
theorem dX6_nets_19 : decode cX6_nets 19 = .ok (.aload_n 0, 1) := by decide +kernel
theorem dX6_nets_20 : decode cX6_nets 20 = .ok (.getfield 40, 3) := by decide +kernel
theorem dX6_nets_23 : decode cX6_nets 23 = .ok (.aload_n 0, 1) := by decide +kernel
theorem dX6_nets_24 : decode cX6_nets 24 = .ok (.getfield 12, 3) := by decide +kernel
theorem dX6_nets_27 : decode cX6_nets 27 = .ok (.invokevirtual 207, 3) := by decide +kernel
theorem dX6_nets_30 : decode cX6_nets 30 = .ok (.ireturn, 1) := by decide +kernel
theorem dX6_nets_31 : decode cX6_nets 31 = .ok (.iconst 0, 1) := by decide +kernel
theorem dX6_nets_32 : decode cX6_nets 32 = .ok (.istore_n 2, 1) := by decide +kernel
theorem dX6_nets_33 : decode cX6_nets 33 = .ok (.iconst 0, 1) := by decide +kernel
theorem dX6_nets_34 : decode cX6_nets 34 = .ok (.istore_n 3, 1) := by decide +kernel
theorem dX6_nets_35 : decode cX6_nets 35 = .ok (.iload_n 3, 1) := by decide +kernel
theorem dX6_nets_36 : decode cX6_nets 36 = .ok (.aload_n 0, 1) := by decide +kernel
theorem dX6_nets_37 : decode cX6_nets 37 = .ok (.getfield 12, 3) := by decide +kernel
theorem dX6_nets_40 : decode cX6_nets 40 = .ok (.getfield 59, 3) := by decide +kernel
theorem dX6_nets_43 : decode cX6_nets 43 = .ok (.if_icmp .ge 24, 3) := by decide +kernel
theorem dX6_nets_46 : decode cX6_nets 46 = .ok (.iload_n 2, 1) := by decide +kernel
theorem dX6_nets_47 : decode cX6_nets 47 = .ok (.iconst 0, 1) := by decide +kernel
theorem dX6_nets_48 : decode cX6_nets 48 = .ok (.aload_n 0, 1) := by decide +kernel
theorem dX6_nets_49 : decode cX6_nets 49 = .ok (.getfield 12, 3) := by decide +kernel
theorem dX6_nets_52 : decode cX6_nets 52 = .ok (.iload_n 3, 1) := by decide +kernel
theorem dX6_nets_53 : decode cX6_nets 53 = .ok (.invokevirtual 211, 3) := by decide +kernel
theorem dX6_nets_56 : decode cX6_nets 56 = .ok (.invokestatic 214, 3) := by decide +kernel
theorem dX6_nets_59 : decode cX6_nets 59 = .ok (.iadd, 1) := by decide +kernel
theorem dX6_nets_60 : decode cX6_nets 60 = .ok (.istore_n 2, 1) := by decide +kernel
theorem dX6_nets_61 : decode cX6_nets 61 = .ok (.iinc 3 1, 3) := by decide +kernel
theorem dX6_nets_64 : decode cX6_nets 64 = .ok (.goto (-29), 3) := by decide +kernel
theorem dX6_nets_67 : decode cX6_nets 67 = .ok (.iload_n 2, 1) := by decide +kernel
theorem dX6_nets_68 : decode cX6_nets 68 = .ok (.ireturn, 1) := by decide +kernel
theorem dX6_odds_0 : decode cX6_odds 0 = .ok (.iload_n 1, 1) := by decide +kernel
theorem dX6_odds_1 : decode cX6_odds 1 = .ok (.iconst 0, 1) := by decide +kernel
theorem dX6_odds_2 : decode cX6_odds 2 = .ok (.sipush 500, 3) := by decide +kernel
theorem dX6_odds_5 : decode cX6_odds 5 = .ok (.invokestatic 115, 3) := by decide +kernel
theorem dX6_odds_8 : decode cX6_odds 8 = .ok (.ifCond .ne 12, 3) := by decide +kernel
theorem dX6_odds_11 : decode cX6_odds 11 = .ok (.iload_n 2, 1) := by decide +kernel
theorem dX6_odds_12 : decode cX6_odds 12 = .ok (.iconst 0, 1) := by decide +kernel
theorem dX6_odds_13 : decode cX6_odds 13 = .ok (.iconst 1, 1) := by decide +kernel
theorem dX6_odds_14 : decode cX6_odds 14 = .ok (.invokestatic 115, 3) := by decide +kernel
theorem dX6_odds_17 : decode cX6_odds 17 = .ok (.ifCond .eq 9, 3) := by decide +kernel
theorem dX6_odds_20 : decode cX6_odds 20 = .ok (.aload_n 0, 1) := by decide +kernel
theorem dX6_odds_21 : decode cX6_odds 21 = .ok (.iconst 1, 1) := by decide +kernel
theorem dX6_odds_22 : decode cX6_odds 22 = .ok (.invokevirtual 55, 3) := by decide +kernel
theorem dX6_odds_25 : decode cX6_odds 25 = .ok (.ireturn, 1) := by decide +kernel
theorem dX6_odds_26 : decode cX6_odds 26 = .ok (.aload_n 0, 1) := by decide +kernel
theorem dX6_odds_27 : decode cX6_odds 27 = .ok (.getfield 12, 3) := by decide +kernel
theorem dX6_odds_30 : decode cX6_odds 30 = .ok (.getfield 59, 3) := by decide +kernel
theorem dX6_odds_33 : decode cX6_odds 33 = .ok (.iconst 2, 1) := by decide +kernel
theorem dX6_odds_34 : decode cX6_odds 34 = .ok (.if_icmp .ge 9, 3) := by decide +kernel
theorem dX6_odds_37 : decode cX6_odds 37 = .ok (.aload_n 0, 1) := by decide +kernel
theorem dX6_odds_38 : decode cX6_odds 38 = .ok (.iconst 3, 1) := by decide +kernel
end
section
theorem dX6_odds_39 : decode cX6_odds 39 = .ok (.invokevirtual 55, 3) := by decide +kernel
theorem dX6_odds_42 : decode cX6_odds 42 = .ok (.ireturn, 1) := by decide +kernel
theorem dX6_odds_43 : decode cX6_odds 43 = .ok (.aload_n 0, 1) := by decide +kernel
theorem dX6_odds_44 : decode cX6_odds 44 = .ok (.getfield 12, 3) := by decide +kernel
theorem dX6_odds_47 : decode cX6_odds 47 = .ok (.getfield 59, 3) := by decide +kernel
theorem dX6_odds_50 : decode cX6_odds 50 = .ok (.aload_n 0, 1) := by decide +kernel
theorem dX6_odds_51 : decode cX6_odds 51 = .ok (.getfield 12, 3) := by decide +kernel
theorem dX6_odds_54 : decode cX6_odds 54 = .ok (.getfield 59, 3) := by decide +kernel
theorem dX6_odds_57 : decode cX6_odds 57 = .ok (.iconst 1, 1) := by decide +kernel
theorem dX6_odds_58 : decode cX6_odds 58 = .ok (.isub, 1) := by decide +kernel
theorem dX6_odds_59 : decode cX6_odds 59 = .ok (.imul, 1) := by decide +kernel
theorem dX6_odds_60 : decode cX6_odds 60 = .ok (.iconst 2, 1) := by decide +kernel
theorem dX6_odds_61 : decode cX6_odds 61 = .ok (.idiv, 1) := by decide +kernel
theorem dX6_odds_62 : decode cX6_odds 62 = .ok (.istore_n 3, 1) := by decide +kernel
theorem dX6_odds_63 : decode cX6_odds 63 = .ok (.aload_n 0, 1) := by decide +kernel
theorem dX6_odds_64 : decode cX6_odds 64 = .ok (.getfield 40, 3) := by decide +kernel
theorem dX6_odds_67 : decode cX6_odds 67 = .ok (.aload_n 0, 1) := by decide +kernel
theorem dX6_odds_68 : decode cX6_odds 68 = .ok (.getfield 12, 3) := by decide +kernel
theorem dX6_odds_71 : decode cX6_odds 71 = .ok (.iload_n 1, 1) := by decide +kernel
theorem dX6_odds_72 : decode cX6_odds 72 = .ok (.invokevirtual 219, 3) := by decide +kernel
theorem dX6_odds_75 : decode cX6_odds 75 = .ok (.istore 4, 2) := by decide +kernel
theorem dX6_odds_77 : decode cX6_odds 77 = .ok (.iload 4, 2) := by decide +kernel
theorem dX6_odds_79 : decode cX6_odds 79 = .ok (.iload_n 3, 1) := by decide +kernel
theorem dX6_odds_80 : decode cX6_odds 80 = .ok (.invokestatic 222, 3) := by decide +kernel
theorem dX6_odds_83 : decode cX6_odds 83 = .ok (.istore 5, 2) := by decide +kernel
theorem dX6_odds_85 : decode cX6_odds 85 = .ok (.iload_n 2, 1) := by decide +kernel
theorem dX6_odds_86 : decode cX6_odds 86 = .ok (.ifCond .ne 11, 3) := by decide +kernel
theorem dX6_odds_89 : decode cX6_odds 89 = .ok (.iload 4, 2) := by decide +kernel
theorem dX6_odds_91 : decode cX6_odds 91 = .ok (.iload 5, 2) := by decide +kernel
theorem dX6_odds_93 : decode cX6_odds 93 = .ok (.idiv, 1) := by decide +kernel
theorem dX6_odds_94 : decode cX6_odds 94 = .ok (.goto 7, 3) := by decide +kernel
theorem dX6_odds_97 : decode cX6_odds 97 = .ok (.iload_n 3, 1) := by decide +kernel
theorem dX6_odds_98 : decode cX6_odds 98 = .ok (.iload 5, 2) := by decide +kernel
theorem dX6_odds_100 : decode cX6_odds 100 = .ok (.idiv, 1) := by decide +kernel
theorem dX6_odds_101 : decode cX6_odds 101 = .ok (.ireturn, 1) := by decide +kernel
theorem dX6_fits_0 : decode cX6_fits 0 = .ok (.iload_n 1, 1) := by decide +kernel
theorem dX6_fits_1 : decode cX6_fits 1 = .ok (.invokestatic 225, 3) := by decide +kernel
theorem dX6_fits_4 : decode cX6_fits 4 = .ok (.ifCond .ne 12, 3) := by decide +kernel
theorem dX6_fits_7 : decode cX6_fits 7 = .ok (.iload_n 2, 1) := by decide +kernel
theorem dX6_fits_8 : decode cX6_fits 8 = .ok (.iconst 0, 1) := by decide +kernel
theorem dX6_fits_9 : decode cX6_fits 9 = .ok (.iconst 1, 1) := by decide +kernel
theorem dX6_fits_10 : decode cX6_fits 10 = .ok (.invokestatic 115, 3) := by decide +kernel
theorem dX6_fits_13 : decode cX6_fits 13 = .ok (.ifCond .eq 9, 3) := by decide +kernel
theorem dX6_fits_16 : decode cX6_fits 16 = .ok (.aload_n 0, 1) := by decide +kernel
theorem dX6_fits_17 : decode cX6_fits 17 = .ok (.iconst 1, 1) := by decide +kernel
theorem dX6_fits_18 : decode cX6_fits 18 = .ok (.invokevirtual 55, 3) := by decide +kernel
theorem dX6_fits_21 : decode cX6_fits 21 = .ok (.ireturn, 1) := by decide +kernel
theorem dX6_fits_22 : decode cX6_fits 22 = .ok (.aload_n 0, 1) := by decide +kernel
theorem dX6_fits_23 : decode cX6_fits 23 = .ok (.getfield 25, 3) := by decide +kernel
theorem dX6_fits_26 : decode cX6_fits 26 = .ok (.iload_n 1, 1) := by decide +kernel
theorem dX6_fits_27 : decode cX6_fits 27 = .ok (.aaload, 1) := by decide +kernel
theorem dX6_fits_28 : decode cX6_fits 28 = .ok (.astore_n 3, 1) := by decide +kernel
theorem dX6_fits_29 : decode cX6_fits 29 = .ok (.aload_n 3, 1) := by decide +kernel
theorem dX6_fits_30 : decode cX6_fits 30 = .ok (.invokevirtual 228, 3) := by decide +kernel
theorem dX6_fits_33 : decode cX6_fits 33 = .ok (.ifCond .ne 11, 3) := by decide +kernel
theorem dX6_fits_36 : decode cX6_fits 36 = .ok (.aload_n 3, 1) := by decide +kernel
theorem dX6_fits_37 : decode cX6_fits 37 = .ok (.getfield 231, 3) := by decide +kernel
theorem dX6_fits_40 : decode cX6_fits 40 = .ok (.iconst 5, 1) := by decide +kernel
theorem dX6_fits_41 : decode cX6_fits 41 = .ok (.if_icmp .le 9, 3) := by decide +kernel
theorem dX6_fits_44 : decode cX6_fits 44 = .ok (.aload_n 0, 1) := by decide +kernel
theorem dX6_fits_45 : decode cX6_fits 45 = .ok (.iconst 2, 1) := by decide +kernel
theorem dX6_fits_46 : decode cX6_fits 46 = .ok (.invokevirtual 55, 3) := by decide +kernel
theorem dX6_fits_49 : decode cX6_fits 49 = .ok (.ireturn, 1) := by decide +kernel
theorem dX6_fits_50 : decode cX6_fits 50 = .ok (.iload_n 2, 1) := by decide +kernel
theorem dX6_fits_51 : decode cX6_fits 51 = .ok (.ifCond .ne 16, 3) := by decide +kernel
theorem dX6_fits_54 : decode cX6_fits 54 = .ok (.aload_n 0, 1) := by decide +kernel
theorem dX6_fits_55 : decode cX6_fits 55 = .ok (.getfield 40, 3) := by decide +kernel
theorem dX6_fits_58 : decode cX6_fits 58 = .ok (.aload_n 0, 1) := by decide +kernel
theorem dX6_fits_59 : decode cX6_fits 59 = .ok (.getfield 12, 3) := by decide +kernel
theorem dX6_fits_62 : decode cX6_fits 62 = .ok (.aload_n 3, 1) := by decide +kernel
theorem dX6_fits_63 : decode cX6_fits 63 = .ok (.invokevirtual 234, 3) := by decide +kernel
theorem dX6_fits_66 : decode cX6_fits 66 = .ok (.ireturn, 1) := by decide +kernel
theorem dX6_fits_67 : decode cX6_fits 67 = .ok (.aload_n 0, 1) := by decide +kernel
theorem dX6_fits_68 : decode cX6_fits 68 = .ok (.getfield 40, 3) := by decide +kernel
theorem dX6_fits_71 : decode cX6_fits 71 = .ok (.aload_n 0, 1) := by decide +kernel
theorem dX6_fits_72 : decode cX6_fits 72 = .ok (.getfield 12, 3) := by decide +kernel
theorem dX6_fits_75 : decode cX6_fits 75 = .ok (.aload_n 3, 1) := by decide +kernel
theorem dX6_fits_76 : decode cX6_fits 76 = .ok (.invokevirtual 238, 3) := by decide +kernel
theorem dX6_fits_79 : decode cX6_fits 79 = .ok (.istore 4, 2) := by decide +kernel
theorem dX6_fits_81 : decode cX6_fits 81 = .ok (.iload 4, 2) := by decide +kernel
theorem dX6_fits_83 : decode cX6_fits 83 = .ok (.ifCond .le 8, 3) := by decide +kernel
theorem dX6_fits_86 : decode cX6_fits 86 = .ok (.iload 4, 2) := by decide +kernel
theorem dX6_fits_88 : decode cX6_fits 88 = .ok (.goto 8, 3) := by decide +kernel
theorem dX6_fits_91 : decode cX6_fits 91 = .ok (.aload_n 0, 1) := by decide +kernel
theorem dX6_fits_92 : decode cX6_fits 92 = .ok (.iconst 2, 1) := by decide +kernel
theorem dX6_fits_93 : decode cX6_fits 93 = .ok (.invokevirtual 55, 3) := by decide +kernel
theorem dX6_fits_96 : decode cX6_fits 96 = .ok (.ireturn, 1) := by decide +kernel
theorem dX6_voice_0 : decode cX6_voice 0 = .ok (.aload_n 0, 1) := by decide +kernel
theorem dX6_voice_1 : decode cX6_voice 1 = .ok (.iload_n 1, 1) := by decide +kernel
theorem dX6_voice_2 : decode cX6_voice 2 = .ok (.invokevirtual 74, 3) := by decide +kernel
theorem dX6_voice_5 : decode cX6_voice 5 = .ok (.ifCond .ne 12, 3) := by decide +kernel
theorem dX6_voice_8 : decode cX6_voice 8 = .ok (.iload_n 2, 1) := by decide +kernel
theorem dX6_voice_9 : decode cX6_voice 9 = .ok (.iconst 0, 1) := by decide +kernel
theorem dX6_voice_10 : decode cX6_voice 10 = .ok (.iconst 3, 1) := by decide +kernel
theorem dX6_voice_11 : decode cX6_voice 11 = .ok (.invokestatic 115, 3) := by decide +kernel
theorem dX6_voice_14 : decode cX6_voice 14 = .ok (.ifCond .eq 9, 3) := by decide +kernel
theorem dX6_voice_17 : decode cX6_voice 17 = .ok (.aload_n 0, 1) := by decide +kernel
theorem dX6_voice_18 : decode cX6_voice 18 = .ok (.iconst 1, 1) := by decide +kernel
theorem dX6_voice_19 : decode cX6_voice 19 = .ok (.invokevirtual 55, 3) := by decide +kernel
theorem dX6_voice_22 : decode cX6_voice 22 = .ok (.ireturn, 1) := by decide +kernel
theorem dX6_voice_23 : decode cX6_voice 23 = .ok (.aload_n 0, 1) := by decide +kernel
theorem dX6_voice_24 : decode cX6_voice 24 = .ok (.getfield 47, 3) := by decide +kernel
theorem dX6_voice_27 : decode cX6_voice 27 = .ok (.aload_n 0, 1) := by decide +kernel
theorem dX6_voice_28 : decode cX6_voice 28 = .ok (.getfield 12, 3) := by decide +kernel
theorem dX6_voice_31 : decode cX6_voice 31 = .ok (.iload_n 1, 1) := by decide +kernel
theorem dX6_voice_32 : decode cX6_voice 32 = .ok (.iload_n 2, 1) := by decide +kernel
theorem dX6_voice_33 : decode cX6_voice 33 = .ok (.iload_n 3, 1) := by decide +kernel
theorem dX6_voice_34 : decode cX6_voice 34 = .ok (.invokevirtual 241, 3) := by decide +kernel
theorem dX6_voice_37 : decode cX6_voice 37 = .ok (.istore 4, 2) := by decide +kernel
theorem dX6_voice_39 : decode cX6_voice 39 = .ok (.aload_n 0, 1) := by decide +kernel
theorem dX6_voice_40 : decode cX6_voice 40 = .ok (.getfield 47, 3) := by decide +kernel
theorem dX6_voice_43 : decode cX6_voice 43 = .ok (.getfield 244, 3) := by decide +kernel
theorem dX6_voice_46 : decode cX6_voice 46 = .ok (.ifCond .eq 12, 3) := by decide +kernel
theorem dX6_voice_49 : decode cX6_voice 49 = .ok (.aload_n 0, 1) := by decide +kernel
theorem dX6_voice_50 : decode cX6_voice 50 = .ok (.bipush 6, 2) := by decide +kernel
theorem dX6_voice_52 : decode cX6_voice 52 = .ok (.invokevirtual 55, 3) := by decide +kernel
theorem dX6_voice_55 : decode cX6_voice 55 = .ok (.goto 5, 3) := by decide +kernel
theorem dX6_voice_58 : decode cX6_voice 58 = .ok (.iload 4, 2) := by decide +kernel
theorem dX6_voice_60 : decode cX6_voice 60 = .ok (.ireturn, 1) := by decide +kernel
theorem dX6_body_0 : decode cX6_body 0 = .ok (.iload_n 1, 1) := by decide +kernel
theorem dX6_body_1 : decode cX6_body 1 = .ok (.ifCond .lt 14, 3) := by decide +kernel
theorem dX6_body_4 : decode cX6_body 4 = .ok (.iload_n 1, 1) := by decide +kernel
theorem dX6_body_5 : decode cX6_body 5 = .ok (.aload_n 0, 1) := by decide +kernel
theorem dX6_body_6 : decode cX6_body 6 = .ok (.getfield 47, 3) := by decide +kernel
theorem dX6_body_9 : decode cX6_body 9 = .ok (.getfield 248, 3) := by decide +kernel
theorem dX6_body_12 : decode cX6_body 12 = .ok (.if_icmp .lt 9, 3) := by decide +kernel
theorem dX6_body_15 : decode cX6_body 15 = .ok (.aload_n 0, 1) := by decide +kernel
theorem dX6_body_16 : decode cX6_body 16 = .ok (.iconst 2, 1) := by decide +kernel
theorem dX6_body_17 : decode cX6_body 17 = .ok (.invokevirtual 55, 3) := by decide +kernel
theorem dX6_body_20 : decode cX6_body 20 = .ok (.ireturn, 1) := by decide +kernel
theorem dX6_body_21 : decode cX6_body 21 = .ok (.aload_n 0, 1) := by decide +kernel
theorem dX6_body_22 : decode cX6_body 22 = .ok (.getfield 47, 3) := by decide +kernel
theorem dX6_body_25 : decode cX6_body 25 = .ok (.getfield 251, 3) := by decide +kernel
theorem dX6_body_28 : decode cX6_body 28 = .ok (.iload_n 1, 1) := by decide +kernel
theorem dX6_body_29 : decode cX6_body 29 = .ok (.iaload, 1) := by decide +kernel
theorem dX6_body_30 : decode cX6_body 30 = .ok (.ireturn, 1) := by decide +kernel
theorem dX6_sheet_0 : decode cX6_sheet 0 = .ok (.iload_n 1, 1) := by decide +kernel
theorem dX6_sheet_1 : decode cX6_sheet 1 = .ok (.invokestatic 225, 3) := by decide +kernel
theorem dX6_sheet_4 : decode cX6_sheet 4 = .ok (.ifCond .ne 25, 3) := by decide +kernel
theorem dX6_sheet_7 : decode cX6_sheet 7 = .ok (.iload_n 2, 1) := by decide +kernel
theorem dX6_sheet_8 : decode cX6_sheet 8 = .ok (.ifCond .eq 27, 3) := by decide +kernel
theorem dX6_sheet_11 : decode cX6_sheet 11 = .ok (.iload_n 2, 1) := by decide +kernel
theorem dX6_sheet_12 : decode cX6_sheet 12 = .ok (.bipush 8, 2) := by decide +kernel
theorem dX6_sheet_14 : decode cX6_sheet 14 = .ok (.if_icmp .eq 21, 3) := by decide +kernel
theorem dX6_sheet_17 : decode cX6_sheet 17 = .ok (.iload_n 2, 1) := by decide +kernel
theorem dX6_sheet_18 : decode cX6_sheet 18 = .ok (.bipush 16, 2) := by decide +kernel
theorem dX6_sheet_20 : decode cX6_sheet 20 = .ok (.if_icmp .eq 15, 3) := by decide +kernel
theorem dX6_sheet_23 : decode cX6_sheet 23 = .ok (.iload_n 2, 1) := by decide +kernel
theorem dX6_sheet_24 : decode cX6_sheet 24 = .ok (.bipush 32, 2) := by decide +kernel
theorem dX6_sheet_26 : decode cX6_sheet 26 = .ok (.if_icmp .eq 9, 3) := by decide +kernel
theorem dX6_sheet_29 : decode cX6_sheet 29 = .ok (.aload_n 0, 1) := by decide +kernel
theorem dX6_sheet_30 : decode cX6_sheet 30 = .ok (.iconst 1, 1) := by decide +kernel
theorem dX6_sheet_31 : decode cX6_sheet 31 = .ok (.invokevirtual 55, 3) := by decide +kernel
theorem dX6_sheet_34 : decode cX6_sheet 34 = .ok (.ireturn, 1) := by decide +kernel
theorem dX6_sheet_35 : decode cX6_sheet 35 = .ok (.iload_n 2, 1) := by decide +kernel
theorem dX6_sheet_36 : decode cX6_sheet 36 = .ok (.ifCond .ne 14, 3) := by decide +kernel
theorem dX6_sheet_39 : decode cX6_sheet 39 = .ok (.aload_n 0, 1) := by decide +kernel
theorem dX6_sheet_40 : decode cX6_sheet 40 = .ok (.getfield 25, 3) := by decide +kernel
theorem dX6_sheet_43 : decode cX6_sheet 43 = .ok (.iload_n 1, 1) := by decide +kernel
theorem dX6_sheet_44 : decode cX6_sheet 44 = .ok (.aaload, 1) := by decide +kernel
theorem dX6_sheet_45 : decode cX6_sheet 45 = .ok (.invokevirtual 254, 3) := by decide +kernel
theorem dX6_sheet_48 : decode cX6_sheet 48 = .ok (.iconst 1, 1) := by decide +kernel
theorem dX6_sheet_49 : decode cX6_sheet 49 = .ok (.ireturn, 1) := by decide +kernel
theorem dX6_sheet_50 : decode cX6_sheet 50 = .ok (.iload_n 3, 1) := by decide +kernel
theorem dX6_sheet_51 : decode cX6_sheet 51 = .ok (.ifCond .ge 9, 3) := by decide +kernel
theorem dX6_sheet_54 : decode cX6_sheet 54 = .ok (.aload_n 0, 1) := by decide +kernel
theorem dX6_sheet_55 : decode cX6_sheet 55 = .ok (.iconst 3, 1) := by decide +kernel
theorem dX6_sheet_56 : decode cX6_sheet 56 = .ok (.invokevirtual 55, 3) := by decide +kernel
theorem dX6_sheet_59 : decode cX6_sheet 59 = .ok (.ireturn, 1) := by decide +kernel
theorem dX6_sheet_60 : decode cX6_sheet 60 = .ok (.iload_n 3, 1) := by decide +kernel
theorem dX6_sheet_61 : decode cX6_sheet 61 = .ok (.bipush 24, 2) := by decide +kernel
theorem dX6_sheet_63 : decode cX6_sheet 63 = .ok (.if_icmp .le 9, 3) := by decide +kernel
theorem dX6_sheet_66 : decode cX6_sheet 66 = .ok (.aload_n 0, 1) := by decide +kernel
theorem dX6_sheet_67 : decode cX6_sheet 67 = .ok (.iconst 1, 1) := by decide +kernel
theorem dX6_sheet_68 : decode cX6_sheet 68 = .ok (.invokevirtual 55, 3) := by decide +kernel
theorem dX6_sheet_71 : decode cX6_sheet 71 = .ok (.ireturn, 1) := by decide +kernel
theorem dX6_sheet_72 : decode cX6_sheet 72 = .ok (.aload_n 0, 1) := by decide +kernel
theorem dX6_sheet_73 : decode cX6_sheet 73 = .ok (.getfield 25, 3) := by decide +kernel
theorem dX6_sheet_76 : decode cX6_sheet 76 = .ok (.iload_n 1, 1) := by decide +kernel
theorem dX6_sheet_77 : decode cX6_sheet 77 = .ok (.aaload, 1) := by decide +kernel
theorem dX6_sheet_78 : decode cX6_sheet 78 = .ok (.iload_n 2, 1) := by decide +kernel
theorem dX6_sheet_79 : decode cX6_sheet 79 = .ok (.iload_n 3, 1) := by decide +kernel
theorem dX6_sheet_80 : decode cX6_sheet 80 = .ok (.invokevirtual 257, 3) := by decide +kernel
theorem dX6_sheet_83 : decode cX6_sheet 83 = .ok (.iconst 1, 1) := by decide +kernel
theorem dX6_sheet_84 : decode cX6_sheet 84 = .ok (.ireturn, 1) := by decide +kernel
theorem dX6_put_0 : decode cX6_put 0 = .ok (.iload_n 1, 1) := by decide +kernel
theorem dX6_put_1 : decode cX6_put 1 = .ok (.invokestatic 225, 3) := by decide +kernel
theorem dX6_put_4 : decode cX6_put 4 = .ok (.ifCond .eq 9, 3) := by decide +kernel
theorem dX6_put_7 : decode cX6_put 7 = .ok (.aload_n 0, 1) := by decide +kernel
theorem dX6_put_8 : decode cX6_put 8 = .ok (.iconst 1, 1) := by decide +kernel
theorem dX6_put_9 : decode cX6_put 9 = .ok (.invokevirtual 55, 3) := by decide +kernel
theorem dX6_put_12 : decode cX6_put 12 = .ok (.ireturn, 1) := by decide +kernel
theorem dX6_put_13 : decode cX6_put 13 = .ok (.aload_n 0, 1) := by decide +kernel
theorem dX6_put_14 : decode cX6_put 14 = .ok (.getfield 25, 3) := by decide +kernel
theorem dX6_put_17 : decode cX6_put 17 = .ok (.iload_n 1, 1) := by decide +kernel
theorem dX6_put_18 : decode cX6_put 18 = .ok (.aaload, 1) := by decide +kernel
theorem dX6_put_19 : decode cX6_put 19 = .ok (.astore 4, 2) := by decide +kernel
theorem dX6_put_21 : decode cX6_put 21 = .ok (.aload 4, 2) := by decide +kernel
theorem dX6_put_23 : decode cX6_put 23 = .ok (.invokevirtual 228, 3) := by decide +kernel
theorem dX6_put_26 : decode cX6_put 26 = .ok (.ifCond .eq 9, 3) := by decide +kernel
theorem dX6_put_29 : decode cX6_put 29 = .ok (.aload_n 0, 1) := by decide +kernel
theorem dX6_put_30 : decode cX6_put 30 = .ok (.iconst 2, 1) := by decide +kernel
theorem dX6_put_31 : decode cX6_put 31 = .ok (.invokevirtual 55, 3) := by decide +kernel
theorem dX6_put_34 : decode cX6_put 34 = .ok (.ireturn, 1) := by decide +kernel
theorem dX6_put_35 : decode cX6_put 35 = .ok (.iload_n 2, 1) := by decide +kernel
theorem dX6_put_36 : decode cX6_put 36 = .ok (.ifCond .lt 12, 3) := by decide +kernel
theorem dX6_put_39 : decode cX6_put 39 = .ok (.iload_n 2, 1) := by decide +kernel
theorem dX6_put_40 : decode cX6_put 40 = .ok (.aload 4, 2) := by decide +kernel
theorem dX6_put_42 : decode cX6_put 42 = .ok (.getfield 231, 3) := by decide +kernel
theorem dX6_put_45 : decode cX6_put 45 = .ok (.if_icmp .lt 9, 3) := by decide +kernel
theorem dX6_put_48 : decode cX6_put 48 = .ok (.aload_n 0, 1) := by decide +kernel
theorem dX6_put_49 : decode cX6_put 49 = .ok (.iconst 1, 1) := by decide +kernel
theorem dX6_put_50 : decode cX6_put 50 = .ok (.invokevirtual 55, 3) := by decide +kernel
theorem dX6_put_53 : decode cX6_put 53 = .ok (.ireturn, 1) := by decide +kernel
theorem dX6_put_54 : decode cX6_put 54 = .ok (.aload 4, 2) := by decide +kernel
theorem dX6_put_56 : decode cX6_put 56 = .ok (.iload_n 2, 1) := by decide +kernel
theorem dX6_put_57 : decode cX6_put 57 = .ok (.iload_n 3, 1) := by decide +kernel
theorem dX6_put_58 : decode cX6_put 58 = .ok (.invokevirtual 261, 3) := by decide +kernel
theorem dX6_put_61 : decode cX6_put 61 = .ok (.iconst 1, 1) := by decide +kernel
theorem dX6_put_62 : decode cX6_put 62 = .ok (.ireturn, 1) := by decide +kernel
theorem dX6_move_0 : decode cX6_move 0 = .ok (.iload_n 1, 1) := by decide +kernel
theorem dX6_move_1 : decode cX6_move 1 = .ok (.invokestatic 225, 3) := by decide +kernel
theorem dX6_move_4 : decode cX6_move 4 = .ok (.ifCond .ne 10, 3) := by decide +kernel
theorem dX6_move_7 : decode cX6_move 7 = .ok (.iload_n 3, 1) := by decide +kernel
theorem dX6_move_8 : decode cX6_move 8 = .ok (.invokestatic 225, 3) := by decide +kernel
theorem dX6_move_11 : decode cX6_move 11 = .ok (.ifCond .eq 9, 3) := by decide +kernel
theorem dX6_move_14 : decode cX6_move 14 = .ok (.aload_n 0, 1) := by decide +kernel
theorem dX6_move_15 : decode cX6_move 15 = .ok (.iconst 1, 1) := by decide +kernel
theorem dX6_move_16 : decode cX6_move 16 = .ok (.invokevirtual 55, 3) := by decide +kernel
theorem dX6_move_19 : decode cX6_move 19 = .ok (.ireturn, 1) := by decide +kernel
theorem dX6_move_20 : decode cX6_move 20 = .ok (.aload_n 0, 1) := by decide +kernel
theorem dX6_move_21 : decode cX6_move 21 = .ok (.getfield 25, 3) := by decide +kernel
theorem dX6_move_24 : decode cX6_move 24 = .ok (.iload_n 1, 1) := by decide +kernel
theorem dX6_move_25 : decode cX6_move 25 = .ok (.aaload, 1) := by decide +kernel
theorem dX6_move_26 : decode cX6_move 26 = .ok (.astore 6, 2) := by decide +kernel
theorem dX6_move_28 : decode cX6_move 28 = .ok (.aload_n 0, 1) := by decide +kernel
theorem dX6_move_29 : decode cX6_move 29 = .ok (.getfield 25, 3) := by decide +kernel
theorem dX6_move_32 : decode cX6_move 32 = .ok (.iload_n 3, 1) := by decide +kernel
theorem dX6_move_33 : decode cX6_move 33 = .ok (.aaload, 1) := by decide +kernel
theorem dX6_move_34 : decode cX6_move 34 = .ok (.astore 7, 2) := by decide +kernel
theorem dX6_move_36 : decode cX6_move 36 = .ok (.aload 6, 2) := by decide +kernel
theorem dX6_move_38 : decode cX6_move 38 = .ok (.invokevirtual 228, 3) := by decide +kernel
theorem dX6_move_41 : decode cX6_move 41 = .ok (.ifCond .ne 11, 3) := by decide +kernel
theorem dX6_move_44 : decode cX6_move 44 = .ok (.aload 7, 2) := by decide +kernel
theorem dX6_move_46 : decode cX6_move 46 = .ok (.invokevirtual 228, 3) := by decide +kernel
theorem dX6_move_49 : decode cX6_move 49 = .ok (.ifCond .eq 9, 3) := by decide +kernel
theorem dX6_move_52 : decode cX6_move 52 = .ok (.aload_n 0, 1) := by decide +kernel
theorem dX6_move_53 : decode cX6_move 53 = .ok (.iconst 2, 1) := by decide +kernel
theorem dX6_move_54 : decode cX6_move 54 = .ok (.invokevirtual 55, 3) := by decide +kernel
theorem dX6_move_57 : decode cX6_move 57 = .ok (.ireturn, 1) := by decide +kernel
theorem dX6_move_58 : decode cX6_move 58 = .ok (.aload 6, 2) := by decide +kernel
theorem dX6_move_60 : decode cX6_move 60 = .ok (.getfield 264, 3) := by decide +kernel
theorem dX6_move_63 : decode cX6_move 63 = .ok (.aload 7, 2) := by decide +kernel
theorem dX6_move_65 : decode cX6_move 65 = .ok (.getfield 264, 3) := by decide +kernel
theorem dX6_move_68 : decode cX6_move 68 = .ok (.if_icmp .eq 9, 3) := by decide +kernel
theorem dX6_move_71 : decode cX6_move 71 = .ok (.aload_n 0, 1) := by decide +kernel
theorem dX6_move_72 : decode cX6_move 72 = .ok (.iconst 5, 1) := by decide +kernel
theorem dX6_move_73 : decode cX6_move 73 = .ok (.invokevirtual 55, 3) := by decide +kernel
theorem dX6_move_76 : decode cX6_move 76 = .ok (.ireturn, 1) := by decide +kernel
theorem dX6_move_77 : decode cX6_move 77 = .ok (.iload 5, 2) := by decide +kernel
theorem dX6_move_79 : decode cX6_move 79 = .ok (.ifCond .lt 26, 3) := by decide +kernel
theorem dX6_move_82 : decode cX6_move 82 = .ok (.aload 6, 2) := by decide +kernel
theorem dX6_move_84 : decode cX6_move 84 = .ok (.iload_n 2, 1) := by decide +kernel
theorem dX6_move_85 : decode cX6_move 85 = .ok (.iload 5, 2) := by decide +kernel
theorem dX6_move_87 : decode cX6_move 87 = .ok (.invokevirtual 267, 3) := by decide +kernel
theorem dX6_move_90 : decode cX6_move 90 = .ok (.ifCond .ne 15, 3) := by decide +kernel
theorem dX6_move_93 : decode cX6_move 93 = .ok (.aload 7, 2) := by decide +kernel
theorem dX6_move_95 : decode cX6_move 95 = .ok (.iload 4, 2) := by decide +kernel
theorem dX6_move_97 : decode cX6_move 97 = .ok (.iload 5, 2) := by decide +kernel
theorem dX6_move_99 : decode cX6_move 99 = .ok (.invokevirtual 267, 3) := by decide +kernel
theorem dX6_move_102 : decode cX6_move 102 = .ok (.ifCond .eq 9, 3) := by decide +kernel
theorem dX6_move_105 : decode cX6_move 105 = .ok (.aload_n 0, 1) := by decide +kernel
theorem dX6_move_106 : decode cX6_move 106 = .ok (.iconst 1, 1) := by decide +kernel
theorem dX6_move_107 : decode cX6_move 107 = .ok (.invokevirtual 55, 3) := by decide +kernel
theorem dX6_move_110 : decode cX6_move 110 = .ok (.ireturn, 1) := by decide +kernel
theorem dX6_move_111 : decode cX6_move 111 = .ok (.aload 6, 2) := by decide +kernel
theorem dX6_move_113 : decode cX6_move 113 = .ok (.getfield 270, 3) := by decide +kernel
theorem dX6_move_116 : decode cX6_move 116 = .ok (.iload_n 2, 1) := by decide +kernel
theorem dX6_move_117 : decode cX6_move 117 = .ok (.aload 7, 2) := by decide +kernel
theorem dX6_move_119 : decode cX6_move 119 = .ok (.getfield 270, 3) := by decide +kernel
theorem dX6_move_122 : decode cX6_move 122 = .ok (.iload 4, 2) := by decide +kernel
theorem dX6_move_124 : decode cX6_move 124 = .ok (.iload 5, 2) := by decide +kernel
theorem dX6_move_126 : decode cX6_move 126 = .ok (.invokestatic 273, 3) := by decide +kernel
theorem dX6_move_129 : decode cX6_move 129 = .ok (.iload 5, 2) := by decide +kernel
theorem dX6_move_131 : decode cX6_move 131 = .ok (.ireturn, 1) := by decide +kernel
theorem dX6_spoons_0 : decode cX6_spoons 0 = .ok (.aload_n 0, 1) := by decide +kernel
theorem dX6_spoons_1 : decode cX6_spoons 1 = .ok (.iload_n 1, 1) := by decide +kernel
theorem dX6_spoons_2 : decode cX6_spoons 2 = .ok (.invokevirtual 74, 3) := by decide +kernel
theorem dX6_spoons_5 : decode cX6_spoons 5 = .ok (.ifCond .ne 10, 3) := by decide +kernel
theorem dX6_spoons_8 : decode cX6_spoons 8 = .ok (.iload_n 2, 1) := by decide +kernel
theorem dX6_spoons_9 : decode cX6_spoons 9 = .ok (.invokestatic 225, 3) := by decide +kernel
theorem dX6_spoons_12 : decode cX6_spoons 12 = .ok (.ifCond .eq 9, 3) := by decide +kernel
theorem dX6_spoons_15 : decode cX6_spoons 15 = .ok (.aload_n 0, 1) := by decide +kernel
theorem dX6_spoons_16 : decode cX6_spoons 16 = .ok (.iconst 1, 1) := by decide +kernel
theorem dX6_spoons_17 : decode cX6_spoons 17 = .ok (.invokevirtual 55, 3) := by decide +kernel
theorem dX6_spoons_20 : decode cX6_spoons 20 = .ok (.ireturn, 1) := by decide +kernel
theorem dX6_spoons_21 : decode cX6_spoons 21 = .ok (.aload_n 0, 1) := by decide +kernel
theorem dX6_spoons_22 : decode cX6_spoons 22 = .ok (.getfield 25, 3) := by decide +kernel
theorem dX6_spoons_25 : decode cX6_spoons 25 = .ok (.iload_n 2, 1) := by decide +kernel
theorem dX6_spoons_26 : decode cX6_spoons 26 = .ok (.aaload, 1) := by decide +kernel
theorem dX6_spoons_27 : decode cX6_spoons 27 = .ok (.astore_n 3, 1) := by decide +kernel
theorem dX6_spoons_28 : decode cX6_spoons 28 = .ok (.aload_n 3, 1) := by decide +kernel
theorem dX6_spoons_29 : decode cX6_spoons 29 = .ok (.invokevirtual 228, 3) := by decide +kernel
theorem dX6_spoons_32 : decode cX6_spoons 32 = .ok (.ifCond .eq 9, 3) := by decide +kernel
theorem dX6_spoons_35 : decode cX6_spoons 35 = .ok (.aload_n 0, 1) := by decide +kernel
theorem dX6_spoons_36 : decode cX6_spoons 36 = .ok (.iconst 2, 1) := by decide +kernel
theorem dX6_spoons_37 : decode cX6_spoons 37 = .ok (.invokevirtual 55, 3) := by decide +kernel
theorem dX6_spoons_40 : decode cX6_spoons 40 = .ok (.ireturn, 1) := by decide +kernel
theorem dX6_spoons_41 : decode cX6_spoons 41 = .ok (.aload_n 3, 1) := by decide +kernel
theorem dX6_spoons_42 : decode cX6_spoons 42 = .ok (.getfield 231, 3) := by decide +kernel
theorem dX6_spoons_45 : decode cX6_spoons 45 = .ok (.iconst 5, 1) := by decide +kernel
theorem dX6_spoons_46 : decode cX6_spoons 46 = .ok (.invokestatic 279, 3) := by decide +kernel
theorem dX6_spoons_49 : decode cX6_spoons 49 = .ok (.istore 4, 2) := by decide +kernel
theorem dX6_spoons_51 : decode cX6_spoons 51 = .ok (.iconst 0, 1) := by decide +kernel
theorem dX6_spoons_52 : decode cX6_spoons 52 = .ok (.istore 5, 2) := by decide +kernel
theorem dX6_spoons_54 : decode cX6_spoons 54 = .ok (.iload 5, 2) := by decide +kernel
theorem dX6_spoons_56 : decode cX6_spoons 56 = .ok (.iload 4, 2) := by decide +kernel
theorem dX6_spoons_58 : decode cX6_spoons 58 = .ok (.if_icmp .ge 49, 3) := by decide +kernel
theorem dX6_spoons_61 : decode cX6_spoons 61 = .ok (.aload_n 3, 1) := by decide +kernel
theorem dX6_spoons_62 : decode cX6_spoons 62 = .ok (.getfield 270, 3) := by decide +kernel
theorem dX6_spoons_65 : decode cX6_spoons 65 = .ok (.iload 5, 2) := by decide +kernel
theorem dX6_spoons_67 : decode cX6_spoons 67 = .ok (.iaload, 1) := by decide +kernel
theorem dX6_spoons_68 : decode cX6_spoons 68 = .ok (.iconst 0, 1) := by decide +kernel
theorem dX6_spoons_69 : decode cX6_spoons 69 = .ok (.bipush 99, 2) := by decide +kernel
theorem dX6_spoons_71 : decode cX6_spoons 71 = .ok (.invokestatic 115, 3) := by decide +kernel
theorem dX6_spoons_74 : decode cX6_spoons 74 = .ok (.ifCond .eq 6, 3) := by decide +kernel
theorem dX6_spoons_77 : decode cX6_spoons 77 = .ok (.iload 5, 2) := by decide +kernel
theorem dX6_spoons_79 : decode cX6_spoons 79 = .ok (.ireturn, 1) := by decide +kernel
theorem dX6_spoons_80 : decode cX6_spoons 80 = .ok (.aload_n 0, 1) := by decide +kernel
theorem dX6_spoons_81 : decode cX6_spoons 81 = .ok (.getfield 12, 3) := by decide +kernel
theorem dX6_spoons_84 : decode cX6_spoons 84 = .ok (.getfield 89, 3) := by decide +kernel
theorem dX6_spoons_87 : decode cX6_spoons 87 = .ok (.iload_n 1, 1) := by decide +kernel
theorem dX6_spoons_88 : decode cX6_spoons 88 = .ok (.iload 5, 2) := by decide +kernel
theorem dX6_spoons_90 : decode cX6_spoons 90 = .ok (.invokestatic 111, 3) := by decide +kernel
theorem dX6_spoons_93 : decode cX6_spoons 93 = .ok (.aload_n 3, 1) := by decide +kernel
theorem dX6_spoons_94 : decode cX6_spoons 94 = .ok (.getfield 270, 3) := by decide +kernel
theorem dX6_spoons_97 : decode cX6_spoons 97 = .ok (.iload 5, 2) := by decide +kernel
theorem dX6_spoons_99 : decode cX6_spoons 99 = .ok (.iaload, 1) := by decide +kernel
theorem dX6_spoons_100 : decode cX6_spoons 100 = .ok (.iastore, 1) := by decide +kernel
theorem dX6_spoons_101 : decode cX6_spoons 101 = .ok (.iinc 5 1, 3) := by decide +kernel
theorem dX6_spoons_104 : decode cX6_spoons 104 = .ok (.goto (-50), 3) := by decide +kernel
theorem dX6_spoons_107 : decode cX6_spoons 107 = .ok (.iload 4, 2) := by decide +kernel
theorem dX6_spoons_109 : decode cX6_spoons 109 = .ok (.ireturn, 1) := by decide +kernel
theorem dX6_judge_0 : decode cX6_judge 0 = .ok (.iload_n 1, 1) := by decide +kernel
theorem dX6_judge_1 : decode cX6_judge 1 = .ok (.invokestatic 225, 3) := by decide +kernel
theorem dX6_judge_4 : decode cX6_judge 4 = .ok (.ifCond .eq 9, 3) := by decide +kernel
theorem dX6_judge_7 : decode cX6_judge 7 = .ok (.aload_n 0, 1) := by decide +kernel
theorem dX6_judge_8 : decode cX6_judge 8 = .ok (.iconst 1, 1) := by decide +kernel
theorem dX6_judge_9 : decode cX6_judge 9 = .ok (.invokevirtual 55, 3) := by decide +kernel
theorem dX6_judge_12 : decode cX6_judge 12 = .ok (.ireturn, 1) := by decide +kernel
theorem dX6_judge_13 : decode cX6_judge 13 = .ok (.aload_n 0, 1) := by decide +kernel
theorem dX6_judge_14 : decode cX6_judge 14 = .ok (.getfield 25, 3) := by decide +kernel
theorem dX6_judge_17 : decode cX6_judge 17 = .ok (.iload_n 1, 1) := by decide +kernel
theorem dX6_judge_18 : decode cX6_judge 18 = .ok (.aaload, 1) := by decide +kernel
theorem dX6_judge_19 : decode cX6_judge 19 = .ok (.astore_n 2, 1) := by decide +kernel
theorem dX6_judge_20 : decode cX6_judge 20 = .ok (.aload_n 2, 1) := by decide +kernel
theorem dX6_judge_21 : decode cX6_judge 21 = .ok (.invokevirtual 228, 3) := by decide +kernel
theorem dX6_judge_24 : decode cX6_judge 24 = .ok (.ifCond .eq 9, 3) := by decide +kernel
theorem dX6_judge_27 : decode cX6_judge 27 = .ok (.aload_n 0, 1) := by decide +kernel
theorem dX6_judge_28 : decode cX6_judge 28 = .ok (.iconst 2, 1) := by decide +kernel
theorem dX6_judge_29 : decode cX6_judge 29 = .ok (.invokevirtual 55, 3) := by decide +kernel
theorem dX6_judge_32 : decode cX6_judge 32 = .ok (.ireturn, 1) := by decide +kernel
theorem dX6_judge_33 : decode cX6_judge 33 = .ok (.aload_n 2, 1) := by decide +kernel
theorem dX6_judge_34 : decode cX6_judge 34 = .ok (.getfield 231, 3) := by decide +kernel
theorem dX6_judge_37 : decode cX6_judge 37 = .ok (.aload_n 0, 1) := by decide +kernel
theorem dX6_judge_38 : decode cX6_judge 38 = .ok (.getfield 12, 3) := by decide +kernel
theorem dX6_judge_41 : decode cX6_judge 41 = .ok (.getfield 59, 3) := by decide +kernel
theorem dX6_judge_44 : decode cX6_judge 44 = .ok (.invokestatic 279, 3) := by decide +kernel
theorem dX6_judge_47 : decode cX6_judge 47 = .ok (.istore_n 3, 1) := by decide +kernel
theorem dX6_judge_48 : decode cX6_judge 48 = .ok (.iconst 0, 1) := by decide +kernel
theorem dX6_judge_49 : decode cX6_judge 49 = .ok (.istore 4, 2) := by decide +kernel
theorem dX6_judge_51 : decode cX6_judge 51 = .ok (.iload 4, 2) := by decide +kernel
theorem dX6_judge_53 : decode cX6_judge 53 = .ok (.iload_n 3, 1) := by decide +kernel
theorem dX6_judge_54 : decode cX6_judge 54 = .ok (.if_icmp .ge 34, 3) := by decide +kernel
theorem dX6_judge_57 : decode cX6_judge 57 = .ok (.aload_n 2, 1) := by decide +kernel
theorem dX6_judge_58 : decode cX6_judge 58 = .ok (.getfield 270, 3) := by decide +kernel
theorem dX6_judge_61 : decode cX6_judge 61 = .ok (.iload 4, 2) := by decide +kernel
theorem dX6_judge_63 : decode cX6_judge 63 = .ok (.iaload, 1) := by decide +kernel
theorem dX6_judge_64 : decode cX6_judge 64 = .ok (.aload_n 0, 1) := by decide +kernel
theorem dX6_judge_65 : decode cX6_judge 65 = .ok (.getfield 12, 3) := by decide +kernel
theorem dX6_judge_68 : decode cX6_judge 68 = .ok (.getfield 89, 3) := by decide +kernel
theorem dX6_judge_71 : decode cX6_judge 71 = .ok (.iload 4, 2) := by decide +kernel
theorem dX6_judge_73 : decode cX6_judge 73 = .ok (.invokestatic 92, 3) := by decide +kernel
theorem dX6_judge_76 : decode cX6_judge 76 = .ok (.if_icmp .eq 6, 3) := by decide +kernel
theorem dX6_judge_79 : decode cX6_judge 79 = .ok (.iload 4, 2) := by decide +kernel
theorem dX6_judge_81 : decode cX6_judge 81 = .ok (.ireturn, 1) := by decide +kernel
theorem dX6_judge_82 : decode cX6_judge 82 = .ok (.iinc 4 1, 3) := by decide +kernel
theorem dX6_judge_85 : decode cX6_judge 85 = .ok (.goto (-34), 3) := by decide +kernel
theorem dX6_judge_88 : decode cX6_judge 88 = .ok (.iload_n 3, 1) := by decide +kernel
theorem dX6_judge_89 : decode cX6_judge 89 = .ok (.ireturn, 1) := by decide +kernel
theorem dX6_image_0 : decode cX6_image 0 = .ok (.aload_n 0, 1) := by decide +kernel
theorem dX6_image_1 : decode cX6_image 1 = .ok (.getfield 16, 3) := by decide +kernel
theorem dX6_image_4 : decode cX6_image 4 = .ok (.aload_n 0, 1) := by decide +kernel
theorem dX6_image_5 : decode cX6_image 5 = .ok (.getfield 12, 3) := by decide +kernel
theorem dX6_image_8 : decode cX6_image 8 = .ok (.invokevirtual 282, 3) := by decide +kernel
theorem dX6_image_11 : decode cX6_image 11 = .ok (.aload_n 0, 1) := by decide +kernel
theorem dX6_image_12 : decode cX6_image 12 = .ok (.dup, 1) := by decide +kernel
theorem dX6_image_13 : decode cX6_image 13 = .ok (.getfield 285, 3) := by decide +kernel
theorem dX6_image_16 : decode cX6_image 16 = .ok (.iconst 1, 1) := by decide +kernel
theorem dX6_image_17 : decode cX6_image 17 = .ok (.iadd, 1) := by decide +kernel
theorem dX6_image_18 : decode cX6_image 18 = .ok (.putfield 285, 3) := by decide +kernel
theorem dX6_image_21 : decode cX6_image 21 = .ok (.aload_n 0, 1) := by decide +kernel
theorem dX6_image_22 : decode cX6_image 22 = .ok (.getfield 285, 3) := by decide +kernel
theorem dX6_image_25 : decode cX6_image 25 = .ok (.ireturn, 1) := by decide +kernel
theorem dX6_restore_0 : decode cX6_restore 0 = .ok (.aload_n 0, 1) := by decide +kernel
theorem dX6_restore_1 : decode cX6_restore 1 = .ok (.getfield 285, 3) := by decide +kernel
theorem dX6_restore_4 : decode cX6_restore 4 = .ok (.ifCond .ne 9, 3) := by decide +kernel
theorem dX6_restore_7 : decode cX6_restore 7 = .ok (.aload_n 0, 1) := by decide +kernel
theorem dX6_restore_8 : decode cX6_restore 8 = .ok (.iconst 2, 1) := by decide +kernel
theorem dX6_restore_9 : decode cX6_restore 9 = .ok (.invokevirtual 55, 3) := by decide +kernel
theorem dX6_restore_12 : decode cX6_restore 12 = .ok (.ireturn, 1) := by decide +kernel
theorem dX6_restore_13 : decode cX6_restore 13 = .ok (.aload_n 0, 1) := by decide +kernel
theorem dX6_restore_14 : decode cX6_restore 14 = .ok (.getfield 12, 3) := by decide +kernel
theorem dX6_restore_17 : decode cX6_restore 17 = .ok (.aload_n 0, 1) := by decide +kernel
theorem dX6_restore_18 : decode cX6_restore 18 = .ok (.getfield 16, 3) := by decide +kernel
theorem dX6_restore_21 : decode cX6_restore 21 = .ok (.invokevirtual 282, 3) := by decide +kernel
theorem dX6_restore_24 : decode cX6_restore 24 = .ok (.aload_n 0, 1) := by decide +kernel
theorem dX6_restore_25 : decode cX6_restore 25 = .ok (.getfield 12, 3) := by decide +kernel
theorem dX6_restore_28 : decode cX6_restore 28 = .ok (.getfield 119, 3) := by decide +kernel
theorem dX6_restore_31 : decode cX6_restore 31 = .ok (.ireturn, 1) := by decide +kernel
theorem dX6_tell_0 : decode cX6_tell 0 = .ok (.aload_n 0, 1) := by decide +kernel
theorem dX6_tell_1 : decode cX6_tell 1 = .ok (.getfield 12, 3) := by decide +kernel
theorem dX6_tell_4 : decode cX6_tell 4 = .ok (.getfield 288, 3) := by decide +kernel
theorem dX6_tell_7 : decode cX6_tell 7 = .ok (.bipush 24, 2) := by decide +kernel
theorem dX6_tell_9 : decode cX6_tell 9 = .ok (.if_icmp .lt 9, 3) := by decide +kernel
theorem dX6_tell_12 : decode cX6_tell 12 = .ok (.aload_n 0, 1) := by decide +kernel
theorem dX6_tell_13 : decode cX6_tell 13 = .ok (.iconst 4, 1) := by decide +kernel
theorem dX6_tell_14 : decode cX6_tell 14 = .ok (.invokevirtual 55, 3) := by decide +kernel
theorem dX6_tell_17 : decode cX6_tell 17 = .ok (.ireturn, 1) := by decide +kernel
theorem dX6_tell_18 : decode cX6_tell 18 = .ok (.aload_n 0, 1) := by decide +kernel
theorem dX6_tell_19 : decode cX6_tell 19 = .ok (.getfield 12, 3) := by decide +kernel
theorem dX6_tell_22 : decode cX6_tell 22 = .ok (.getfield 291, 3) := by decide +kernel
theorem dX6_tell_25 : decode cX6_tell 25 = .ok (.aload_n 0, 1) := by decide +kernel
theorem dX6_tell_26 : decode cX6_tell 26 = .ok (.getfield 12, 3) := by decide +kernel
theorem dX6_tell_29 : decode cX6_tell 29 = .ok (.getfield 288, 3) := by decide +kernel
theorem dX6_tell_32 : decode cX6_tell 32 = .ok (.iload_n 1, 1) := by decide +kernel
theorem dX6_tell_33 : decode cX6_tell 33 = .ok (.iastore, 1) := by decide +kernel
theorem dX6_tell_34 : decode cX6_tell 34 = .ok (.aload_n 0, 1) := by decide +kernel
theorem dX6_tell_35 : decode cX6_tell 35 = .ok (.getfield 12, 3) := by decide +kernel
theorem dX6_tell_38 : decode cX6_tell 38 = .ok (.dup, 1) := by decide +kernel
theorem dX6_tell_39 : decode cX6_tell 39 = .ok (.getfield 288, 3) := by decide +kernel
theorem dX6_tell_42 : decode cX6_tell 42 = .ok (.iconst 1, 1) := by decide +kernel
theorem dX6_tell_43 : decode cX6_tell 43 = .ok (.iadd, 1) := by decide +kernel
theorem dX6_tell_44 : decode cX6_tell 44 = .ok (.putfield 288, 3) := by decide +kernel
theorem dX6_tell_47 : decode cX6_tell 47 = .ok (.aload_n 0, 1) := by decide +kernel
theorem dX6_tell_48 : decode cX6_tell 48 = .ok (.getfield 12, 3) := by decide +kernel
theorem dX6_tell_51 : decode cX6_tell 51 = .ok (.getfield 288, 3) := by decide +kernel
theorem dX6_tell_54 : decode cX6_tell 54 = .ok (.ireturn, 1) := by decide +kernel
theorem dX6_check_0 : decode cX6_check 0 = .ok (.aload_n 0, 1) := by decide +kernel
theorem dX6_check_1 : decode cX6_check 1 = .ok (.getfield 12, 3) := by decide +kernel
theorem dX6_check_4 : decode cX6_check 4 = .ok (.getfield 288, 3) := by decide +kernel
theorem dX6_check_7 : decode cX6_check 7 = .ok (.istore_n 1, 1) := by decide +kernel
theorem dX6_check_8 : decode cX6_check 8 = .ok (.aload_n 0, 1) := by decide +kernel
theorem dX6_check_9 : decode cX6_check 9 = .ok (.getfield 12, 3) := by decide +kernel
theorem dX6_check_12 : decode cX6_check 12 = .ok (.iconst 0, 1) := by decide +kernel
theorem dX6_check_13 : decode cX6_check 13 = .ok (.putfield 288, 3) := by decide +kernel
theorem dX6_check_16 : decode cX6_check 16 = .ok (.iconst 0, 1) := by decide +kernel
theorem dX6_check_17 : decode cX6_check 17 = .ok (.istore_n 2, 1) := by decide +kernel
theorem dX6_check_18 : decode cX6_check 18 = .ok (.iload_n 2, 1) := by decide +kernel
theorem dX6_check_19 : decode cX6_check 19 = .ok (.iload_n 1, 1) := by decide +kernel
theorem dX6_check_20 : decode cX6_check 20 = .ok (.if_icmp .ge 44, 3) := by decide +kernel
theorem dX6_check_23 : decode cX6_check 23 = .ok (.iload_n 2, 1) := by decide +kernel
theorem dX6_check_24 : decode cX6_check 24 = .ok (.aload_n 0, 1) := by decide +kernel
theorem dX6_check_25 : decode cX6_check 25 = .ok (.getfield 12, 3) := by decide +kernel
theorem dX6_check_28 : decode cX6_check 28 = .ok (.getfield 59, 3) := by decide +kernel
theorem dX6_check_31 : decode cX6_check 31 = .ok (.if_icmp .ge 23, 3) := by decide +kernel
theorem dX6_check_34 : decode cX6_check 34 = .ok (.aload_n 0, 1) := by decide +kernel
theorem dX6_check_35 : decode cX6_check 35 = .ok (.getfield 12, 3) := by decide +kernel
theorem dX6_check_38 : decode cX6_check 38 = .ok (.getfield 291, 3) := by decide +kernel
theorem dX6_check_41 : decode cX6_check 41 = .ok (.iload_n 2, 1) := by decide +kernel
theorem dX6_check_42 : decode cX6_check 42 = .ok (.iaload, 1) := by decide +kernel
theorem dX6_check_43 : decode cX6_check 43 = .ok (.aload_n 0, 1) := by decide +kernel
theorem dX6_check_44 : decode cX6_check 44 = .ok (.getfield 12, 3) := by decide +kernel
theorem dX6_check_47 : decode cX6_check 47 = .ok (.iload_n 2, 1) := by decide +kernel
theorem dX6_check_48 : decode cX6_check 48 = .ok (.invokevirtual 96, 3) := by decide +kernel
theorem dX6_check_51 : decode cX6_check 51 = .ok (.if_icmp .eq 7, 3) := by decide +kernel
theorem dX6_check_54 : decode cX6_check 54 = .ok (.iconst 1, 1) := by decide +kernel
theorem dX6_check_55 : decode cX6_check 55 = .ok (.iload_n 2, 1) := by decide +kernel
theorem dX6_check_56 : decode cX6_check 56 = .ok (.iadd, 1) := by decide +kernel
theorem dX6_check_57 : decode cX6_check 57 = .ok (.ireturn, 1) := by decide +kernel
theorem dX6_check_58 : decode cX6_check 58 = .ok (.iinc 2 1, 3) := by decide +kernel
theorem dX6_check_61 : decode cX6_check 61 = .ok (.goto (-43), 3) := by decide +kernel
theorem dX6_check_64 : decode cX6_check 64 = .ok (.iconst 0, 1) := by decide +kernel
theorem dX6_check_65 : decode cX6_check 65 = .ok (.ireturn, 1) := by decide +kernel
theorem dX6_count_0 : decode cX6_count 0 = .ok (.iload_n 1, 1) := by decide +kernel
theorem dX6_count_1 : decode cX6_count 1 = .ok (.tableswitch 87 0 5 #[39, 47, 55, 63, 71, 79], 39) := by decide +kernel
theorem dX6_count_40 : decode cX6_count 40 = .ok (.aload_n 0, 1) := by decide +kernel
theorem dX6_count_41 : decode cX6_count 41 = .ok (.getfield 12, 3) := by decide +kernel
theorem dX6_count_44 : decode cX6_count 44 = .ok (.getfield 59, 3) := by decide +kernel
theorem dX6_count_47 : decode cX6_count 47 = .ok (.ireturn, 1) := by decide +kernel
theorem dX6_count_48 : decode cX6_count 48 = .ok (.aload_n 0, 1) := by decide +kernel
theorem dX6_count_49 : decode cX6_count 49 = .ok (.getfield 12, 3) := by decide +kernel
theorem dX6_count_52 : decode cX6_count 52 = .ok (.getfield 119, 3) := by decide +kernel
theorem dX6_count_55 : decode cX6_count 55 = .ok (.ireturn, 1) := by decide +kernel
theorem dX6_count_56 : decode cX6_count 56 = .ok (.aload_n 0, 1) := by decide +kernel
theorem dX6_count_57 : decode cX6_count 57 = .ok (.getfield 12, 3) := by decide +kernel
theorem dX6_count_60 : decode cX6_count 60 = .ok (.getfield 140, 3) := by decide +kernel
theorem dX6_count_63 : decode cX6_count 63 = .ok (.ireturn, 1) := by decide +kernel
theorem dX6_count_64 : decode cX6_count 64 = .ok (.aload_n 0, 1) := by decide +kernel
theorem dX6_count_65 : decode cX6_count 65 = .ok (.getfield 12, 3) := by decide +kernel
theorem dX6_count_68 : decode cX6_count 68 = .ok (.getfield 288, 3) := by decide +kernel
theorem dX6_count_71 : decode cX6_count 71 = .ok (.ireturn, 1) := by decide +kernel
theorem dX6_count_72 : decode cX6_count 72 = .ok (.aload_n 0, 1) := by decide +kernel
theorem dX6_count_73 : decode cX6_count 73 = .ok (.getfield 47, 3) := by decide +kernel
theorem dX6_count_76 : decode cX6_count 76 = .ok (.getfield 248, 3) := by decide +kernel
theorem dX6_count_79 : decode cX6_count 79 = .ok (.ireturn, 1) := by decide +kernel
theorem dX6_count_80 : decode cX6_count 80 = .ok (.aload_n 0, 1) := by decide +kernel
theorem dX6_count_81 : decode cX6_count 81 = .ok (.getfield 12, 3) := by decide +kernel
theorem dX6_count_84 : decode cX6_count 84 = .ok (.getfield 188, 3) := by decide +kernel
theorem dX6_count_87 : decode cX6_count 87 = .ok (.ireturn, 1) := by decide +kernel
theorem dX6_count_88 : decode cX6_count 88 = .ok (.aload_n 0, 1) := by decide +kernel
theorem dX6_count_89 : decode cX6_count 89 = .ok (.iconst 1, 1) := by decide +kernel
theorem dX6_count_90 : decode cX6_count 90 = .ok (.invokevirtual 55, 3) := by decide +kernel
theorem dX6_count_93 : decode cX6_count 93 = .ok (.ireturn, 1) := by decide +kernel
theorem dX6_told_0 : decode cX6_told 0 = .ok (.iload_n 1, 1) := by decide +kernel
theorem dX6_told_1 : decode cX6_told 1 = .ok (.iconst 1, 1) := by decide +kernel
theorem dX6_told_2 : decode cX6_told 2 = .ok (.if_icmp .lt 9, 3) := by decide +kernel
theorem dX6_told_5 : decode cX6_told 5 = .ok (.iload_n 1, 1) := by decide +kernel
theorem dX6_told_6 : decode cX6_told 6 = .ok (.bipush 6, 2) := by decide +kernel
theorem dX6_told_8 : decode cX6_told 8 = .ok (.if_icmp .le 9, 3) := by decide +kernel
theorem dX6_told_11 : decode cX6_told 11 = .ok (.aload_n 0, 1) := by decide +kernel
theorem dX6_told_12 : decode cX6_told 12 = .ok (.iconst 1, 1) := by decide +kernel
theorem dX6_told_13 : decode cX6_told 13 = .ok (.invokevirtual 55, 3) := by decide +kernel
theorem dX6_told_16 : decode cX6_told 16 = .ok (.ireturn, 1) := by decide +kernel
theorem dX6_told_17 : decode cX6_told 17 = .ok (.aload_n 0, 1) := by decide +kernel
theorem dX6_told_18 : decode cX6_told 18 = .ok (.getfield 19, 3) := by decide +kernel
theorem dX6_told_21 : decode cX6_told 21 = .ok (.iload_n 1, 1) := by decide +kernel
theorem dX6_told_22 : decode cX6_told 22 = .ok (.iaload, 1) := by decide +kernel
theorem dX6_told_23 : decode cX6_told 23 = .ok (.ireturn, 1) := by decide +kernel
theorem dX6_error_0 : decode cX6_error 0 = .ok (.iload_n 1, 1) := by decide +kernel
theorem dX6_error_1 : decode cX6_error 1 = .ok (.ifCond .lt 22, 3) := by decide +kernel
theorem dX6_error_4 : decode cX6_error 4 = .ok (.iload_n 1, 1) := by decide +kernel
theorem dX6_error_5 : decode cX6_error 5 = .ok (.aload_n 0, 1) := by decide +kernel
theorem dX6_error_6 : decode cX6_error 6 = .ok (.getfield 19, 3) := by decide +kernel
theorem dX6_error_9 : decode cX6_error 9 = .ok (.arraylength, 1) := by decide +kernel
theorem dX6_error_10 : decode cX6_error 10 = .ok (.if_icmp .ge 13, 3) := by decide +kernel
theorem dX6_error_13 : decode cX6_error 13 = .ok (.aload_n 0, 1) := by decide +kernel
theorem dX6_error_14 : decode cX6_error 14 = .ok (.getfield 19, 3) := by decide +kernel
theorem dX6_error_17 : decode cX6_error 17 = .ok (.iload_n 1, 1) := by decide +kernel
theorem dX6_error_18 : decode cX6_error 18 = .ok (.dup2, 1) := by decide +kernel
theorem dX6_error_19 : decode cX6_error 19 = .ok (.iaload, 1) := by decide +kernel
theorem dX6_error_20 : decode cX6_error 20 = .ok (.iconst 1, 1) := by decide +kernel
theorem dX6_error_21 : decode cX6_error 21 = .ok (.iadd, 1) := by decide +kernel
theorem dX6_error_22 : decode cX6_error 22 = .ok (.iastore, 1) := by decide +kernel
theorem dX6_error_23 : decode cX6_error 23 = .ok (.ldc_w 294, 3) := by decide +kernel
theorem dX6_error_26 : decode cX6_error 26 = .ok (.iload_n 1, 1) := by decide +kernel
theorem dX6_error_27 : decode cX6_error 27 = .ok (.isub, 1) := by decide +kernel
theorem dX6_error_28 : decode cX6_error 28 = .ok (.ireturn, 1) := by decide +kernel
theorem dX6_notOne_0 : decode cX6_notOne 0 = .ok (.iload_n 1, 1) := by decide +kernel
theorem dX6_notOne_1 : decode cX6_notOne 1 = .ok (.ifCond .lt 14, 3) := by decide +kernel
theorem dX6_notOne_4 : decode cX6_notOne 4 = .ok (.iload_n 1, 1) := by decide +kernel
theorem dX6_notOne_5 : decode cX6_notOne 5 = .ok (.aload_n 0, 1) := by decide +kernel
theorem dX6_notOne_6 : decode cX6_notOne 6 = .ok (.getfield 12, 3) := by decide +kernel
theorem dX6_notOne_9 : decode cX6_notOne 9 = .ok (.getfield 59, 3) := by decide +kernel
theorem dX6_notOne_12 : decode cX6_notOne 12 = .ok (.if_icmp .lt 7, 3) := by decide +kernel
theorem dX6_notOne_15 : decode cX6_notOne 15 = .ok (.iconst 1, 1) := by decide +kernel
theorem dX6_notOne_16 : decode cX6_notOne 16 = .ok (.goto 4, 3) := by decide +kernel
theorem dX6_notOne_19 : decode cX6_notOne 19 = .ok (.iconst 0, 1) := by decide +kernel
theorem dX6_notOne_20 : decode cX6_notOne 20 = .ok (.ireturn, 1) := by decide +kernel
theorem dX6_notTwo_0 : decode cX6_notTwo 0 = .ok (.aload_n 0, 1) := by decide +kernel
theorem dX6_notTwo_1 : decode cX6_notTwo 1 = .ok (.iload_n 1, 1) := by decide +kernel
theorem dX6_notTwo_2 : decode cX6_notTwo 2 = .ok (.invokevirtual 74, 3) := by decide +kernel
theorem dX6_notTwo_5 : decode cX6_notTwo 5 = .ok (.ifCond .ne 16, 3) := by decide +kernel
theorem dX6_notTwo_8 : decode cX6_notTwo 8 = .ok (.aload_n 0, 1) := by decide +kernel
theorem dX6_notTwo_9 : decode cX6_notTwo 9 = .ok (.iload_n 2, 1) := by decide +kernel
theorem dX6_notTwo_10 : decode cX6_notTwo 10 = .ok (.invokevirtual 74, 3) := by decide +kernel
theorem dX6_notTwo_13 : decode cX6_notTwo 13 = .ok (.ifCond .ne 8, 3) := by decide +kernel
theorem dX6_notTwo_16 : decode cX6_notTwo 16 = .ok (.iload_n 1, 1) := by decide +kernel
theorem dX6_notTwo_17 : decode cX6_notTwo 17 = .ok (.iload_n 2, 1) := by decide +kernel
theorem dX6_notTwo_18 : decode cX6_notTwo 18 = .ok (.if_icmp .ne 7, 3) := by decide +kernel
theorem dX6_notTwo_21 : decode cX6_notTwo 21 = .ok (.iconst 1, 1) := by decide +kernel
theorem dX6_notTwo_22 : decode cX6_notTwo 22 = .ok (.goto 4, 3) := by decide +kernel
theorem dX6_notTwo_25 : decode cX6_notTwo 25 = .ok (.iconst 0, 1) := by decide +kernel
theorem dX6_notTwo_26 : decode cX6_notTwo 26 = .ok (.ireturn, 1) := by decide +kernel
theorem dX6_notKm_0 : decode cX6_notKm 0 = .ok (.iload_n 0, 1) := by decide +kernel
theorem dX6_notKm_1 : decode cX6_notKm 1 = .ok (.iconst 0, 1) := by decide +kernel
theorem dX6_notKm_2 : decode cX6_notKm 2 = .ok (.bipush 69, 2) := by decide +kernel
theorem dX6_notKm_4 : decode cX6_notKm 4 = .ok (.invokestatic 115, 3) := by decide +kernel
theorem dX6_notKm_7 : decode cX6_notKm 7 = .ok (.ireturn, 1) := by decide +kernel
theorem dX6_notSort_0 : decode cX6_notSort 0 = .ok (.iload_n 0, 1) := by decide +kernel
theorem dX6_notSort_1 : decode cX6_notSort 1 = .ok (.iconst 0, 1) := by decide +kernel
theorem dX6_notSort_2 : decode cX6_notSort 2 = .ok (.iconst 4, 1) := by decide +kernel
theorem dX6_notSort_3 : decode cX6_notSort 3 = .ok (.invokestatic 115, 3) := by decide +kernel
theorem dX6_notSort_6 : decode cX6_notSort 6 = .ok (.ireturn, 1) := by decide +kernel
theorem dX6_notUse_0 : decode cX6_notUse 0 = .ok (.iload_n 0, 1) := by decide +kernel
theorem dX6_notUse_1 : decode cX6_notUse 1 = .ok (.ifCond .eq 12, 3) := by decide +kernel
theorem dX6_notUse_4 : decode cX6_notUse 4 = .ok (.iload_n 0, 1) := by decide +kernel
theorem dX6_notUse_5 : decode cX6_notUse 5 = .ok (.iconst 1, 1) := by decide +kernel
theorem dX6_notUse_6 : decode cX6_notUse 6 = .ok (.if_icmp .eq 7, 3) := by decide +kernel
theorem dX6_notUse_9 : decode cX6_notUse 9 = .ok (.iconst 1, 1) := by decide +kernel
theorem dX6_notUse_10 : decode cX6_notUse 10 = .ok (.goto 4, 3) := by decide +kernel
theorem dX6_notUse_13 : decode cX6_notUse 13 = .ok (.iconst 0, 1) := by decide +kernel
theorem dX6_notUse_14 : decode cX6_notUse 14 = .ok (.ireturn, 1) := by decide +kernel
theorem dX6_notSheet_0 : decode cX6_notSheet 0 = .ok (.iload_n 0, 1) := by decide +kernel
theorem dX6_notSheet_1 : decode cX6_notSheet 1 = .ok (.iconst 0, 1) := by decide +kernel
theorem dX6_notSheet_2 : decode cX6_notSheet 2 = .ok (.iconst 3, 1) := by decide +kernel
theorem dX6_notSheet_3 : decode cX6_notSheet 3 = .ok (.invokestatic 115, 3) := by decide +kernel
theorem dX6_notSheet_6 : decode cX6_notSheet 6 = .ok (.ireturn, 1) := by decide +kernel
theorem dX6_notWithin_0 : decode cX6_notWithin 0 = .ok (.iload_n 0, 1) := by decide +kernel
theorem dX6_notWithin_1 : decode cX6_notWithin 1 = .ok (.iload_n 1, 1) := by decide +kernel
theorem dX6_notWithin_2 : decode cX6_notWithin 2 = .ok (.if_icmp .lt 8, 3) := by decide +kernel
theorem dX6_notWithin_5 : decode cX6_notWithin 5 = .ok (.iload_n 0, 1) := by decide +kernel
theorem dX6_notWithin_6 : decode cX6_notWithin 6 = .ok (.iload_n 2, 1) := by decide +kernel
theorem dX6_notWithin_7 : decode cX6_notWithin 7 = .ok (.if_icmp .le 7, 3) := by decide +kernel
theorem dX6_notWithin_10 : decode cX6_notWithin 10 = .ok (.iconst 1, 1) := by decide +kernel
theorem dX6_notWithin_11 : decode cX6_notWithin 11 = .ok (.goto 4, 3) := by decide +kernel
theorem dX6_notWithin_14 : decode cX6_notWithin 14 = .ok (.iconst 0, 1) := by decide +kernel
theorem dX6_notWithin_15 : decode cX6_notWithin 15 = .ok (.ireturn, 1) := by decide +kernel
theorem dX6_held_0 : decode cX6_held 0 = .ok (.iload_n 1, 1) := by decide +kernel
theorem dX6_held_1 : decode cX6_held 1 = .ok (.iload_n 2, 1) := by decide +kernel
theorem dX6_held_2 : decode cX6_held 2 = .ok (.iload_n 0, 1) := by decide +kernel
theorem dX6_held_3 : decode cX6_held 3 = .ok (.invokestatic 279, 3) := by decide +kernel
theorem dX6_held_6 : decode cX6_held 6 = .ok (.invokestatic 214, 3) := by decide +kernel
theorem dX6_held_9 : decode cX6_held 9 = .ok (.ireturn, 1) := by decide +kernel
theorem dX6_truth_0 : decode cX6_truth 0 = .ok (.iload_n 0, 1) := by decide +kernel
theorem dX6_truth_1 : decode cX6_truth 1 = .ok (.ifCond .eq 7, 3) := by decide +kernel
theorem dX6_truth_4 : decode cX6_truth 4 = .ok (.iconst 1, 1) := by decide +kernel
theorem dX6_truth_5 : decode cX6_truth 5 = .ok (.goto 4, 3) := by decide +kernel
theorem dX6_truth_8 : decode cX6_truth 8 = .ok (.iconst 0, 1) := by decide +kernel
theorem dX6_truth_9 : decode cX6_truth 9 = .ok (.ireturn, 1) := by decide +kernel
theorem dX6_cell_0 : decode cX6_cell 0 = .ok (.iload_n 0, 1) := by decide +kernel
theorem dX6_cell_1 : decode cX6_cell 1 = .ok (.iconst 5, 1) := by decide +kernel
theorem dX6_cell_2 : decode cX6_cell 2 = .ok (.imul, 1) := by decide +kernel
theorem dX6_cell_3 : decode cX6_cell 3 = .ok (.iload_n 1, 1) := by decide +kernel
theorem dX6_cell_4 : decode cX6_cell 4 = .ok (.iadd, 1) := by decide +kernel
theorem dX6_cell_5 : decode cX6_cell 5 = .ok (.ireturn, 1) := by decide +kernel
theorem dX6_pair_0 : decode cX6_pair 0 = .ok (.iload_n 0, 1) := by decide +kernel
theorem dX6_pair_1 : decode cX6_pair 1 = .ok (.bipush 8, 2) := by decide +kernel
theorem dX6_pair_3 : decode cX6_pair 3 = .ok (.imul, 1) := by decide +kernel
theorem dX6_pair_4 : decode cX6_pair 4 = .ok (.iload_n 1, 1) := by decide +kernel
theorem dX6_pair_5 : decode cX6_pair 5 = .ok (.iadd, 1) := by decide +kernel
theorem dX6_pair_6 : decode cX6_pair 6 = .ok (.ireturn, 1) := by decide +kernel
theorem dX6_together_0 : decode cX6_together 0 = .ok (.iconst 0, 1) := by decide +kernel
theorem dX6_together_1 : decode cX6_together 1 = .ok (.istore_n 2, 1) := by decide +kernel
theorem dX6_together_2 : decode cX6_together 2 = .ok (.iconst 0, 1) := by decide +kernel
theorem dX6_together_3 : decode cX6_together 3 = .ok (.istore_n 3, 1) := by decide +kernel
theorem dX6_together_4 : decode cX6_together 4 = .ok (.iload_n 3, 1) := by decide +kernel
theorem dX6_together_5 : decode cX6_together 5 = .ok (.iconst 5, 1) := by decide +kernel
theorem dX6_together_6 : decode cX6_together 6 = .ok (.if_icmp .ge 19, 3) := by decide +kernel
theorem dX6_together_9 : decode cX6_together 9 = .ok (.iload_n 2, 1) := by decide +kernel
theorem dX6_together_10 : decode cX6_together 10 = .ok (.aload_n 0, 1) := by decide +kernel
theorem dX6_together_11 : decode cX6_together 11 = .ok (.iload_n 1, 1) := by decide +kernel
theorem dX6_together_12 : decode cX6_together 12 = .ok (.iload_n 3, 1) := by decide +kernel
theorem dX6_together_13 : decode cX6_together 13 = .ok (.invokestatic 111, 3) := by decide +kernel
theorem dX6_together_16 : decode cX6_together 16 = .ok (.iaload, 1) := by decide +kernel
theorem dX6_together_17 : decode cX6_together 17 = .ok (.iadd, 1) := by decide +kernel
theorem dX6_together_18 : decode cX6_together 18 = .ok (.istore_n 2, 1) := by decide +kernel
theorem dX6_together_19 : decode cX6_together 19 = .ok (.iinc 3 1, 3) := by decide +kernel
theorem dX6_together_22 : decode cX6_together 22 = .ok (.goto (-18), 3) := by decide +kernel
theorem dX6_together_25 : decode cX6_together 25 = .ok (.iload_n 2, 1) := by decide +kernel
theorem dX6_together_26 : decode cX6_together 26 = .ok (.ireturn, 1) := by decide +kernel
theorem dX6_isUnder_0 : decode cX6_isUnder 0 = .ok (.iload_n 0, 1) := by decide +kernel
theorem dX6_isUnder_1 : decode cX6_isUnder 1 = .ok (.istore_n 2, 1) := by decide +kernel
theorem dX6_isUnder_2 : decode cX6_isUnder 2 = .ok (.iconst 0, 1) := by decide +kernel
theorem dX6_isUnder_3 : decode cX6_isUnder 3 = .ok (.istore_n 3, 1) := by decide +kernel
theorem dX6_isUnder_4 : decode cX6_isUnder 4 = .ok (.iload_n 3, 1) := by decide +kernel
theorem dX6_isUnder_5 : decode cX6_isUnder 5 = .ok (.bipush 7, 2) := by decide +kernel
theorem dX6_isUnder_7 : decode cX6_isUnder 7 = .ok (.if_icmp .ge 26, 3) := by decide +kernel
theorem dX6_isUnder_10 : decode cX6_isUnder 10 = .ok (.iload_n 2, 1) := by decide +kernel
theorem dX6_isUnder_11 : decode cX6_isUnder 11 = .ok (.ifCond .lt 22, 3) := by decide +kernel
theorem dX6_isUnder_14 : decode cX6_isUnder 14 = .ok (.iload_n 2, 1) := by decide +kernel
theorem dX6_isUnder_15 : decode cX6_isUnder 15 = .ok (.iload_n 1, 1) := by decide +kernel
theorem dX6_isUnder_16 : decode cX6_isUnder 16 = .ok (.if_icmp .ne 5, 3) := by decide +kernel
theorem dX6_isUnder_19 : decode cX6_isUnder 19 = .ok (.iconst 1, 1) := by decide +kernel
theorem dX6_isUnder_20 : decode cX6_isUnder 20 = .ok (.ireturn, 1) := by decide +kernel
theorem dX6_isUnder_21 : decode cX6_isUnder 21 = .ok (.getstatic 295, 3) := by decide +kernel
theorem dX6_isUnder_24 : decode cX6_isUnder 24 = .ok (.iload_n 2, 1) := by decide +kernel
theorem dX6_isUnder_25 : decode cX6_isUnder 25 = .ok (.iaload, 1) := by decide +kernel
theorem dX6_isUnder_26 : decode cX6_isUnder 26 = .ok (.istore_n 2, 1) := by decide +kernel
theorem dX6_isUnder_27 : decode cX6_isUnder 27 = .ok (.iinc 3 1, 3) := by decide +kernel
theorem dX6_isUnder_30 : decode cX6_isUnder 30 = .ok (.goto (-26), 3) := by decide +kernel
theorem dX6_isUnder_33 : decode cX6_isUnder 33 = .ok (.iconst 0, 1) := by decide +kernel
theorem dX6_isUnder_34 : decode cX6_isUnder 34 = .ok (.ireturn, 1) := by decide +kernel
theorem dX6_commonDivisor_0 : decode cX6_commonDivisor 0 = .ok (.iload_n 1, 1) := by decide +kernel
theorem dX6_commonDivisor_1 : decode cX6_commonDivisor 1 = .ok (.istore_n 2, 1) := by decide +kernel
theorem dX6_commonDivisor_2 : decode cX6_commonDivisor 2 = .ok (.iload_n 2, 1) := by decide +kernel
theorem dX6_commonDivisor_3 : decode cX6_commonDivisor 3 = .ok (.iconst 1, 1) := by decide +kernel
theorem dX6_commonDivisor_4 : decode cX6_commonDivisor 4 = .ok (.if_icmp .le 23, 3) := by decide +kernel
theorem dX6_commonDivisor_7 : decode cX6_commonDivisor 7 = .ok (.iload_n 0, 1) := by decide +kernel
theorem dX6_commonDivisor_8 : decode cX6_commonDivisor 8 = .ok (.iload_n 2, 1) := by decide +kernel
theorem dX6_commonDivisor_9 : decode cX6_commonDivisor 9 = .ok (.irem, 1) := by decide +kernel
theorem dX6_commonDivisor_10 : decode cX6_commonDivisor 10 = .ok (.ifCond .ne 11, 3) := by decide +kernel
theorem dX6_commonDivisor_13 : decode cX6_commonDivisor 13 = .ok (.iload_n 1, 1) := by decide +kernel
theorem dX6_commonDivisor_14 : decode cX6_commonDivisor 14 = .ok (.iload_n 2, 1) := by decide +kernel
theorem dX6_commonDivisor_15 : decode cX6_commonDivisor 15 = .ok (.irem, 1) := by decide +kernel
theorem dX6_commonDivisor_16 : decode cX6_commonDivisor 16 = .ok (.ifCond .ne 5, 3) := by decide +kernel
theorem dX6_commonDivisor_19 : decode cX6_commonDivisor 19 = .ok (.iload_n 2, 1) := by decide +kernel
theorem dX6_commonDivisor_20 : decode cX6_commonDivisor 20 = .ok (.ireturn, 1) := by decide +kernel
theorem dX6_commonDivisor_21 : decode cX6_commonDivisor 21 = .ok (.iinc 2 (-1), 3) := by decide +kernel
theorem dX6_commonDivisor_24 : decode cX6_commonDivisor 24 = .ok (.goto (-22), 3) := by decide +kernel
theorem dX6_commonDivisor_27 : decode cX6_commonDivisor 27 = .ok (.iconst 1, 1) := by decide +kernel
theorem dX6_commonDivisor_28 : decode cX6_commonDivisor 28 = .ok (.ireturn, 1) := by decide +kernel
theorem dX7_init_0 : decode cX7_init 0 = .ok (.aload_n 0, 1) := by decide +kernel
theorem dX7_init_1 : decode cX7_init 1 = .ok (.invokespecial 1, 3) := by decide +kernel
theorem dX7_init_4 : decode cX7_init 4 = .ok (.aload_n 0, 1) := by decide +kernel
theorem dX7_init_5 : decode cX7_init 5 = .ok (.sipush 476, 3) := by decide +kernel
theorem dX7_init_8 : decode cX7_init 8 = .ok (.newarray .int, 2) := by decide +kernel
theorem dX7_init_10 : decode cX7_init 10 = .ok (.putfield 7, 3) := by decide +kernel
theorem dX7_init_13 : decode cX7_init 13 = .ok (.aload_n 0, 1) := by decide +kernel
theorem dX7_init_14 : decode cX7_init 14 = .ok (.sipush 476, 3) := by decide +kernel
theorem dX7_init_17 : decode cX7_init 17 = .ok (.newarray .int, 2) := by decide +kernel
theorem dX7_init_19 : decode cX7_init 19 = .ok (.putfield 13, 3) := by decide +kernel
theorem dX7_init_22 : decode cX7_init 22 = .ok (.aload_n 0, 1) := by decide +kernel
theorem dX7_init_23 : decode cX7_init 23 = .ok (.sipush 142, 3) := by decide +kernel
theorem dX7_init_26 : decode cX7_init 26 = .ok (.newarray .int, 2) := by decide +kernel
theorem dX7_init_28 : decode cX7_init 28 = .ok (.putfield 16, 3) := by decide +kernel
theorem dX7_init_31 : decode cX7_init 31 = .ok (.aload_n 0, 1) := by decide +kernel
theorem dX7_init_32 : decode cX7_init 32 = .ok (.bipush 7, 2) := by decide +kernel
theorem dX7_init_34 : decode cX7_init 34 = .ok (.newarray .int, 2) := by decide +kernel
theorem dX7_init_36 : decode cX7_init 36 = .ok (.putfield 19, 3) := by decide +kernel
theorem dX7_init_39 : decode cX7_init 39 = .ok (.aload_n 0, 1) := by decide +kernel
theorem dX7_init_40 : decode cX7_init 40 = .ok (.bipush 124, 2) := by decide +kernel
theorem dX7_init_42 : decode cX7_init 42 = .ok (.newarray .int, 2) := by decide +kernel
theorem dX7_init_44 : decode cX7_init 44 = .ok (.putfield 22, 3) := by decide +kernel
theorem dX7_init_47 : decode cX7_init 47 = .ok (.aload_n 0, 1) := by decide +kernel
theorem dX7_init_48 : decode cX7_init 48 = .ok (.sipush 128, 3) := by decide +kernel
theorem dX7_init_51 : decode cX7_init 51 = .ok (.newarray .int, 2) := by decide +kernel
theorem dX7_init_53 : decode cX7_init 53 = .ok (.putfield 25, 3) := by decide +kernel
theorem dX7_init_56 : decode cX7_init 56 = .ok (.aload_n 0, 1) := by decide +kernel
theorem dX7_init_57 : decode cX7_init 57 = .ok (.bipush 64, 2) := by decide +kernel
theorem dX7_init_59 : decode cX7_init 59 = .ok (.newarray .int, 2) := by decide +kernel
theorem dX7_init_61 : decode cX7_init 61 = .ok (.putfield 28, 3) := by decide +kernel
theorem dX7_init_64 : decode cX7_init 64 = .ok (.aload_n 0, 1) := by decide +kernel
theorem dX7_init_65 : decode cX7_init 65 = .ok (.sipush 256, 3) := by decide +kernel
theorem dX7_init_68 : decode cX7_init 68 = .ok (.newarray .int, 2) := by decide +kernel
theorem dX7_init_70 : decode cX7_init 70 = .ok (.putfield 31, 3) := by decide +kernel
theorem dX7_init_73 : decode cX7_init 73 = .ok (.aload_n 0, 1) := by decide +kernel
theorem dX7_init_74 : decode cX7_init 74 = .ok (.sipush 256, 3) := by decide +kernel
theorem dX7_init_77 : decode cX7_init 77 = .ok (.newarray .int, 2) := by decide +kernel
theorem dX7_init_79 : decode cX7_init 79 = .ok (.putfield 34, 3) := by decide +kernel
theorem dX7_init_82 : decode cX7_init 82 = .ok (.aload_n 0, 1) := by decide +kernel
theorem dX7_init_83 : decode cX7_init 83 = .ok (.bipush 30, 2) := by decide +kernel
theorem dX7_init_85 : decode cX7_init 85 = .ok (.newarray .int, 2) := by decide +kernel
theorem dX7_init_87 : decode cX7_init 87 = .ok (.putfield 37, 3) := by decide +kernel
theorem dX7_init_90 : decode cX7_init 90 = .ok (.aload_n 0, 1) := by decide +kernel
theorem dX7_init_91 : decode cX7_init 91 = .ok (.iconst 4, 1) := by decide +kernel
theorem dX7_init_92 : decode cX7_init 92 = .ok (.newarray .int, 2) := by decide +kernel
theorem dX7_init_94 : decode cX7_init 94 = .ok (.putfield 40, 3) := by decide +kernel
theorem dX7_init_97 : decode cX7_init 97 = .ok (.aload_n 0, 1) := by decide +kernel
theorem dX7_init_98 : decode cX7_init 98 = .ok (.iconst 4, 1) := by decide +kernel
theorem dX7_init_99 : decode cX7_init 99 = .ok (.newarray .int, 2) := by decide +kernel
theorem dX7_init_101 : decode cX7_init 101 = .ok (.putfield 43, 3) := by decide +kernel
theorem dX7_init_104 : decode cX7_init 104 = .ok (.aload_n 0, 1) := by decide +kernel
theorem dX7_init_105 : decode cX7_init 105 = .ok (.bipush 96, 2) := by decide +kernel
theorem dX7_init_107 : decode cX7_init 107 = .ok (.newarray .int, 2) := by decide +kernel
theorem dX7_init_109 : decode cX7_init 109 = .ok (.putfield 46, 3) := by decide +kernel
theorem dX7_init_112 : decode cX7_init 112 = .ok (.aload_n 0, 1) := by decide +kernel
theorem dX7_init_113 : decode cX7_init 113 = .ok (.bipush 24, 2) := by decide +kernel
theorem dX7_init_115 : decode cX7_init 115 = .ok (.newarray .int, 2) := by decide +kernel
theorem dX7_init_117 : decode cX7_init 117 = .ok (.putfield 49, 3) := by decide +kernel
theorem dX7_init_120 : decode cX7_init 120 = .ok (.aload_n 0, 1) := by decide +kernel
theorem dX7_init_121 : decode cX7_init 121 = .ok (.getfield 7, 3) := by decide +kernel
theorem dX7_init_124 : decode cX7_init 124 = .ok (.iconst 1, 1) := by decide +kernel
theorem dX7_init_125 : decode cX7_init 125 = .ok (.iconst 1, 1) := by decide +kernel
theorem dX7_init_126 : decode cX7_init 126 = .ok (.iastore, 1) := by decide +kernel
theorem dX7_init_127 : decode cX7_init 127 = .ok (.return_, 1) := by decide +kernel
theorem dX7_error_0 : decode cX7_error 0 = .ok (.aload_n 0, 1) := by decide +kernel
theorem dX7_error_1 : decode cX7_error 1 = .ok (.getfield 19, 3) := by decide +kernel
theorem dX7_error_4 : decode cX7_error 4 = .ok (.iload_n 1, 1) := by decide +kernel
theorem dX7_error_5 : decode cX7_error 5 = .ok (.dup2, 1) := by decide +kernel
theorem dX7_error_6 : decode cX7_error 6 = .ok (.iaload, 1) := by decide +kernel
theorem dX7_error_7 : decode cX7_error 7 = .ok (.iconst 1, 1) := by decide +kernel
theorem dX7_error_8 : decode cX7_error 8 = .ok (.iadd, 1) := by decide +kernel
theorem dX7_error_9 : decode cX7_error 9 = .ok (.iastore, 1) := by decide +kernel
theorem dX7_error_10 : decode cX7_error 10 = .ok (.ldc 52, 2) := by decide +kernel
theorem dX7_error_12 : decode cX7_error 12 = .ok (.iload_n 1, 1) := by decide +kernel
theorem dX7_error_13 : decode cX7_error 13 = .ok (.isub, 1) := by decide +kernel
theorem dX7_error_14 : decode cX7_error 14 = .ok (.ireturn, 1) := by decide +kernel
theorem dX7_in_0 : decode cX7_in 0 = .ok (.iload_n 0, 1) := by decide +kernel
theorem dX7_in_1 : decode cX7_in 1 = .ok (.iload_n 1, 1) := by decide +kernel
theorem dX7_in_2 : decode cX7_in 2 = .ok (.if_icmp .lt 12, 3) := by decide +kernel
theorem dX7_in_5 : decode cX7_in 5 = .ok (.iload_n 0, 1) := by decide +kernel
theorem dX7_in_6 : decode cX7_in 6 = .ok (.iload_n 2, 1) := by decide +kernel
theorem dX7_in_7 : decode cX7_in 7 = .ok (.if_icmp .gt 7, 3) := by decide +kernel
theorem dX7_in_10 : decode cX7_in 10 = .ok (.iconst 1, 1) := by decide +kernel
theorem dX7_in_11 : decode cX7_in 11 = .ok (.goto 4, 3) := by decide +kernel
theorem dX7_in_14 : decode cX7_in 14 = .ok (.iconst 0, 1) := by decide +kernel
theorem dX7_in_15 : decode cX7_in 15 = .ok (.ireturn, 1) := by decide +kernel
theorem dX7_held_0 : decode cX7_held 0 = .ok (.iload_n 0, 1) := by decide +kernel
theorem dX7_held_1 : decode cX7_held 1 = .ok (.iload_n 1, 1) := by decide +kernel
theorem dX7_held_2 : decode cX7_held 2 = .ok (.if_icmp .ge 7, 3) := by decide +kernel
theorem dX7_held_5 : decode cX7_held 5 = .ok (.iload_n 1, 1) := by decide +kernel
theorem dX7_held_6 : decode cX7_held 6 = .ok (.goto 13, 3) := by decide +kernel
theorem dX7_held_9 : decode cX7_held 9 = .ok (.iload_n 0, 1) := by decide +kernel
theorem dX7_held_10 : decode cX7_held 10 = .ok (.iload_n 2, 1) := by decide +kernel
theorem dX7_held_11 : decode cX7_held 11 = .ok (.if_icmp .le 7, 3) := by decide +kernel
theorem dX7_held_14 : decode cX7_held 14 = .ok (.iload_n 2, 1) := by decide +kernel
theorem dX7_held_15 : decode cX7_held 15 = .ok (.goto 4, 3) := by decide +kernel
theorem dX7_held_18 : decode cX7_held 18 = .ok (.iload_n 0, 1) := by decide +kernel
theorem dX7_held_19 : decode cX7_held 19 = .ok (.ireturn, 1) := by decide +kernel
theorem dX7_copyAll_0 : decode cX7_copyAll 0 = .ok (.iconst 0, 1) := by decide +kernel
theorem dX7_copyAll_1 : decode cX7_copyAll 1 = .ok (.istore_n 2, 1) := by decide +kernel
theorem dX7_copyAll_2 : decode cX7_copyAll 2 = .ok (.iload_n 2, 1) := by decide +kernel
theorem dX7_copyAll_3 : decode cX7_copyAll 3 = .ok (.sipush 476, 3) := by decide +kernel
theorem dX7_copyAll_6 : decode cX7_copyAll 6 = .ok (.if_icmp .ge 15, 3) := by decide +kernel
theorem dX7_copyAll_9 : decode cX7_copyAll 9 = .ok (.aload_n 1, 1) := by decide +kernel
theorem dX7_copyAll_10 : decode cX7_copyAll 10 = .ok (.iload_n 2, 1) := by decide +kernel
theorem dX7_copyAll_11 : decode cX7_copyAll 11 = .ok (.aload_n 0, 1) := by decide +kernel
theorem dX7_copyAll_12 : decode cX7_copyAll 12 = .ok (.iload_n 2, 1) := by decide +kernel
theorem dX7_copyAll_13 : decode cX7_copyAll 13 = .ok (.iaload, 1) := by decide +kernel
theorem dX7_copyAll_14 : decode cX7_copyAll 14 = .ok (.iastore, 1) := by decide +kernel
theorem dX7_copyAll_15 : decode cX7_copyAll 15 = .ok (.iinc 2 1, 3) := by decide +kernel
theorem dX7_copyAll_18 : decode cX7_copyAll 18 = .ok (.goto (-16), 3) := by decide +kernel
theorem dX7_copyAll_21 : decode cX7_copyAll 21 = .ok (.return_, 1) := by decide +kernel
theorem dX7_layDown_0 : decode cX7_layDown 0 = .ok (.iconst 0, 1) := by decide +kernel
theorem dX7_layDown_1 : decode cX7_layDown 1 = .ok (.istore_n 1, 1) := by decide +kernel
theorem dX7_layDown_2 : decode cX7_layDown 2 = .ok (.iload_n 1, 1) := by decide +kernel
theorem dX7_layDown_3 : decode cX7_layDown 3 = .ok (.sipush 142, 3) := by decide +kernel
theorem dX7_layDown_6 : decode cX7_layDown 6 = .ok (.if_icmp .ge 21, 3) := by decide +kernel
theorem dX7_layDown_9 : decode cX7_layDown 9 = .ok (.aload_n 0, 1) := by decide +kernel
theorem dX7_layDown_10 : decode cX7_layDown 10 = .ok (.getfield 16, 3) := by decide +kernel
theorem dX7_layDown_13 : decode cX7_layDown 13 = .ok (.iload_n 1, 1) := by decide +kernel
theorem dX7_layDown_14 : decode cX7_layDown 14 = .ok (.aload_n 0, 1) := by decide +kernel
theorem dX7_layDown_15 : decode cX7_layDown 15 = .ok (.getfield 7, 3) := by decide +kernel
theorem dX7_layDown_18 : decode cX7_layDown 18 = .ok (.iload_n 1, 1) := by decide +kernel
theorem dX7_layDown_19 : decode cX7_layDown 19 = .ok (.iaload, 1) := by decide +kernel
theorem dX7_layDown_20 : decode cX7_layDown 20 = .ok (.iastore, 1) := by decide +kernel
theorem dX7_layDown_21 : decode cX7_layDown 21 = .ok (.iinc 1 1, 3) := by decide +kernel
theorem dX7_layDown_24 : decode cX7_layDown 24 = .ok (.goto (-22), 3) := by decide +kernel
theorem dX7_layDown_27 : decode cX7_layDown 27 = .ok (.return_, 1) := by decide +kernel
theorem dX7_layBack_0 : decode cX7_layBack 0 = .ok (.iconst 0, 1) := by decide +kernel
theorem dX7_layBack_1 : decode cX7_layBack 1 = .ok (.istore_n 1, 1) := by decide +kernel
theorem dX7_layBack_2 : decode cX7_layBack 2 = .ok (.iload_n 1, 1) := by decide +kernel
theorem dX7_layBack_3 : decode cX7_layBack 3 = .ok (.sipush 142, 3) := by decide +kernel
theorem dX7_layBack_6 : decode cX7_layBack 6 = .ok (.if_icmp .ge 21, 3) := by decide +kernel
theorem dX7_layBack_9 : decode cX7_layBack 9 = .ok (.aload_n 0, 1) := by decide +kernel
theorem dX7_layBack_10 : decode cX7_layBack 10 = .ok (.getfield 7, 3) := by decide +kernel
theorem dX7_layBack_13 : decode cX7_layBack 13 = .ok (.iload_n 1, 1) := by decide +kernel
theorem dX7_layBack_14 : decode cX7_layBack 14 = .ok (.aload_n 0, 1) := by decide +kernel
theorem dX7_layBack_15 : decode cX7_layBack 15 = .ok (.getfield 16, 3) := by decide +kernel
theorem dX7_layBack_18 : decode cX7_layBack 18 = .ok (.iload_n 1, 1) := by decide +kernel
theorem dX7_layBack_19 : decode cX7_layBack 19 = .ok (.iaload, 1) := by decide +kernel
theorem dX7_layBack_20 : decode cX7_layBack 20 = .ok (.iastore, 1) := by decide +kernel
theorem dX7_layBack_21 : decode cX7_layBack 21 = .ok (.iinc 1 1, 3) := by decide +kernel
theorem dX7_layBack_24 : decode cX7_layBack 24 = .ok (.goto (-22), 3) := by decide +kernel
theorem dX7_layBack_27 : decode cX7_layBack 27 = .ok (.return_, 1) := by decide +kernel
theorem dX7_isPerson_0 : decode cX7_isPerson 0 = .ok (.iload_n 1, 1) := by decide +kernel
theorem dX7_isPerson_1 : decode cX7_isPerson 1 = .ok (.iconst 0, 1) := by decide +kernel
theorem dX7_isPerson_2 : decode cX7_isPerson 2 = .ok (.aload_n 0, 1) := by decide +kernel
theorem dX7_isPerson_3 : decode cX7_isPerson 3 = .ok (.getfield 7, 3) := by decide +kernel
theorem dX7_isPerson_6 : decode cX7_isPerson 6 = .ok (.iconst 4, 1) := by decide +kernel
theorem dX7_isPerson_7 : decode cX7_isPerson 7 = .ok (.iaload, 1) := by decide +kernel
theorem dX7_isPerson_8 : decode cX7_isPerson 8 = .ok (.iconst 1, 1) := by decide +kernel
theorem dX7_isPerson_9 : decode cX7_isPerson 9 = .ok (.isub, 1) := by decide +kernel
theorem dX7_isPerson_10 : decode cX7_isPerson 10 = .ok (.invokestatic 53, 3) := by decide +kernel
theorem dX7_isPerson_13 : decode cX7_isPerson 13 = .ok (.ireturn, 1) := by decide +kernel
theorem dX7_isSort_0 : decode cX7_isSort 0 = .ok (.iload_n 0, 1) := by decide +kernel
theorem dX7_isSort_1 : decode cX7_isSort 1 = .ok (.iconst 0, 1) := by decide +kernel
theorem dX7_isSort_2 : decode cX7_isSort 2 = .ok (.iconst 4, 1) := by decide +kernel
theorem dX7_isSort_3 : decode cX7_isSort 3 = .ok (.invokestatic 53, 3) := by decide +kernel
theorem dX7_isSort_6 : decode cX7_isSort 6 = .ok (.ireturn, 1) := by decide +kernel
theorem dX7_its_0 : decode cX7_its 0 = .ok (.aload_n 0, 1) := by decide +kernel
theorem dX7_its_1 : decode cX7_its 1 = .ok (.getfield 7, 3) := by decide +kernel
theorem dX7_its_4 : decode cX7_its 4 = .ok (.bipush 6, 2) := by decide +kernel
theorem dX7_its_6 : decode cX7_its 6 = .ok (.iconst 4, 1) := by decide +kernel
theorem dX7_its_7 : decode cX7_its 7 = .ok (.iload_n 1, 1) := by decide +kernel
theorem dX7_its_8 : decode cX7_its 8 = .ok (.imul, 1) := by decide +kernel
theorem dX7_its_9 : decode cX7_its 9 = .ok (.iadd, 1) := by decide +kernel
theorem dX7_its_10 : decode cX7_its 10 = .ok (.iload_n 2, 1) := by decide +kernel
theorem dX7_its_11 : decode cX7_its 11 = .ok (.iadd, 1) := by decide +kernel
theorem dX7_its_12 : decode cX7_its 12 = .ok (.iaload, 1) := by decide +kernel
theorem dX7_its_13 : decode cX7_its 13 = .ok (.ireturn, 1) := by decide +kernel
theorem dX7_lays1_0 : decode cX7_lays1 0 = .ok (.aload_n 0, 1) := by decide +kernel
theorem dX7_lays1_1 : decode cX7_lays1 1 = .ok (.getfield 7, 3) := by decide +kernel
theorem dX7_lays1_4 : decode cX7_lays1 4 = .ok (.bipush 6, 2) := by decide +kernel
theorem dX7_lays1_6 : decode cX7_lays1 6 = .ok (.iconst 4, 1) := by decide +kernel
theorem dX7_lays1_7 : decode cX7_lays1 7 = .ok (.iload_n 1, 1) := by decide +kernel
theorem dX7_lays1_8 : decode cX7_lays1 8 = .ok (.imul, 1) := by decide +kernel
theorem dX7_lays1_9 : decode cX7_lays1 9 = .ok (.iadd, 1) := by decide +kernel
theorem dX7_lays1_10 : decode cX7_lays1 10 = .ok (.iload_n 2, 1) := by decide +kernel
theorem dX7_lays1_11 : decode cX7_lays1 11 = .ok (.iadd, 1) := by decide +kernel
theorem dX7_lays1_12 : decode cX7_lays1 12 = .ok (.iload_n 3, 1) := by decide +kernel
theorem dX7_lays1_13 : decode cX7_lays1 13 = .ok (.iastore, 1) := by decide +kernel
theorem dX7_lays1_14 : decode cX7_lays1 14 = .ok (.return_, 1) := by decide +kernel
theorem dX7_has_0 : decode cX7_has 0 = .ok (.aload_n 0, 1) := by decide +kernel
theorem dX7_has_1 : decode cX7_has 1 = .ok (.getfield 7, 3) := by decide +kernel
theorem dX7_has_4 : decode cX7_has 4 = .ok (.bipush 38, 2) := by decide +kernel
theorem dX7_has_6 : decode cX7_has 6 = .ok (.iconst 5, 1) := by decide +kernel
theorem dX7_has_7 : decode cX7_has 7 = .ok (.iload_n 1, 1) := by decide +kernel
theorem dX7_has_8 : decode cX7_has 8 = .ok (.imul, 1) := by decide +kernel
theorem dX7_has_9 : decode cX7_has 9 = .ok (.iadd, 1) := by decide +kernel
theorem dX7_has_10 : decode cX7_has 10 = .ok (.iload_n 2, 1) := by decide +kernel
theorem dX7_has_11 : decode cX7_has 11 = .ok (.iadd, 1) := by decide +kernel
theorem dX7_has_12 : decode cX7_has 12 = .ok (.iaload, 1) := by decide +kernel
theorem dX7_has_13 : decode cX7_has 13 = .ok (.ireturn, 1) := by decide +kernel
theorem dX7_gets_0 : decode cX7_gets 0 = .ok (.aload_n 0, 1) := by decide +kernel
theorem dX7_gets_1 : decode cX7_gets 1 = .ok (.getfield 7, 3) := by decide +kernel
theorem dX7_gets_4 : decode cX7_gets 4 = .ok (.bipush 38, 2) := by decide +kernel
theorem dX7_gets_6 : decode cX7_gets 6 = .ok (.iconst 5, 1) := by decide +kernel
theorem dX7_gets_7 : decode cX7_gets 7 = .ok (.iload_n 1, 1) := by decide +kernel
theorem dX7_gets_8 : decode cX7_gets 8 = .ok (.imul, 1) := by decide +kernel
theorem dX7_gets_9 : decode cX7_gets 9 = .ok (.iadd, 1) := by decide +kernel
theorem dX7_gets_10 : decode cX7_gets 10 = .ok (.iload_n 2, 1) := by decide +kernel
theorem dX7_gets_11 : decode cX7_gets 11 = .ok (.iadd, 1) := by decide +kernel
theorem dX7_gets_12 : decode cX7_gets 12 = .ok (.aload_n 0, 1) := by decide +kernel
theorem dX7_gets_13 : decode cX7_gets 13 = .ok (.iload_n 1, 1) := by decide +kernel
theorem dX7_gets_14 : decode cX7_gets 14 = .ok (.iload_n 2, 1) := by decide +kernel
theorem dX7_gets_15 : decode cX7_gets 15 = .ok (.invokevirtual 57, 3) := by decide +kernel
theorem dX7_gets_18 : decode cX7_gets 18 = .ok (.iload_n 3, 1) := by decide +kernel
theorem dX7_gets_19 : decode cX7_gets 19 = .ok (.iadd, 1) := by decide +kernel
theorem dX7_gets_20 : decode cX7_gets 20 = .ok (.iconst 0, 1) := by decide +kernel
theorem dX7_gets_21 : decode cX7_gets 21 = .ok (.bipush 99, 2) := by decide +kernel
theorem dX7_gets_23 : decode cX7_gets 23 = .ok (.invokestatic 61, 3) := by decide +kernel
theorem dX7_gets_26 : decode cX7_gets 26 = .ok (.iastore, 1) := by decide +kernel
theorem dX7_gets_27 : decode cX7_gets 27 = .ok (.return_, 1) := by decide +kernel
theorem dX7_owed_0 : decode cX7_owed 0 = .ok (.aload_n 0, 1) := by decide +kernel
theorem dX7_owed_1 : decode cX7_owed 1 = .ok (.getfield 7, 3) := by decide +kernel
theorem dX7_owed_4 : decode cX7_owed 4 = .ok (.bipush 78, 2) := by decide +kernel
theorem dX7_owed_6 : decode cX7_owed 6 = .ok (.bipush 8, 2) := by decide +kernel
theorem dX7_owed_8 : decode cX7_owed 8 = .ok (.iload_n 1, 1) := by decide +kernel
theorem dX7_owed_9 : decode cX7_owed 9 = .ok (.imul, 1) := by decide +kernel
theorem dX7_owed_10 : decode cX7_owed 10 = .ok (.iadd, 1) := by decide +kernel
theorem dX7_owed_11 : decode cX7_owed 11 = .ok (.iload_n 2, 1) := by decide +kernel
theorem dX7_owed_12 : decode cX7_owed 12 = .ok (.iadd, 1) := by decide +kernel
theorem dX7_owed_13 : decode cX7_owed 13 = .ok (.iaload, 1) := by decide +kernel
theorem dX7_owed_14 : decode cX7_owed 14 = .ok (.ireturn, 1) := by decide +kernel
theorem dX7_change1_0 : decode cX7_change1 0 = .ok (.aload_n 0, 1) := by decide +kernel
theorem dX7_change1_1 : decode cX7_change1 1 = .ok (.getfield 7, 3) := by decide +kernel
theorem dX7_change1_4 : decode cX7_change1 4 = .ok (.iload_n 1, 1) := by decide +kernel
theorem dX7_change1_5 : decode cX7_change1 5 = .ok (.iaload, 1) := by decide +kernel
theorem dX7_change1_6 : decode cX7_change1 6 = .ok (.istore_n 3, 1) := by decide +kernel
theorem dX7_change1_7 : decode cX7_change1 7 = .ok (.aload_n 0, 1) := by decide +kernel
theorem dX7_change1_8 : decode cX7_change1 8 = .ok (.getfield 7, 3) := by decide +kernel
theorem dX7_change1_11 : decode cX7_change1 11 = .ok (.iload_n 1, 1) := by decide +kernel
theorem dX7_change1_12 : decode cX7_change1 12 = .ok (.iload_n 2, 1) := by decide +kernel
theorem dX7_change1_13 : decode cX7_change1 13 = .ok (.iastore, 1) := by decide +kernel
theorem dX7_change1_14 : decode cX7_change1 14 = .ok (.iload_n 3, 1) := by decide +kernel
theorem dX7_change1_15 : decode cX7_change1 15 = .ok (.ireturn, 1) := by decide +kernel
theorem dX7_heap_0 : decode cX7_heap 0 = .ok (.iconst 0, 1) := by decide +kernel
theorem dX7_heap_1 : decode cX7_heap 1 = .ok (.istore_n 2, 1) := by decide +kernel
theorem dX7_heap_2 : decode cX7_heap 2 = .ok (.iconst 0, 1) := by decide +kernel
theorem dX7_heap_3 : decode cX7_heap 3 = .ok (.istore_n 3, 1) := by decide +kernel
theorem dX7_heap_4 : decode cX7_heap 4 = .ok (.iload_n 3, 1) := by decide +kernel
theorem dX7_heap_5 : decode cX7_heap 5 = .ok (.iconst 5, 1) := by decide +kernel
theorem dX7_heap_6 : decode cX7_heap 6 = .ok (.if_icmp .ge 18, 3) := by decide +kernel
theorem dX7_heap_9 : decode cX7_heap 9 = .ok (.iload_n 2, 1) := by decide +kernel
theorem dX7_heap_10 : decode cX7_heap 10 = .ok (.aload_n 0, 1) := by decide +kernel
theorem dX7_heap_11 : decode cX7_heap 11 = .ok (.iload_n 1, 1) := by decide +kernel
theorem dX7_heap_12 : decode cX7_heap 12 = .ok (.iload_n 3, 1) := by decide +kernel
theorem dX7_heap_13 : decode cX7_heap 13 = .ok (.invokevirtual 57, 3) := by decide +kernel
theorem dX7_heap_16 : decode cX7_heap 16 = .ok (.iadd, 1) := by decide +kernel
theorem dX7_heap_17 : decode cX7_heap 17 = .ok (.istore_n 2, 1) := by decide +kernel
theorem dX7_heap_18 : decode cX7_heap 18 = .ok (.iinc 3 1, 3) := by decide +kernel
theorem dX7_heap_21 : decode cX7_heap 21 = .ok (.goto (-17), 3) := by decide +kernel
theorem dX7_heap_24 : decode cX7_heap 24 = .ok (.iload_n 2, 1) := by decide +kernel
theorem dX7_heap_25 : decode cX7_heap 25 = .ok (.ireturn, 1) := by decide +kernel
theorem dX7_feed_0 : decode cX7_feed 0 = .ok (.iload_n 3, 1) := by decide +kernel
theorem dX7_feed_1 : decode cX7_feed 1 = .ok (.iconst 1, 1) := by decide +kernel
theorem dX7_feed_2 : decode cX7_feed 2 = .ok (.bipush 8, 2) := by decide +kernel
theorem dX7_feed_4 : decode cX7_feed 4 = .ok (.invokestatic 53, 3) := by decide +kernel
theorem dX7_feed_7 : decode cX7_feed 7 = .ok (.ifCond .ne 9, 3) := by decide +kernel
theorem dX7_feed_10 : decode cX7_feed 10 = .ok (.aload_n 0, 1) := by decide +kernel
theorem dX7_feed_11 : decode cX7_feed 11 = .ok (.iconst 1, 1) := by decide +kernel
theorem dX7_feed_12 : decode cX7_feed 12 = .ok (.invokevirtual 65, 3) := by decide +kernel
theorem dX7_feed_15 : decode cX7_feed 15 = .ok (.ireturn, 1) := by decide +kernel
theorem dX7_feed_16 : decode cX7_feed 16 = .ok (.aload_n 0, 1) := by decide +kernel
theorem dX7_feed_17 : decode cX7_feed 17 = .ok (.getfield 7, 3) := by decide +kernel
theorem dX7_feed_20 : decode cX7_feed 20 = .ok (.iconst 2, 1) := by decide +kernel
theorem dX7_feed_21 : decode cX7_feed 21 = .ok (.iaload, 1) := by decide +kernel
theorem dX7_feed_22 : decode cX7_feed 22 = .ok (.iload_n 3, 1) := by decide +kernel
theorem dX7_feed_23 : decode cX7_feed 23 = .ok (.iadd, 1) := by decide +kernel
theorem dX7_feed_24 : decode cX7_feed 24 = .ok (.bipush 60, 2) := by decide +kernel
theorem dX7_feed_26 : decode cX7_feed 26 = .ok (.if_icmp .le 9, 3) := by decide +kernel
theorem dX7_feed_29 : decode cX7_feed 29 = .ok (.aload_n 0, 1) := by decide +kernel
theorem dX7_feed_30 : decode cX7_feed 30 = .ok (.iconst 4, 1) := by decide +kernel
theorem dX7_feed_31 : decode cX7_feed 31 = .ok (.invokevirtual 65, 3) := by decide +kernel
theorem dX7_feed_34 : decode cX7_feed 34 = .ok (.ireturn, 1) := by decide +kernel
theorem dX7_feed_35 : decode cX7_feed 35 = .ok (.iconst 0, 1) := by decide +kernel
theorem dX7_feed_36 : decode cX7_feed 36 = .ok (.istore 4, 2) := by decide +kernel
theorem dX7_feed_38 : decode cX7_feed 38 = .ok (.iload 4, 2) := by decide +kernel
theorem dX7_feed_40 : decode cX7_feed 40 = .ok (.iload_n 3, 1) := by decide +kernel
theorem dX7_feed_41 : decode cX7_feed 41 = .ok (.if_icmp .ge 46, 3) := by decide +kernel
theorem dX7_feed_44 : decode cX7_feed 44 = .ok (.aload_n 0, 1) := by decide +kernel
theorem dX7_feed_45 : decode cX7_feed 45 = .ok (.getfield 7, 3) := by decide +kernel
theorem dX7_feed_48 : decode cX7_feed 48 = .ok (.sipush 392, 3) := by decide +kernel
theorem dX7_feed_51 : decode cX7_feed 51 = .ok (.aload_n 0, 1) := by decide +kernel
theorem dX7_feed_52 : decode cX7_feed 52 = .ok (.getfield 7, 3) := by decide +kernel
theorem dX7_feed_55 : decode cX7_feed 55 = .ok (.iconst 2, 1) := by decide +kernel
theorem dX7_feed_56 : decode cX7_feed 56 = .ok (.iaload, 1) := by decide +kernel
theorem dX7_feed_57 : decode cX7_feed 57 = .ok (.iadd, 1) := by decide +kernel
theorem dX7_feed_58 : decode cX7_feed 58 = .ok (.lload_n 1, 1) := by decide +kernel
theorem dX7_feed_59 : decode cX7_feed 59 = .ok (.bipush 8, 2) := by decide +kernel
theorem dX7_feed_61 : decode cX7_feed 61 = .ok (.iload 4, 2) := by decide +kernel
theorem dX7_feed_63 : decode cX7_feed 63 = .ok (.imul, 1) := by decide +kernel
theorem dX7_feed_64 : decode cX7_feed 64 = .ok (.lshr, 1) := by decide +kernel
theorem dX7_feed_65 : decode cX7_feed 65 = .ok (.ldc2_w 69, 3) := by decide +kernel
theorem dX7_feed_68 : decode cX7_feed 68 = .ok (.land, 1) := by decide +kernel
theorem dX7_feed_69 : decode cX7_feed 69 = .ok (.l2i, 1) := by decide +kernel
theorem dX7_feed_70 : decode cX7_feed 70 = .ok (.iastore, 1) := by decide +kernel
theorem dX7_feed_71 : decode cX7_feed 71 = .ok (.aload_n 0, 1) := by decide +kernel
theorem dX7_feed_72 : decode cX7_feed 72 = .ok (.getfield 7, 3) := by decide +kernel
theorem dX7_feed_75 : decode cX7_feed 75 = .ok (.iconst 2, 1) := by decide +kernel
theorem dX7_feed_76 : decode cX7_feed 76 = .ok (.dup2, 1) := by decide +kernel
theorem dX7_feed_77 : decode cX7_feed 77 = .ok (.iaload, 1) := by decide +kernel
theorem dX7_feed_78 : decode cX7_feed 78 = .ok (.iconst 1, 1) := by decide +kernel
theorem dX7_feed_79 : decode cX7_feed 79 = .ok (.iadd, 1) := by decide +kernel
theorem dX7_feed_80 : decode cX7_feed 80 = .ok (.iastore, 1) := by decide +kernel
theorem dX7_feed_81 : decode cX7_feed 81 = .ok (.iinc 4 1, 3) := by decide +kernel
theorem dX7_feed_84 : decode cX7_feed 84 = .ok (.goto (-46), 3) := by decide +kernel
theorem dX7_feed_87 : decode cX7_feed 87 = .ok (.aload_n 0, 1) := by decide +kernel
theorem dX7_feed_88 : decode cX7_feed 88 = .ok (.getfield 7, 3) := by decide +kernel
theorem dX7_feed_91 : decode cX7_feed 91 = .ok (.iconst 2, 1) := by decide +kernel
theorem dX7_feed_92 : decode cX7_feed 92 = .ok (.iaload, 1) := by decide +kernel
theorem dX7_feed_93 : decode cX7_feed 93 = .ok (.ireturn, 1) := by decide +kernel
theorem dX7_look_0 : decode cX7_look 0 = .ok (.aload_n 0, 1) := by decide +kernel
theorem dX7_look_1 : decode cX7_look 1 = .ok (.getfield 71, 3) := by decide +kernel
theorem dX7_look_4 : decode cX7_look 4 = .ok (.aload_n 0, 1) := by decide +kernel
theorem dX7_look_5 : decode cX7_look 5 = .ok (.getfield 7, 3) := by decide +kernel
theorem dX7_look_8 : decode cX7_look 8 = .ok (.iconst 2, 1) := by decide +kernel
theorem dX7_look_9 : decode cX7_look 9 = .ok (.iaload, 1) := by decide +kernel
theorem dX7_look_10 : decode cX7_look 10 = .ok (.if_icmp .ge 19, 3) := by decide +kernel
theorem dX7_look_13 : decode cX7_look 13 = .ok (.aload_n 0, 1) := by decide +kernel
theorem dX7_look_14 : decode cX7_look 14 = .ok (.getfield 7, 3) := by decide +kernel
theorem dX7_look_17 : decode cX7_look 17 = .ok (.sipush 392, 3) := by decide +kernel
theorem dX7_look_20 : decode cX7_look 20 = .ok (.aload_n 0, 1) := by decide +kernel
theorem dX7_look_21 : decode cX7_look 21 = .ok (.getfield 71, 3) := by decide +kernel
theorem dX7_look_24 : decode cX7_look 24 = .ok (.iadd, 1) := by decide +kernel
theorem dX7_look_25 : decode cX7_look 25 = .ok (.iaload, 1) := by decide +kernel
theorem dX7_look_26 : decode cX7_look 26 = .ok (.goto 4, 3) := by decide +kernel
theorem dX7_look_29 : decode cX7_look 29 = .ok (.iconst (-1), 1) := by decide +kernel
theorem dX7_look_30 : decode cX7_look 30 = .ok (.ireturn, 1) := by decide +kernel
theorem dX7_isName_0 : decode cX7_isName 0 = .ok (.iload_n 1, 1) := by decide +kernel
theorem dX7_isName_1 : decode cX7_isName 1 = .ok (.bipush 115, 2) := by decide +kernel
theorem dX7_isName_3 : decode cX7_isName 3 = .ok (.if_icmp .ne 5, 3) := by decide +kernel
theorem dX7_isName_6 : decode cX7_isName 6 = .ok (.iconst 1, 1) := by decide +kernel
theorem dX7_isName_7 : decode cX7_isName 7 = .ok (.ireturn, 1) := by decide +kernel
theorem dX7_isName_8 : decode cX7_isName 8 = .ok (.aload_n 0, 1) := by decide +kernel
theorem dX7_isName_9 : decode cX7_isName 9 = .ok (.getfield 75, 3) := by decide +kernel
theorem dX7_isName_12 : decode cX7_isName 12 = .ok (.ifCond .ne 23, 3) := by decide +kernel
theorem dX7_isName_15 : decode cX7_isName 15 = .ok (.iload_n 1, 1) := by decide +kernel
theorem dX7_isName_16 : decode cX7_isName 16 = .ok (.bipush 119, 2) := by decide +kernel
theorem dX7_isName_18 : decode cX7_isName 18 = .ok (.if_icmp .eq 9, 3) := by decide +kernel
theorem dX7_isName_21 : decode cX7_isName 21 = .ok (.iload_n 1, 1) := by decide +kernel
theorem dX7_isName_22 : decode cX7_isName 22 = .ok (.bipush 121, 2) := by decide +kernel
theorem dX7_isName_24 : decode cX7_isName 24 = .ok (.if_icmp .ne 7, 3) := by decide +kernel
theorem dX7_isName_27 : decode cX7_isName 27 = .ok (.iconst 1, 1) := by decide +kernel
theorem dX7_isName_28 : decode cX7_isName 28 = .ok (.goto 24, 3) := by decide +kernel
theorem dX7_isName_31 : decode cX7_isName 31 = .ok (.iconst 0, 1) := by decide +kernel
theorem dX7_isName_32 : decode cX7_isName 32 = .ok (.goto 20, 3) := by decide +kernel
theorem dX7_isName_35 : decode cX7_isName 35 = .ok (.iload_n 1, 1) := by decide +kernel
theorem dX7_isName_36 : decode cX7_isName 36 = .ok (.bipush 118, 2) := by decide +kernel
theorem dX7_isName_38 : decode cX7_isName 38 = .ok (.if_icmp .eq 9, 3) := by decide +kernel
theorem dX7_isName_41 : decode cX7_isName 41 = .ok (.iload_n 1, 1) := by decide +kernel
theorem dX7_isName_42 : decode cX7_isName 42 = .ok (.bipush 110, 2) := by decide +kernel
theorem dX7_isName_44 : decode cX7_isName 44 = .ok (.if_icmp .ne 7, 3) := by decide +kernel
theorem dX7_isName_47 : decode cX7_isName 47 = .ok (.iconst 1, 1) := by decide +kernel
theorem dX7_isName_48 : decode cX7_isName 48 = .ok (.goto 4, 3) := by decide +kernel
theorem dX7_isName_51 : decode cX7_isName 51 = .ok (.iconst 0, 1) := by decide +kernel
theorem dX7_isName_52 : decode cX7_isName 52 = .ok (.ireturn, 1) := by decide +kernel
theorem dX7_step1_0 : decode cX7_step1 0 = .ok (.aload_n 0, 1) := by decide +kernel
theorem dX7_step1_1 : decode cX7_step1 1 = .ok (.getfield 22, 3) := by decide +kernel
theorem dX7_step1_4 : decode cX7_step1 4 = .ok (.iconst 2, 1) := by decide +kernel
theorem dX7_step1_5 : decode cX7_step1 5 = .ok (.aload_n 0, 1) := by decide +kernel
theorem dX7_step1_6 : decode cX7_step1 6 = .ok (.getfield 78, 3) := by decide +kernel
theorem dX7_step1_9 : decode cX7_step1 9 = .ok (.imul, 1) := by decide +kernel
theorem dX7_step1_10 : decode cX7_step1 10 = .ok (.iload_n 1, 1) := by decide +kernel
theorem dX7_step1_11 : decode cX7_step1 11 = .ok (.iastore, 1) := by decide +kernel
theorem dX7_step1_12 : decode cX7_step1 12 = .ok (.aload_n 0, 1) := by decide +kernel
theorem dX7_step1_13 : decode cX7_step1 13 = .ok (.getfield 22, 3) := by decide +kernel
theorem dX7_step1_16 : decode cX7_step1 16 = .ok (.iconst 2, 1) := by decide +kernel
theorem dX7_step1_17 : decode cX7_step1 17 = .ok (.aload_n 0, 1) := by decide +kernel
theorem dX7_step1_18 : decode cX7_step1 18 = .ok (.getfield 78, 3) := by decide +kernel
theorem dX7_step1_21 : decode cX7_step1 21 = .ok (.imul, 1) := by decide +kernel
theorem dX7_step1_22 : decode cX7_step1 22 = .ok (.iconst 1, 1) := by decide +kernel
theorem dX7_step1_23 : decode cX7_step1 23 = .ok (.iadd, 1) := by decide +kernel
theorem dX7_step1_24 : decode cX7_step1 24 = .ok (.iload_n 2, 1) := by decide +kernel
theorem dX7_step1_25 : decode cX7_step1 25 = .ok (.iastore, 1) := by decide +kernel
theorem dX7_step1_26 : decode cX7_step1 26 = .ok (.aload_n 0, 1) := by decide +kernel
theorem dX7_step1_27 : decode cX7_step1 27 = .ok (.dup, 1) := by decide +kernel
theorem dX7_step1_28 : decode cX7_step1 28 = .ok (.getfield 78, 3) := by decide +kernel
theorem dX7_step1_31 : decode cX7_step1 31 = .ok (.iconst 1, 1) := by decide +kernel
theorem dX7_step1_32 : decode cX7_step1 32 = .ok (.iadd, 1) := by decide +kernel
theorem dX7_step1_33 : decode cX7_step1 33 = .ok (.putfield 78, 3) := by decide +kernel
theorem dX7_step1_36 : decode cX7_step1 36 = .ok (.return_, 1) := by decide +kernel
theorem dX7_whole_0 : decode cX7_whole 0 = .ok (.aload_n 0, 1) := by decide +kernel
theorem dX7_whole_1 : decode cX7_whole 1 = .ok (.invokevirtual 81, 3) := by decide +kernel
theorem dX7_whole_4 : decode cX7_whole 4 = .ok (.ifCond .ne 5, 3) := by decide +kernel
theorem dX7_whole_7 : decode cX7_whole 7 = .ok (.iconst 0, 1) := by decide +kernel
theorem dX7_whole_8 : decode cX7_whole 8 = .ok (.ireturn, 1) := by decide +kernel
theorem dX7_whole_9 : decode cX7_whole 9 = .ok (.aload_n 0, 1) := by decide +kernel
theorem dX7_whole_10 : decode cX7_whole 10 = .ok (.invokevirtual 85, 3) := by decide +kernel
theorem dX7_whole_13 : decode cX7_whole 13 = .ok (.bipush 124, 2) := by decide +kernel
theorem dX7_whole_15 : decode cX7_whole 15 = .ok (.if_icmp .ne 32, 3) := by decide +kernel
theorem dX7_whole_18 : decode cX7_whole 18 = .ok (.aload_n 0, 1) := by decide +kernel
theorem dX7_whole_19 : decode cX7_whole 19 = .ok (.dup, 1) := by decide +kernel
theorem dX7_whole_20 : decode cX7_whole 20 = .ok (.getfield 71, 3) := by decide +kernel
theorem dX7_whole_23 : decode cX7_whole 23 = .ok (.iconst 1, 1) := by decide +kernel
theorem dX7_whole_24 : decode cX7_whole 24 = .ok (.iadd, 1) := by decide +kernel
theorem dX7_whole_25 : decode cX7_whole 25 = .ok (.putfield 71, 3) := by decide +kernel
theorem dX7_whole_28 : decode cX7_whole 28 = .ok (.aload_n 0, 1) := by decide +kernel
theorem dX7_whole_29 : decode cX7_whole 29 = .ok (.invokevirtual 81, 3) := by decide +kernel
theorem dX7_whole_32 : decode cX7_whole 32 = .ok (.ifCond .ne 5, 3) := by decide +kernel
theorem dX7_whole_35 : decode cX7_whole 35 = .ok (.iconst 0, 1) := by decide +kernel
theorem dX7_whole_36 : decode cX7_whole 36 = .ok (.ireturn, 1) := by decide +kernel
theorem dX7_whole_37 : decode cX7_whole 37 = .ok (.aload_n 0, 1) := by decide +kernel
theorem dX7_whole_38 : decode cX7_whole 38 = .ok (.iconst 3, 1) := by decide +kernel
theorem dX7_whole_39 : decode cX7_whole 39 = .ok (.bipush 124, 2) := by decide +kernel
theorem dX7_whole_41 : decode cX7_whole 41 = .ok (.invokevirtual 89, 3) := by decide +kernel
theorem dX7_whole_44 : decode cX7_whole 44 = .ok (.goto (-35), 3) := by decide +kernel
theorem dX7_whole_47 : decode cX7_whole 47 = .ok (.iconst 1, 1) := by decide +kernel
theorem dX7_whole_48 : decode cX7_whole 48 = .ok (.ireturn, 1) := by decide +kernel
theorem dX7_both_0 : decode cX7_both 0 = .ok (.aload_n 0, 1) := by decide +kernel
theorem dX7_both_1 : decode cX7_both 1 = .ok (.invokevirtual 93, 3) := by decide +kernel
theorem dX7_both_4 : decode cX7_both 4 = .ok (.ifCond .ne 5, 3) := by decide +kernel
theorem dX7_both_7 : decode cX7_both 7 = .ok (.iconst 0, 1) := by decide +kernel
theorem dX7_both_8 : decode cX7_both 8 = .ok (.ireturn, 1) := by decide +kernel
theorem dX7_both_9 : decode cX7_both 9 = .ok (.aload_n 0, 1) := by decide +kernel
theorem dX7_both_10 : decode cX7_both 10 = .ok (.invokevirtual 85, 3) := by decide +kernel
theorem dX7_both_13 : decode cX7_both 13 = .ok (.bipush 38, 2) := by decide +kernel
theorem dX7_both_15 : decode cX7_both 15 = .ok (.if_icmp .ne 32, 3) := by decide +kernel
theorem dX7_both_18 : decode cX7_both 18 = .ok (.aload_n 0, 1) := by decide +kernel
theorem dX7_both_19 : decode cX7_both 19 = .ok (.dup, 1) := by decide +kernel
theorem dX7_both_20 : decode cX7_both 20 = .ok (.getfield 71, 3) := by decide +kernel
theorem dX7_both_23 : decode cX7_both 23 = .ok (.iconst 1, 1) := by decide +kernel
theorem dX7_both_24 : decode cX7_both 24 = .ok (.iadd, 1) := by decide +kernel
theorem dX7_both_25 : decode cX7_both 25 = .ok (.putfield 71, 3) := by decide +kernel
theorem dX7_both_28 : decode cX7_both 28 = .ok (.aload_n 0, 1) := by decide +kernel
theorem dX7_both_29 : decode cX7_both 29 = .ok (.invokevirtual 93, 3) := by decide +kernel
theorem dX7_both_32 : decode cX7_both 32 = .ok (.ifCond .ne 5, 3) := by decide +kernel
theorem dX7_both_35 : decode cX7_both 35 = .ok (.iconst 0, 1) := by decide +kernel
theorem dX7_both_36 : decode cX7_both 36 = .ok (.ireturn, 1) := by decide +kernel
theorem dX7_both_37 : decode cX7_both 37 = .ok (.aload_n 0, 1) := by decide +kernel
theorem dX7_both_38 : decode cX7_both 38 = .ok (.iconst 3, 1) := by decide +kernel
theorem dX7_both_39 : decode cX7_both 39 = .ok (.bipush 38, 2) := by decide +kernel
theorem dX7_both_41 : decode cX7_both 41 = .ok (.invokevirtual 89, 3) := by decide +kernel
theorem dX7_both_44 : decode cX7_both 44 = .ok (.goto (-35), 3) := by decide +kernel
theorem dX7_both_47 : decode cX7_both 47 = .ok (.iconst 1, 1) := by decide +kernel
theorem dX7_both_48 : decode cX7_both 48 = .ok (.ireturn, 1) := by decide +kernel
theorem dX7_compared_0 : decode cX7_compared 0 = .ok (.aload_n 0, 1) := by decide +kernel
theorem dX7_compared_1 : decode cX7_compared 1 = .ok (.invokevirtual 96, 3) := by decide +kernel
theorem dX7_compared_4 : decode cX7_compared 4 = .ok (.ifCond .ne 5, 3) := by decide +kernel
theorem dX7_compared_7 : decode cX7_compared 7 = .ok (.iconst 0, 1) := by decide +kernel
theorem dX7_compared_8 : decode cX7_compared 8 = .ok (.ireturn, 1) := by decide +kernel
theorem dX7_compared_9 : decode cX7_compared 9 = .ok (.aload_n 0, 1) := by decide +kernel
theorem dX7_compared_10 : decode cX7_compared 10 = .ok (.invokevirtual 85, 3) := by decide +kernel
theorem dX7_compared_13 : decode cX7_compared 13 = .ok (.istore_n 1, 1) := by decide +kernel
theorem dX7_compared_14 : decode cX7_compared 14 = .ok (.iload_n 1, 1) := by decide +kernel
theorem dX7_compared_15 : decode cX7_compared 15 = .ok (.bipush 60, 2) := by decide +kernel
theorem dX7_compared_17 : decode cX7_compared 17 = .ok (.if_icmp .eq 17, 3) := by decide +kernel
theorem dX7_compared_20 : decode cX7_compared 20 = .ok (.iload_n 1, 1) := by decide +kernel
theorem dX7_compared_21 : decode cX7_compared 21 = .ok (.bipush 61, 2) := by decide +kernel
theorem dX7_compared_23 : decode cX7_compared 23 = .ok (.if_icmp .eq 11, 3) := by decide +kernel
theorem dX7_compared_26 : decode cX7_compared 26 = .ok (.iload_n 1, 1) := by decide +kernel
theorem dX7_compared_27 : decode cX7_compared 27 = .ok (.bipush 62, 2) := by decide +kernel
theorem dX7_compared_29 : decode cX7_compared 29 = .ok (.if_icmp .eq 5, 3) := by decide +kernel
theorem dX7_compared_32 : decode cX7_compared 32 = .ok (.iconst 1, 1) := by decide +kernel
theorem dX7_compared_33 : decode cX7_compared 33 = .ok (.ireturn, 1) := by decide +kernel
theorem dX7_compared_34 : decode cX7_compared 34 = .ok (.aload_n 0, 1) := by decide +kernel
theorem dX7_compared_35 : decode cX7_compared 35 = .ok (.dup, 1) := by decide +kernel
theorem dX7_compared_36 : decode cX7_compared 36 = .ok (.getfield 71, 3) := by decide +kernel
theorem dX7_compared_39 : decode cX7_compared 39 = .ok (.iconst 1, 1) := by decide +kernel
theorem dX7_compared_40 : decode cX7_compared 40 = .ok (.iadd, 1) := by decide +kernel
theorem dX7_compared_41 : decode cX7_compared 41 = .ok (.putfield 71, 3) := by decide +kernel
theorem dX7_compared_44 : decode cX7_compared 44 = .ok (.aload_n 0, 1) := by decide +kernel
theorem dX7_compared_45 : decode cX7_compared 45 = .ok (.invokevirtual 96, 3) := by decide +kernel
theorem dX7_compared_48 : decode cX7_compared 48 = .ok (.ifCond .ne 5, 3) := by decide +kernel
theorem dX7_compared_51 : decode cX7_compared 51 = .ok (.iconst 0, 1) := by decide +kernel
theorem dX7_compared_52 : decode cX7_compared 52 = .ok (.ireturn, 1) := by decide +kernel
theorem dX7_compared_53 : decode cX7_compared 53 = .ok (.aload_n 0, 1) := by decide +kernel
theorem dX7_compared_54 : decode cX7_compared 54 = .ok (.iconst 3, 1) := by decide +kernel
theorem dX7_compared_55 : decode cX7_compared 55 = .ok (.iload_n 1, 1) := by decide +kernel
theorem dX7_compared_56 : decode cX7_compared 56 = .ok (.invokevirtual 89, 3) := by decide +kernel
theorem dX7_compared_59 : decode cX7_compared 59 = .ok (.iconst 1, 1) := by decide +kernel
theorem dX7_compared_60 : decode cX7_compared 60 = .ok (.ireturn, 1) := by decide +kernel
theorem dX7_sum_0 : decode cX7_sum 0 = .ok (.aload_n 0, 1) := by decide +kernel
theorem dX7_sum_1 : decode cX7_sum 1 = .ok (.invokevirtual 99, 3) := by decide +kernel
theorem dX7_sum_4 : decode cX7_sum 4 = .ok (.ifCond .ne 5, 3) := by decide +kernel
theorem dX7_sum_7 : decode cX7_sum 7 = .ok (.iconst 0, 1) := by decide +kernel
theorem dX7_sum_8 : decode cX7_sum 8 = .ok (.ireturn, 1) := by decide +kernel
theorem dX7_sum_9 : decode cX7_sum 9 = .ok (.aload_n 0, 1) := by decide +kernel
theorem dX7_sum_10 : decode cX7_sum 10 = .ok (.invokevirtual 85, 3) := by decide +kernel
theorem dX7_sum_13 : decode cX7_sum 13 = .ok (.bipush 43, 2) := by decide +kernel
theorem dX7_sum_15 : decode cX7_sum 15 = .ok (.if_icmp .eq 12, 3) := by decide +kernel
theorem dX7_sum_18 : decode cX7_sum 18 = .ok (.aload_n 0, 1) := by decide +kernel
theorem dX7_sum_19 : decode cX7_sum 19 = .ok (.invokevirtual 85, 3) := by decide +kernel
theorem dX7_sum_22 : decode cX7_sum 22 = .ok (.bipush 45, 2) := by decide +kernel
theorem dX7_sum_24 : decode cX7_sum 24 = .ok (.if_icmp .ne 36, 3) := by decide +kernel
theorem dX7_sum_27 : decode cX7_sum 27 = .ok (.aload_n 0, 1) := by decide +kernel
theorem dX7_sum_28 : decode cX7_sum 28 = .ok (.invokevirtual 85, 3) := by decide +kernel
theorem dX7_sum_31 : decode cX7_sum 31 = .ok (.istore_n 1, 1) := by decide +kernel
theorem dX7_sum_32 : decode cX7_sum 32 = .ok (.aload_n 0, 1) := by decide +kernel
theorem dX7_sum_33 : decode cX7_sum 33 = .ok (.dup, 1) := by decide +kernel
theorem dX7_sum_34 : decode cX7_sum 34 = .ok (.getfield 71, 3) := by decide +kernel
theorem dX7_sum_37 : decode cX7_sum 37 = .ok (.iconst 1, 1) := by decide +kernel
theorem dX7_sum_38 : decode cX7_sum 38 = .ok (.iadd, 1) := by decide +kernel
theorem dX7_sum_39 : decode cX7_sum 39 = .ok (.putfield 71, 3) := by decide +kernel
theorem dX7_sum_42 : decode cX7_sum 42 = .ok (.aload_n 0, 1) := by decide +kernel
theorem dX7_sum_43 : decode cX7_sum 43 = .ok (.invokevirtual 99, 3) := by decide +kernel
theorem dX7_sum_46 : decode cX7_sum 46 = .ok (.ifCond .ne 5, 3) := by decide +kernel
theorem dX7_sum_49 : decode cX7_sum 49 = .ok (.iconst 0, 1) := by decide +kernel
theorem dX7_sum_50 : decode cX7_sum 50 = .ok (.ireturn, 1) := by decide +kernel
theorem dX7_sum_51 : decode cX7_sum 51 = .ok (.aload_n 0, 1) := by decide +kernel
theorem dX7_sum_52 : decode cX7_sum 52 = .ok (.iconst 3, 1) := by decide +kernel
theorem dX7_sum_53 : decode cX7_sum 53 = .ok (.iload_n 1, 1) := by decide +kernel
theorem dX7_sum_54 : decode cX7_sum 54 = .ok (.invokevirtual 89, 3) := by decide +kernel
theorem dX7_sum_57 : decode cX7_sum 57 = .ok (.goto (-48), 3) := by decide +kernel
theorem dX7_sum_60 : decode cX7_sum 60 = .ok (.iconst 1, 1) := by decide +kernel
theorem dX7_sum_61 : decode cX7_sum 61 = .ok (.ireturn, 1) := by decide +kernel
theorem dX7_product_0 : decode cX7_product 0 = .ok (.aload_n 0, 1) := by decide +kernel
theorem dX7_product_1 : decode cX7_product 1 = .ok (.invokevirtual 102, 3) := by decide +kernel
theorem dX7_product_4 : decode cX7_product 4 = .ok (.ifCond .ne 5, 3) := by decide +kernel
theorem dX7_product_7 : decode cX7_product 7 = .ok (.iconst 0, 1) := by decide +kernel
theorem dX7_product_8 : decode cX7_product 8 = .ok (.ireturn, 1) := by decide +kernel
theorem dX7_product_9 : decode cX7_product 9 = .ok (.aload_n 0, 1) := by decide +kernel
theorem dX7_product_10 : decode cX7_product 10 = .ok (.invokevirtual 85, 3) := by decide +kernel
theorem dX7_product_13 : decode cX7_product 13 = .ok (.bipush 42, 2) := by decide +kernel
theorem dX7_product_15 : decode cX7_product 15 = .ok (.if_icmp .eq 21, 3) := by decide +kernel
theorem dX7_product_18 : decode cX7_product 18 = .ok (.aload_n 0, 1) := by decide +kernel
theorem dX7_product_19 : decode cX7_product 19 = .ok (.invokevirtual 85, 3) := by decide +kernel
theorem dX7_product_22 : decode cX7_product 22 = .ok (.bipush 47, 2) := by decide +kernel
theorem dX7_product_24 : decode cX7_product 24 = .ok (.if_icmp .eq 12, 3) := by decide +kernel
theorem dX7_product_27 : decode cX7_product 27 = .ok (.aload_n 0, 1) := by decide +kernel
theorem dX7_product_28 : decode cX7_product 28 = .ok (.invokevirtual 85, 3) := by decide +kernel
theorem dX7_product_31 : decode cX7_product 31 = .ok (.bipush 37, 2) := by decide +kernel
theorem dX7_product_33 : decode cX7_product 33 = .ok (.if_icmp .ne 36, 3) := by decide +kernel
theorem dX7_product_36 : decode cX7_product 36 = .ok (.aload_n 0, 1) := by decide +kernel
theorem dX7_product_37 : decode cX7_product 37 = .ok (.invokevirtual 85, 3) := by decide +kernel
theorem dX7_product_40 : decode cX7_product 40 = .ok (.istore_n 1, 1) := by decide +kernel
theorem dX7_product_41 : decode cX7_product 41 = .ok (.aload_n 0, 1) := by decide +kernel
theorem dX7_product_42 : decode cX7_product 42 = .ok (.dup, 1) := by decide +kernel
theorem dX7_product_43 : decode cX7_product 43 = .ok (.getfield 71, 3) := by decide +kernel
theorem dX7_product_46 : decode cX7_product 46 = .ok (.iconst 1, 1) := by decide +kernel
theorem dX7_product_47 : decode cX7_product 47 = .ok (.iadd, 1) := by decide +kernel
theorem dX7_product_48 : decode cX7_product 48 = .ok (.putfield 71, 3) := by decide +kernel
theorem dX7_product_51 : decode cX7_product 51 = .ok (.aload_n 0, 1) := by decide +kernel
theorem dX7_product_52 : decode cX7_product 52 = .ok (.invokevirtual 102, 3) := by decide +kernel
theorem dX7_product_55 : decode cX7_product 55 = .ok (.ifCond .ne 5, 3) := by decide +kernel
theorem dX7_product_58 : decode cX7_product 58 = .ok (.iconst 0, 1) := by decide +kernel
theorem dX7_product_59 : decode cX7_product 59 = .ok (.ireturn, 1) := by decide +kernel
theorem dX7_product_60 : decode cX7_product 60 = .ok (.aload_n 0, 1) := by decide +kernel
theorem dX7_product_61 : decode cX7_product 61 = .ok (.iconst 3, 1) := by decide +kernel
theorem dX7_product_62 : decode cX7_product 62 = .ok (.iload_n 1, 1) := by decide +kernel
theorem dX7_product_63 : decode cX7_product 63 = .ok (.invokevirtual 89, 3) := by decide +kernel
theorem dX7_product_66 : decode cX7_product 66 = .ok (.goto (-57), 3) := by decide +kernel
theorem dX7_product_69 : decode cX7_product 69 = .ok (.iconst 1, 1) := by decide +kernel
theorem dX7_product_70 : decode cX7_product 70 = .ok (.ireturn, 1) := by decide +kernel
theorem dX7_opens_0 : decode cX7_opens 0 = .ok (.aload_n 0, 1) := by decide +kernel
theorem dX7_opens_1 : decode cX7_opens 1 = .ok (.getfield 105, 3) := by decide +kernel
theorem dX7_opens_4 : decode cX7_opens 4 = .ok (.iconst 5, 1) := by decide +kernel
theorem dX7_opens_5 : decode cX7_opens 5 = .ok (.if_icmp .ne 5, 3) := by decide +kernel
theorem dX7_opens_8 : decode cX7_opens 8 = .ok (.iconst 0, 1) := by decide +kernel
theorem dX7_opens_9 : decode cX7_opens 9 = .ok (.ireturn, 1) := by decide +kernel
theorem dX7_opens_10 : decode cX7_opens 10 = .ok (.aload_n 0, 1) := by decide +kernel
theorem dX7_opens_11 : decode cX7_opens 11 = .ok (.dup, 1) := by decide +kernel
theorem dX7_opens_12 : decode cX7_opens 12 = .ok (.getfield 105, 3) := by decide +kernel
theorem dX7_opens_15 : decode cX7_opens 15 = .ok (.iconst 1, 1) := by decide +kernel
theorem dX7_opens_16 : decode cX7_opens 16 = .ok (.iadd, 1) := by decide +kernel
theorem dX7_opens_17 : decode cX7_opens 17 = .ok (.putfield 105, 3) := by decide +kernel
theorem dX7_opens_20 : decode cX7_opens 20 = .ok (.aload_n 0, 1) := by decide +kernel
theorem dX7_opens_21 : decode cX7_opens 21 = .ok (.dup, 1) := by decide +kernel
theorem dX7_opens_22 : decode cX7_opens 22 = .ok (.getfield 71, 3) := by decide +kernel
theorem dX7_opens_25 : decode cX7_opens 25 = .ok (.iconst 1, 1) := by decide +kernel
theorem dX7_opens_26 : decode cX7_opens 26 = .ok (.iadd, 1) := by decide +kernel
theorem dX7_opens_27 : decode cX7_opens 27 = .ok (.putfield 71, 3) := by decide +kernel
theorem dX7_opens_30 : decode cX7_opens 30 = .ok (.iconst 1, 1) := by decide +kernel
theorem dX7_opens_31 : decode cX7_opens 31 = .ok (.ireturn, 1) := by decide +kernel
theorem dX7_one_0 : decode cX7_one 0 = .ok (.aload_n 0, 1) := by decide +kernel
theorem dX7_one_1 : decode cX7_one 1 = .ok (.invokevirtual 85, 3) := by decide +kernel
theorem dX7_one_4 : decode cX7_one 4 = .ok (.istore_n 1, 1) := by decide +kernel
theorem dX7_one_5 : decode cX7_one 5 = .ok (.aload_n 0, 1) := by decide +kernel
theorem dX7_one_6 : decode cX7_one 6 = .ok (.iload_n 1, 1) := by decide +kernel
theorem dX7_one_7 : decode cX7_one 7 = .ok (.invokevirtual 108, 3) := by decide +kernel
theorem dX7_one_10 : decode cX7_one 10 = .ok (.ifCond .eq 21, 3) := by decide +kernel
theorem dX7_one_13 : decode cX7_one 13 = .ok (.aload_n 0, 1) := by decide +kernel
theorem dX7_one_14 : decode cX7_one 14 = .ok (.dup, 1) := by decide +kernel
theorem dX7_one_15 : decode cX7_one 15 = .ok (.getfield 71, 3) := by decide +kernel
theorem dX7_one_18 : decode cX7_one 18 = .ok (.iconst 1, 1) := by decide +kernel
theorem dX7_one_19 : decode cX7_one 19 = .ok (.iadd, 1) := by decide +kernel
theorem dX7_one_20 : decode cX7_one 20 = .ok (.putfield 71, 3) := by decide +kernel
theorem dX7_one_23 : decode cX7_one 23 = .ok (.aload_n 0, 1) := by decide +kernel
theorem dX7_one_24 : decode cX7_one 24 = .ok (.iconst 1, 1) := by decide +kernel
theorem dX7_one_25 : decode cX7_one 25 = .ok (.iload_n 1, 1) := by decide +kernel
theorem dX7_one_26 : decode cX7_one 26 = .ok (.invokevirtual 89, 3) := by decide +kernel
theorem dX7_one_29 : decode cX7_one 29 = .ok (.iconst 1, 1) := by decide +kernel
theorem dX7_one_30 : decode cX7_one 30 = .ok (.ireturn, 1) := by decide +kernel
theorem dX7_one_31 : decode cX7_one 31 = .ok (.iload_n 1, 1) := by decide +kernel
theorem dX7_one_32 : decode cX7_one 32 = .ok (.bipush 48, 2) := by decide +kernel
theorem dX7_one_34 : decode cX7_one 34 = .ok (.bipush 57, 2) := by decide +kernel
theorem dX7_one_36 : decode cX7_one 36 = .ok (.invokestatic 53, 3) := by decide +kernel
theorem dX7_one_39 : decode cX7_one 39 = .ok (.ifCond .eq 63, 3) := by decide +kernel
theorem dX7_one_42 : decode cX7_one 42 = .ok (.iconst 0, 1) := by decide +kernel
theorem dX7_one_43 : decode cX7_one 43 = .ok (.istore_n 2, 1) := by decide +kernel
theorem dX7_one_44 : decode cX7_one 44 = .ok (.iconst 0, 1) := by decide +kernel
theorem dX7_one_45 : decode cX7_one 45 = .ok (.istore_n 3, 1) := by decide +kernel
theorem dX7_one_46 : decode cX7_one 46 = .ok (.iload_n 3, 1) := by decide +kernel
theorem dX7_one_47 : decode cX7_one 47 = .ok (.iconst 4, 1) := by decide +kernel
theorem dX7_one_48 : decode cX7_one 48 = .ok (.if_icmp .ge 46, 3) := by decide +kernel
theorem dX7_one_51 : decode cX7_one 51 = .ok (.aload_n 0, 1) := by decide +kernel
theorem dX7_one_52 : decode cX7_one 52 = .ok (.invokevirtual 85, 3) := by decide +kernel
theorem dX7_one_55 : decode cX7_one 55 = .ok (.bipush 48, 2) := by decide +kernel
theorem dX7_one_57 : decode cX7_one 57 = .ok (.bipush 57, 2) := by decide +kernel
theorem dX7_one_59 : decode cX7_one 59 = .ok (.invokestatic 53, 3) := by decide +kernel
theorem dX7_one_62 : decode cX7_one 62 = .ok (.ifCond .eq 32, 3) := by decide +kernel
theorem dX7_one_65 : decode cX7_one 65 = .ok (.bipush 10, 2) := by decide +kernel
theorem dX7_one_67 : decode cX7_one 67 = .ok (.iload_n 2, 1) := by decide +kernel
theorem dX7_one_68 : decode cX7_one 68 = .ok (.imul, 1) := by decide +kernel
theorem dX7_one_69 : decode cX7_one 69 = .ok (.aload_n 0, 1) := by decide +kernel
theorem dX7_one_70 : decode cX7_one 70 = .ok (.invokevirtual 85, 3) := by decide +kernel
theorem dX7_one_73 : decode cX7_one 73 = .ok (.iadd, 1) := by decide +kernel
theorem dX7_one_74 : decode cX7_one 74 = .ok (.bipush 48, 2) := by decide +kernel
theorem dX7_one_76 : decode cX7_one 76 = .ok (.isub, 1) := by decide +kernel
theorem dX7_one_77 : decode cX7_one 77 = .ok (.istore_n 2, 1) := by decide +kernel
theorem dX7_one_78 : decode cX7_one 78 = .ok (.aload_n 0, 1) := by decide +kernel
theorem dX7_one_79 : decode cX7_one 79 = .ok (.dup, 1) := by decide +kernel
theorem dX7_one_80 : decode cX7_one 80 = .ok (.getfield 71, 3) := by decide +kernel
theorem dX7_one_83 : decode cX7_one 83 = .ok (.iconst 1, 1) := by decide +kernel
theorem dX7_one_84 : decode cX7_one 84 = .ok (.iadd, 1) := by decide +kernel
theorem dX7_one_85 : decode cX7_one 85 = .ok (.putfield 71, 3) := by decide +kernel
theorem dX7_one_88 : decode cX7_one 88 = .ok (.iinc 3 1, 3) := by decide +kernel
theorem dX7_one_91 : decode cX7_one 91 = .ok (.goto (-45), 3) := by decide +kernel
theorem dX7_one_94 : decode cX7_one 94 = .ok (.aload_n 0, 1) := by decide +kernel
theorem dX7_one_95 : decode cX7_one 95 = .ok (.iconst 0, 1) := by decide +kernel
theorem dX7_one_96 : decode cX7_one 96 = .ok (.iload_n 2, 1) := by decide +kernel
theorem dX7_one_97 : decode cX7_one 97 = .ok (.invokevirtual 89, 3) := by decide +kernel
theorem dX7_one_100 : decode cX7_one 100 = .ok (.iconst 1, 1) := by decide +kernel
theorem dX7_one_101 : decode cX7_one 101 = .ok (.ireturn, 1) := by decide +kernel
theorem dX7_one_102 : decode cX7_one 102 = .ok (.iload_n 1, 1) := by decide +kernel
theorem dX7_one_103 : decode cX7_one 103 = .ok (.bipush 33, 2) := by decide +kernel
theorem dX7_one_105 : decode cX7_one 105 = .ok (.if_icmp .ne 37, 3) := by decide +kernel
theorem dX7_one_108 : decode cX7_one 108 = .ok (.aload_n 0, 1) := by decide +kernel
theorem dX7_one_109 : decode cX7_one 109 = .ok (.invokevirtual 112, 3) := by decide +kernel
theorem dX7_one_112 : decode cX7_one 112 = .ok (.ifCond .eq 10, 3) := by decide +kernel
theorem dX7_one_115 : decode cX7_one 115 = .ok (.aload_n 0, 1) := by decide +kernel
theorem dX7_one_116 : decode cX7_one 116 = .ok (.invokevirtual 102, 3) := by decide +kernel
theorem dX7_one_119 : decode cX7_one 119 = .ok (.ifCond .ne 5, 3) := by decide +kernel
theorem dX7_one_122 : decode cX7_one 122 = .ok (.iconst 0, 1) := by decide +kernel
theorem dX7_one_123 : decode cX7_one 123 = .ok (.ireturn, 1) := by decide +kernel
theorem dX7_one_124 : decode cX7_one 124 = .ok (.aload_n 0, 1) := by decide +kernel
theorem dX7_one_125 : decode cX7_one 125 = .ok (.dup, 1) := by decide +kernel
theorem dX7_one_126 : decode cX7_one 126 = .ok (.getfield 105, 3) := by decide +kernel
theorem dX7_one_129 : decode cX7_one 129 = .ok (.iconst 1, 1) := by decide +kernel
theorem dX7_one_130 : decode cX7_one 130 = .ok (.isub, 1) := by decide +kernel
theorem dX7_one_131 : decode cX7_one 131 = .ok (.putfield 105, 3) := by decide +kernel
theorem dX7_one_134 : decode cX7_one 134 = .ok (.aload_n 0, 1) := by decide +kernel
theorem dX7_one_135 : decode cX7_one 135 = .ok (.iconst 2, 1) := by decide +kernel
theorem dX7_one_136 : decode cX7_one 136 = .ok (.iconst 0, 1) := by decide +kernel
theorem dX7_one_137 : decode cX7_one 137 = .ok (.invokevirtual 89, 3) := by decide +kernel
theorem dX7_one_140 : decode cX7_one 140 = .ok (.iconst 1, 1) := by decide +kernel
theorem dX7_one_141 : decode cX7_one 141 = .ok (.ireturn, 1) := by decide +kernel
theorem dX7_one_142 : decode cX7_one 142 = .ok (.iload_n 1, 1) := by decide +kernel
theorem dX7_one_143 : decode cX7_one 143 = .ok (.bipush 40, 2) := by decide +kernel
theorem dX7_one_145 : decode cX7_one 145 = .ok (.if_icmp .ne 26, 3) := by decide +kernel
theorem dX7_one_148 : decode cX7_one 148 = .ok (.aload_n 0, 1) := by decide +kernel
theorem dX7_one_149 : decode cX7_one 149 = .ok (.invokevirtual 112, 3) := by decide +kernel
theorem dX7_one_152 : decode cX7_one 152 = .ok (.ifCond .eq 19, 3) := by decide +kernel
theorem dX7_one_155 : decode cX7_one 155 = .ok (.aload_n 0, 1) := by decide +kernel
theorem dX7_one_156 : decode cX7_one 156 = .ok (.invokevirtual 115, 3) := by decide +kernel
theorem dX7_one_159 : decode cX7_one 159 = .ok (.ifCond .eq 12, 3) := by decide +kernel
theorem dX7_one_162 : decode cX7_one 162 = .ok (.aload_n 0, 1) := by decide +kernel
theorem dX7_one_163 : decode cX7_one 163 = .ok (.invokevirtual 85, 3) := by decide +kernel
theorem dX7_one_166 : decode cX7_one 166 = .ok (.bipush 41, 2) := by decide +kernel
theorem dX7_one_168 : decode cX7_one 168 = .ok (.if_icmp .eq 5, 3) := by decide +kernel
theorem dX7_one_171 : decode cX7_one 171 = .ok (.iconst 0, 1) := by decide +kernel
theorem dX7_one_172 : decode cX7_one 172 = .ok (.ireturn, 1) := by decide +kernel
theorem dX7_one_173 : decode cX7_one 173 = .ok (.aload_n 0, 1) := by decide +kernel
theorem dX7_one_174 : decode cX7_one 174 = .ok (.dup, 1) := by decide +kernel
theorem dX7_one_175 : decode cX7_one 175 = .ok (.getfield 71, 3) := by decide +kernel
theorem dX7_one_178 : decode cX7_one 178 = .ok (.iconst 1, 1) := by decide +kernel
theorem dX7_one_179 : decode cX7_one 179 = .ok (.iadd, 1) := by decide +kernel
theorem dX7_one_180 : decode cX7_one 180 = .ok (.putfield 71, 3) := by decide +kernel
theorem dX7_one_183 : decode cX7_one 183 = .ok (.aload_n 0, 1) := by decide +kernel
theorem dX7_one_184 : decode cX7_one 184 = .ok (.dup, 1) := by decide +kernel
theorem dX7_one_185 : decode cX7_one 185 = .ok (.getfield 105, 3) := by decide +kernel
theorem dX7_one_188 : decode cX7_one 188 = .ok (.iconst 1, 1) := by decide +kernel
theorem dX7_one_189 : decode cX7_one 189 = .ok (.isub, 1) := by decide +kernel
theorem dX7_one_190 : decode cX7_one 190 = .ok (.putfield 105, 3) := by decide +kernel
theorem dX7_one_193 : decode cX7_one 193 = .ok (.iconst 1, 1) := by decide +kernel
theorem dX7_one_194 : decode cX7_one 194 = .ok (.ireturn, 1) := by decide +kernel
theorem dX7_hasText_0 : decode cX7_hasText 0 = .ok (.aload_n 0, 1) := by decide +kernel
theorem dX7_hasText_1 : decode cX7_hasText 1 = .ok (.getfield 7, 3) := by decide +kernel
theorem dX7_hasText_4 : decode cX7_hasText 4 = .ok (.sipush 142, 3) := by decide +kernel
theorem dX7_hasText_7 : decode cX7_hasText 7 = .ok (.bipush 125, 2) := by decide +kernel
theorem dX7_hasText_9 : decode cX7_hasText 9 = .ok (.iload_n 1, 1) := by decide +kernel
theorem dX7_hasText_10 : decode cX7_hasText 10 = .ok (.imul, 1) := by decide +kernel
theorem dX7_hasText_11 : decode cX7_hasText 11 = .ok (.iadd, 1) := by decide +kernel
theorem dX7_hasText_12 : decode cX7_hasText 12 = .ok (.iaload, 1) := by decide +kernel
theorem dX7_hasText_13 : decode cX7_hasText 13 = .ok (.ifCond .le 7, 3) := by decide +kernel
theorem dX7_hasText_16 : decode cX7_hasText 16 = .ok (.iconst 1, 1) := by decide +kernel
theorem dX7_hasText_17 : decode cX7_hasText 17 = .ok (.goto 4, 3) := by decide +kernel
theorem dX7_hasText_20 : decode cX7_hasText 20 = .ok (.iconst 0, 1) := by decide +kernel
theorem dX7_hasText_21 : decode cX7_hasText 21 = .ok (.ireturn, 1) := by decide +kernel
theorem dX7_text_0 : decode cX7_text 0 = .ok (.iload_n 1, 1) := by decide +kernel
theorem dX7_text_1 : decode cX7_text 1 = .ok (.iconst 0, 1) := by decide +kernel
theorem dX7_text_2 : decode cX7_text 2 = .ok (.iconst 1, 1) := by decide +kernel
theorem dX7_text_3 : decode cX7_text 3 = .ok (.invokestatic 53, 3) := by decide +kernel
theorem dX7_text_6 : decode cX7_text 6 = .ok (.ifCond .ne 9, 3) := by decide +kernel
theorem dX7_text_9 : decode cX7_text 9 = .ok (.aload_n 0, 1) := by decide +kernel
theorem dX7_text_10 : decode cX7_text 10 = .ok (.iconst 1, 1) := by decide +kernel
theorem dX7_text_11 : decode cX7_text 11 = .ok (.invokevirtual 65, 3) := by decide +kernel
theorem dX7_text_14 : decode cX7_text 14 = .ok (.ireturn, 1) := by decide +kernel
theorem dX7_text_15 : decode cX7_text 15 = .ok (.aload_n 0, 1) := by decide +kernel
theorem dX7_text_16 : decode cX7_text 16 = .ok (.iload_n 1, 1) := by decide +kernel
theorem dX7_text_17 : decode cX7_text 17 = .ok (.putfield 75, 3) := by decide +kernel
theorem dX7_text_20 : decode cX7_text 20 = .ok (.aload_n 0, 1) := by decide +kernel
theorem dX7_text_21 : decode cX7_text 21 = .ok (.iconst 0, 1) := by decide +kernel
theorem dX7_text_22 : decode cX7_text 22 = .ok (.putfield 71, 3) := by decide +kernel
theorem dX7_text_25 : decode cX7_text 25 = .ok (.aload_n 0, 1) := by decide +kernel
theorem dX7_text_26 : decode cX7_text 26 = .ok (.iconst 0, 1) := by decide +kernel
theorem dX7_text_27 : decode cX7_text 27 = .ok (.putfield 105, 3) := by decide +kernel
theorem dX7_text_30 : decode cX7_text 30 = .ok (.aload_n 0, 1) := by decide +kernel
theorem dX7_text_31 : decode cX7_text 31 = .ok (.iconst 0, 1) := by decide +kernel
theorem dX7_text_32 : decode cX7_text 32 = .ok (.putfield 78, 3) := by decide +kernel
theorem dX7_text_35 : decode cX7_text 35 = .ok (.aload_n 0, 1) := by decide +kernel
theorem dX7_text_36 : decode cX7_text 36 = .ok (.invokevirtual 115, 3) := by decide +kernel
theorem dX7_text_39 : decode cX7_text 39 = .ok (.ifCond .eq 20, 3) := by decide +kernel
theorem dX7_text_42 : decode cX7_text 42 = .ok (.aload_n 0, 1) := by decide +kernel
theorem dX7_text_43 : decode cX7_text 43 = .ok (.getfield 71, 3) := by decide +kernel
theorem dX7_text_46 : decode cX7_text 46 = .ok (.aload_n 0, 1) := by decide +kernel
theorem dX7_text_47 : decode cX7_text 47 = .ok (.getfield 7, 3) := by decide +kernel
theorem dX7_text_50 : decode cX7_text 50 = .ok (.iconst 2, 1) := by decide +kernel
theorem dX7_text_51 : decode cX7_text 51 = .ok (.iaload, 1) := by decide +kernel
theorem dX7_text_52 : decode cX7_text 52 = .ok (.if_icmp .ne 7, 3) := by decide +kernel
theorem dX7_text_55 : decode cX7_text 55 = .ok (.iconst 1, 1) := by decide +kernel
theorem dX7_text_56 : decode cX7_text 56 = .ok (.goto 4, 3) := by decide +kernel
theorem dX7_text_59 : decode cX7_text 59 = .ok (.iconst 0, 1) := by decide +kernel
theorem dX7_text_60 : decode cX7_text 60 = .ok (.istore_n 2, 1) := by decide +kernel
theorem dX7_text_61 : decode cX7_text 61 = .ok (.aload_n 0, 1) := by decide +kernel
theorem dX7_text_62 : decode cX7_text 62 = .ok (.getfield 7, 3) := by decide +kernel
theorem dX7_text_65 : decode cX7_text 65 = .ok (.iconst 2, 1) := by decide +kernel
theorem dX7_text_66 : decode cX7_text 66 = .ok (.iconst 0, 1) := by decide +kernel
theorem dX7_text_67 : decode cX7_text 67 = .ok (.iastore, 1) := by decide +kernel
theorem dX7_text_68 : decode cX7_text 68 = .ok (.iload_n 2, 1) := by decide +kernel
theorem dX7_text_69 : decode cX7_text 69 = .ok (.ifCond .ne 11, 3) := by decide +kernel
theorem dX7_text_72 : decode cX7_text 72 = .ok (.bipush (-10), 2) := by decide +kernel
theorem dX7_text_74 : decode cX7_text 74 = .ok (.aload_n 0, 1) := by decide +kernel
theorem dX7_text_75 : decode cX7_text 75 = .ok (.getfield 71, 3) := by decide +kernel
theorem dX7_text_78 : decode cX7_text 78 = .ok (.isub, 1) := by decide +kernel
theorem dX7_text_79 : decode cX7_text 79 = .ok (.ireturn, 1) := by decide +kernel
theorem dX7_text_80 : decode cX7_text 80 = .ok (.sipush 142, 3) := by decide +kernel
theorem dX7_text_83 : decode cX7_text 83 = .ok (.bipush 125, 2) := by decide +kernel
theorem dX7_text_85 : decode cX7_text 85 = .ok (.iload_n 1, 1) := by decide +kernel
theorem dX7_text_86 : decode cX7_text 86 = .ok (.imul, 1) := by decide +kernel
theorem dX7_text_87 : decode cX7_text 87 = .ok (.iadd, 1) := by decide +kernel
theorem dX7_text_88 : decode cX7_text 88 = .ok (.istore_n 3, 1) := by decide +kernel
theorem dX7_text_89 : decode cX7_text 89 = .ok (.aload_n 0, 1) := by decide +kernel
theorem dX7_text_90 : decode cX7_text 90 = .ok (.getfield 7, 3) := by decide +kernel
theorem dX7_text_93 : decode cX7_text 93 = .ok (.iload_n 3, 1) := by decide +kernel
theorem dX7_text_94 : decode cX7_text 94 = .ok (.aload_n 0, 1) := by decide +kernel
theorem dX7_text_95 : decode cX7_text 95 = .ok (.getfield 78, 3) := by decide +kernel
theorem dX7_text_98 : decode cX7_text 98 = .ok (.iastore, 1) := by decide +kernel
theorem dX7_text_99 : decode cX7_text 99 = .ok (.iconst 0, 1) := by decide +kernel
theorem dX7_text_100 : decode cX7_text 100 = .ok (.istore 4, 2) := by decide +kernel
theorem dX7_text_102 : decode cX7_text 102 = .ok (.iload 4, 2) := by decide +kernel
theorem dX7_text_104 : decode cX7_text 104 = .ok (.iconst 2, 1) := by decide +kernel
theorem dX7_text_105 : decode cX7_text 105 = .ok (.aload_n 0, 1) := by decide +kernel
theorem dX7_text_106 : decode cX7_text 106 = .ok (.getfield 78, 3) := by decide +kernel
theorem dX7_text_109 : decode cX7_text 109 = .ok (.imul, 1) := by decide +kernel
theorem dX7_text_110 : decode cX7_text 110 = .ok (.if_icmp .ge 27, 3) := by decide +kernel
theorem dX7_text_113 : decode cX7_text 113 = .ok (.aload_n 0, 1) := by decide +kernel
theorem dX7_text_114 : decode cX7_text 114 = .ok (.getfield 7, 3) := by decide +kernel
theorem dX7_text_117 : decode cX7_text 117 = .ok (.iload_n 3, 1) := by decide +kernel
theorem dX7_text_118 : decode cX7_text 118 = .ok (.iconst 1, 1) := by decide +kernel
theorem dX7_text_119 : decode cX7_text 119 = .ok (.iadd, 1) := by decide +kernel
theorem dX7_text_120 : decode cX7_text 120 = .ok (.iload 4, 2) := by decide +kernel
theorem dX7_text_122 : decode cX7_text 122 = .ok (.iadd, 1) := by decide +kernel
theorem dX7_text_123 : decode cX7_text 123 = .ok (.aload_n 0, 1) := by decide +kernel
theorem dX7_text_124 : decode cX7_text 124 = .ok (.getfield 22, 3) := by decide +kernel
theorem dX7_text_127 : decode cX7_text 127 = .ok (.iload 4, 2) := by decide +kernel
theorem dX7_text_129 : decode cX7_text 129 = .ok (.iaload, 1) := by decide +kernel
theorem dX7_text_130 : decode cX7_text 130 = .ok (.iastore, 1) := by decide +kernel
theorem dX7_text_131 : decode cX7_text 131 = .ok (.iinc 4 1, 3) := by decide +kernel
theorem dX7_text_134 : decode cX7_text 134 = .ok (.goto (-32), 3) := by decide +kernel
theorem dX7_text_137 : decode cX7_text 137 = .ok (.iconst 1, 1) := by decide +kernel
theorem dX7_text_138 : decode cX7_text 138 = .ok (.ireturn, 1) := by decide +kernel
theorem dX7_untell_0 : decode cX7_untell 0 = .ok (.iload_n 1, 1) := by decide +kernel
theorem dX7_untell_1 : decode cX7_untell 1 = .ok (.iconst 0, 1) := by decide +kernel
theorem dX7_untell_2 : decode cX7_untell 2 = .ok (.iconst 1, 1) := by decide +kernel
theorem dX7_untell_3 : decode cX7_untell 3 = .ok (.invokestatic 53, 3) := by decide +kernel
theorem dX7_untell_6 : decode cX7_untell 6 = .ok (.ifCond .ne 9, 3) := by decide +kernel
theorem dX7_untell_9 : decode cX7_untell 9 = .ok (.aload_n 0, 1) := by decide +kernel
theorem dX7_untell_10 : decode cX7_untell 10 = .ok (.iconst 1, 1) := by decide +kernel
theorem dX7_untell_11 : decode cX7_untell 11 = .ok (.invokevirtual 65, 3) := by decide +kernel
theorem dX7_untell_14 : decode cX7_untell 14 = .ok (.ireturn, 1) := by decide +kernel
theorem dX7_untell_15 : decode cX7_untell 15 = .ok (.aload_n 0, 1) := by decide +kernel
theorem dX7_untell_16 : decode cX7_untell 16 = .ok (.iload_n 1, 1) := by decide +kernel
theorem dX7_untell_17 : decode cX7_untell 17 = .ok (.invokevirtual 118, 3) := by decide +kernel
theorem dX7_untell_20 : decode cX7_untell 20 = .ok (.ifCond .eq 7, 3) := by decide +kernel
theorem dX7_untell_23 : decode cX7_untell 23 = .ok (.iconst 1, 1) := by decide +kernel
theorem dX7_untell_24 : decode cX7_untell 24 = .ok (.goto 4, 3) := by decide +kernel
theorem dX7_untell_27 : decode cX7_untell 27 = .ok (.iconst 0, 1) := by decide +kernel
theorem dX7_untell_28 : decode cX7_untell 28 = .ok (.istore_n 2, 1) := by decide +kernel
theorem dX7_untell_29 : decode cX7_untell 29 = .ok (.aload_n 0, 1) := by decide +kernel
theorem dX7_untell_30 : decode cX7_untell 30 = .ok (.getfield 7, 3) := by decide +kernel
theorem dX7_untell_33 : decode cX7_untell 33 = .ok (.sipush 142, 3) := by decide +kernel
theorem dX7_untell_36 : decode cX7_untell 36 = .ok (.bipush 125, 2) := by decide +kernel
theorem dX7_untell_38 : decode cX7_untell 38 = .ok (.iload_n 1, 1) := by decide +kernel
theorem dX7_untell_39 : decode cX7_untell 39 = .ok (.imul, 1) := by decide +kernel
theorem dX7_untell_40 : decode cX7_untell 40 = .ok (.iadd, 1) := by decide +kernel
theorem dX7_untell_41 : decode cX7_untell 41 = .ok (.iconst 0, 1) := by decide +kernel
theorem dX7_untell_42 : decode cX7_untell 42 = .ok (.iastore, 1) := by decide +kernel
theorem dX7_untell_43 : decode cX7_untell 43 = .ok (.iload_n 2, 1) := by decide +kernel
theorem dX7_untell_44 : decode cX7_untell 44 = .ok (.ireturn, 1) := by decide +kernel
theorem dX7_joined_0 : decode cX7_joined 0 = .ok (.iload_n 0, 1) := by decide +kernel
theorem dX7_joined_1 : decode cX7_joined 1 = .ok (.tableswitch 217 37 62 #[153, 203, 217, 217, 217, 127, 119, 217, 123, 217, 131, 217, 217, 217, 217, 217, 217, 217, 217, 217, 217, 217, 217, 170, 192, 181], 119) := by decide +kernel
theorem dX7_joined_120 : decode cX7_joined 120 = .ok (.iload_n 1, 1) := by decide +kernel
theorem dX7_joined_121 : decode cX7_joined 121 = .ok (.iload_n 2, 1) := by decide +kernel
theorem dX7_joined_122 : decode cX7_joined 122 = .ok (.iadd, 1) := by decide +kernel
theorem dX7_joined_123 : decode cX7_joined 123 = .ok (.ireturn, 1) := by decide +kernel
theorem dX7_joined_124 : decode cX7_joined 124 = .ok (.iload_n 1, 1) := by decide +kernel
theorem dX7_joined_125 : decode cX7_joined 125 = .ok (.iload_n 2, 1) := by decide +kernel
theorem dX7_joined_126 : decode cX7_joined 126 = .ok (.isub, 1) := by decide +kernel
theorem dX7_joined_127 : decode cX7_joined 127 = .ok (.ireturn, 1) := by decide +kernel
theorem dX7_joined_128 : decode cX7_joined 128 = .ok (.iload_n 1, 1) := by decide +kernel
theorem dX7_joined_129 : decode cX7_joined 129 = .ok (.iload_n 2, 1) := by decide +kernel
theorem dX7_joined_130 : decode cX7_joined 130 = .ok (.imul, 1) := by decide +kernel
theorem dX7_joined_131 : decode cX7_joined 131 = .ok (.ireturn, 1) := by decide +kernel
theorem dX7_joined_132 : decode cX7_joined 132 = .ok (.iload_n 2, 1) := by decide +kernel
theorem dX7_joined_133 : decode cX7_joined 133 = .ok (.ifCond .ne 7, 3) := by decide +kernel
theorem dX7_joined_136 : decode cX7_joined 136 = .ok (.iconst 0, 1) := by decide +kernel
theorem dX7_joined_137 : decode cX7_joined 137 = .ok (.goto 16, 3) := by decide +kernel
theorem dX7_joined_140 : decode cX7_joined 140 = .ok (.iload_n 2, 1) := by decide +kernel
theorem dX7_joined_141 : decode cX7_joined 141 = .ok (.iconst (-1), 1) := by decide +kernel
theorem dX7_joined_142 : decode cX7_joined 142 = .ok (.if_icmp .ne 8, 3) := by decide +kernel
theorem dX7_joined_145 : decode cX7_joined 145 = .ok (.iload_n 1, 1) := by decide +kernel
theorem dX7_joined_146 : decode cX7_joined 146 = .ok (.ineg, 1) := by decide +kernel
theorem dX7_joined_147 : decode cX7_joined 147 = .ok (.goto 6, 3) := by decide +kernel
theorem dX7_joined_150 : decode cX7_joined 150 = .ok (.iload_n 1, 1) := by decide +kernel
theorem dX7_joined_151 : decode cX7_joined 151 = .ok (.iload_n 2, 1) := by decide +kernel
theorem dX7_joined_152 : decode cX7_joined 152 = .ok (.idiv, 1) := by decide +kernel
theorem dX7_joined_153 : decode cX7_joined 153 = .ok (.ireturn, 1) := by decide +kernel
theorem dX7_joined_154 : decode cX7_joined 154 = .ok (.iload_n 2, 1) := by decide +kernel
theorem dX7_joined_155 : decode cX7_joined 155 = .ok (.ifCond .eq 8, 3) := by decide +kernel
theorem dX7_joined_158 : decode cX7_joined 158 = .ok (.iload_n 2, 1) := by decide +kernel
theorem dX7_joined_159 : decode cX7_joined 159 = .ok (.iconst (-1), 1) := by decide +kernel
theorem dX7_joined_160 : decode cX7_joined 160 = .ok (.if_icmp .ne 7, 3) := by decide +kernel
theorem dX7_joined_163 : decode cX7_joined 163 = .ok (.iconst 0, 1) := by decide +kernel
theorem dX7_joined_164 : decode cX7_joined 164 = .ok (.goto 6, 3) := by decide +kernel
theorem dX7_joined_167 : decode cX7_joined 167 = .ok (.iload_n 1, 1) := by decide +kernel
theorem dX7_joined_168 : decode cX7_joined 168 = .ok (.iload_n 2, 1) := by decide +kernel
theorem dX7_joined_169 : decode cX7_joined 169 = .ok (.irem, 1) := by decide +kernel
theorem dX7_joined_170 : decode cX7_joined 170 = .ok (.ireturn, 1) := by decide +kernel
theorem dX7_joined_171 : decode cX7_joined 171 = .ok (.iload_n 1, 1) := by decide +kernel
theorem dX7_joined_172 : decode cX7_joined 172 = .ok (.iload_n 2, 1) := by decide +kernel
theorem dX7_joined_173 : decode cX7_joined 173 = .ok (.if_icmp .ge 7, 3) := by decide +kernel
theorem dX7_joined_176 : decode cX7_joined 176 = .ok (.iconst 1, 1) := by decide +kernel
theorem dX7_joined_177 : decode cX7_joined 177 = .ok (.goto 4, 3) := by decide +kernel
theorem dX7_joined_180 : decode cX7_joined 180 = .ok (.iconst 0, 1) := by decide +kernel
theorem dX7_joined_181 : decode cX7_joined 181 = .ok (.ireturn, 1) := by decide +kernel
theorem dX7_joined_182 : decode cX7_joined 182 = .ok (.iload_n 1, 1) := by decide +kernel
theorem dX7_joined_183 : decode cX7_joined 183 = .ok (.iload_n 2, 1) := by decide +kernel
theorem dX7_joined_184 : decode cX7_joined 184 = .ok (.if_icmp .le 7, 3) := by decide +kernel
theorem dX7_joined_187 : decode cX7_joined 187 = .ok (.iconst 1, 1) := by decide +kernel
theorem dX7_joined_188 : decode cX7_joined 188 = .ok (.goto 4, 3) := by decide +kernel
theorem dX7_joined_191 : decode cX7_joined 191 = .ok (.iconst 0, 1) := by decide +kernel
theorem dX7_joined_192 : decode cX7_joined 192 = .ok (.ireturn, 1) := by decide +kernel
theorem dX7_joined_193 : decode cX7_joined 193 = .ok (.iload_n 1, 1) := by decide +kernel
theorem dX7_joined_194 : decode cX7_joined 194 = .ok (.iload_n 2, 1) := by decide +kernel
theorem dX7_joined_195 : decode cX7_joined 195 = .ok (.if_icmp .ne 7, 3) := by decide +kernel
theorem dX7_joined_198 : decode cX7_joined 198 = .ok (.iconst 1, 1) := by decide +kernel
theorem dX7_joined_199 : decode cX7_joined 199 = .ok (.goto 4, 3) := by decide +kernel
theorem dX7_joined_202 : decode cX7_joined 202 = .ok (.iconst 0, 1) := by decide +kernel
theorem dX7_joined_203 : decode cX7_joined 203 = .ok (.ireturn, 1) := by decide +kernel
theorem dX7_joined_204 : decode cX7_joined 204 = .ok (.iload_n 1, 1) := by decide +kernel
theorem dX7_joined_205 : decode cX7_joined 205 = .ok (.ifCond .eq 11, 3) := by decide +kernel
theorem dX7_joined_208 : decode cX7_joined 208 = .ok (.iload_n 2, 1) := by decide +kernel
theorem dX7_joined_209 : decode cX7_joined 209 = .ok (.ifCond .eq 7, 3) := by decide +kernel
theorem dX7_joined_212 : decode cX7_joined 212 = .ok (.iconst 1, 1) := by decide +kernel
theorem dX7_joined_213 : decode cX7_joined 213 = .ok (.goto 4, 3) := by decide +kernel
theorem dX7_joined_216 : decode cX7_joined 216 = .ok (.iconst 0, 1) := by decide +kernel
theorem dX7_joined_217 : decode cX7_joined 217 = .ok (.ireturn, 1) := by decide +kernel
theorem dX7_joined_218 : decode cX7_joined 218 = .ok (.iload_n 1, 1) := by decide +kernel
theorem dX7_joined_219 : decode cX7_joined 219 = .ok (.ifCond .ne 7, 3) := by decide +kernel
theorem dX7_joined_222 : decode cX7_joined 222 = .ok (.iload_n 2, 1) := by decide +kernel
theorem dX7_joined_223 : decode cX7_joined 223 = .ok (.ifCond .eq 7, 3) := by decide +kernel
theorem dX7_joined_226 : decode cX7_joined 226 = .ok (.iconst 1, 1) := by decide +kernel
theorem dX7_joined_227 : decode cX7_joined 227 = .ok (.goto 4, 3) := by decide +kernel
theorem dX7_joined_230 : decode cX7_joined 230 = .ok (.iconst 0, 1) := by decide +kernel
theorem dX7_joined_231 : decode cX7_joined 231 = .ok (.ireturn, 1) := by decide +kernel
theorem dX7_worked_0 : decode cX7_worked 0 = .ok (.sipush 142, 3) := by decide +kernel
theorem dX7_worked_3 : decode cX7_worked 3 = .ok (.bipush 125, 2) := by decide +kernel
theorem dX7_worked_5 : decode cX7_worked 5 = .ok (.iload_n 1, 1) := by decide +kernel
theorem dX7_worked_6 : decode cX7_worked 6 = .ok (.imul, 1) := by decide +kernel
theorem dX7_worked_7 : decode cX7_worked 7 = .ok (.iadd, 1) := by decide +kernel
theorem dX7_worked_8 : decode cX7_worked 8 = .ok (.istore_n 2, 1) := by decide +kernel
theorem dX7_worked_9 : decode cX7_worked 9 = .ok (.iconst 0, 1) := by decide +kernel
theorem dX7_worked_10 : decode cX7_worked 10 = .ok (.istore_n 3, 1) := by decide +kernel
theorem dX7_worked_11 : decode cX7_worked 11 = .ok (.iconst 0, 1) := by decide +kernel
theorem dX7_worked_12 : decode cX7_worked 12 = .ok (.istore 4, 2) := by decide +kernel
theorem dX7_worked_14 : decode cX7_worked 14 = .ok (.iload 4, 2) := by decide +kernel
theorem dX7_worked_16 : decode cX7_worked 16 = .ok (.aload_n 0, 1) := by decide +kernel
theorem dX7_worked_17 : decode cX7_worked 17 = .ok (.getfield 7, 3) := by decide +kernel
theorem dX7_worked_20 : decode cX7_worked 20 = .ok (.iload_n 2, 1) := by decide +kernel
theorem dX7_worked_21 : decode cX7_worked 21 = .ok (.iaload, 1) := by decide +kernel
theorem dX7_worked_22 : decode cX7_worked 22 = .ok (.if_icmp .ge 142, 3) := by decide +kernel
theorem dX7_worked_25 : decode cX7_worked 25 = .ok (.aload_n 0, 1) := by decide +kernel
theorem dX7_worked_26 : decode cX7_worked 26 = .ok (.getfield 7, 3) := by decide +kernel
theorem dX7_worked_29 : decode cX7_worked 29 = .ok (.iload_n 2, 1) := by decide +kernel
theorem dX7_worked_30 : decode cX7_worked 30 = .ok (.iconst 1, 1) := by decide +kernel
theorem dX7_worked_31 : decode cX7_worked 31 = .ok (.iadd, 1) := by decide +kernel
theorem dX7_worked_32 : decode cX7_worked 32 = .ok (.iconst 2, 1) := by decide +kernel
theorem dX7_worked_33 : decode cX7_worked 33 = .ok (.iload 4, 2) := by decide +kernel
theorem dX7_worked_35 : decode cX7_worked 35 = .ok (.imul, 1) := by decide +kernel
theorem dX7_worked_36 : decode cX7_worked 36 = .ok (.iadd, 1) := by decide +kernel
theorem dX7_worked_37 : decode cX7_worked 37 = .ok (.iaload, 1) := by decide +kernel
theorem dX7_worked_38 : decode cX7_worked 38 = .ok (.istore 5, 2) := by decide +kernel
theorem dX7_worked_40 : decode cX7_worked 40 = .ok (.aload_n 0, 1) := by decide +kernel
theorem dX7_worked_41 : decode cX7_worked 41 = .ok (.getfield 7, 3) := by decide +kernel
theorem dX7_worked_44 : decode cX7_worked 44 = .ok (.iload_n 2, 1) := by decide +kernel
theorem dX7_worked_45 : decode cX7_worked 45 = .ok (.iconst 2, 1) := by decide +kernel
theorem dX7_worked_46 : decode cX7_worked 46 = .ok (.iadd, 1) := by decide +kernel
theorem dX7_worked_47 : decode cX7_worked 47 = .ok (.iconst 2, 1) := by decide +kernel
theorem dX7_worked_48 : decode cX7_worked 48 = .ok (.iload 4, 2) := by decide +kernel
theorem dX7_worked_50 : decode cX7_worked 50 = .ok (.imul, 1) := by decide +kernel
theorem dX7_worked_51 : decode cX7_worked 51 = .ok (.iadd, 1) := by decide +kernel
theorem dX7_worked_52 : decode cX7_worked 52 = .ok (.iaload, 1) := by decide +kernel
theorem dX7_worked_53 : decode cX7_worked 53 = .ok (.istore 6, 2) := by decide +kernel
theorem dX7_worked_55 : decode cX7_worked 55 = .ok (.iload 5, 2) := by decide +kernel
theorem dX7_worked_57 : decode cX7_worked 57 = .ok (.ifCond .eq 9, 3) := by decide +kernel
theorem dX7_worked_60 : decode cX7_worked 60 = .ok (.iload 5, 2) := by decide +kernel
theorem dX7_worked_62 : decode cX7_worked 62 = .ok (.iconst 1, 1) := by decide +kernel
theorem dX7_worked_63 : decode cX7_worked 63 = .ok (.if_icmp .ne 32, 3) := by decide +kernel
theorem dX7_worked_66 : decode cX7_worked 66 = .ok (.aload_n 0, 1) := by decide +kernel
theorem dX7_worked_67 : decode cX7_worked 67 = .ok (.getfield 28, 3) := by decide +kernel
theorem dX7_worked_70 : decode cX7_worked 70 = .ok (.iload_n 3, 1) := by decide +kernel
theorem dX7_worked_71 : decode cX7_worked 71 = .ok (.iload 5, 2) := by decide +kernel
theorem dX7_worked_73 : decode cX7_worked 73 = .ok (.ifCond .ne 8, 3) := by decide +kernel
theorem dX7_worked_76 : decode cX7_worked 76 = .ok (.iload 6, 2) := by decide +kernel
theorem dX7_worked_78 : decode cX7_worked 78 = .ok (.goto 10, 3) := by decide +kernel
theorem dX7_worked_81 : decode cX7_worked 81 = .ok (.aload_n 0, 1) := by decide +kernel
theorem dX7_worked_82 : decode cX7_worked 82 = .ok (.getfield 25, 3) := by decide +kernel
theorem dX7_worked_85 : decode cX7_worked 85 = .ok (.iload 6, 2) := by decide +kernel
theorem dX7_worked_87 : decode cX7_worked 87 = .ok (.iaload, 1) := by decide +kernel
theorem dX7_worked_88 : decode cX7_worked 88 = .ok (.iastore, 1) := by decide +kernel
theorem dX7_worked_89 : decode cX7_worked 89 = .ok (.iinc 3 1, 3) := by decide +kernel
theorem dX7_worked_92 : decode cX7_worked 92 = .ok (.goto 66, 3) := by decide +kernel
theorem dX7_worked_95 : decode cX7_worked 95 = .ok (.iload 5, 2) := by decide +kernel
theorem dX7_worked_97 : decode cX7_worked 97 = .ok (.iconst 2, 1) := by decide +kernel
theorem dX7_worked_98 : decode cX7_worked 98 = .ok (.if_icmp .ne 30, 3) := by decide +kernel
theorem dX7_worked_101 : decode cX7_worked 101 = .ok (.aload_n 0, 1) := by decide +kernel
theorem dX7_worked_102 : decode cX7_worked 102 = .ok (.getfield 28, 3) := by decide +kernel
theorem dX7_worked_105 : decode cX7_worked 105 = .ok (.iload_n 3, 1) := by decide +kernel
theorem dX7_worked_106 : decode cX7_worked 106 = .ok (.iconst 1, 1) := by decide +kernel
theorem dX7_worked_107 : decode cX7_worked 107 = .ok (.isub, 1) := by decide +kernel
theorem dX7_worked_108 : decode cX7_worked 108 = .ok (.aload_n 0, 1) := by decide +kernel
theorem dX7_worked_109 : decode cX7_worked 109 = .ok (.getfield 28, 3) := by decide +kernel
theorem dX7_worked_112 : decode cX7_worked 112 = .ok (.iload_n 3, 1) := by decide +kernel
theorem dX7_worked_113 : decode cX7_worked 113 = .ok (.iconst 1, 1) := by decide +kernel
theorem dX7_worked_114 : decode cX7_worked 114 = .ok (.isub, 1) := by decide +kernel
theorem dX7_worked_115 : decode cX7_worked 115 = .ok (.iaload, 1) := by decide +kernel
theorem dX7_worked_116 : decode cX7_worked 116 = .ok (.ifCond .ne 7, 3) := by decide +kernel
theorem dX7_worked_119 : decode cX7_worked 119 = .ok (.iconst 1, 1) := by decide +kernel
theorem dX7_worked_120 : decode cX7_worked 120 = .ok (.goto 4, 3) := by decide +kernel
theorem dX7_worked_123 : decode cX7_worked 123 = .ok (.iconst 0, 1) := by decide +kernel
theorem dX7_worked_124 : decode cX7_worked 124 = .ok (.iastore, 1) := by decide +kernel
theorem dX7_worked_125 : decode cX7_worked 125 = .ok (.goto 33, 3) := by decide +kernel
theorem dX7_worked_128 : decode cX7_worked 128 = .ok (.iinc 3 (-1), 3) := by decide +kernel
theorem dX7_worked_131 : decode cX7_worked 131 = .ok (.aload_n 0, 1) := by decide +kernel
theorem dX7_worked_132 : decode cX7_worked 132 = .ok (.getfield 28, 3) := by decide +kernel
theorem dX7_worked_135 : decode cX7_worked 135 = .ok (.iload_n 3, 1) := by decide +kernel
theorem dX7_worked_136 : decode cX7_worked 136 = .ok (.iconst 1, 1) := by decide +kernel
theorem dX7_worked_137 : decode cX7_worked 137 = .ok (.isub, 1) := by decide +kernel
theorem dX7_worked_138 : decode cX7_worked 138 = .ok (.iload 6, 2) := by decide +kernel
theorem dX7_worked_140 : decode cX7_worked 140 = .ok (.aload_n 0, 1) := by decide +kernel
theorem dX7_worked_141 : decode cX7_worked 141 = .ok (.getfield 28, 3) := by decide +kernel
theorem dX7_worked_144 : decode cX7_worked 144 = .ok (.iload_n 3, 1) := by decide +kernel
theorem dX7_worked_145 : decode cX7_worked 145 = .ok (.iconst 1, 1) := by decide +kernel
theorem dX7_worked_146 : decode cX7_worked 146 = .ok (.isub, 1) := by decide +kernel
theorem dX7_worked_147 : decode cX7_worked 147 = .ok (.iaload, 1) := by decide +kernel
theorem dX7_worked_148 : decode cX7_worked 148 = .ok (.aload_n 0, 1) := by decide +kernel
theorem dX7_worked_149 : decode cX7_worked 149 = .ok (.getfield 28, 3) := by decide +kernel
theorem dX7_worked_152 : decode cX7_worked 152 = .ok (.iload_n 3, 1) := by decide +kernel
theorem dX7_worked_153 : decode cX7_worked 153 = .ok (.iaload, 1) := by decide +kernel
theorem dX7_worked_154 : decode cX7_worked 154 = .ok (.invokestatic 121, 3) := by decide +kernel
theorem dX7_worked_157 : decode cX7_worked 157 = .ok (.iastore, 1) := by decide +kernel
theorem dX7_worked_158 : decode cX7_worked 158 = .ok (.iinc 4 1, 3) := by decide +kernel
theorem dX7_worked_161 : decode cX7_worked 161 = .ok (.goto (-147), 3) := by decide +kernel
theorem dX7_worked_164 : decode cX7_worked 164 = .ok (.aload_n 0, 1) := by decide +kernel
theorem dX7_worked_165 : decode cX7_worked 165 = .ok (.getfield 28, 3) := by decide +kernel
theorem dX7_worked_168 : decode cX7_worked 168 = .ok (.iconst 0, 1) := by decide +kernel
theorem dX7_worked_169 : decode cX7_worked 169 = .ok (.iaload, 1) := by decide +kernel
theorem dX7_worked_170 : decode cX7_worked 170 = .ok (.ireturn, 1) := by decide +kernel
theorem dX7_getsAs_0 : decode cX7_getsAs 0 = .ok (.aload_n 0, 1) := by decide +kernel
theorem dX7_getsAs_1 : decode cX7_getsAs 1 = .ok (.iload_n 2, 1) := by decide +kernel
theorem dX7_getsAs_2 : decode cX7_getsAs 2 = .ok (.iconst 1, 1) := by decide +kernel
theorem dX7_getsAs_3 : decode cX7_getsAs 3 = .ok (.invokevirtual 124, 3) := by decide +kernel
theorem dX7_getsAs_6 : decode cX7_getsAs 6 = .ok (.istore 4, 2) := by decide +kernel
theorem dX7_getsAs_8 : decode cX7_getsAs 8 = .ok (.iload_n 1, 1) := by decide +kernel
theorem dX7_getsAs_9 : decode cX7_getsAs 9 = .ok (.tableswitch 136 1 6 #[39, 57, 67, 85, 103, 113], 39) := by decide +kernel
theorem dX7_getsAs_48 : decode cX7_getsAs 48 = .ok (.aload_n 0, 1) := by decide +kernel
theorem dX7_getsAs_49 : decode cX7_getsAs 49 = .ok (.iconst 0, 1) := by decide +kernel
theorem dX7_getsAs_50 : decode cX7_getsAs 50 = .ok (.iload_n 2, 1) := by decide +kernel
theorem dX7_getsAs_51 : decode cX7_getsAs 51 = .ok (.iload_n 3, 1) := by decide +kernel
theorem dX7_getsAs_52 : decode cX7_getsAs 52 = .ok (.invokevirtual 127, 3) := by decide +kernel
theorem dX7_getsAs_55 : decode cX7_getsAs 55 = .ok (.iload_n 3, 1) := by decide +kernel
theorem dX7_getsAs_56 : decode cX7_getsAs 56 = .ok (.ifCond .ne 7, 3) := by decide +kernel
theorem dX7_getsAs_59 : decode cX7_getsAs 59 = .ok (.iconst 2, 1) := by decide +kernel
theorem dX7_getsAs_60 : decode cX7_getsAs 60 = .ok (.goto 4, 3) := by decide +kernel
theorem dX7_getsAs_63 : decode cX7_getsAs 63 = .ok (.iconst 0, 1) := by decide +kernel
theorem dX7_getsAs_64 : decode cX7_getsAs 64 = .ok (.iadd, 1) := by decide +kernel
theorem dX7_getsAs_65 : decode cX7_getsAs 65 = .ok (.ireturn, 1) := by decide +kernel
theorem dX7_getsAs_66 : decode cX7_getsAs 66 = .ok (.iconst 3, 1) := by decide +kernel
theorem dX7_getsAs_67 : decode cX7_getsAs 67 = .ok (.aload_n 0, 1) := by decide +kernel
theorem dX7_getsAs_68 : decode cX7_getsAs 68 = .ok (.iconst 0, 1) := by decide +kernel
theorem dX7_getsAs_69 : decode cX7_getsAs 69 = .ok (.iload_n 2, 1) := by decide +kernel
theorem dX7_getsAs_70 : decode cX7_getsAs 70 = .ok (.iload_n 3, 1) := by decide +kernel
theorem dX7_getsAs_71 : decode cX7_getsAs 71 = .ok (.invokevirtual 127, 3) := by decide +kernel
theorem dX7_getsAs_74 : decode cX7_getsAs 74 = .ok (.imul, 1) := by decide +kernel
theorem dX7_getsAs_75 : decode cX7_getsAs 75 = .ok (.ireturn, 1) := by decide +kernel
theorem dX7_getsAs_76 : decode cX7_getsAs 76 = .ok (.iload_n 3, 1) := by decide +kernel
theorem dX7_getsAs_77 : decode cX7_getsAs 77 = .ok (.iconst 4, 1) := by decide +kernel
theorem dX7_getsAs_78 : decode cX7_getsAs 78 = .ok (.if_icmp .ne 8, 3) := by decide +kernel
theorem dX7_getsAs_81 : decode cX7_getsAs 81 = .ok (.iload 4, 2) := by decide +kernel
theorem dX7_getsAs_83 : decode cX7_getsAs 83 = .ok (.goto 10, 3) := by decide +kernel
theorem dX7_getsAs_86 : decode cX7_getsAs 86 = .ok (.aload_n 0, 1) := by decide +kernel
theorem dX7_getsAs_87 : decode cX7_getsAs 87 = .ok (.iconst 0, 1) := by decide +kernel
theorem dX7_getsAs_88 : decode cX7_getsAs 88 = .ok (.iload_n 2, 1) := by decide +kernel
theorem dX7_getsAs_89 : decode cX7_getsAs 89 = .ok (.iload_n 3, 1) := by decide +kernel
theorem dX7_getsAs_90 : decode cX7_getsAs 90 = .ok (.invokevirtual 127, 3) := by decide +kernel
theorem dX7_getsAs_93 : decode cX7_getsAs 93 = .ok (.ireturn, 1) := by decide +kernel
theorem dX7_getsAs_94 : decode cX7_getsAs 94 = .ok (.aload_n 0, 1) := by decide +kernel
theorem dX7_getsAs_95 : decode cX7_getsAs 95 = .ok (.iconst 1, 1) := by decide +kernel
theorem dX7_getsAs_96 : decode cX7_getsAs 96 = .ok (.iload_n 2, 1) := by decide +kernel
theorem dX7_getsAs_97 : decode cX7_getsAs 97 = .ok (.iload_n 3, 1) := by decide +kernel
theorem dX7_getsAs_98 : decode cX7_getsAs 98 = .ok (.invokevirtual 127, 3) := by decide +kernel
theorem dX7_getsAs_101 : decode cX7_getsAs 101 = .ok (.aload_n 0, 1) := by decide +kernel
theorem dX7_getsAs_102 : decode cX7_getsAs 102 = .ok (.iload_n 2, 1) := by decide +kernel
theorem dX7_getsAs_103 : decode cX7_getsAs 103 = .ok (.iload_n 3, 1) := by decide +kernel
theorem dX7_getsAs_104 : decode cX7_getsAs 104 = .ok (.invokevirtual 57, 3) := by decide +kernel
theorem dX7_getsAs_107 : decode cX7_getsAs 107 = .ok (.bipush 10, 2) := by decide +kernel
theorem dX7_getsAs_109 : decode cX7_getsAs 109 = .ok (.idiv, 1) := by decide +kernel
theorem dX7_getsAs_110 : decode cX7_getsAs 110 = .ok (.iadd, 1) := by decide +kernel
theorem dX7_getsAs_111 : decode cX7_getsAs 111 = .ok (.ireturn, 1) := by decide +kernel
theorem dX7_getsAs_112 : decode cX7_getsAs 112 = .ok (.aload_n 0, 1) := by decide +kernel
theorem dX7_getsAs_113 : decode cX7_getsAs 113 = .ok (.iconst 2, 1) := by decide +kernel
theorem dX7_getsAs_114 : decode cX7_getsAs 114 = .ok (.iload_n 2, 1) := by decide +kernel
theorem dX7_getsAs_115 : decode cX7_getsAs 115 = .ok (.iload_n 3, 1) := by decide +kernel
theorem dX7_getsAs_116 : decode cX7_getsAs 116 = .ok (.invokevirtual 127, 3) := by decide +kernel
theorem dX7_getsAs_119 : decode cX7_getsAs 119 = .ok (.iconst 1, 1) := by decide +kernel
theorem dX7_getsAs_120 : decode cX7_getsAs 120 = .ok (.isub, 1) := by decide +kernel
theorem dX7_getsAs_121 : decode cX7_getsAs 121 = .ok (.ireturn, 1) := by decide +kernel
theorem dX7_getsAs_122 : decode cX7_getsAs 122 = .ok (.aload_n 0, 1) := by decide +kernel
theorem dX7_getsAs_123 : decode cX7_getsAs 123 = .ok (.getfield 7, 3) := by decide +kernel
theorem dX7_getsAs_126 : decode cX7_getsAs 126 = .ok (.iconst 0, 1) := by decide +kernel
theorem dX7_getsAs_127 : decode cX7_getsAs 127 = .ok (.iaload, 1) := by decide +kernel
theorem dX7_getsAs_128 : decode cX7_getsAs 128 = .ok (.iconst 2, 1) := by decide +kernel
theorem dX7_getsAs_129 : decode cX7_getsAs 129 = .ok (.irem, 1) := by decide +kernel
theorem dX7_getsAs_130 : decode cX7_getsAs 130 = .ok (.ifCond .ne 13, 3) := by decide +kernel
theorem dX7_getsAs_133 : decode cX7_getsAs 133 = .ok (.aload_n 0, 1) := by decide +kernel
theorem dX7_getsAs_134 : decode cX7_getsAs 134 = .ok (.iconst 0, 1) := by decide +kernel
theorem dX7_getsAs_135 : decode cX7_getsAs 135 = .ok (.iload_n 2, 1) := by decide +kernel
theorem dX7_getsAs_136 : decode cX7_getsAs 136 = .ok (.iload_n 3, 1) := by decide +kernel
theorem dX7_getsAs_137 : decode cX7_getsAs 137 = .ok (.invokevirtual 127, 3) := by decide +kernel
theorem dX7_getsAs_140 : decode cX7_getsAs 140 = .ok (.goto 4, 3) := by decide +kernel
theorem dX7_getsAs_143 : decode cX7_getsAs 143 = .ok (.iconst 0, 1) := by decide +kernel
theorem dX7_getsAs_144 : decode cX7_getsAs 144 = .ok (.ireturn, 1) := by decide +kernel
theorem dX7_getsAs_145 : decode cX7_getsAs 145 = .ok (.iload 4, 2) := by decide +kernel
theorem dX7_getsAs_147 : decode cX7_getsAs 147 = .ok (.iconst 5, 1) := by decide +kernel
theorem dX7_getsAs_148 : decode cX7_getsAs 148 = .ok (.irem, 1) := by decide +kernel
theorem dX7_getsAs_149 : decode cX7_getsAs 149 = .ok (.iload_n 3, 1) := by decide +kernel
theorem dX7_getsAs_150 : decode cX7_getsAs 150 = .ok (.if_icmp .ne 7, 3) := by decide +kernel
theorem dX7_getsAs_153 : decode cX7_getsAs 153 = .ok (.iconst 1, 1) := by decide +kernel
theorem dX7_getsAs_154 : decode cX7_getsAs 154 = .ok (.goto 4, 3) := by decide +kernel
theorem dX7_getsAs_157 : decode cX7_getsAs 157 = .ok (.iconst 0, 1) := by decide +kernel
theorem dX7_getsAs_158 : decode cX7_getsAs 158 = .ok (.ireturn, 1) := by decide +kernel
theorem dX7_gainTold_0 : decode cX7_gainTold 0 = .ok (.aload_n 0, 1) := by decide +kernel
theorem dX7_gainTold_1 : decode cX7_gainTold 1 = .ok (.getfield 25, 3) := by decide +kernel
theorem dX7_gainTold_4 : decode cX7_gainTold 4 = .ok (.bipush 119, 2) := by decide +kernel
theorem dX7_gainTold_6 : decode cX7_gainTold 6 = .ok (.iload_n 1, 1) := by decide +kernel
theorem dX7_gainTold_7 : decode cX7_gainTold 7 = .ok (.iastore, 1) := by decide +kernel
theorem dX7_gainTold_8 : decode cX7_gainTold 8 = .ok (.aload_n 0, 1) := by decide +kernel
theorem dX7_gainTold_9 : decode cX7_gainTold 9 = .ok (.getfield 25, 3) := by decide +kernel
theorem dX7_gainTold_12 : decode cX7_gainTold 12 = .ok (.bipush 115, 2) := by decide +kernel
theorem dX7_gainTold_14 : decode cX7_gainTold 14 = .ok (.iload_n 2, 1) := by decide +kernel
theorem dX7_gainTold_15 : decode cX7_gainTold 15 = .ok (.iastore, 1) := by decide +kernel
theorem dX7_gainTold_16 : decode cX7_gainTold 16 = .ok (.aload_n 0, 1) := by decide +kernel
theorem dX7_gainTold_17 : decode cX7_gainTold 17 = .ok (.getfield 25, 3) := by decide +kernel
theorem dX7_gainTold_20 : decode cX7_gainTold 20 = .ok (.bipush 121, 2) := by decide +kernel
theorem dX7_gainTold_22 : decode cX7_gainTold 22 = .ok (.iload_n 3, 1) := by decide +kernel
theorem dX7_gainTold_23 : decode cX7_gainTold 23 = .ok (.iastore, 1) := by decide +kernel
theorem dX7_gainTold_24 : decode cX7_gainTold 24 = .ok (.aload_n 0, 1) := by decide +kernel
theorem dX7_gainTold_25 : decode cX7_gainTold 25 = .ok (.iconst 0, 1) := by decide +kernel
theorem dX7_gainTold_26 : decode cX7_gainTold 26 = .ok (.invokevirtual 118, 3) := by decide +kernel
theorem dX7_gainTold_29 : decode cX7_gainTold 29 = .ok (.ifCond .eq 11, 3) := by decide +kernel
theorem dX7_gainTold_32 : decode cX7_gainTold 32 = .ok (.aload_n 0, 1) := by decide +kernel
theorem dX7_gainTold_33 : decode cX7_gainTold 33 = .ok (.iconst 0, 1) := by decide +kernel
theorem dX7_gainTold_34 : decode cX7_gainTold 34 = .ok (.invokevirtual 130, 3) := by decide +kernel
theorem dX7_gainTold_37 : decode cX7_gainTold 37 = .ok (.goto 4, 3) := by decide +kernel
theorem dX7_gainTold_40 : decode cX7_gainTold 40 = .ok (.iload_n 1, 1) := by decide +kernel
theorem dX7_gainTold_41 : decode cX7_gainTold 41 = .ok (.bipush (-9), 2) := by decide +kernel
theorem dX7_gainTold_43 : decode cX7_gainTold 43 = .ok (.bipush 9, 2) := by decide +kernel
theorem dX7_gainTold_45 : decode cX7_gainTold 45 = .ok (.invokestatic 61, 3) := by decide +kernel
theorem dX7_gainTold_48 : decode cX7_gainTold 48 = .ok (.ireturn, 1) := by decide +kernel
theorem dX7_worthTold_0 : decode cX7_worthTold 0 = .ok (.aload_n 0, 1) := by decide +kernel
theorem dX7_worthTold_1 : decode cX7_worthTold 1 = .ok (.getfield 25, 3) := by decide +kernel
theorem dX7_worthTold_4 : decode cX7_worthTold 4 = .ok (.bipush 118, 2) := by decide +kernel
theorem dX7_worthTold_6 : decode cX7_worthTold 6 = .ok (.iload_n 1, 1) := by decide +kernel
theorem dX7_worthTold_7 : decode cX7_worthTold 7 = .ok (.iastore, 1) := by decide +kernel
theorem dX7_worthTold_8 : decode cX7_worthTold 8 = .ok (.aload_n 0, 1) := by decide +kernel
theorem dX7_worthTold_9 : decode cX7_worthTold 9 = .ok (.getfield 25, 3) := by decide +kernel
theorem dX7_worthTold_12 : decode cX7_worthTold 12 = .ok (.bipush 115, 2) := by decide +kernel
theorem dX7_worthTold_14 : decode cX7_worthTold 14 = .ok (.iload_n 2, 1) := by decide +kernel
theorem dX7_worthTold_15 : decode cX7_worthTold 15 = .ok (.iastore, 1) := by decide +kernel
theorem dX7_worthTold_16 : decode cX7_worthTold 16 = .ok (.aload_n 0, 1) := by decide +kernel
theorem dX7_worthTold_17 : decode cX7_worthTold 17 = .ok (.getfield 25, 3) := by decide +kernel
theorem dX7_worthTold_20 : decode cX7_worthTold 20 = .ok (.bipush 110, 2) := by decide +kernel
theorem dX7_worthTold_22 : decode cX7_worthTold 22 = .ok (.iload_n 3, 1) := by decide +kernel
theorem dX7_worthTold_23 : decode cX7_worthTold 23 = .ok (.iastore, 1) := by decide +kernel
theorem dX7_worthTold_24 : decode cX7_worthTold 24 = .ok (.aload_n 0, 1) := by decide +kernel
theorem dX7_worthTold_25 : decode cX7_worthTold 25 = .ok (.iconst 1, 1) := by decide +kernel
theorem dX7_worthTold_26 : decode cX7_worthTold 26 = .ok (.invokevirtual 118, 3) := by decide +kernel
theorem dX7_worthTold_29 : decode cX7_worthTold 29 = .ok (.ifCond .eq 11, 3) := by decide +kernel
theorem dX7_worthTold_32 : decode cX7_worthTold 32 = .ok (.aload_n 0, 1) := by decide +kernel
theorem dX7_worthTold_33 : decode cX7_worthTold 33 = .ok (.iconst 1, 1) := by decide +kernel
theorem dX7_worthTold_34 : decode cX7_worthTold 34 = .ok (.invokevirtual 130, 3) := by decide +kernel
theorem dX7_worthTold_37 : decode cX7_worthTold 37 = .ok (.goto 4, 3) := by decide +kernel
theorem dX7_worthTold_40 : decode cX7_worthTold 40 = .ok (.iload_n 1, 1) := by decide +kernel
theorem dX7_worthTold_41 : decode cX7_worthTold 41 = .ok (.iconst 0, 1) := by decide +kernel
theorem dX7_worthTold_42 : decode cX7_worthTold 42 = .ok (.sipush 999, 3) := by decide +kernel
theorem dX7_worthTold_45 : decode cX7_worthTold 45 = .ok (.invokestatic 61, 3) := by decide +kernel
theorem dX7_worthTold_48 : decode cX7_worthTold 48 = .ok (.ireturn, 1) := by decide +kernel
theorem dX7_gainOf_0 : decode cX7_gainOf 0 = .ok (.aload_n 0, 1) := by decide +kernel
theorem dX7_gainOf_1 : decode cX7_gainOf 1 = .ok (.aload_n 0, 1) := by decide +kernel
theorem dX7_gainOf_2 : decode cX7_gainOf 2 = .ok (.aload_n 0, 1) := by decide +kernel
theorem dX7_gainOf_3 : decode cX7_gainOf 3 = .ok (.iload_n 1, 1) := by decide +kernel
theorem dX7_gainOf_4 : decode cX7_gainOf 4 = .ok (.iconst 0, 1) := by decide +kernel
theorem dX7_gainOf_5 : decode cX7_gainOf 5 = .ok (.invokevirtual 124, 3) := by decide +kernel
theorem dX7_gainOf_8 : decode cX7_gainOf 8 = .ok (.iload_n 1, 1) := by decide +kernel
theorem dX7_gainOf_9 : decode cX7_gainOf 9 = .ok (.iload_n 2, 1) := by decide +kernel
theorem dX7_gainOf_10 : decode cX7_gainOf 10 = .ok (.invokevirtual 127, 3) := by decide +kernel
theorem dX7_gainOf_13 : decode cX7_gainOf 13 = .ok (.iload_n 2, 1) := by decide +kernel
theorem dX7_gainOf_14 : decode cX7_gainOf 14 = .ok (.aload_n 0, 1) := by decide +kernel
theorem dX7_gainOf_15 : decode cX7_gainOf 15 = .ok (.getfield 7, 3) := by decide +kernel
theorem dX7_gainOf_18 : decode cX7_gainOf 18 = .ok (.iconst 0, 1) := by decide +kernel
theorem dX7_gainOf_19 : decode cX7_gainOf 19 = .ok (.iaload, 1) := by decide +kernel
theorem dX7_gainOf_20 : decode cX7_gainOf 20 = .ok (.invokevirtual 133, 3) := by decide +kernel
theorem dX7_gainOf_23 : decode cX7_gainOf 23 = .ok (.ireturn, 1) := by decide +kernel
theorem dX7_worthOf_0 : decode cX7_worthOf 0 = .ok (.iconst 0, 1) := by decide +kernel
theorem dX7_worthOf_1 : decode cX7_worthOf 1 = .ok (.istore_n 2, 1) := by decide +kernel
theorem dX7_worthOf_2 : decode cX7_worthOf 2 = .ok (.iconst 0, 1) := by decide +kernel
theorem dX7_worthOf_3 : decode cX7_worthOf 3 = .ok (.istore_n 3, 1) := by decide +kernel
theorem dX7_worthOf_4 : decode cX7_worthOf 4 = .ok (.iload_n 3, 1) := by decide +kernel
theorem dX7_worthOf_5 : decode cX7_worthOf 5 = .ok (.iconst 5, 1) := by decide +kernel
theorem dX7_worthOf_6 : decode cX7_worthOf 6 = .ok (.if_icmp .ge 24, 3) := by decide +kernel
theorem dX7_worthOf_9 : decode cX7_worthOf 9 = .ok (.iload_n 2, 1) := by decide +kernel
theorem dX7_worthOf_10 : decode cX7_worthOf 10 = .ok (.aload_n 0, 1) := by decide +kernel
theorem dX7_worthOf_11 : decode cX7_worthOf 11 = .ok (.aload_n 0, 1) := by decide +kernel
theorem dX7_worthOf_12 : decode cX7_worthOf 12 = .ok (.iload_n 1, 1) := by decide +kernel
theorem dX7_worthOf_13 : decode cX7_worthOf 13 = .ok (.iload_n 3, 1) := by decide +kernel
theorem dX7_worthOf_14 : decode cX7_worthOf 14 = .ok (.invokevirtual 57, 3) := by decide +kernel
theorem dX7_worthOf_17 : decode cX7_worthOf 17 = .ok (.iload_n 3, 1) := by decide +kernel
theorem dX7_worthOf_18 : decode cX7_worthOf 18 = .ok (.iload_n 1, 1) := by decide +kernel
theorem dX7_worthOf_19 : decode cX7_worthOf 19 = .ok (.invokevirtual 136, 3) := by decide +kernel
theorem dX7_worthOf_22 : decode cX7_worthOf 22 = .ok (.iadd, 1) := by decide +kernel
theorem dX7_worthOf_23 : decode cX7_worthOf 23 = .ok (.istore_n 2, 1) := by decide +kernel
theorem dX7_worthOf_24 : decode cX7_worthOf 24 = .ok (.iinc 3 1, 3) := by decide +kernel
theorem dX7_worthOf_27 : decode cX7_worthOf 27 = .ok (.goto (-23), 3) := by decide +kernel
theorem dX7_worthOf_30 : decode cX7_worthOf 30 = .ok (.iload_n 2, 1) := by decide +kernel
theorem dX7_worthOf_31 : decode cX7_worthOf 31 = .ok (.ireturn, 1) := by decide +kernel
theorem dX7_fromOf_0 : decode cX7_fromOf 0 = .ok (.iconst 0, 1) := by decide +kernel
theorem dX7_fromOf_1 : decode cX7_fromOf 1 = .ok (.istore_n 2, 1) := by decide +kernel
theorem dX7_fromOf_2 : decode cX7_fromOf 2 = .ok (.iconst 1, 1) := by decide +kernel
theorem dX7_fromOf_3 : decode cX7_fromOf 3 = .ok (.iload_n 1, 1) := by decide +kernel
theorem dX7_fromOf_4 : decode cX7_fromOf 4 = .ok (.ishl, 1) := by decide +kernel
theorem dX7_fromOf_5 : decode cX7_fromOf 5 = .ok (.istore_n 3, 1) := by decide +kernel
theorem dX7_fromOf_6 : decode cX7_fromOf 6 = .ok (.iload_n 3, 1) := by decide +kernel
theorem dX7_fromOf_7 : decode cX7_fromOf 7 = .ok (.ifCond .eq 109, 3) := by decide +kernel
theorem dX7_fromOf_10 : decode cX7_fromOf 10 = .ok (.iconst 0, 1) := by decide +kernel
theorem dX7_fromOf_11 : decode cX7_fromOf 11 = .ok (.istore 4, 2) := by decide +kernel
theorem dX7_fromOf_13 : decode cX7_fromOf 13 = .ok (.iconst 0, 1) := by decide +kernel
theorem dX7_fromOf_14 : decode cX7_fromOf 14 = .ok (.istore 5, 2) := by decide +kernel
theorem dX7_fromOf_16 : decode cX7_fromOf 16 = .ok (.iload 5, 2) := by decide +kernel
theorem dX7_fromOf_18 : decode cX7_fromOf 18 = .ok (.aload_n 0, 1) := by decide +kernel
theorem dX7_fromOf_19 : decode cX7_fromOf 19 = .ok (.getfield 7, 3) := by decide +kernel
theorem dX7_fromOf_22 : decode cX7_fromOf 22 = .ok (.iconst 4, 1) := by decide +kernel
theorem dX7_fromOf_23 : decode cX7_fromOf 23 = .ok (.iaload, 1) := by decide +kernel
theorem dX7_fromOf_24 : decode cX7_fromOf 24 = .ok (.if_icmp .ge 77, 3) := by decide +kernel
theorem dX7_fromOf_27 : decode cX7_fromOf 27 = .ok (.iload_n 3, 1) := by decide +kernel
theorem dX7_fromOf_28 : decode cX7_fromOf 28 = .ok (.iload 5, 2) := by decide +kernel
theorem dX7_fromOf_30 : decode cX7_fromOf 30 = .ok (.ishr, 1) := by decide +kernel
theorem dX7_fromOf_31 : decode cX7_fromOf 31 = .ok (.iconst 1, 1) := by decide +kernel
theorem dX7_fromOf_32 : decode cX7_fromOf 32 = .ok (.iand, 1) := by decide +kernel
theorem dX7_fromOf_33 : decode cX7_fromOf 33 = .ok (.iconst 1, 1) := by decide +kernel
theorem dX7_fromOf_34 : decode cX7_fromOf 34 = .ok (.if_icmp .ne 61, 3) := by decide +kernel
theorem dX7_fromOf_37 : decode cX7_fromOf 37 = .ok (.iload 4, 2) := by decide +kernel
theorem dX7_fromOf_39 : decode cX7_fromOf 39 = .ok (.aload_n 0, 1) := by decide +kernel
theorem dX7_fromOf_40 : decode cX7_fromOf 40 = .ok (.iload 5, 2) := by decide +kernel
theorem dX7_fromOf_42 : decode cX7_fromOf 42 = .ok (.iconst 2, 1) := by decide +kernel
theorem dX7_fromOf_43 : decode cX7_fromOf 43 = .ok (.invokevirtual 124, 3) := by decide +kernel
theorem dX7_fromOf_46 : decode cX7_fromOf 46 = .ok (.iconst (-1), 1) := by decide +kernel
theorem dX7_fromOf_47 : decode cX7_fromOf 47 = .ok (.if_icmp .ne 7, 3) := by decide +kernel
theorem dX7_fromOf_50 : decode cX7_fromOf 50 = .ok (.iconst 0, 1) := by decide +kernel
theorem dX7_fromOf_51 : decode cX7_fromOf 51 = .ok (.goto 12, 3) := by decide +kernel
theorem dX7_fromOf_54 : decode cX7_fromOf 54 = .ok (.iconst 1, 1) := by decide +kernel
theorem dX7_fromOf_55 : decode cX7_fromOf 55 = .ok (.aload_n 0, 1) := by decide +kernel
theorem dX7_fromOf_56 : decode cX7_fromOf 56 = .ok (.iload 5, 2) := by decide +kernel
theorem dX7_fromOf_58 : decode cX7_fromOf 58 = .ok (.iconst 2, 1) := by decide +kernel
theorem dX7_fromOf_59 : decode cX7_fromOf 59 = .ok (.invokevirtual 124, 3) := by decide +kernel
theorem dX7_fromOf_62 : decode cX7_fromOf 62 = .ok (.ishl, 1) := by decide +kernel
theorem dX7_fromOf_63 : decode cX7_fromOf 63 = .ok (.ior, 1) := by decide +kernel
theorem dX7_fromOf_64 : decode cX7_fromOf 64 = .ok (.istore 4, 2) := by decide +kernel
theorem dX7_fromOf_66 : decode cX7_fromOf 66 = .ok (.iload 4, 2) := by decide +kernel
theorem dX7_fromOf_68 : decode cX7_fromOf 68 = .ok (.aload_n 0, 1) := by decide +kernel
theorem dX7_fromOf_69 : decode cX7_fromOf 69 = .ok (.iload 5, 2) := by decide +kernel
theorem dX7_fromOf_71 : decode cX7_fromOf 71 = .ok (.iconst 3, 1) := by decide +kernel
theorem dX7_fromOf_72 : decode cX7_fromOf 72 = .ok (.invokevirtual 124, 3) := by decide +kernel
theorem dX7_fromOf_75 : decode cX7_fromOf 75 = .ok (.iconst (-1), 1) := by decide +kernel
theorem dX7_fromOf_76 : decode cX7_fromOf 76 = .ok (.if_icmp .ne 7, 3) := by decide +kernel
theorem dX7_fromOf_79 : decode cX7_fromOf 79 = .ok (.iconst 0, 1) := by decide +kernel
theorem dX7_fromOf_80 : decode cX7_fromOf 80 = .ok (.goto 12, 3) := by decide +kernel
theorem dX7_fromOf_83 : decode cX7_fromOf 83 = .ok (.iconst 1, 1) := by decide +kernel
theorem dX7_fromOf_84 : decode cX7_fromOf 84 = .ok (.aload_n 0, 1) := by decide +kernel
theorem dX7_fromOf_85 : decode cX7_fromOf 85 = .ok (.iload 5, 2) := by decide +kernel
theorem dX7_fromOf_87 : decode cX7_fromOf 87 = .ok (.iconst 3, 1) := by decide +kernel
theorem dX7_fromOf_88 : decode cX7_fromOf 88 = .ok (.invokevirtual 124, 3) := by decide +kernel
theorem dX7_fromOf_91 : decode cX7_fromOf 91 = .ok (.ishl, 1) := by decide +kernel
theorem dX7_fromOf_92 : decode cX7_fromOf 92 = .ok (.ior, 1) := by decide +kernel
theorem dX7_fromOf_93 : decode cX7_fromOf 93 = .ok (.istore 4, 2) := by decide +kernel
theorem dX7_fromOf_95 : decode cX7_fromOf 95 = .ok (.iinc 5 1, 3) := by decide +kernel
theorem dX7_fromOf_98 : decode cX7_fromOf 98 = .ok (.goto (-82), 3) := by decide +kernel
theorem dX7_fromOf_101 : decode cX7_fromOf 101 = .ok (.iload 4, 2) := by decide +kernel
theorem dX7_fromOf_103 : decode cX7_fromOf 103 = .ok (.iload_n 2, 1) := by decide +kernel
theorem dX7_fromOf_104 : decode cX7_fromOf 104 = .ok (.iconst (-1), 1) := by decide +kernel
theorem dX7_fromOf_105 : decode cX7_fromOf 105 = .ok (.ixor, 1) := by decide +kernel
theorem dX7_fromOf_106 : decode cX7_fromOf 106 = .ok (.iand, 1) := by decide +kernel
theorem dX7_fromOf_107 : decode cX7_fromOf 107 = .ok (.istore_n 3, 1) := by decide +kernel
theorem dX7_fromOf_108 : decode cX7_fromOf 108 = .ok (.iload_n 2, 1) := by decide +kernel
theorem dX7_fromOf_109 : decode cX7_fromOf 109 = .ok (.iload 4, 2) := by decide +kernel
theorem dX7_fromOf_111 : decode cX7_fromOf 111 = .ok (.ior, 1) := by decide +kernel
theorem dX7_fromOf_112 : decode cX7_fromOf 112 = .ok (.istore_n 2, 1) := by decide +kernel
theorem dX7_fromOf_113 : decode cX7_fromOf 113 = .ok (.goto (-107), 3) := by decide +kernel
theorem dX7_fromOf_116 : decode cX7_fromOf 116 = .ok (.iload_n 2, 1) := by decide +kernel
theorem dX7_fromOf_117 : decode cX7_fromOf 117 = .ok (.ireturn, 1) := by decide +kernel
theorem dX7_aYear_0 : decode cX7_aYear 0 = .ok (.iconst 0, 1) := by decide +kernel
theorem dX7_aYear_1 : decode cX7_aYear 1 = .ok (.istore_n 1, 1) := by decide +kernel
theorem dX7_aYear_2 : decode cX7_aYear 2 = .ok (.iload_n 1, 1) := by decide +kernel
theorem dX7_aYear_3 : decode cX7_aYear 3 = .ok (.aload_n 0, 1) := by decide +kernel
theorem dX7_aYear_4 : decode cX7_aYear 4 = .ok (.getfield 7, 3) := by decide +kernel
theorem dX7_aYear_7 : decode cX7_aYear 7 = .ok (.iconst 4, 1) := by decide +kernel
theorem dX7_aYear_8 : decode cX7_aYear 8 = .ok (.iaload, 1) := by decide +kernel
theorem dX7_aYear_9 : decode cX7_aYear 9 = .ok (.if_icmp .ge 34, 3) := by decide +kernel
theorem dX7_aYear_12 : decode cX7_aYear 12 = .ok (.iconst 0, 1) := by decide +kernel
theorem dX7_aYear_13 : decode cX7_aYear 13 = .ok (.istore_n 2, 1) := by decide +kernel
theorem dX7_aYear_14 : decode cX7_aYear 14 = .ok (.iload_n 2, 1) := by decide +kernel
theorem dX7_aYear_15 : decode cX7_aYear 15 = .ok (.iconst 5, 1) := by decide +kernel
theorem dX7_aYear_16 : decode cX7_aYear 16 = .ok (.if_icmp .ge 21, 3) := by decide +kernel
theorem dX7_aYear_19 : decode cX7_aYear 19 = .ok (.aload_n 0, 1) := by decide +kernel
theorem dX7_aYear_20 : decode cX7_aYear 20 = .ok (.iload_n 1, 1) := by decide +kernel
theorem dX7_aYear_21 : decode cX7_aYear 21 = .ok (.iload_n 2, 1) := by decide +kernel
theorem dX7_aYear_22 : decode cX7_aYear 22 = .ok (.aload_n 0, 1) := by decide +kernel
theorem dX7_aYear_23 : decode cX7_aYear 23 = .ok (.iload_n 1, 1) := by decide +kernel
theorem dX7_aYear_24 : decode cX7_aYear 24 = .ok (.iload_n 2, 1) := by decide +kernel
theorem dX7_aYear_25 : decode cX7_aYear 25 = .ok (.invokevirtual 139, 3) := by decide +kernel
theorem dX7_aYear_28 : decode cX7_aYear 28 = .ok (.invokevirtual 142, 3) := by decide +kernel
theorem dX7_aYear_31 : decode cX7_aYear 31 = .ok (.iinc 2 1, 3) := by decide +kernel
theorem dX7_aYear_34 : decode cX7_aYear 34 = .ok (.goto (-20), 3) := by decide +kernel
theorem dX7_aYear_37 : decode cX7_aYear 37 = .ok (.iinc 1 1, 3) := by decide +kernel
theorem dX7_aYear_40 : decode cX7_aYear 40 = .ok (.goto (-38), 3) := by decide +kernel
theorem dX7_aYear_43 : decode cX7_aYear 43 = .ok (.aload_n 0, 1) := by decide +kernel
theorem dX7_aYear_44 : decode cX7_aYear 44 = .ok (.getfield 7, 3) := by decide +kernel
theorem dX7_aYear_47 : decode cX7_aYear 47 = .ok (.iconst 0, 1) := by decide +kernel
theorem dX7_aYear_48 : decode cX7_aYear 48 = .ok (.dup2, 1) := by decide +kernel
theorem dX7_aYear_49 : decode cX7_aYear 49 = .ok (.iaload, 1) := by decide +kernel
theorem dX7_aYear_50 : decode cX7_aYear 50 = .ok (.iconst 1, 1) := by decide +kernel
theorem dX7_aYear_51 : decode cX7_aYear 51 = .ok (.iadd, 1) := by decide +kernel
theorem dX7_aYear_52 : decode cX7_aYear 52 = .ok (.iastore, 1) := by decide +kernel
theorem dX7_aYear_53 : decode cX7_aYear 53 = .ok (.return_, 1) := by decide +kernel
theorem dX7_draw_0 : decode cX7_draw 0 = .ok (.aload_n 0, 1) := by decide +kernel
theorem dX7_draw_1 : decode cX7_draw 1 = .ok (.getfield 7, 3) := by decide +kernel
theorem dX7_draw_4 : decode cX7_draw 4 = .ok (.iconst 1, 1) := by decide +kernel
theorem dX7_draw_5 : decode cX7_draw 5 = .ok (.aload_n 0, 1) := by decide +kernel
theorem dX7_draw_6 : decode cX7_draw 6 = .ok (.getfield 7, 3) := by decide +kernel
theorem dX7_draw_9 : decode cX7_draw 9 = .ok (.iconst 1, 1) := by decide +kernel
theorem dX7_draw_10 : decode cX7_draw 10 = .ok (.iaload, 1) := by decide +kernel
theorem dX7_draw_11 : decode cX7_draw 11 = .ok (.ldc 146, 2) := by decide +kernel
theorem dX7_draw_13 : decode cX7_draw 13 = .ok (.imul, 1) := by decide +kernel
theorem dX7_draw_14 : decode cX7_draw 14 = .ok (.sipush 12345, 3) := by decide +kernel
theorem dX7_draw_17 : decode cX7_draw 17 = .ok (.iadd, 1) := by decide +kernel
theorem dX7_draw_18 : decode cX7_draw 18 = .ok (.iastore, 1) := by decide +kernel
theorem dX7_draw_19 : decode cX7_draw 19 = .ok (.aload_n 0, 1) := by decide +kernel
theorem dX7_draw_20 : decode cX7_draw 20 = .ok (.getfield 7, 3) := by decide +kernel
theorem dX7_draw_23 : decode cX7_draw 23 = .ok (.iconst 1, 1) := by decide +kernel
theorem dX7_draw_24 : decode cX7_draw 24 = .ok (.iaload, 1) := by decide +kernel
theorem dX7_draw_25 : decode cX7_draw 25 = .ok (.bipush 8, 2) := by decide +kernel
theorem dX7_draw_27 : decode cX7_draw 27 = .ok (.iushr, 1) := by decide +kernel
theorem dX7_draw_28 : decode cX7_draw 28 = .ok (.ireturn, 1) := by decide +kernel
theorem dX7_isKind_0 : decode cX7_isKind 0 = .ok (.iload_n 0, 1) := by decide +kernel
theorem dX7_isKind_1 : decode cX7_isKind 1 = .ok (.iconst 0, 1) := by decide +kernel
theorem dX7_isKind_2 : decode cX7_isKind 2 = .ok (.bipush 69, 2) := by decide +kernel
theorem dX7_isKind_4 : decode cX7_isKind 4 = .ok (.invokestatic 53, 3) := by decide +kernel
theorem dX7_isKind_7 : decode cX7_isKind 7 = .ok (.ireturn, 1) := by decide +kernel
theorem dX7_born_0 : decode cX7_born 0 = .ok (.aload_n 0, 1) := by decide +kernel
theorem dX7_born_1 : decode cX7_born 1 = .ok (.getfield 7, 3) := by decide +kernel
theorem dX7_born_4 : decode cX7_born 4 = .ok (.iconst 4, 1) := by decide +kernel
theorem dX7_born_5 : decode cX7_born 5 = .ok (.iaload, 1) := by decide +kernel
theorem dX7_born_6 : decode cX7_born 6 = .ok (.istore 4, 2) := by decide +kernel
theorem dX7_born_8 : decode cX7_born 8 = .ok (.aload_n 0, 1) := by decide +kernel
theorem dX7_born_9 : decode cX7_born 9 = .ok (.iload 4, 2) := by decide +kernel
theorem dX7_born_11 : decode cX7_born 11 = .ok (.iconst 0, 1) := by decide +kernel
theorem dX7_born_12 : decode cX7_born 12 = .ok (.iload_n 1, 1) := by decide +kernel
theorem dX7_born_13 : decode cX7_born 13 = .ok (.bipush 10, 2) := by decide +kernel
theorem dX7_born_15 : decode cX7_born 15 = .ok (.idiv, 1) := by decide +kernel
theorem dX7_born_16 : decode cX7_born 16 = .ok (.invokevirtual 147, 3) := by decide +kernel
theorem dX7_born_19 : decode cX7_born 19 = .ok (.aload_n 0, 1) := by decide +kernel
theorem dX7_born_20 : decode cX7_born 20 = .ok (.iload 4, 2) := by decide +kernel
theorem dX7_born_22 : decode cX7_born 22 = .ok (.iconst 1, 1) := by decide +kernel
theorem dX7_born_23 : decode cX7_born 23 = .ok (.iload_n 1, 1) := by decide +kernel
theorem dX7_born_24 : decode cX7_born 24 = .ok (.bipush 10, 2) := by decide +kernel
theorem dX7_born_26 : decode cX7_born 26 = .ok (.irem, 1) := by decide +kernel
theorem dX7_born_27 : decode cX7_born 27 = .ok (.invokevirtual 147, 3) := by decide +kernel
theorem dX7_born_30 : decode cX7_born 30 = .ok (.aload_n 0, 1) := by decide +kernel
theorem dX7_born_31 : decode cX7_born 31 = .ok (.iload 4, 2) := by decide +kernel
theorem dX7_born_33 : decode cX7_born 33 = .ok (.iconst 2, 1) := by decide +kernel
theorem dX7_born_34 : decode cX7_born 34 = .ok (.iload_n 2, 1) := by decide +kernel
theorem dX7_born_35 : decode cX7_born 35 = .ok (.invokevirtual 147, 3) := by decide +kernel
theorem dX7_born_38 : decode cX7_born 38 = .ok (.aload_n 0, 1) := by decide +kernel
theorem dX7_born_39 : decode cX7_born 39 = .ok (.iload 4, 2) := by decide +kernel
theorem dX7_born_41 : decode cX7_born 41 = .ok (.iconst 3, 1) := by decide +kernel
theorem dX7_born_42 : decode cX7_born 42 = .ok (.iload_n 3, 1) := by decide +kernel
theorem dX7_born_43 : decode cX7_born 43 = .ok (.invokevirtual 147, 3) := by decide +kernel
theorem dX7_born_46 : decode cX7_born 46 = .ok (.iconst 0, 1) := by decide +kernel
theorem dX7_born_47 : decode cX7_born 47 = .ok (.istore 5, 2) := by decide +kernel
theorem dX7_born_49 : decode cX7_born 49 = .ok (.iload 5, 2) := by decide +kernel
theorem dX7_born_51 : decode cX7_born 51 = .ok (.iconst 5, 1) := by decide +kernel
theorem dX7_born_52 : decode cX7_born 52 = .ok (.if_icmp .ge 50, 3) := by decide +kernel
theorem dX7_born_55 : decode cX7_born 55 = .ok (.aload_n 0, 1) := by decide +kernel
theorem dX7_born_56 : decode cX7_born 56 = .ok (.getfield 7, 3) := by decide +kernel
theorem dX7_born_59 : decode cX7_born 59 = .ok (.bipush 38, 2) := by decide +kernel
theorem dX7_born_61 : decode cX7_born 61 = .ok (.iconst 5, 1) := by decide +kernel
theorem dX7_born_62 : decode cX7_born 62 = .ok (.iload 4, 2) := by decide +kernel
theorem dX7_born_64 : decode cX7_born 64 = .ok (.imul, 1) := by decide +kernel
theorem dX7_born_65 : decode cX7_born 65 = .ok (.iadd, 1) := by decide +kernel
theorem dX7_born_66 : decode cX7_born 66 = .ok (.iload 5, 2) := by decide +kernel
theorem dX7_born_68 : decode cX7_born 68 = .ok (.iadd, 1) := by decide +kernel
theorem dX7_born_69 : decode cX7_born 69 = .ok (.iload_n 2, 1) := by decide +kernel
theorem dX7_born_70 : decode cX7_born 70 = .ok (.iconst (-1), 1) := by decide +kernel
theorem dX7_born_71 : decode cX7_born 71 = .ok (.if_icmp .ne 7, 3) := by decide +kernel
theorem dX7_born_74 : decode cX7_born 74 = .ok (.iconst 0, 1) := by decide +kernel
theorem dX7_born_75 : decode cX7_born 75 = .ok (.goto 20, 3) := by decide +kernel
theorem dX7_born_78 : decode cX7_born 78 = .ok (.aload_n 0, 1) := by decide +kernel
theorem dX7_born_79 : decode cX7_born 79 = .ok (.iload_n 2, 1) := by decide +kernel
theorem dX7_born_80 : decode cX7_born 80 = .ok (.iload 5, 2) := by decide +kernel
theorem dX7_born_82 : decode cX7_born 82 = .ok (.invokevirtual 57, 3) := by decide +kernel
theorem dX7_born_85 : decode cX7_born 85 = .ok (.aload_n 0, 1) := by decide +kernel
theorem dX7_born_86 : decode cX7_born 86 = .ok (.iload_n 3, 1) := by decide +kernel
theorem dX7_born_87 : decode cX7_born 87 = .ok (.iload 5, 2) := by decide +kernel
theorem dX7_born_89 : decode cX7_born 89 = .ok (.invokevirtual 57, 3) := by decide +kernel
theorem dX7_born_92 : decode cX7_born 92 = .ok (.iadd, 1) := by decide +kernel
theorem dX7_born_93 : decode cX7_born 93 = .ok (.iconst 2, 1) := by decide +kernel
theorem dX7_born_94 : decode cX7_born 94 = .ok (.idiv, 1) := by decide +kernel
theorem dX7_born_95 : decode cX7_born 95 = .ok (.iastore, 1) := by decide +kernel
theorem dX7_born_96 : decode cX7_born 96 = .ok (.iinc 5 1, 3) := by decide +kernel
theorem dX7_born_99 : decode cX7_born 99 = .ok (.goto (-50), 3) := by decide +kernel
theorem dX7_born_102 : decode cX7_born 102 = .ok (.iconst 0, 1) := by decide +kernel
theorem dX7_born_103 : decode cX7_born 103 = .ok (.istore 5, 2) := by decide +kernel
theorem dX7_born_105 : decode cX7_born 105 = .ok (.iload 5, 2) := by decide +kernel
theorem dX7_born_107 : decode cX7_born 107 = .ok (.bipush 8, 2) := by decide +kernel
theorem dX7_born_109 : decode cX7_born 109 = .ok (.if_icmp .ge 43, 3) := by decide +kernel
theorem dX7_born_112 : decode cX7_born 112 = .ok (.aload_n 0, 1) := by decide +kernel
theorem dX7_born_113 : decode cX7_born 113 = .ok (.getfield 7, 3) := by decide +kernel
theorem dX7_born_116 : decode cX7_born 116 = .ok (.bipush 78, 2) := by decide +kernel
theorem dX7_born_118 : decode cX7_born 118 = .ok (.bipush 8, 2) := by decide +kernel
theorem dX7_born_120 : decode cX7_born 120 = .ok (.iload 4, 2) := by decide +kernel
theorem dX7_born_122 : decode cX7_born 122 = .ok (.imul, 1) := by decide +kernel
theorem dX7_born_123 : decode cX7_born 123 = .ok (.iadd, 1) := by decide +kernel
theorem dX7_born_124 : decode cX7_born 124 = .ok (.iload 5, 2) := by decide +kernel
theorem dX7_born_126 : decode cX7_born 126 = .ok (.iadd, 1) := by decide +kernel
theorem dX7_born_127 : decode cX7_born 127 = .ok (.iconst 0, 1) := by decide +kernel
theorem dX7_born_128 : decode cX7_born 128 = .ok (.iastore, 1) := by decide +kernel
theorem dX7_born_129 : decode cX7_born 129 = .ok (.aload_n 0, 1) := by decide +kernel
theorem dX7_born_130 : decode cX7_born 130 = .ok (.getfield 7, 3) := by decide +kernel
theorem dX7_born_133 : decode cX7_born 133 = .ok (.bipush 78, 2) := by decide +kernel
theorem dX7_born_135 : decode cX7_born 135 = .ok (.bipush 8, 2) := by decide +kernel
theorem dX7_born_137 : decode cX7_born 137 = .ok (.iload 5, 2) := by decide +kernel
theorem dX7_born_139 : decode cX7_born 139 = .ok (.imul, 1) := by decide +kernel
theorem dX7_born_140 : decode cX7_born 140 = .ok (.iadd, 1) := by decide +kernel
theorem dX7_born_141 : decode cX7_born 141 = .ok (.iload 4, 2) := by decide +kernel
theorem dX7_born_143 : decode cX7_born 143 = .ok (.iadd, 1) := by decide +kernel
theorem dX7_born_144 : decode cX7_born 144 = .ok (.iconst 0, 1) := by decide +kernel
theorem dX7_born_145 : decode cX7_born 145 = .ok (.iastore, 1) := by decide +kernel
theorem dX7_born_146 : decode cX7_born 146 = .ok (.iinc 5 1, 3) := by decide +kernel
theorem dX7_born_149 : decode cX7_born 149 = .ok (.goto (-44), 3) := by decide +kernel
theorem dX7_born_152 : decode cX7_born 152 = .ok (.aload_n 0, 1) := by decide +kernel
theorem dX7_born_153 : decode cX7_born 153 = .ok (.getfield 7, 3) := by decide +kernel
theorem dX7_born_156 : decode cX7_born 156 = .ok (.iconst 4, 1) := by decide +kernel
theorem dX7_born_157 : decode cX7_born 157 = .ok (.dup2, 1) := by decide +kernel
theorem dX7_born_158 : decode cX7_born 158 = .ok (.iaload, 1) := by decide +kernel
theorem dX7_born_159 : decode cX7_born 159 = .ok (.iconst 1, 1) := by decide +kernel
theorem dX7_born_160 : decode cX7_born 160 = .ok (.iadd, 1) := by decide +kernel
theorem dX7_born_161 : decode cX7_born 161 = .ok (.iastore, 1) := by decide +kernel
theorem dX7_born_162 : decode cX7_born 162 = .ok (.iload 4, 2) := by decide +kernel
theorem dX7_born_164 : decode cX7_born 164 = .ok (.ireturn, 1) := by decide +kernel
theorem dX7_person_0 : decode cX7_person 0 = .ok (.iload_n 1, 1) := by decide +kernel
theorem dX7_person_1 : decode cX7_person 1 = .ok (.invokestatic 150, 3) := by decide +kernel
theorem dX7_person_4 : decode cX7_person 4 = .ok (.ifCond .ne 9, 3) := by decide +kernel
theorem dX7_person_7 : decode cX7_person 7 = .ok (.aload_n 0, 1) := by decide +kernel
theorem dX7_person_8 : decode cX7_person 8 = .ok (.iconst 1, 1) := by decide +kernel
theorem dX7_person_9 : decode cX7_person 9 = .ok (.invokevirtual 65, 3) := by decide +kernel
theorem dX7_person_12 : decode cX7_person 12 = .ok (.ireturn, 1) := by decide +kernel
theorem dX7_person_13 : decode cX7_person 13 = .ok (.aload_n 0, 1) := by decide +kernel
theorem dX7_person_14 : decode cX7_person 14 = .ok (.getfield 7, 3) := by decide +kernel
theorem dX7_person_17 : decode cX7_person 17 = .ok (.iconst 4, 1) := by decide +kernel
theorem dX7_person_18 : decode cX7_person 18 = .ok (.iaload, 1) := by decide +kernel
theorem dX7_person_19 : decode cX7_person 19 = .ok (.bipush 8, 2) := by decide +kernel
theorem dX7_person_21 : decode cX7_person 21 = .ok (.if_icmp .ne 11, 3) := by decide +kernel
theorem dX7_person_24 : decode cX7_person 24 = .ok (.aload_n 0, 1) := by decide +kernel
theorem dX7_person_25 : decode cX7_person 25 = .ok (.iconst 4, 1) := by decide +kernel
theorem dX7_person_26 : decode cX7_person 26 = .ok (.invokevirtual 65, 3) := by decide +kernel
theorem dX7_person_29 : decode cX7_person 29 = .ok (.goto 10, 3) := by decide +kernel
theorem dX7_person_32 : decode cX7_person 32 = .ok (.aload_n 0, 1) := by decide +kernel
theorem dX7_person_33 : decode cX7_person 33 = .ok (.iload_n 1, 1) := by decide +kernel
theorem dX7_person_34 : decode cX7_person 34 = .ok (.iconst (-1), 1) := by decide +kernel
theorem dX7_person_35 : decode cX7_person 35 = .ok (.iconst (-1), 1) := by decide +kernel
theorem dX7_person_36 : decode cX7_person 36 = .ok (.invokevirtual 153, 3) := by decide +kernel
theorem dX7_person_39 : decode cX7_person 39 = .ok (.ireturn, 1) := by decide +kernel
theorem dX7_areTwo_0 : decode cX7_areTwo 0 = .ok (.aload_n 0, 1) := by decide +kernel
theorem dX7_areTwo_1 : decode cX7_areTwo 1 = .ok (.iload_n 1, 1) := by decide +kernel
theorem dX7_areTwo_2 : decode cX7_areTwo 2 = .ok (.invokevirtual 156, 3) := by decide +kernel
theorem dX7_areTwo_5 : decode cX7_areTwo 5 = .ok (.ifCond .eq 20, 3) := by decide +kernel
theorem dX7_areTwo_8 : decode cX7_areTwo 8 = .ok (.aload_n 0, 1) := by decide +kernel
theorem dX7_areTwo_9 : decode cX7_areTwo 9 = .ok (.iload_n 2, 1) := by decide +kernel
theorem dX7_areTwo_10 : decode cX7_areTwo 10 = .ok (.invokevirtual 156, 3) := by decide +kernel
theorem dX7_areTwo_13 : decode cX7_areTwo 13 = .ok (.ifCond .eq 12, 3) := by decide +kernel
theorem dX7_areTwo_16 : decode cX7_areTwo 16 = .ok (.iload_n 1, 1) := by decide +kernel
theorem dX7_areTwo_17 : decode cX7_areTwo 17 = .ok (.iload_n 2, 1) := by decide +kernel
theorem dX7_areTwo_18 : decode cX7_areTwo 18 = .ok (.if_icmp .eq 7, 3) := by decide +kernel
theorem dX7_areTwo_21 : decode cX7_areTwo 21 = .ok (.iconst 1, 1) := by decide +kernel
theorem dX7_areTwo_22 : decode cX7_areTwo 22 = .ok (.goto 4, 3) := by decide +kernel
theorem dX7_areTwo_25 : decode cX7_areTwo 25 = .ok (.iconst 0, 1) := by decide +kernel
theorem dX7_areTwo_26 : decode cX7_areTwo 26 = .ok (.ireturn, 1) := by decide +kernel
theorem dX7_child_0 : decode cX7_child 0 = .ok (.iload_n 1, 1) := by decide +kernel
theorem dX7_child_1 : decode cX7_child 1 = .ok (.invokestatic 150, 3) := by decide +kernel
theorem dX7_child_4 : decode cX7_child 4 = .ok (.ifCond .eq 12, 3) := by decide +kernel
theorem dX7_child_7 : decode cX7_child 7 = .ok (.aload_n 0, 1) := by decide +kernel
theorem dX7_child_8 : decode cX7_child 8 = .ok (.iload_n 2, 1) := by decide +kernel
theorem dX7_child_9 : decode cX7_child 9 = .ok (.iload_n 3, 1) := by decide +kernel
theorem dX7_child_10 : decode cX7_child 10 = .ok (.invokevirtual 159, 3) := by decide +kernel
theorem dX7_child_13 : decode cX7_child 13 = .ok (.ifCond .ne 9, 3) := by decide +kernel
theorem dX7_child_16 : decode cX7_child 16 = .ok (.aload_n 0, 1) := by decide +kernel
theorem dX7_child_17 : decode cX7_child 17 = .ok (.iconst 1, 1) := by decide +kernel
theorem dX7_child_18 : decode cX7_child 18 = .ok (.invokevirtual 65, 3) := by decide +kernel
theorem dX7_child_21 : decode cX7_child 21 = .ok (.ireturn, 1) := by decide +kernel
theorem dX7_child_22 : decode cX7_child 22 = .ok (.aload_n 0, 1) := by decide +kernel
theorem dX7_child_23 : decode cX7_child 23 = .ok (.getfield 7, 3) := by decide +kernel
theorem dX7_child_26 : decode cX7_child 26 = .ok (.iconst 4, 1) := by decide +kernel
theorem dX7_child_27 : decode cX7_child 27 = .ok (.iaload, 1) := by decide +kernel
theorem dX7_child_28 : decode cX7_child 28 = .ok (.bipush 8, 2) := by decide +kernel
theorem dX7_child_30 : decode cX7_child 30 = .ok (.if_icmp .ne 11, 3) := by decide +kernel
theorem dX7_child_33 : decode cX7_child 33 = .ok (.aload_n 0, 1) := by decide +kernel
theorem dX7_child_34 : decode cX7_child 34 = .ok (.iconst 4, 1) := by decide +kernel
theorem dX7_child_35 : decode cX7_child 35 = .ok (.invokevirtual 65, 3) := by decide +kernel
theorem dX7_child_38 : decode cX7_child 38 = .ok (.goto 10, 3) := by decide +kernel
theorem dX7_child_41 : decode cX7_child 41 = .ok (.aload_n 0, 1) := by decide +kernel
theorem dX7_child_42 : decode cX7_child 42 = .ok (.iload_n 1, 1) := by decide +kernel
theorem dX7_child_43 : decode cX7_child 43 = .ok (.iload_n 2, 1) := by decide +kernel
theorem dX7_child_44 : decode cX7_child 44 = .ok (.iload_n 3, 1) := by decide +kernel
theorem dX7_child_45 : decode cX7_child 45 = .ok (.invokevirtual 153, 3) := by decide +kernel
theorem dX7_child_48 : decode cX7_child 48 = .ok (.ireturn, 1) := by decide +kernel
theorem dX7_personIs_0 : decode cX7_personIs 0 = .ok (.aload_n 0, 1) := by decide +kernel
theorem dX7_personIs_1 : decode cX7_personIs 1 = .ok (.iload_n 1, 1) := by decide +kernel
theorem dX7_personIs_2 : decode cX7_personIs 2 = .ok (.invokevirtual 156, 3) := by decide +kernel
theorem dX7_personIs_5 : decode cX7_personIs 5 = .ok (.ifCond .eq 13, 3) := by decide +kernel
theorem dX7_personIs_8 : decode cX7_personIs 8 = .ok (.iload_n 2, 1) := by decide +kernel
theorem dX7_personIs_9 : decode cX7_personIs 9 = .ok (.iconst 0, 1) := by decide +kernel
theorem dX7_personIs_10 : decode cX7_personIs 10 = .ok (.bipush 6, 2) := by decide +kernel
theorem dX7_personIs_12 : decode cX7_personIs 12 = .ok (.invokestatic 53, 3) := by decide +kernel
theorem dX7_personIs_15 : decode cX7_personIs 15 = .ok (.ifCond .ne 9, 3) := by decide +kernel
theorem dX7_personIs_18 : decode cX7_personIs 18 = .ok (.aload_n 0, 1) := by decide +kernel
theorem dX7_personIs_19 : decode cX7_personIs 19 = .ok (.iconst 1, 1) := by decide +kernel
theorem dX7_personIs_20 : decode cX7_personIs 20 = .ok (.invokevirtual 65, 3) := by decide +kernel
theorem dX7_personIs_23 : decode cX7_personIs 23 = .ok (.ireturn, 1) := by decide +kernel
theorem dX7_personIs_24 : decode cX7_personIs 24 = .ok (.iload_n 2, 1) := by decide +kernel
theorem dX7_personIs_25 : decode cX7_personIs 25 = .ok (.iconst 4, 1) := by decide +kernel
theorem dX7_personIs_26 : decode cX7_personIs 26 = .ok (.if_icmp .ge 12, 3) := by decide +kernel
theorem dX7_personIs_29 : decode cX7_personIs 29 = .ok (.aload_n 0, 1) := by decide +kernel
theorem dX7_personIs_30 : decode cX7_personIs 30 = .ok (.iload_n 1, 1) := by decide +kernel
theorem dX7_personIs_31 : decode cX7_personIs 31 = .ok (.iload_n 2, 1) := by decide +kernel
theorem dX7_personIs_32 : decode cX7_personIs 32 = .ok (.invokevirtual 124, 3) := by decide +kernel
theorem dX7_personIs_35 : decode cX7_personIs 35 = .ok (.goto 34, 3) := by decide +kernel
theorem dX7_personIs_38 : decode cX7_personIs 38 = .ok (.iload_n 2, 1) := by decide +kernel
theorem dX7_personIs_39 : decode cX7_personIs 39 = .ok (.iconst 4, 1) := by decide +kernel
theorem dX7_personIs_40 : decode cX7_personIs 40 = .ok (.if_icmp .ne 11, 3) := by decide +kernel
theorem dX7_personIs_43 : decode cX7_personIs 43 = .ok (.aload_n 0, 1) := by decide +kernel
theorem dX7_personIs_44 : decode cX7_personIs 44 = .ok (.iload_n 1, 1) := by decide +kernel
theorem dX7_personIs_45 : decode cX7_personIs 45 = .ok (.invokevirtual 163, 3) := by decide +kernel
theorem dX7_personIs_48 : decode cX7_personIs 48 = .ok (.goto 21, 3) := by decide +kernel
theorem dX7_personIs_51 : decode cX7_personIs 51 = .ok (.iload_n 2, 1) := by decide +kernel
theorem dX7_personIs_52 : decode cX7_personIs 52 = .ok (.iconst 5, 1) := by decide +kernel
theorem dX7_personIs_53 : decode cX7_personIs 53 = .ok (.if_icmp .ne 11, 3) := by decide +kernel
theorem dX7_personIs_56 : decode cX7_personIs 56 = .ok (.aload_n 0, 1) := by decide +kernel
theorem dX7_personIs_57 : decode cX7_personIs 57 = .ok (.iload_n 1, 1) := by decide +kernel
theorem dX7_personIs_58 : decode cX7_personIs 58 = .ok (.invokevirtual 166, 3) := by decide +kernel
theorem dX7_personIs_61 : decode cX7_personIs 61 = .ok (.goto 8, 3) := by decide +kernel
theorem dX7_personIs_64 : decode cX7_personIs 64 = .ok (.aload_n 0, 1) := by decide +kernel
theorem dX7_personIs_65 : decode cX7_personIs 65 = .ok (.iload_n 1, 1) := by decide +kernel
theorem dX7_personIs_66 : decode cX7_personIs 66 = .ok (.invokevirtual 169, 3) := by decide +kernel
theorem dX7_personIs_69 : decode cX7_personIs 69 = .ok (.ireturn, 1) := by decide +kernel
theorem dX7_become_0 : decode cX7_become 0 = .ok (.aload_n 0, 1) := by decide +kernel
theorem dX7_become_1 : decode cX7_become 1 = .ok (.iload_n 1, 1) := by decide +kernel
theorem dX7_become_2 : decode cX7_become 2 = .ok (.invokevirtual 156, 3) := by decide +kernel
theorem dX7_become_5 : decode cX7_become 5 = .ok (.ifCond .eq 10, 3) := by decide +kernel
theorem dX7_become_8 : decode cX7_become 8 = .ok (.iload_n 2, 1) := by decide +kernel
theorem dX7_become_9 : decode cX7_become 9 = .ok (.invokestatic 150, 3) := by decide +kernel
theorem dX7_become_12 : decode cX7_become 12 = .ok (.ifCond .ne 9, 3) := by decide +kernel
theorem dX7_become_15 : decode cX7_become 15 = .ok (.aload_n 0, 1) := by decide +kernel
theorem dX7_become_16 : decode cX7_become 16 = .ok (.iconst 1, 1) := by decide +kernel
theorem dX7_become_17 : decode cX7_become 17 = .ok (.invokevirtual 65, 3) := by decide +kernel
theorem dX7_become_20 : decode cX7_become 20 = .ok (.ireturn, 1) := by decide +kernel
theorem dX7_become_21 : decode cX7_become 21 = .ok (.aload_n 0, 1) := by decide +kernel
theorem dX7_become_22 : decode cX7_become 22 = .ok (.iload_n 1, 1) := by decide +kernel
theorem dX7_become_23 : decode cX7_become 23 = .ok (.iconst 1, 1) := by decide +kernel
theorem dX7_become_24 : decode cX7_become 24 = .ok (.iload_n 2, 1) := by decide +kernel
theorem dX7_become_25 : decode cX7_become 25 = .ok (.bipush 10, 2) := by decide +kernel
theorem dX7_become_27 : decode cX7_become 27 = .ok (.irem, 1) := by decide +kernel
theorem dX7_become_28 : decode cX7_become 28 = .ok (.invokevirtual 147, 3) := by decide +kernel
theorem dX7_become_31 : decode cX7_become 31 = .ok (.aload_n 0, 1) := by decide +kernel
theorem dX7_become_32 : decode cX7_become 32 = .ok (.bipush 6, 2) := by decide +kernel
theorem dX7_become_34 : decode cX7_become 34 = .ok (.iconst 4, 1) := by decide +kernel
theorem dX7_become_35 : decode cX7_become 35 = .ok (.iload_n 1, 1) := by decide +kernel
theorem dX7_become_36 : decode cX7_become 36 = .ok (.imul, 1) := by decide +kernel
theorem dX7_become_37 : decode cX7_become 37 = .ok (.iadd, 1) := by decide +kernel
theorem dX7_become_38 : decode cX7_become 38 = .ok (.iconst 0, 1) := by decide +kernel
theorem dX7_become_39 : decode cX7_become 39 = .ok (.iadd, 1) := by decide +kernel
theorem dX7_become_40 : decode cX7_become 40 = .ok (.iload_n 2, 1) := by decide +kernel
theorem dX7_become_41 : decode cX7_become 41 = .ok (.bipush 10, 2) := by decide +kernel
theorem dX7_become_43 : decode cX7_become 43 = .ok (.idiv, 1) := by decide +kernel
theorem dX7_become_44 : decode cX7_become 44 = .ok (.invokevirtual 172, 3) := by decide +kernel
theorem dX7_become_47 : decode cX7_become 47 = .ok (.ireturn, 1) := by decide +kernel
theorem dX7_as_0 : decode cX7_as 0 = .ok (.aload_n 0, 1) := by decide +kernel
theorem dX7_as_1 : decode cX7_as 1 = .ok (.iload_n 1, 1) := by decide +kernel
theorem dX7_as_2 : decode cX7_as 2 = .ok (.invokevirtual 156, 3) := by decide +kernel
theorem dX7_as_5 : decode cX7_as 5 = .ok (.ifCond .eq 13, 3) := by decide +kernel
theorem dX7_as_8 : decode cX7_as 8 = .ok (.iload_n 2, 1) := by decide +kernel
theorem dX7_as_9 : decode cX7_as 9 = .ok (.iconst 0, 1) := by decide +kernel
theorem dX7_as_10 : decode cX7_as 10 = .ok (.bipush 6, 2) := by decide +kernel
theorem dX7_as_12 : decode cX7_as 12 = .ok (.invokestatic 53, 3) := by decide +kernel
theorem dX7_as_15 : decode cX7_as 15 = .ok (.ifCond .ne 9, 3) := by decide +kernel
theorem dX7_as_18 : decode cX7_as 18 = .ok (.aload_n 0, 1) := by decide +kernel
theorem dX7_as_19 : decode cX7_as 19 = .ok (.iconst 1, 1) := by decide +kernel
theorem dX7_as_20 : decode cX7_as 20 = .ok (.invokevirtual 65, 3) := by decide +kernel
theorem dX7_as_23 : decode cX7_as 23 = .ok (.ireturn, 1) := by decide +kernel
theorem dX7_as_24 : decode cX7_as 24 = .ok (.aload_n 0, 1) := by decide +kernel
theorem dX7_as_25 : decode cX7_as 25 = .ok (.iload_n 1, 1) := by decide +kernel
theorem dX7_as_26 : decode cX7_as 26 = .ok (.iconst 0, 1) := by decide +kernel
theorem dX7_as_27 : decode cX7_as 27 = .ok (.invokevirtual 124, 3) := by decide +kernel
theorem dX7_as_30 : decode cX7_as 30 = .ok (.istore_n 3, 1) := by decide +kernel
theorem dX7_as_31 : decode cX7_as 31 = .ok (.iload_n 3, 1) := by decide +kernel
theorem dX7_as_32 : decode cX7_as 32 = .ok (.iload_n 2, 1) := by decide +kernel
theorem dX7_as_33 : decode cX7_as 33 = .ok (.if_icmp .eq 15, 3) := by decide +kernel
theorem dX7_as_36 : decode cX7_as 36 = .ok (.iload_n 3, 1) := by decide +kernel
theorem dX7_as_37 : decode cX7_as 37 = .ok (.ifCond .eq 11, 3) := by decide +kernel
theorem dX7_as_40 : decode cX7_as 40 = .ok (.iload_n 3, 1) := by decide +kernel
theorem dX7_as_41 : decode cX7_as 41 = .ok (.invokestatic 175, 3) := by decide +kernel
theorem dX7_as_44 : decode cX7_as 44 = .ok (.istore_n 3, 1) := by decide +kernel
theorem dX7_as_45 : decode cX7_as 45 = .ok (.goto (-14), 3) := by decide +kernel
theorem dX7_as_48 : decode cX7_as 48 = .ok (.iload_n 3, 1) := by decide +kernel
theorem dX7_as_49 : decode cX7_as 49 = .ok (.iload_n 2, 1) := by decide +kernel
theorem dX7_as_50 : decode cX7_as 50 = .ok (.if_icmp .ne 12, 3) := by decide +kernel
theorem dX7_as_53 : decode cX7_as 53 = .ok (.aload_n 0, 1) := by decide +kernel
theorem dX7_as_54 : decode cX7_as 54 = .ok (.iload_n 1, 1) := by decide +kernel
theorem dX7_as_55 : decode cX7_as 55 = .ok (.iconst 1, 1) := by decide +kernel
theorem dX7_as_56 : decode cX7_as 56 = .ok (.invokevirtual 124, 3) := by decide +kernel
theorem dX7_as_59 : decode cX7_as 59 = .ok (.goto 8, 3) := by decide +kernel
theorem dX7_as_62 : decode cX7_as 62 = .ok (.aload_n 0, 1) := by decide +kernel
theorem dX7_as_63 : decode cX7_as 63 = .ok (.iconst 5, 1) := by decide +kernel
theorem dX7_as_64 : decode cX7_as 64 = .ok (.invokevirtual 65, 3) := by decide +kernel
theorem dX7_as_67 : decode cX7_as 67 = .ok (.ireturn, 1) := by decide +kernel
theorem dX7_hold_0 : decode cX7_hold 0 = .ok (.aload_n 0, 1) := by decide +kernel
theorem dX7_hold_1 : decode cX7_hold 1 = .ok (.iload_n 1, 1) := by decide +kernel
theorem dX7_hold_2 : decode cX7_hold 2 = .ok (.invokevirtual 156, 3) := by decide +kernel
theorem dX7_hold_5 : decode cX7_hold 5 = .ok (.ifCond .eq 19, 3) := by decide +kernel
theorem dX7_hold_8 : decode cX7_hold 8 = .ok (.iload_n 2, 1) := by decide +kernel
theorem dX7_hold_9 : decode cX7_hold 9 = .ok (.invokestatic 178, 3) := by decide +kernel
theorem dX7_hold_12 : decode cX7_hold 12 = .ok (.ifCond .eq 12, 3) := by decide +kernel
theorem dX7_hold_15 : decode cX7_hold 15 = .ok (.aload_n 0, 1) := by decide +kernel
theorem dX7_hold_16 : decode cX7_hold 16 = .ok (.iload_n 1, 1) := by decide +kernel
theorem dX7_hold_17 : decode cX7_hold 17 = .ok (.iload_n 2, 1) := by decide +kernel
theorem dX7_hold_18 : decode cX7_hold 18 = .ok (.invokevirtual 57, 3) := by decide +kernel
theorem dX7_hold_21 : decode cX7_hold 21 = .ok (.goto 8, 3) := by decide +kernel
theorem dX7_hold_24 : decode cX7_hold 24 = .ok (.aload_n 0, 1) := by decide +kernel
theorem dX7_hold_25 : decode cX7_hold 25 = .ok (.iconst 1, 1) := by decide +kernel
theorem dX7_hold_26 : decode cX7_hold 26 = .ok (.invokevirtual 65, 3) := by decide +kernel
theorem dX7_hold_29 : decode cX7_hold 29 = .ok (.ireturn, 1) := by decide +kernel
theorem dX7_spoon_0 : decode cX7_spoon 0 = .ok (.aload_n 0, 1) := by decide +kernel
theorem dX7_spoon_1 : decode cX7_spoon 1 = .ok (.iload_n 1, 1) := by decide +kernel
theorem dX7_spoon_2 : decode cX7_spoon 2 = .ok (.invokevirtual 156, 3) := by decide +kernel
theorem dX7_spoon_5 : decode cX7_spoon 5 = .ok (.ifCond .eq 36, 3) := by decide +kernel
theorem dX7_spoon_8 : decode cX7_spoon 8 = .ok (.iload_n 2, 1) := by decide +kernel
theorem dX7_spoon_9 : decode cX7_spoon 9 = .ok (.invokestatic 178, 3) := by decide +kernel
theorem dX7_spoon_12 : decode cX7_spoon 12 = .ok (.ifCond .eq 29, 3) := by decide +kernel
theorem dX7_spoon_15 : decode cX7_spoon 15 = .ok (.iload_n 3, 1) := by decide +kernel
theorem dX7_spoon_16 : decode cX7_spoon 16 = .ok (.iconst 0, 1) := by decide +kernel
theorem dX7_spoon_17 : decode cX7_spoon 17 = .ok (.bipush 99, 2) := by decide +kernel
theorem dX7_spoon_19 : decode cX7_spoon 19 = .ok (.invokestatic 53, 3) := by decide +kernel
theorem dX7_spoon_22 : decode cX7_spoon 22 = .ok (.ifCond .eq 19, 3) := by decide +kernel
theorem dX7_spoon_25 : decode cX7_spoon 25 = .ok (.aload_n 0, 1) := by decide +kernel
theorem dX7_spoon_26 : decode cX7_spoon 26 = .ok (.bipush 38, 2) := by decide +kernel
theorem dX7_spoon_28 : decode cX7_spoon 28 = .ok (.iconst 5, 1) := by decide +kernel
theorem dX7_spoon_29 : decode cX7_spoon 29 = .ok (.iload_n 1, 1) := by decide +kernel
theorem dX7_spoon_30 : decode cX7_spoon 30 = .ok (.imul, 1) := by decide +kernel
theorem dX7_spoon_31 : decode cX7_spoon 31 = .ok (.iadd, 1) := by decide +kernel
theorem dX7_spoon_32 : decode cX7_spoon 32 = .ok (.iload_n 2, 1) := by decide +kernel
theorem dX7_spoon_33 : decode cX7_spoon 33 = .ok (.iadd, 1) := by decide +kernel
theorem dX7_spoon_34 : decode cX7_spoon 34 = .ok (.iload_n 3, 1) := by decide +kernel
theorem dX7_spoon_35 : decode cX7_spoon 35 = .ok (.invokevirtual 172, 3) := by decide +kernel
theorem dX7_spoon_38 : decode cX7_spoon 38 = .ok (.goto 8, 3) := by decide +kernel
theorem dX7_spoon_41 : decode cX7_spoon 41 = .ok (.aload_n 0, 1) := by decide +kernel
theorem dX7_spoon_42 : decode cX7_spoon 42 = .ok (.iconst 1, 1) := by decide +kernel
theorem dX7_spoon_43 : decode cX7_spoon 43 = .ok (.invokevirtual 65, 3) := by decide +kernel
theorem dX7_spoon_46 : decode cX7_spoon 46 = .ok (.ireturn, 1) := by decide +kernel
theorem dX7_gain_0 : decode cX7_gain 0 = .ok (.aload_n 0, 1) := by decide +kernel
theorem dX7_gain_1 : decode cX7_gain 1 = .ok (.iload_n 1, 1) := by decide +kernel
theorem dX7_gain_2 : decode cX7_gain 2 = .ok (.invokevirtual 156, 3) := by decide +kernel
theorem dX7_gain_5 : decode cX7_gain 5 = .ok (.ifCond .eq 19, 3) := by decide +kernel
theorem dX7_gain_8 : decode cX7_gain 8 = .ok (.iload_n 2, 1) := by decide +kernel
theorem dX7_gain_9 : decode cX7_gain 9 = .ok (.invokestatic 178, 3) := by decide +kernel
theorem dX7_gain_12 : decode cX7_gain 12 = .ok (.ifCond .eq 12, 3) := by decide +kernel
theorem dX7_gain_15 : decode cX7_gain 15 = .ok (.aload_n 0, 1) := by decide +kernel
theorem dX7_gain_16 : decode cX7_gain 16 = .ok (.iload_n 1, 1) := by decide +kernel
theorem dX7_gain_17 : decode cX7_gain 17 = .ok (.iload_n 2, 1) := by decide +kernel
theorem dX7_gain_18 : decode cX7_gain 18 = .ok (.invokevirtual 139, 3) := by decide +kernel
theorem dX7_gain_21 : decode cX7_gain 21 = .ok (.goto 8, 3) := by decide +kernel
theorem dX7_gain_24 : decode cX7_gain 24 = .ok (.aload_n 0, 1) := by decide +kernel
theorem dX7_gain_25 : decode cX7_gain 25 = .ok (.iconst 1, 1) := by decide +kernel
theorem dX7_gain_26 : decode cX7_gain 26 = .ok (.invokevirtual 65, 3) := by decide +kernel
theorem dX7_gain_29 : decode cX7_gain 29 = .ok (.ireturn, 1) := by decide +kernel
theorem dX7_areGiven_0 : decode cX7_areGiven 0 = .ok (.aload_n 0, 1) := by decide +kernel
theorem dX7_areGiven_1 : decode cX7_areGiven 1 = .ok (.iload_n 1, 1) := by decide +kernel
theorem dX7_areGiven_2 : decode cX7_areGiven 2 = .ok (.iload_n 2, 1) := by decide +kernel
theorem dX7_areGiven_3 : decode cX7_areGiven 3 = .ok (.invokevirtual 159, 3) := by decide +kernel
theorem dX7_areGiven_6 : decode cX7_areGiven 6 = .ok (.ifCond .eq 25, 3) := by decide +kernel
theorem dX7_areGiven_9 : decode cX7_areGiven 9 = .ok (.iload_n 3, 1) := by decide +kernel
theorem dX7_areGiven_10 : decode cX7_areGiven 10 = .ok (.invokestatic 178, 3) := by decide +kernel
theorem dX7_areGiven_13 : decode cX7_areGiven 13 = .ok (.ifCond .eq 18, 3) := by decide +kernel
theorem dX7_areGiven_16 : decode cX7_areGiven 16 = .ok (.iload 4, 2) := by decide +kernel
theorem dX7_areGiven_18 : decode cX7_areGiven 18 = .ok (.iconst 1, 1) := by decide +kernel
theorem dX7_areGiven_19 : decode cX7_areGiven 19 = .ok (.bipush 99, 2) := by decide +kernel
theorem dX7_areGiven_21 : decode cX7_areGiven 21 = .ok (.invokestatic 53, 3) := by decide +kernel
theorem dX7_areGiven_24 : decode cX7_areGiven 24 = .ok (.ifCond .eq 7, 3) := by decide +kernel
theorem dX7_areGiven_27 : decode cX7_areGiven 27 = .ok (.iconst 1, 1) := by decide +kernel
theorem dX7_areGiven_28 : decode cX7_areGiven 28 = .ok (.goto 4, 3) := by decide +kernel
theorem dX7_areGiven_31 : decode cX7_areGiven 31 = .ok (.iconst 0, 1) := by decide +kernel
theorem dX7_areGiven_32 : decode cX7_areGiven 32 = .ok (.ireturn, 1) := by decide +kernel
theorem dX7_canGo_0 : decode cX7_canGo 0 = .ok (.aload_n 0, 1) := by decide +kernel
theorem dX7_canGo_1 : decode cX7_canGo 1 = .ok (.iload_n 1, 1) := by decide +kernel
theorem dX7_canGo_2 : decode cX7_canGo 2 = .ok (.iload_n 3, 1) := by decide +kernel
theorem dX7_canGo_3 : decode cX7_canGo 3 = .ok (.invokevirtual 57, 3) := by decide +kernel
theorem dX7_canGo_6 : decode cX7_canGo 6 = .ok (.iload 4, 2) := by decide +kernel
theorem dX7_canGo_8 : decode cX7_canGo 8 = .ok (.if_icmp .lt 21, 3) := by decide +kernel
theorem dX7_canGo_11 : decode cX7_canGo 11 = .ok (.aload_n 0, 1) := by decide +kernel
theorem dX7_canGo_12 : decode cX7_canGo 12 = .ok (.iload_n 2, 1) := by decide +kernel
theorem dX7_canGo_13 : decode cX7_canGo 13 = .ok (.iload_n 3, 1) := by decide +kernel
theorem dX7_canGo_14 : decode cX7_canGo 14 = .ok (.invokevirtual 57, 3) := by decide +kernel
theorem dX7_canGo_17 : decode cX7_canGo 17 = .ok (.iload 4, 2) := by decide +kernel
theorem dX7_canGo_19 : decode cX7_canGo 19 = .ok (.iadd, 1) := by decide +kernel
theorem dX7_canGo_20 : decode cX7_canGo 20 = .ok (.bipush 99, 2) := by decide +kernel
theorem dX7_canGo_22 : decode cX7_canGo 22 = .ok (.if_icmp .gt 7, 3) := by decide +kernel
theorem dX7_canGo_25 : decode cX7_canGo 25 = .ok (.iconst 1, 1) := by decide +kernel
theorem dX7_canGo_26 : decode cX7_canGo 26 = .ok (.goto 4, 3) := by decide +kernel
theorem dX7_canGo_29 : decode cX7_canGo 29 = .ok (.iconst 0, 1) := by decide +kernel
theorem dX7_canGo_30 : decode cX7_canGo 30 = .ok (.ireturn, 1) := by decide +kernel
theorem dX7_go_0 : decode cX7_go 0 = .ok (.aload_n 0, 1) := by decide +kernel
theorem dX7_go_1 : decode cX7_go 1 = .ok (.iload_n 1, 1) := by decide +kernel
theorem dX7_go_2 : decode cX7_go 2 = .ok (.iload_n 3, 1) := by decide +kernel
theorem dX7_go_3 : decode cX7_go 3 = .ok (.iload 4, 2) := by decide +kernel
theorem dX7_go_5 : decode cX7_go 5 = .ok (.ineg, 1) := by decide +kernel
theorem dX7_go_6 : decode cX7_go 6 = .ok (.invokevirtual 142, 3) := by decide +kernel
theorem dX7_go_9 : decode cX7_go 9 = .ok (.aload_n 0, 1) := by decide +kernel
theorem dX7_go_10 : decode cX7_go 10 = .ok (.iload_n 2, 1) := by decide +kernel
theorem dX7_go_11 : decode cX7_go 11 = .ok (.iload_n 3, 1) := by decide +kernel
theorem dX7_go_12 : decode cX7_go 12 = .ok (.iload 4, 2) := by decide +kernel
theorem dX7_go_14 : decode cX7_go 14 = .ok (.invokevirtual 142, 3) := by decide +kernel
theorem dX7_go_17 : decode cX7_go 17 = .ok (.return_, 1) := by decide +kernel
theorem dX7_lend_0 : decode cX7_lend 0 = .ok (.aload_n 0, 1) := by decide +kernel
theorem dX7_lend_1 : decode cX7_lend 1 = .ok (.iload_n 1, 1) := by decide +kernel
theorem dX7_lend_2 : decode cX7_lend 2 = .ok (.iload_n 2, 1) := by decide +kernel
theorem dX7_lend_3 : decode cX7_lend 3 = .ok (.iload_n 3, 1) := by decide +kernel
theorem dX7_lend_4 : decode cX7_lend 4 = .ok (.iload 4, 2) := by decide +kernel
theorem dX7_lend_6 : decode cX7_lend 6 = .ok (.invokevirtual 181, 3) := by decide +kernel
theorem dX7_lend_9 : decode cX7_lend 9 = .ok (.ifCond .ne 9, 3) := by decide +kernel
theorem dX7_lend_12 : decode cX7_lend 12 = .ok (.aload_n 0, 1) := by decide +kernel
theorem dX7_lend_13 : decode cX7_lend 13 = .ok (.iconst 1, 1) := by decide +kernel
theorem dX7_lend_14 : decode cX7_lend 14 = .ok (.invokevirtual 65, 3) := by decide +kernel
theorem dX7_lend_17 : decode cX7_lend 17 = .ok (.ireturn, 1) := by decide +kernel
theorem dX7_lend_18 : decode cX7_lend 18 = .ok (.aload_n 0, 1) := by decide +kernel
theorem dX7_lend_19 : decode cX7_lend 19 = .ok (.iload_n 1, 1) := by decide +kernel
theorem dX7_lend_20 : decode cX7_lend 20 = .ok (.iload_n 2, 1) := by decide +kernel
theorem dX7_lend_21 : decode cX7_lend 21 = .ok (.iload_n 3, 1) := by decide +kernel
theorem dX7_lend_22 : decode cX7_lend 22 = .ok (.iload 4, 2) := by decide +kernel
theorem dX7_lend_24 : decode cX7_lend 24 = .ok (.invokevirtual 185, 3) := by decide +kernel
theorem dX7_lend_27 : decode cX7_lend 27 = .ok (.ifCond .eq 18, 3) := by decide +kernel
theorem dX7_lend_30 : decode cX7_lend 30 = .ok (.aload_n 0, 1) := by decide +kernel
theorem dX7_lend_31 : decode cX7_lend 31 = .ok (.iload_n 2, 1) := by decide +kernel
theorem dX7_lend_32 : decode cX7_lend 32 = .ok (.iload_n 1, 1) := by decide +kernel
theorem dX7_lend_33 : decode cX7_lend 33 = .ok (.invokevirtual 188, 3) := by decide +kernel
theorem dX7_lend_36 : decode cX7_lend 36 = .ok (.iload 4, 2) := by decide +kernel
theorem dX7_lend_38 : decode cX7_lend 38 = .ok (.iadd, 1) := by decide +kernel
theorem dX7_lend_39 : decode cX7_lend 39 = .ok (.sipush 999, 3) := by decide +kernel
theorem dX7_lend_42 : decode cX7_lend 42 = .ok (.if_icmp .le 9, 3) := by decide +kernel
theorem dX7_lend_45 : decode cX7_lend 45 = .ok (.aload_n 0, 1) := by decide +kernel
theorem dX7_lend_46 : decode cX7_lend 46 = .ok (.iconst 3, 1) := by decide +kernel
theorem dX7_lend_47 : decode cX7_lend 47 = .ok (.invokevirtual 65, 3) := by decide +kernel
theorem dX7_lend_50 : decode cX7_lend 50 = .ok (.ireturn, 1) := by decide +kernel
theorem dX7_lend_51 : decode cX7_lend 51 = .ok (.aload_n 0, 1) := by decide +kernel
theorem dX7_lend_52 : decode cX7_lend 52 = .ok (.iload_n 1, 1) := by decide +kernel
theorem dX7_lend_53 : decode cX7_lend 53 = .ok (.iload_n 2, 1) := by decide +kernel
theorem dX7_lend_54 : decode cX7_lend 54 = .ok (.iload_n 3, 1) := by decide +kernel
theorem dX7_lend_55 : decode cX7_lend 55 = .ok (.iload 4, 2) := by decide +kernel
theorem dX7_lend_57 : decode cX7_lend 57 = .ok (.invokevirtual 191, 3) := by decide +kernel
theorem dX7_lend_60 : decode cX7_lend 60 = .ok (.aload_n 0, 1) := by decide +kernel
theorem dX7_lend_61 : decode cX7_lend 61 = .ok (.getfield 7, 3) := by decide +kernel
theorem dX7_lend_64 : decode cX7_lend 64 = .ok (.bipush 78, 2) := by decide +kernel
theorem dX7_lend_66 : decode cX7_lend 66 = .ok (.bipush 8, 2) := by decide +kernel
theorem dX7_lend_68 : decode cX7_lend 68 = .ok (.iload_n 2, 1) := by decide +kernel
theorem dX7_lend_69 : decode cX7_lend 69 = .ok (.imul, 1) := by decide +kernel
theorem dX7_lend_70 : decode cX7_lend 70 = .ok (.iadd, 1) := by decide +kernel
theorem dX7_lend_71 : decode cX7_lend 71 = .ok (.iload_n 1, 1) := by decide +kernel
theorem dX7_lend_72 : decode cX7_lend 72 = .ok (.iadd, 1) := by decide +kernel
theorem dX7_lend_73 : decode cX7_lend 73 = .ok (.dup2, 1) := by decide +kernel
theorem dX7_lend_74 : decode cX7_lend 74 = .ok (.iaload, 1) := by decide +kernel
theorem dX7_lend_75 : decode cX7_lend 75 = .ok (.iload 4, 2) := by decide +kernel
theorem dX7_lend_77 : decode cX7_lend 77 = .ok (.iadd, 1) := by decide +kernel
theorem dX7_lend_78 : decode cX7_lend 78 = .ok (.iastore, 1) := by decide +kernel
theorem dX7_lend_79 : decode cX7_lend 79 = .ok (.aload_n 0, 1) := by decide +kernel
theorem dX7_lend_80 : decode cX7_lend 80 = .ok (.iload_n 2, 1) := by decide +kernel
theorem dX7_lend_81 : decode cX7_lend 81 = .ok (.iload_n 1, 1) := by decide +kernel
theorem dX7_lend_82 : decode cX7_lend 82 = .ok (.invokevirtual 188, 3) := by decide +kernel
theorem dX7_lend_85 : decode cX7_lend 85 = .ok (.ireturn, 1) := by decide +kernel
theorem dX7_repay_0 : decode cX7_repay 0 = .ok (.aload_n 0, 1) := by decide +kernel
theorem dX7_repay_1 : decode cX7_repay 1 = .ok (.iload_n 1, 1) := by decide +kernel
theorem dX7_repay_2 : decode cX7_repay 2 = .ok (.iload_n 2, 1) := by decide +kernel
theorem dX7_repay_3 : decode cX7_repay 3 = .ok (.iload_n 3, 1) := by decide +kernel
theorem dX7_repay_4 : decode cX7_repay 4 = .ok (.iload 4, 2) := by decide +kernel
theorem dX7_repay_6 : decode cX7_repay 6 = .ok (.invokevirtual 181, 3) := by decide +kernel
theorem dX7_repay_9 : decode cX7_repay 9 = .ok (.ifCond .ne 9, 3) := by decide +kernel
theorem dX7_repay_12 : decode cX7_repay 12 = .ok (.aload_n 0, 1) := by decide +kernel
theorem dX7_repay_13 : decode cX7_repay 13 = .ok (.iconst 1, 1) := by decide +kernel
theorem dX7_repay_14 : decode cX7_repay 14 = .ok (.invokevirtual 65, 3) := by decide +kernel
theorem dX7_repay_17 : decode cX7_repay 17 = .ok (.ireturn, 1) := by decide +kernel
theorem dX7_repay_18 : decode cX7_repay 18 = .ok (.aload_n 0, 1) := by decide +kernel
theorem dX7_repay_19 : decode cX7_repay 19 = .ok (.iload_n 1, 1) := by decide +kernel
theorem dX7_repay_20 : decode cX7_repay 20 = .ok (.iload_n 2, 1) := by decide +kernel
theorem dX7_repay_21 : decode cX7_repay 21 = .ok (.invokevirtual 188, 3) := by decide +kernel
theorem dX7_repay_24 : decode cX7_repay 24 = .ok (.iload 4, 2) := by decide +kernel
theorem dX7_repay_26 : decode cX7_repay 26 = .ok (.if_icmp .lt 15, 3) := by decide +kernel
theorem dX7_repay_29 : decode cX7_repay 29 = .ok (.aload_n 0, 1) := by decide +kernel
theorem dX7_repay_30 : decode cX7_repay 30 = .ok (.iload_n 1, 1) := by decide +kernel
theorem dX7_repay_31 : decode cX7_repay 31 = .ok (.iload_n 2, 1) := by decide +kernel
theorem dX7_repay_32 : decode cX7_repay 32 = .ok (.iload_n 3, 1) := by decide +kernel
theorem dX7_repay_33 : decode cX7_repay 33 = .ok (.iload 4, 2) := by decide +kernel
theorem dX7_repay_35 : decode cX7_repay 35 = .ok (.invokevirtual 185, 3) := by decide +kernel
theorem dX7_repay_38 : decode cX7_repay 38 = .ok (.ifCond .ne 9, 3) := by decide +kernel
theorem dX7_repay_41 : decode cX7_repay 41 = .ok (.aload_n 0, 1) := by decide +kernel
theorem dX7_repay_42 : decode cX7_repay 42 = .ok (.iconst 3, 1) := by decide +kernel
theorem dX7_repay_43 : decode cX7_repay 43 = .ok (.invokevirtual 65, 3) := by decide +kernel
theorem dX7_repay_46 : decode cX7_repay 46 = .ok (.ireturn, 1) := by decide +kernel
theorem dX7_repay_47 : decode cX7_repay 47 = .ok (.aload_n 0, 1) := by decide +kernel
theorem dX7_repay_48 : decode cX7_repay 48 = .ok (.iload_n 1, 1) := by decide +kernel
theorem dX7_repay_49 : decode cX7_repay 49 = .ok (.iload_n 2, 1) := by decide +kernel
theorem dX7_repay_50 : decode cX7_repay 50 = .ok (.iload_n 3, 1) := by decide +kernel
theorem dX7_repay_51 : decode cX7_repay 51 = .ok (.iload 4, 2) := by decide +kernel
theorem dX7_repay_53 : decode cX7_repay 53 = .ok (.invokevirtual 191, 3) := by decide +kernel
theorem dX7_repay_56 : decode cX7_repay 56 = .ok (.aload_n 0, 1) := by decide +kernel
theorem dX7_repay_57 : decode cX7_repay 57 = .ok (.getfield 7, 3) := by decide +kernel
theorem dX7_repay_60 : decode cX7_repay 60 = .ok (.bipush 78, 2) := by decide +kernel
theorem dX7_repay_62 : decode cX7_repay 62 = .ok (.bipush 8, 2) := by decide +kernel
theorem dX7_repay_64 : decode cX7_repay 64 = .ok (.iload_n 1, 1) := by decide +kernel
theorem dX7_repay_65 : decode cX7_repay 65 = .ok (.imul, 1) := by decide +kernel
theorem dX7_repay_66 : decode cX7_repay 66 = .ok (.iadd, 1) := by decide +kernel
theorem dX7_repay_67 : decode cX7_repay 67 = .ok (.iload_n 2, 1) := by decide +kernel
theorem dX7_repay_68 : decode cX7_repay 68 = .ok (.iadd, 1) := by decide +kernel
theorem dX7_repay_69 : decode cX7_repay 69 = .ok (.dup2, 1) := by decide +kernel
theorem dX7_repay_70 : decode cX7_repay 70 = .ok (.iaload, 1) := by decide +kernel
theorem dX7_repay_71 : decode cX7_repay 71 = .ok (.iload 4, 2) := by decide +kernel
theorem dX7_repay_73 : decode cX7_repay 73 = .ok (.isub, 1) := by decide +kernel
theorem dX7_repay_74 : decode cX7_repay 74 = .ok (.iastore, 1) := by decide +kernel
theorem dX7_repay_75 : decode cX7_repay 75 = .ok (.aload_n 0, 1) := by decide +kernel
theorem dX7_repay_76 : decode cX7_repay 76 = .ok (.iload_n 1, 1) := by decide +kernel
theorem dX7_repay_77 : decode cX7_repay 77 = .ok (.iload_n 2, 1) := by decide +kernel
theorem dX7_repay_78 : decode cX7_repay 78 = .ok (.invokevirtual 188, 3) := by decide +kernel
theorem dX7_repay_81 : decode cX7_repay 81 = .ok (.ireturn, 1) := by decide +kernel
theorem dX7_owes_0 : decode cX7_owes 0 = .ok (.aload_n 0, 1) := by decide +kernel
theorem dX7_owes_1 : decode cX7_owes 1 = .ok (.iload_n 1, 1) := by decide +kernel
theorem dX7_owes_2 : decode cX7_owes 2 = .ok (.iload_n 2, 1) := by decide +kernel
theorem dX7_owes_3 : decode cX7_owes 3 = .ok (.invokevirtual 159, 3) := by decide +kernel
theorem dX7_owes_6 : decode cX7_owes 6 = .ok (.ifCond .eq 12, 3) := by decide +kernel
theorem dX7_owes_9 : decode cX7_owes 9 = .ok (.aload_n 0, 1) := by decide +kernel
theorem dX7_owes_10 : decode cX7_owes 10 = .ok (.iload_n 1, 1) := by decide +kernel
theorem dX7_owes_11 : decode cX7_owes 11 = .ok (.iload_n 2, 1) := by decide +kernel
theorem dX7_owes_12 : decode cX7_owes 12 = .ok (.invokevirtual 188, 3) := by decide +kernel
theorem dX7_owes_15 : decode cX7_owes 15 = .ok (.goto 8, 3) := by decide +kernel
theorem dX7_owes_18 : decode cX7_owes 18 = .ok (.aload_n 0, 1) := by decide +kernel
theorem dX7_owes_19 : decode cX7_owes 19 = .ok (.iconst 1, 1) := by decide +kernel
theorem dX7_owes_20 : decode cX7_owes 20 = .ok (.invokevirtual 65, 3) := by decide +kernel
theorem dX7_owes_23 : decode cX7_owes 23 = .ok (.ireturn, 1) := by decide +kernel
theorem dX7_law_0 : decode cX7_law 0 = .ok (.iload_n 1, 1) := by decide +kernel
theorem dX7_law_1 : decode cX7_law 1 = .ok (.iconst 0, 1) := by decide +kernel
theorem dX7_law_2 : decode cX7_law 2 = .ok (.iconst 1, 1) := by decide +kernel
theorem dX7_law_3 : decode cX7_law 3 = .ok (.invokestatic 53, 3) := by decide +kernel
theorem dX7_law_6 : decode cX7_law 6 = .ok (.ifCond .ne 9, 3) := by decide +kernel
theorem dX7_law_9 : decode cX7_law 9 = .ok (.aload_n 0, 1) := by decide +kernel
theorem dX7_law_10 : decode cX7_law 10 = .ok (.iconst 1, 1) := by decide +kernel
theorem dX7_law_11 : decode cX7_law 11 = .ok (.invokevirtual 65, 3) := by decide +kernel
theorem dX7_law_14 : decode cX7_law 14 = .ok (.ireturn, 1) := by decide +kernel
theorem dX7_law_15 : decode cX7_law 15 = .ok (.iload_n 1, 1) := by decide +kernel
theorem dX7_law_16 : decode cX7_law 16 = .ok (.ifCond .ne 14, 3) := by decide +kernel
theorem dX7_law_19 : decode cX7_law 19 = .ok (.aload_n 0, 1) := by decide +kernel
theorem dX7_law_20 : decode cX7_law 20 = .ok (.iload_n 2, 1) := by decide +kernel
theorem dX7_law_21 : decode cX7_law 21 = .ok (.iload_n 3, 1) := by decide +kernel
theorem dX7_law_22 : decode cX7_law 22 = .ok (.iload 4, 2) := by decide +kernel
theorem dX7_law_24 : decode cX7_law 24 = .ok (.invokevirtual 133, 3) := by decide +kernel
theorem dX7_law_27 : decode cX7_law 27 = .ok (.goto 11, 3) := by decide +kernel
theorem dX7_law_30 : decode cX7_law 30 = .ok (.aload_n 0, 1) := by decide +kernel
theorem dX7_law_31 : decode cX7_law 31 = .ok (.iload_n 2, 1) := by decide +kernel
theorem dX7_law_32 : decode cX7_law 32 = .ok (.iload_n 3, 1) := by decide +kernel
theorem dX7_law_33 : decode cX7_law 33 = .ok (.iload 4, 2) := by decide +kernel
theorem dX7_law_35 : decode cX7_law 35 = .ok (.invokevirtual 136, 3) := by decide +kernel
theorem dX7_law_38 : decode cX7_law 38 = .ok (.ireturn, 1) := by decide +kernel
theorem dX7_whyNot_0 : decode cX7_whyNot 0 = .ok (.iload_n 1, 1) := by decide +kernel
theorem dX7_whyNot_1 : decode cX7_whyNot 1 = .ok (.iconst 1, 1) := by decide +kernel
theorem dX7_whyNot_2 : decode cX7_whyNot 2 = .ok (.iload_n 2, 1) := by decide +kernel
theorem dX7_whyNot_3 : decode cX7_whyNot 3 = .ok (.invokestatic 53, 3) := by decide +kernel
theorem dX7_whyNot_6 : decode cX7_whyNot 6 = .ok (.ifCond .ne 7, 3) := by decide +kernel
theorem dX7_whyNot_9 : decode cX7_whyNot 9 = .ok (.iconst 1, 1) := by decide +kernel
theorem dX7_whyNot_10 : decode cX7_whyNot 10 = .ok (.goto 22, 3) := by decide +kernel
theorem dX7_whyNot_13 : decode cX7_whyNot 13 = .ok (.aload_n 0, 1) := by decide +kernel
theorem dX7_whyNot_14 : decode cX7_whyNot 14 = .ok (.getfield 7, 3) := by decide +kernel
theorem dX7_whyNot_17 : decode cX7_whyNot 17 = .ok (.iconst 0, 1) := by decide +kernel
theorem dX7_whyNot_18 : decode cX7_whyNot 18 = .ok (.iaload, 1) := by decide +kernel
theorem dX7_whyNot_19 : decode cX7_whyNot 19 = .ok (.iload_n 1, 1) := by decide +kernel
theorem dX7_whyNot_20 : decode cX7_whyNot 20 = .ok (.iadd, 1) := by decide +kernel
theorem dX7_whyNot_21 : decode cX7_whyNot 21 = .ok (.sipush 999, 3) := by decide +kernel
theorem dX7_whyNot_24 : decode cX7_whyNot 24 = .ok (.if_icmp .le 7, 3) := by decide +kernel
theorem dX7_whyNot_27 : decode cX7_whyNot 27 = .ok (.iconst 3, 1) := by decide +kernel
theorem dX7_whyNot_28 : decode cX7_whyNot 28 = .ok (.goto 4, 3) := by decide +kernel
theorem dX7_whyNot_31 : decode cX7_whyNot 31 = .ok (.iconst 0, 1) := by decide +kernel
theorem dX7_whyNot_32 : decode cX7_whyNot 32 = .ok (.ireturn, 1) := by decide +kernel
theorem dX7_years_0 : decode cX7_years 0 = .ok (.aload_n 0, 1) := by decide +kernel
theorem dX7_years_1 : decode cX7_years 1 = .ok (.iload_n 1, 1) := by decide +kernel
theorem dX7_years_2 : decode cX7_years 2 = .ok (.bipush 60, 2) := by decide +kernel
theorem dX7_years_4 : decode cX7_years 4 = .ok (.invokevirtual 195, 3) := by decide +kernel
theorem dX7_years_7 : decode cX7_years 7 = .ok (.istore_n 2, 1) := by decide +kernel
theorem dX7_years_8 : decode cX7_years 8 = .ok (.iload_n 2, 1) := by decide +kernel
theorem dX7_years_9 : decode cX7_years 9 = .ok (.ifCond .eq 9, 3) := by decide +kernel
theorem dX7_years_12 : decode cX7_years 12 = .ok (.aload_n 0, 1) := by decide +kernel
theorem dX7_years_13 : decode cX7_years 13 = .ok (.iload_n 2, 1) := by decide +kernel
theorem dX7_years_14 : decode cX7_years 14 = .ok (.invokevirtual 65, 3) := by decide +kernel
theorem dX7_years_17 : decode cX7_years 17 = .ok (.ireturn, 1) := by decide +kernel
theorem dX7_years_18 : decode cX7_years 18 = .ok (.iconst 0, 1) := by decide +kernel
theorem dX7_years_19 : decode cX7_years 19 = .ok (.istore_n 3, 1) := by decide +kernel
theorem dX7_years_20 : decode cX7_years 20 = .ok (.iload_n 3, 1) := by decide +kernel
theorem dX7_years_21 : decode cX7_years 21 = .ok (.iload_n 1, 1) := by decide +kernel
theorem dX7_years_22 : decode cX7_years 22 = .ok (.if_icmp .ge 13, 3) := by decide +kernel
theorem dX7_years_25 : decode cX7_years 25 = .ok (.aload_n 0, 1) := by decide +kernel
theorem dX7_years_26 : decode cX7_years 26 = .ok (.invokevirtual 198, 3) := by decide +kernel
theorem dX7_years_29 : decode cX7_years 29 = .ok (.iinc 3 1, 3) := by decide +kernel
theorem dX7_years_32 : decode cX7_years 32 = .ok (.goto (-12), 3) := by decide +kernel
theorem dX7_years_35 : decode cX7_years 35 = .ok (.aload_n 0, 1) := by decide +kernel
theorem dX7_years_36 : decode cX7_years 36 = .ok (.getfield 7, 3) := by decide +kernel
theorem dX7_years_39 : decode cX7_years 39 = .ok (.iconst 0, 1) := by decide +kernel
theorem dX7_years_40 : decode cX7_years 40 = .ok (.iaload, 1) := by decide +kernel
theorem dX7_years_41 : decode cX7_years 41 = .ok (.ireturn, 1) := by decide +kernel
theorem dX7_steals_0 : decode cX7_steals 0 = .ok (.aload_n 0, 1) := by decide +kernel
theorem dX7_steals_1 : decode cX7_steals 1 = .ok (.getfield 7, 3) := by decide +kernel
theorem dX7_steals_4 : decode cX7_steals 4 = .ok (.iconst 4, 1) := by decide +kernel
theorem dX7_steals_5 : decode cX7_steals 5 = .ok (.iaload, 1) := by decide +kernel
theorem dX7_steals_6 : decode cX7_steals 6 = .ok (.ifCond .ne 5, 3) := by decide +kernel
theorem dX7_steals_9 : decode cX7_steals 9 = .ok (.iconst 0, 1) := by decide +kernel
theorem dX7_steals_10 : decode cX7_steals 10 = .ok (.ireturn, 1) := by decide +kernel
theorem dX7_steals_11 : decode cX7_steals 11 = .ok (.aload_n 0, 1) := by decide +kernel
theorem dX7_steals_12 : decode cX7_steals 12 = .ok (.invokevirtual 201, 3) := by decide +kernel
theorem dX7_steals_15 : decode cX7_steals 15 = .ok (.aload_n 0, 1) := by decide +kernel
theorem dX7_steals_16 : decode cX7_steals 16 = .ok (.getfield 7, 3) := by decide +kernel
theorem dX7_steals_19 : decode cX7_steals 19 = .ok (.iconst 4, 1) := by decide +kernel
theorem dX7_steals_20 : decode cX7_steals 20 = .ok (.iaload, 1) := by decide +kernel
theorem dX7_steals_21 : decode cX7_steals 21 = .ok (.irem, 1) := by decide +kernel
theorem dX7_steals_22 : decode cX7_steals 22 = .ok (.istore_n 1, 1) := by decide +kernel
theorem dX7_steals_23 : decode cX7_steals 23 = .ok (.aload_n 0, 1) := by decide +kernel
theorem dX7_steals_24 : decode cX7_steals 24 = .ok (.invokevirtual 201, 3) := by decide +kernel
theorem dX7_steals_27 : decode cX7_steals 27 = .ok (.aload_n 0, 1) := by decide +kernel
theorem dX7_steals_28 : decode cX7_steals 28 = .ok (.getfield 7, 3) := by decide +kernel
theorem dX7_steals_31 : decode cX7_steals 31 = .ok (.iconst 4, 1) := by decide +kernel
theorem dX7_steals_32 : decode cX7_steals 32 = .ok (.iaload, 1) := by decide +kernel
theorem dX7_steals_33 : decode cX7_steals 33 = .ok (.irem, 1) := by decide +kernel
theorem dX7_steals_34 : decode cX7_steals 34 = .ok (.istore_n 2, 1) := by decide +kernel
theorem dX7_steals_35 : decode cX7_steals 35 = .ok (.aload_n 0, 1) := by decide +kernel
theorem dX7_steals_36 : decode cX7_steals 36 = .ok (.invokevirtual 201, 3) := by decide +kernel
theorem dX7_steals_39 : decode cX7_steals 39 = .ok (.iconst 5, 1) := by decide +kernel
theorem dX7_steals_40 : decode cX7_steals 40 = .ok (.irem, 1) := by decide +kernel
theorem dX7_steals_41 : decode cX7_steals 41 = .ok (.istore_n 3, 1) := by decide +kernel
theorem dX7_steals_42 : decode cX7_steals 42 = .ok (.bipush 99, 2) := by decide +kernel
theorem dX7_steals_44 : decode cX7_steals 44 = .ok (.aload_n 0, 1) := by decide +kernel
theorem dX7_steals_45 : decode cX7_steals 45 = .ok (.iload_n 2, 1) := by decide +kernel
theorem dX7_steals_46 : decode cX7_steals 46 = .ok (.iload_n 3, 1) := by decide +kernel
theorem dX7_steals_47 : decode cX7_steals 47 = .ok (.invokevirtual 57, 3) := by decide +kernel
theorem dX7_steals_50 : decode cX7_steals 50 = .ok (.isub, 1) := by decide +kernel
theorem dX7_steals_51 : decode cX7_steals 51 = .ok (.istore 4, 2) := by decide +kernel
theorem dX7_steals_53 : decode cX7_steals 53 = .ok (.aload_n 0, 1) := by decide +kernel
theorem dX7_steals_54 : decode cX7_steals 54 = .ok (.iload_n 1, 1) := by decide +kernel
theorem dX7_steals_55 : decode cX7_steals 55 = .ok (.iload_n 3, 1) := by decide +kernel
theorem dX7_steals_56 : decode cX7_steals 56 = .ok (.invokevirtual 57, 3) := by decide +kernel
theorem dX7_steals_59 : decode cX7_steals 59 = .ok (.iload 4, 2) := by decide +kernel
theorem dX7_steals_61 : decode cX7_steals 61 = .ok (.if_icmp .ge 12, 3) := by decide +kernel
theorem dX7_steals_64 : decode cX7_steals 64 = .ok (.aload_n 0, 1) := by decide +kernel
theorem dX7_steals_65 : decode cX7_steals 65 = .ok (.iload_n 1, 1) := by decide +kernel
theorem dX7_steals_66 : decode cX7_steals 66 = .ok (.iload_n 3, 1) := by decide +kernel
theorem dX7_steals_67 : decode cX7_steals 67 = .ok (.invokevirtual 57, 3) := by decide +kernel
theorem dX7_steals_70 : decode cX7_steals 70 = .ok (.goto 5, 3) := by decide +kernel
theorem dX7_steals_73 : decode cX7_steals 73 = .ok (.iload 4, 2) := by decide +kernel
theorem dX7_steals_75 : decode cX7_steals 75 = .ok (.iconst 2, 1) := by decide +kernel
theorem dX7_steals_76 : decode cX7_steals 76 = .ok (.idiv, 1) := by decide +kernel
theorem dX7_steals_77 : decode cX7_steals 77 = .ok (.istore 5, 2) := by decide +kernel
theorem dX7_steals_79 : decode cX7_steals 79 = .ok (.iload_n 1, 1) := by decide +kernel
theorem dX7_steals_80 : decode cX7_steals 80 = .ok (.iload_n 2, 1) := by decide +kernel
theorem dX7_steals_81 : decode cX7_steals 81 = .ok (.if_icmp .ne 5, 3) := by decide +kernel
theorem dX7_steals_84 : decode cX7_steals 84 = .ok (.iconst 0, 1) := by decide +kernel
theorem dX7_steals_85 : decode cX7_steals 85 = .ok (.ireturn, 1) := by decide +kernel
theorem dX7_steals_86 : decode cX7_steals 86 = .ok (.aload_n 0, 1) := by decide +kernel
theorem dX7_steals_87 : decode cX7_steals 87 = .ok (.iload_n 1, 1) := by decide +kernel
theorem dX7_steals_88 : decode cX7_steals 88 = .ok (.iload_n 2, 1) := by decide +kernel
theorem dX7_steals_89 : decode cX7_steals 89 = .ok (.iload_n 3, 1) := by decide +kernel
theorem dX7_steals_90 : decode cX7_steals 90 = .ok (.iload 5, 2) := by decide +kernel
theorem dX7_steals_92 : decode cX7_steals 92 = .ok (.invokevirtual 191, 3) := by decide +kernel
theorem dX7_steals_95 : decode cX7_steals 95 = .ok (.iload 5, 2) := by decide +kernel
theorem dX7_steals_97 : decode cX7_steals 97 = .ok (.ireturn, 1) := by decide +kernel
theorem dX7_loose_0 : decode cX7_loose 0 = .ok (.aload_n 0, 1) := by decide +kernel
theorem dX7_loose_1 : decode cX7_loose 1 = .ok (.iload_n 1, 1) := by decide +kernel
theorem dX7_loose_2 : decode cX7_loose 2 = .ok (.bipush 20, 2) := by decide +kernel
theorem dX7_loose_4 : decode cX7_loose 4 = .ok (.invokevirtual 195, 3) := by decide +kernel
theorem dX7_loose_7 : decode cX7_loose 7 = .ok (.istore_n 2, 1) := by decide +kernel
theorem dX7_loose_8 : decode cX7_loose 8 = .ok (.iload_n 2, 1) := by decide +kernel
theorem dX7_loose_9 : decode cX7_loose 9 = .ok (.ifCond .eq 9, 3) := by decide +kernel
theorem dX7_loose_12 : decode cX7_loose 12 = .ok (.aload_n 0, 1) := by decide +kernel
theorem dX7_loose_13 : decode cX7_loose 13 = .ok (.iload_n 2, 1) := by decide +kernel
theorem dX7_loose_14 : decode cX7_loose 14 = .ok (.invokevirtual 65, 3) := by decide +kernel
theorem dX7_loose_17 : decode cX7_loose 17 = .ok (.ireturn, 1) := by decide +kernel
theorem dX7_loose_18 : decode cX7_loose 18 = .ok (.iconst 0, 1) := by decide +kernel
theorem dX7_loose_19 : decode cX7_loose 19 = .ok (.istore_n 3, 1) := by decide +kernel
theorem dX7_loose_20 : decode cX7_loose 20 = .ok (.iconst 0, 1) := by decide +kernel
theorem dX7_loose_21 : decode cX7_loose 21 = .ok (.istore 4, 2) := by decide +kernel
theorem dX7_loose_23 : decode cX7_loose 23 = .ok (.iload 4, 2) := by decide +kernel
theorem dX7_loose_25 : decode cX7_loose 25 = .ok (.iload_n 1, 1) := by decide +kernel
theorem dX7_loose_26 : decode cX7_loose 26 = .ok (.if_icmp .ge 20, 3) := by decide +kernel
theorem dX7_loose_29 : decode cX7_loose 29 = .ok (.iload_n 3, 1) := by decide +kernel
theorem dX7_loose_30 : decode cX7_loose 30 = .ok (.aload_n 0, 1) := by decide +kernel
theorem dX7_loose_31 : decode cX7_loose 31 = .ok (.invokevirtual 204, 3) := by decide +kernel
theorem dX7_loose_34 : decode cX7_loose 34 = .ok (.iadd, 1) := by decide +kernel
theorem dX7_loose_35 : decode cX7_loose 35 = .ok (.istore_n 3, 1) := by decide +kernel
theorem dX7_loose_36 : decode cX7_loose 36 = .ok (.aload_n 0, 1) := by decide +kernel
theorem dX7_loose_37 : decode cX7_loose 37 = .ok (.invokevirtual 198, 3) := by decide +kernel
theorem dX7_loose_40 : decode cX7_loose 40 = .ok (.iinc 4 1, 3) := by decide +kernel
theorem dX7_loose_43 : decode cX7_loose 43 = .ok (.goto (-20), 3) := by decide +kernel
theorem dX7_loose_46 : decode cX7_loose 46 = .ok (.iload_n 3, 1) := by decide +kernel
theorem dX7_loose_47 : decode cX7_loose 47 = .ok (.ireturn, 1) := by decide +kernel
theorem dX7_year_0 : decode cX7_year 0 = .ok (.iload_n 1, 1) := by decide +kernel
theorem dX7_year_1 : decode cX7_year 1 = .ok (.iconst 0, 1) := by decide +kernel
theorem dX7_year_2 : decode cX7_year 2 = .ok (.sipush 999, 3) := by decide +kernel
theorem dX7_year_5 : decode cX7_year 5 = .ok (.invokestatic 53, 3) := by decide +kernel
theorem dX7_year_8 : decode cX7_year 8 = .ok (.ifCond .eq 12, 3) := by decide +kernel
theorem dX7_year_11 : decode cX7_year 11 = .ok (.aload_n 0, 1) := by decide +kernel
theorem dX7_year_12 : decode cX7_year 12 = .ok (.iconst 0, 1) := by decide +kernel
theorem dX7_year_13 : decode cX7_year 13 = .ok (.iload_n 1, 1) := by decide +kernel
theorem dX7_year_14 : decode cX7_year 14 = .ok (.invokevirtual 172, 3) := by decide +kernel
theorem dX7_year_17 : decode cX7_year 17 = .ok (.goto 8, 3) := by decide +kernel
theorem dX7_year_20 : decode cX7_year 20 = .ok (.aload_n 0, 1) := by decide +kernel
theorem dX7_year_21 : decode cX7_year 21 = .ok (.iconst 1, 1) := by decide +kernel
theorem dX7_year_22 : decode cX7_year 22 = .ok (.invokevirtual 65, 3) := by decide +kernel
theorem dX7_year_25 : decode cX7_year 25 = .ok (.ireturn, 1) := by decide +kernel
theorem dX7_seed_0 : decode cX7_seed 0 = .ok (.aload_n 0, 1) := by decide +kernel
theorem dX7_seed_1 : decode cX7_seed 1 = .ok (.iconst 1, 1) := by decide +kernel
theorem dX7_seed_2 : decode cX7_seed 2 = .ok (.iload_n 1, 1) := by decide +kernel
theorem dX7_seed_3 : decode cX7_seed 3 = .ok (.invokevirtual 172, 3) := by decide +kernel
theorem dX7_seed_6 : decode cX7_seed 6 = .ok (.ireturn, 1) := by decide +kernel
theorem dX7_then_0 : decode cX7_then 0 = .ok (.aload_n 0, 1) := by decide +kernel
theorem dX7_then_1 : decode cX7_then 1 = .ok (.iload_n 1, 1) := by decide +kernel
theorem dX7_then_2 : decode cX7_then 2 = .ok (.invokevirtual 156, 3) := by decide +kernel
theorem dX7_then_5 : decode cX7_then 5 = .ok (.ifCond .eq 20, 3) := by decide +kernel
theorem dX7_then_8 : decode cX7_then 8 = .ok (.iload_n 2, 1) := by decide +kernel
theorem dX7_then_9 : decode cX7_then 9 = .ok (.invokestatic 178, 3) := by decide +kernel
theorem dX7_then_12 : decode cX7_then 12 = .ok (.ifCond .eq 13, 3) := by decide +kernel
theorem dX7_then_15 : decode cX7_then 15 = .ok (.iload_n 3, 1) := by decide +kernel
theorem dX7_then_16 : decode cX7_then 16 = .ok (.iconst 0, 1) := by decide +kernel
theorem dX7_then_17 : decode cX7_then 17 = .ok (.bipush 60, 2) := by decide +kernel
theorem dX7_then_19 : decode cX7_then 19 = .ok (.invokestatic 53, 3) := by decide +kernel
theorem dX7_then_22 : decode cX7_then 22 = .ok (.ifCond .ne 9, 3) := by decide +kernel
theorem dX7_then_25 : decode cX7_then 25 = .ok (.aload_n 0, 1) := by decide +kernel
theorem dX7_then_26 : decode cX7_then 26 = .ok (.iconst 1, 1) := by decide +kernel
theorem dX7_then_27 : decode cX7_then 27 = .ok (.invokevirtual 65, 3) := by decide +kernel
theorem dX7_then_30 : decode cX7_then 30 = .ok (.ireturn, 1) := by decide +kernel
theorem dX7_then_31 : decode cX7_then 31 = .ok (.aload_n 0, 1) := by decide +kernel
theorem dX7_then_32 : decode cX7_then 32 = .ok (.invokevirtual 207, 3) := by decide +kernel
theorem dX7_then_35 : decode cX7_then 35 = .ok (.iconst 0, 1) := by decide +kernel
theorem dX7_then_36 : decode cX7_then 36 = .ok (.istore 4, 2) := by decide +kernel
theorem dX7_then_38 : decode cX7_then 38 = .ok (.iload 4, 2) := by decide +kernel
theorem dX7_then_40 : decode cX7_then 40 = .ok (.iload_n 3, 1) := by decide +kernel
theorem dX7_then_41 : decode cX7_then 41 = .ok (.if_icmp .ge 13, 3) := by decide +kernel
theorem dX7_then_44 : decode cX7_then 44 = .ok (.aload_n 0, 1) := by decide +kernel
theorem dX7_then_45 : decode cX7_then 45 = .ok (.invokevirtual 198, 3) := by decide +kernel
theorem dX7_then_48 : decode cX7_then 48 = .ok (.iinc 4 1, 3) := by decide +kernel
theorem dX7_then_51 : decode cX7_then 51 = .ok (.goto (-13), 3) := by decide +kernel
theorem dX7_then_54 : decode cX7_then 54 = .ok (.aload_n 0, 1) := by decide +kernel
theorem dX7_then_55 : decode cX7_then 55 = .ok (.iload_n 1, 1) := by decide +kernel
theorem dX7_then_56 : decode cX7_then 56 = .ok (.iload_n 2, 1) := by decide +kernel
theorem dX7_then_57 : decode cX7_then 57 = .ok (.invokevirtual 57, 3) := by decide +kernel
theorem dX7_then_60 : decode cX7_then 60 = .ok (.istore 4, 2) := by decide +kernel
theorem dX7_then_62 : decode cX7_then 62 = .ok (.aload_n 0, 1) := by decide +kernel
theorem dX7_then_63 : decode cX7_then 63 = .ok (.invokevirtual 210, 3) := by decide +kernel
theorem dX7_then_66 : decode cX7_then 66 = .ok (.iload 4, 2) := by decide +kernel
theorem dX7_then_68 : decode cX7_then 68 = .ok (.ireturn, 1) := by decide +kernel
theorem dX7_whoIsClean_0 : decode cX7_whoIsClean 0 = .ok (.iconst (-1), 1) := by decide +kernel
theorem dX7_whoIsClean_1 : decode cX7_whoIsClean 1 = .ok (.istore_n 2, 1) := by decide +kernel
theorem dX7_whoIsClean_2 : decode cX7_whoIsClean 2 = .ok (.aload_n 0, 1) := by decide +kernel
theorem dX7_whoIsClean_3 : decode cX7_whoIsClean 3 = .ok (.getfield 7, 3) := by decide +kernel
theorem dX7_whoIsClean_6 : decode cX7_whoIsClean 6 = .ok (.iconst 4, 1) := by decide +kernel
theorem dX7_whoIsClean_7 : decode cX7_whoIsClean 7 = .ok (.iaload, 1) := by decide +kernel
theorem dX7_whoIsClean_8 : decode cX7_whoIsClean 8 = .ok (.iconst 1, 1) := by decide +kernel
theorem dX7_whoIsClean_9 : decode cX7_whoIsClean 9 = .ok (.isub, 1) := by decide +kernel
theorem dX7_whoIsClean_10 : decode cX7_whoIsClean 10 = .ok (.istore_n 3, 1) := by decide +kernel
theorem dX7_whoIsClean_11 : decode cX7_whoIsClean 11 = .ok (.iload_n 3, 1) := by decide +kernel
theorem dX7_whoIsClean_12 : decode cX7_whoIsClean 12 = .ok (.ifCond .lt 24, 3) := by decide +kernel
theorem dX7_whoIsClean_15 : decode cX7_whoIsClean 15 = .ok (.aload_n 0, 1) := by decide +kernel
theorem dX7_whoIsClean_16 : decode cX7_whoIsClean 16 = .ok (.iload_n 3, 1) := by decide +kernel
theorem dX7_whoIsClean_17 : decode cX7_whoIsClean 17 = .ok (.invokevirtual 163, 3) := by decide +kernel
theorem dX7_whoIsClean_20 : decode cX7_whoIsClean 20 = .ok (.iload_n 1, 1) := by decide +kernel
theorem dX7_whoIsClean_21 : decode cX7_whoIsClean 21 = .ok (.if_icmp .ge 7, 3) := by decide +kernel
theorem dX7_whoIsClean_24 : decode cX7_whoIsClean 24 = .ok (.iload_n 3, 1) := by decide +kernel
theorem dX7_whoIsClean_25 : decode cX7_whoIsClean 25 = .ok (.goto 4, 3) := by decide +kernel
theorem dX7_whoIsClean_28 : decode cX7_whoIsClean 28 = .ok (.iload_n 2, 1) := by decide +kernel
theorem dX7_whoIsClean_29 : decode cX7_whoIsClean 29 = .ok (.istore_n 2, 1) := by decide +kernel
theorem dX7_whoIsClean_30 : decode cX7_whoIsClean 30 = .ok (.iinc 3 (-1), 3) := by decide +kernel
theorem dX7_whoIsClean_33 : decode cX7_whoIsClean 33 = .ok (.goto (-22), 3) := by decide +kernel
theorem dX7_whoIsClean_36 : decode cX7_whoIsClean 36 = .ok (.iload_n 2, 1) := by decide +kernel
theorem dX7_whoIsClean_37 : decode cX7_whoIsClean 37 = .ok (.ireturn, 1) := by decide +kernel
theorem dX7_clean_0 : decode cX7_clean 0 = .ok (.iload_n 1, 1) := by decide +kernel
theorem dX7_clean_1 : decode cX7_clean 1 = .ok (.iconst 0, 1) := by decide +kernel
theorem dX7_clean_2 : decode cX7_clean 2 = .ok (.sipush 500, 3) := by decide +kernel
theorem dX7_clean_5 : decode cX7_clean 5 = .ok (.invokestatic 53, 3) := by decide +kernel
theorem dX7_clean_8 : decode cX7_clean 8 = .ok (.ifCond .eq 12, 3) := by decide +kernel
theorem dX7_clean_11 : decode cX7_clean 11 = .ok (.iload_n 2, 1) := by decide +kernel
theorem dX7_clean_12 : decode cX7_clean 12 = .ok (.iconst 0, 1) := by decide +kernel
theorem dX7_clean_13 : decode cX7_clean 13 = .ok (.iconst 1, 1) := by decide +kernel
theorem dX7_clean_14 : decode cX7_clean 14 = .ok (.invokestatic 53, 3) := by decide +kernel
theorem dX7_clean_17 : decode cX7_clean 17 = .ok (.ifCond .ne 9, 3) := by decide +kernel
theorem dX7_clean_20 : decode cX7_clean 20 = .ok (.aload_n 0, 1) := by decide +kernel
theorem dX7_clean_21 : decode cX7_clean 21 = .ok (.iconst 1, 1) := by decide +kernel
theorem dX7_clean_22 : decode cX7_clean 22 = .ok (.invokevirtual 65, 3) := by decide +kernel
theorem dX7_clean_25 : decode cX7_clean 25 = .ok (.ireturn, 1) := by decide +kernel
theorem dX7_clean_26 : decode cX7_clean 26 = .ok (.aload_n 0, 1) := by decide +kernel
theorem dX7_clean_27 : decode cX7_clean 27 = .ok (.invokevirtual 207, 3) := by decide +kernel
theorem dX7_clean_30 : decode cX7_clean 30 = .ok (.iconst 0, 1) := by decide +kernel
theorem dX7_clean_31 : decode cX7_clean 31 = .ok (.istore_n 3, 1) := by decide +kernel
theorem dX7_clean_32 : decode cX7_clean 32 = .ok (.iload_n 3, 1) := by decide +kernel
theorem dX7_clean_33 : decode cX7_clean 33 = .ok (.bipush 60, 2) := by decide +kernel
theorem dX7_clean_35 : decode cX7_clean 35 = .ok (.if_icmp .gt 22, 3) := by decide +kernel
theorem dX7_clean_38 : decode cX7_clean 38 = .ok (.aload_n 0, 1) := by decide +kernel
theorem dX7_clean_39 : decode cX7_clean 39 = .ok (.iload_n 1, 1) := by decide +kernel
theorem dX7_clean_40 : decode cX7_clean 40 = .ok (.invokevirtual 213, 3) := by decide +kernel
theorem dX7_clean_43 : decode cX7_clean 43 = .ok (.iconst (-1), 1) := by decide +kernel
theorem dX7_clean_44 : decode cX7_clean 44 = .ok (.if_icmp .ne 13, 3) := by decide +kernel
theorem dX7_clean_47 : decode cX7_clean 47 = .ok (.aload_n 0, 1) := by decide +kernel
theorem dX7_clean_48 : decode cX7_clean 48 = .ok (.invokevirtual 198, 3) := by decide +kernel
theorem dX7_clean_51 : decode cX7_clean 51 = .ok (.iinc 3 1, 3) := by decide +kernel
theorem dX7_clean_54 : decode cX7_clean 54 = .ok (.goto (-22), 3) := by decide +kernel
theorem dX7_clean_57 : decode cX7_clean 57 = .ok (.aload_n 0, 1) := by decide +kernel
theorem dX7_clean_58 : decode cX7_clean 58 = .ok (.iload_n 1, 1) := by decide +kernel
theorem dX7_clean_59 : decode cX7_clean 59 = .ok (.invokevirtual 213, 3) := by decide +kernel
theorem dX7_clean_62 : decode cX7_clean 62 = .ok (.istore 4, 2) := by decide +kernel
theorem dX7_clean_64 : decode cX7_clean 64 = .ok (.aload_n 0, 1) := by decide +kernel
theorem dX7_clean_65 : decode cX7_clean 65 = .ok (.invokevirtual 210, 3) := by decide +kernel
theorem dX7_clean_68 : decode cX7_clean 68 = .ok (.iload_n 3, 1) := by decide +kernel
theorem dX7_clean_69 : decode cX7_clean 69 = .ok (.bipush 60, 2) := by decide +kernel
theorem dX7_clean_71 : decode cX7_clean 71 = .ok (.if_icmp .le 11, 3) := by decide +kernel
theorem dX7_clean_74 : decode cX7_clean 74 = .ok (.aload_n 0, 1) := by decide +kernel
theorem dX7_clean_75 : decode cX7_clean 75 = .ok (.iconst 2, 1) := by decide +kernel
theorem dX7_clean_76 : decode cX7_clean 76 = .ok (.invokevirtual 65, 3) := by decide +kernel
theorem dX7_clean_79 : decode cX7_clean 79 = .ok (.goto 13, 3) := by decide +kernel
theorem dX7_clean_82 : decode cX7_clean 82 = .ok (.iload_n 2, 1) := by decide +kernel
theorem dX7_clean_83 : decode cX7_clean 83 = .ok (.ifCond .ne 8, 3) := by decide +kernel
theorem dX7_clean_86 : decode cX7_clean 86 = .ok (.iload 4, 2) := by decide +kernel
theorem dX7_clean_88 : decode cX7_clean 88 = .ok (.goto 4, 3) := by decide +kernel
theorem dX7_clean_91 : decode cX7_clean 91 = .ok (.iload_n 3, 1) := by decide +kernel
theorem dX7_clean_92 : decode cX7_clean 92 = .ok (.ireturn, 1) := by decide +kernel
theorem dX7_arePoured_0 : decode cX7_arePoured 0 = .ok (.iconst 1, 1) := by decide +kernel
theorem dX7_arePoured_1 : decode cX7_arePoured 1 = .ok (.istore 4, 2) := by decide +kernel
theorem dX7_arePoured_3 : decode cX7_arePoured 3 = .ok (.iconst 0, 1) := by decide +kernel
theorem dX7_arePoured_4 : decode cX7_arePoured 4 = .ok (.istore 5, 2) := by decide +kernel
theorem dX7_arePoured_6 : decode cX7_arePoured 6 = .ok (.iload 5, 2) := by decide +kernel
theorem dX7_arePoured_8 : decode cX7_arePoured 8 = .ok (.iconst 5, 1) := by decide +kernel
theorem dX7_arePoured_9 : decode cX7_arePoured 9 = .ok (.if_icmp .ge 48, 3) := by decide +kernel
theorem dX7_arePoured_12 : decode cX7_arePoured 12 = .ok (.iload 4, 2) := by decide +kernel
theorem dX7_arePoured_14 : decode cX7_arePoured 14 = .ok (.ifCond .eq 34, 3) := by decide +kernel
theorem dX7_arePoured_17 : decode cX7_arePoured 17 = .ok (.aload_n 0, 1) := by decide +kernel
theorem dX7_arePoured_18 : decode cX7_arePoured 18 = .ok (.iload_n 1, 1) := by decide +kernel
theorem dX7_arePoured_19 : decode cX7_arePoured 19 = .ok (.iload 5, 2) := by decide +kernel
theorem dX7_arePoured_21 : decode cX7_arePoured 21 = .ok (.invokevirtual 57, 3) := by decide +kernel
theorem dX7_arePoured_24 : decode cX7_arePoured 24 = .ok (.aload_n 0, 1) := by decide +kernel
theorem dX7_arePoured_25 : decode cX7_arePoured 25 = .ok (.iload_n 2, 1) := by decide +kernel
theorem dX7_arePoured_26 : decode cX7_arePoured 26 = .ok (.iload 5, 2) := by decide +kernel
theorem dX7_arePoured_28 : decode cX7_arePoured 28 = .ok (.invokevirtual 57, 3) := by decide +kernel
theorem dX7_arePoured_31 : decode cX7_arePoured 31 = .ok (.iadd, 1) := by decide +kernel
theorem dX7_arePoured_32 : decode cX7_arePoured 32 = .ok (.iconst 2, 1) := by decide +kernel
theorem dX7_arePoured_33 : decode cX7_arePoured 33 = .ok (.idiv, 1) := by decide +kernel
theorem dX7_arePoured_34 : decode cX7_arePoured 34 = .ok (.aload_n 0, 1) := by decide +kernel
theorem dX7_arePoured_35 : decode cX7_arePoured 35 = .ok (.iload_n 3, 1) := by decide +kernel
theorem dX7_arePoured_36 : decode cX7_arePoured 36 = .ok (.iload 5, 2) := by decide +kernel
theorem dX7_arePoured_38 : decode cX7_arePoured 38 = .ok (.invokevirtual 57, 3) := by decide +kernel
theorem dX7_arePoured_41 : decode cX7_arePoured 41 = .ok (.if_icmp .ne 7, 3) := by decide +kernel
theorem dX7_arePoured_44 : decode cX7_arePoured 44 = .ok (.iconst 1, 1) := by decide +kernel
theorem dX7_arePoured_45 : decode cX7_arePoured 45 = .ok (.goto 4, 3) := by decide +kernel
theorem dX7_arePoured_48 : decode cX7_arePoured 48 = .ok (.iconst 0, 1) := by decide +kernel
theorem dX7_arePoured_49 : decode cX7_arePoured 49 = .ok (.istore 4, 2) := by decide +kernel
end
section
theorem dX7_arePoured_51 : decode cX7_arePoured 51 = .ok (.iinc 5 1, 3) := by decide +kernel
theorem dX7_arePoured_54 : decode cX7_arePoured 54 = .ok (.goto (-48), 3) := by decide +kernel
theorem dX7_arePoured_57 : decode cX7_arePoured 57 = .ok (.iload 4, 2) := by decide +kernel
theorem dX7_arePoured_59 : decode cX7_arePoured 59 = .ok (.ireturn, 1) := by decide +kernel
theorem dX7_parents_0 : decode cX7_parents 0 = .ok (.aload_n 0, 1) := by decide +kernel
theorem dX7_parents_1 : decode cX7_parents 1 = .ok (.iload_n 1, 1) := by decide +kernel
theorem dX7_parents_2 : decode cX7_parents 2 = .ok (.invokevirtual 156, 3) := by decide +kernel
theorem dX7_parents_5 : decode cX7_parents 5 = .ok (.ifCond .eq 12, 3) := by decide +kernel
theorem dX7_parents_8 : decode cX7_parents 8 = .ok (.iload_n 2, 1) := by decide +kernel
theorem dX7_parents_9 : decode cX7_parents 9 = .ok (.iconst 0, 1) := by decide +kernel
theorem dX7_parents_10 : decode cX7_parents 10 = .ok (.iconst 2, 1) := by decide +kernel
theorem dX7_parents_11 : decode cX7_parents 11 = .ok (.invokestatic 53, 3) := by decide +kernel
theorem dX7_parents_14 : decode cX7_parents 14 = .ok (.ifCond .ne 9, 3) := by decide +kernel
theorem dX7_parents_17 : decode cX7_parents 17 = .ok (.aload_n 0, 1) := by decide +kernel
theorem dX7_parents_18 : decode cX7_parents 18 = .ok (.iconst 1, 1) := by decide +kernel
theorem dX7_parents_19 : decode cX7_parents 19 = .ok (.invokevirtual 65, 3) := by decide +kernel
theorem dX7_parents_22 : decode cX7_parents 22 = .ok (.ireturn, 1) := by decide +kernel
theorem dX7_parents_23 : decode cX7_parents 23 = .ok (.iconst 0, 1) := by decide +kernel
theorem dX7_parents_24 : decode cX7_parents 24 = .ok (.istore_n 3, 1) := by decide +kernel
theorem dX7_parents_25 : decode cX7_parents 25 = .ok (.iconst (-1), 1) := by decide +kernel
theorem dX7_parents_26 : decode cX7_parents 26 = .ok (.istore 4, 2) := by decide +kernel
theorem dX7_parents_28 : decode cX7_parents 28 = .ok (.iconst (-1), 1) := by decide +kernel
theorem dX7_parents_29 : decode cX7_parents 29 = .ok (.istore 5, 2) := by decide +kernel
theorem dX7_parents_31 : decode cX7_parents 31 = .ok (.iconst 0, 1) := by decide +kernel
theorem dX7_parents_32 : decode cX7_parents 32 = .ok (.istore 6, 2) := by decide +kernel
theorem dX7_parents_34 : decode cX7_parents 34 = .ok (.iload 6, 2) := by decide +kernel
theorem dX7_parents_36 : decode cX7_parents 36 = .ok (.aload_n 0, 1) := by decide +kernel
theorem dX7_parents_37 : decode cX7_parents 37 = .ok (.getfield 7, 3) := by decide +kernel
theorem dX7_parents_40 : decode cX7_parents 40 = .ok (.iconst 4, 1) := by decide +kernel
theorem dX7_parents_41 : decode cX7_parents 41 = .ok (.iaload, 1) := by decide +kernel
theorem dX7_parents_42 : decode cX7_parents 42 = .ok (.if_icmp .ge 85, 3) := by decide +kernel
theorem dX7_parents_45 : decode cX7_parents 45 = .ok (.iload 6, 2) := by decide +kernel
theorem dX7_parents_47 : decode cX7_parents 47 = .ok (.iconst 1, 1) := by decide +kernel
theorem dX7_parents_48 : decode cX7_parents 48 = .ok (.iadd, 1) := by decide +kernel
theorem dX7_parents_49 : decode cX7_parents 49 = .ok (.istore 7, 2) := by decide +kernel
theorem dX7_parents_51 : decode cX7_parents 51 = .ok (.iload 7, 2) := by decide +kernel
theorem dX7_parents_53 : decode cX7_parents 53 = .ok (.aload_n 0, 1) := by decide +kernel
theorem dX7_parents_54 : decode cX7_parents 54 = .ok (.getfield 7, 3) := by decide +kernel
theorem dX7_parents_57 : decode cX7_parents 57 = .ok (.iconst 4, 1) := by decide +kernel
theorem dX7_parents_58 : decode cX7_parents 58 = .ok (.iaload, 1) := by decide +kernel
theorem dX7_parents_59 : decode cX7_parents 59 = .ok (.if_icmp .ge 62, 3) := by decide +kernel
theorem dX7_parents_62 : decode cX7_parents 62 = .ok (.iload 6, 2) := by decide +kernel
theorem dX7_parents_64 : decode cX7_parents 64 = .ok (.iload_n 1, 1) := by decide +kernel
theorem dX7_parents_65 : decode cX7_parents 65 = .ok (.if_icmp .eq 50, 3) := by decide +kernel
theorem dX7_parents_68 : decode cX7_parents 68 = .ok (.iload 7, 2) := by decide +kernel
theorem dX7_parents_70 : decode cX7_parents 70 = .ok (.iload_n 1, 1) := by decide +kernel
theorem dX7_parents_71 : decode cX7_parents 71 = .ok (.if_icmp .eq 44, 3) := by decide +kernel
theorem dX7_parents_74 : decode cX7_parents 74 = .ok (.aload_n 0, 1) := by decide +kernel
theorem dX7_parents_75 : decode cX7_parents 75 = .ok (.iload 6, 2) := by decide +kernel
theorem dX7_parents_77 : decode cX7_parents 77 = .ok (.iload 7, 2) := by decide +kernel
theorem dX7_parents_79 : decode cX7_parents 79 = .ok (.iload_n 1, 1) := by decide +kernel
theorem dX7_parents_80 : decode cX7_parents 80 = .ok (.invokevirtual 216, 3) := by decide +kernel
theorem dX7_parents_83 : decode cX7_parents 83 = .ok (.ifCond .eq 32, 3) := by decide +kernel
theorem dX7_parents_86 : decode cX7_parents 86 = .ok (.iload_n 3, 1) := by decide +kernel
theorem dX7_parents_87 : decode cX7_parents 87 = .ok (.ifCond .ne 8, 3) := by decide +kernel
theorem dX7_parents_90 : decode cX7_parents 90 = .ok (.iload 6, 2) := by decide +kernel
theorem dX7_parents_92 : decode cX7_parents 92 = .ok (.goto 5, 3) := by decide +kernel
theorem dX7_parents_95 : decode cX7_parents 95 = .ok (.iload 4, 2) := by decide +kernel
theorem dX7_parents_97 : decode cX7_parents 97 = .ok (.istore 4, 2) := by decide +kernel
theorem dX7_parents_99 : decode cX7_parents 99 = .ok (.iload_n 3, 1) := by decide +kernel
theorem dX7_parents_100 : decode cX7_parents 100 = .ok (.ifCond .ne 8, 3) := by decide +kernel
theorem dX7_parents_103 : decode cX7_parents 103 = .ok (.iload 7, 2) := by decide +kernel
theorem dX7_parents_105 : decode cX7_parents 105 = .ok (.goto 5, 3) := by decide +kernel
theorem dX7_parents_108 : decode cX7_parents 108 = .ok (.iload 5, 2) := by decide +kernel
theorem dX7_parents_110 : decode cX7_parents 110 = .ok (.istore 5, 2) := by decide +kernel
theorem dX7_parents_112 : decode cX7_parents 112 = .ok (.iinc 3 1, 3) := by decide +kernel
theorem dX7_parents_115 : decode cX7_parents 115 = .ok (.iinc 7 1, 3) := by decide +kernel
theorem dX7_parents_118 : decode cX7_parents 118 = .ok (.goto (-67), 3) := by decide +kernel
theorem dX7_parents_121 : decode cX7_parents 121 = .ok (.iinc 6 1, 3) := by decide +kernel
theorem dX7_parents_124 : decode cX7_parents 124 = .ok (.goto (-90), 3) := by decide +kernel
theorem dX7_parents_127 : decode cX7_parents 127 = .ok (.iload_n 2, 1) := by decide +kernel
theorem dX7_parents_128 : decode cX7_parents 128 = .ok (.ifCond .le 13, 3) := by decide +kernel
theorem dX7_parents_131 : decode cX7_parents 131 = .ok (.iload_n 3, 1) := by decide +kernel
theorem dX7_parents_132 : decode cX7_parents 132 = .ok (.ifCond .ne 9, 3) := by decide +kernel
theorem dX7_parents_135 : decode cX7_parents 135 = .ok (.aload_n 0, 1) := by decide +kernel
theorem dX7_parents_136 : decode cX7_parents 136 = .ok (.iconst 2, 1) := by decide +kernel
theorem dX7_parents_137 : decode cX7_parents 137 = .ok (.invokevirtual 65, 3) := by decide +kernel
theorem dX7_parents_140 : decode cX7_parents 140 = .ok (.ireturn, 1) := by decide +kernel
theorem dX7_parents_141 : decode cX7_parents 141 = .ok (.iload_n 2, 1) := by decide +kernel
theorem dX7_parents_142 : decode cX7_parents 142 = .ok (.ifCond .ne 7, 3) := by decide +kernel
theorem dX7_parents_145 : decode cX7_parents 145 = .ok (.iload_n 3, 1) := by decide +kernel
theorem dX7_parents_146 : decode cX7_parents 146 = .ok (.goto 15, 3) := by decide +kernel
theorem dX7_parents_149 : decode cX7_parents 149 = .ok (.iload_n 2, 1) := by decide +kernel
theorem dX7_parents_150 : decode cX7_parents 150 = .ok (.iconst 1, 1) := by decide +kernel
theorem dX7_parents_151 : decode cX7_parents 151 = .ok (.if_icmp .ne 8, 3) := by decide +kernel
theorem dX7_parents_154 : decode cX7_parents 154 = .ok (.iload 4, 2) := by decide +kernel
theorem dX7_parents_156 : decode cX7_parents 156 = .ok (.goto 5, 3) := by decide +kernel
theorem dX7_parents_159 : decode cX7_parents 159 = .ok (.iload 5, 2) := by decide +kernel
theorem dX7_parents_161 : decode cX7_parents 161 = .ok (.ireturn, 1) := by decide +kernel
theorem dX7_falseSorts_0 : decode cX7_falseSorts 0 = .ok (.aload_n 0, 1) := by decide +kernel
theorem dX7_falseSorts_1 : decode cX7_falseSorts 1 = .ok (.iload_n 1, 1) := by decide +kernel
theorem dX7_falseSorts_2 : decode cX7_falseSorts 2 = .ok (.invokevirtual 156, 3) := by decide +kernel
theorem dX7_falseSorts_5 : decode cX7_falseSorts 5 = .ok (.ifCond .ne 9, 3) := by decide +kernel
theorem dX7_falseSorts_8 : decode cX7_falseSorts 8 = .ok (.aload_n 0, 1) := by decide +kernel
theorem dX7_falseSorts_9 : decode cX7_falseSorts 9 = .ok (.iconst 1, 1) := by decide +kernel
theorem dX7_falseSorts_10 : decode cX7_falseSorts 10 = .ok (.invokevirtual 65, 3) := by decide +kernel
theorem dX7_falseSorts_13 : decode cX7_falseSorts 13 = .ok (.ireturn, 1) := by decide +kernel
theorem dX7_falseSorts_14 : decode cX7_falseSorts 14 = .ok (.aload_n 0, 1) := by decide +kernel
theorem dX7_falseSorts_15 : decode cX7_falseSorts 15 = .ok (.iload_n 1, 1) := by decide +kernel
theorem dX7_falseSorts_16 : decode cX7_falseSorts 16 = .ok (.iconst 2, 1) := by decide +kernel
theorem dX7_falseSorts_17 : decode cX7_falseSorts 17 = .ok (.invokevirtual 124, 3) := by decide +kernel
theorem dX7_falseSorts_20 : decode cX7_falseSorts 20 = .ok (.istore_n 2, 1) := by decide +kernel
theorem dX7_falseSorts_21 : decode cX7_falseSorts 21 = .ok (.aload_n 0, 1) := by decide +kernel
theorem dX7_falseSorts_22 : decode cX7_falseSorts 22 = .ok (.iload_n 1, 1) := by decide +kernel
theorem dX7_falseSorts_23 : decode cX7_falseSorts 23 = .ok (.iconst 3, 1) := by decide +kernel
theorem dX7_falseSorts_24 : decode cX7_falseSorts 24 = .ok (.invokevirtual 124, 3) := by decide +kernel
theorem dX7_falseSorts_27 : decode cX7_falseSorts 27 = .ok (.istore_n 3, 1) := by decide +kernel
theorem dX7_falseSorts_28 : decode cX7_falseSorts 28 = .ok (.iload_n 2, 1) := by decide +kernel
theorem dX7_falseSorts_29 : decode cX7_falseSorts 29 = .ok (.iconst (-1), 1) := by decide +kernel
theorem dX7_falseSorts_30 : decode cX7_falseSorts 30 = .ok (.if_icmp .ne 9, 3) := by decide +kernel
theorem dX7_falseSorts_33 : decode cX7_falseSorts 33 = .ok (.aload_n 0, 1) := by decide +kernel
theorem dX7_falseSorts_34 : decode cX7_falseSorts 34 = .ok (.iconst 3, 1) := by decide +kernel
theorem dX7_falseSorts_35 : decode cX7_falseSorts 35 = .ok (.invokevirtual 65, 3) := by decide +kernel
theorem dX7_falseSorts_38 : decode cX7_falseSorts 38 = .ok (.ireturn, 1) := by decide +kernel
theorem dX7_falseSorts_39 : decode cX7_falseSorts 39 = .ok (.iconst 0, 1) := by decide +kernel
theorem dX7_falseSorts_40 : decode cX7_falseSorts 40 = .ok (.istore 4, 2) := by decide +kernel
theorem dX7_falseSorts_42 : decode cX7_falseSorts 42 = .ok (.iconst 0, 1) := by decide +kernel
theorem dX7_falseSorts_43 : decode cX7_falseSorts 43 = .ok (.istore 5, 2) := by decide +kernel
theorem dX7_falseSorts_45 : decode cX7_falseSorts 45 = .ok (.iload 5, 2) := by decide +kernel
theorem dX7_falseSorts_47 : decode cX7_falseSorts 47 = .ok (.iconst 5, 1) := by decide +kernel
theorem dX7_falseSorts_48 : decode cX7_falseSorts 48 = .ok (.if_icmp .ge 52, 3) := by decide +kernel
theorem dX7_falseSorts_51 : decode cX7_falseSorts 51 = .ok (.iload 4, 2) := by decide +kernel
theorem dX7_falseSorts_53 : decode cX7_falseSorts 53 = .ok (.aload_n 0, 1) := by decide +kernel
theorem dX7_falseSorts_54 : decode cX7_falseSorts 54 = .ok (.iload_n 1, 1) := by decide +kernel
theorem dX7_falseSorts_55 : decode cX7_falseSorts 55 = .ok (.iload 5, 2) := by decide +kernel
theorem dX7_falseSorts_57 : decode cX7_falseSorts 57 = .ok (.invokevirtual 57, 3) := by decide +kernel
theorem dX7_falseSorts_60 : decode cX7_falseSorts 60 = .ok (.ifCond .le 30, 3) := by decide +kernel
theorem dX7_falseSorts_63 : decode cX7_falseSorts 63 = .ok (.aload_n 0, 1) := by decide +kernel
theorem dX7_falseSorts_64 : decode cX7_falseSorts 64 = .ok (.iload_n 2, 1) := by decide +kernel
theorem dX7_falseSorts_65 : decode cX7_falseSorts 65 = .ok (.iload 5, 2) := by decide +kernel
theorem dX7_falseSorts_67 : decode cX7_falseSorts 67 = .ok (.invokevirtual 57, 3) := by decide +kernel
theorem dX7_falseSorts_70 : decode cX7_falseSorts 70 = .ok (.ifCond .ne 20, 3) := by decide +kernel
theorem dX7_falseSorts_73 : decode cX7_falseSorts 73 = .ok (.aload_n 0, 1) := by decide +kernel
theorem dX7_falseSorts_74 : decode cX7_falseSorts 74 = .ok (.iload_n 3, 1) := by decide +kernel
theorem dX7_falseSorts_75 : decode cX7_falseSorts 75 = .ok (.iload 5, 2) := by decide +kernel
theorem dX7_falseSorts_77 : decode cX7_falseSorts 77 = .ok (.invokevirtual 57, 3) := by decide +kernel
theorem dX7_falseSorts_80 : decode cX7_falseSorts 80 = .ok (.ifCond .ne 10, 3) := by decide +kernel
theorem dX7_falseSorts_83 : decode cX7_falseSorts 83 = .ok (.iconst 1, 1) := by decide +kernel
theorem dX7_falseSorts_84 : decode cX7_falseSorts 84 = .ok (.iload 5, 2) := by decide +kernel
theorem dX7_falseSorts_86 : decode cX7_falseSorts 86 = .ok (.ishl, 1) := by decide +kernel
theorem dX7_falseSorts_87 : decode cX7_falseSorts 87 = .ok (.goto 4, 3) := by decide +kernel
theorem dX7_falseSorts_90 : decode cX7_falseSorts 90 = .ok (.iconst 0, 1) := by decide +kernel
theorem dX7_falseSorts_91 : decode cX7_falseSorts 91 = .ok (.ior, 1) := by decide +kernel
theorem dX7_falseSorts_92 : decode cX7_falseSorts 92 = .ok (.istore 4, 2) := by decide +kernel
theorem dX7_falseSorts_94 : decode cX7_falseSorts 94 = .ok (.iinc 5 1, 3) := by decide +kernel
theorem dX7_falseSorts_97 : decode cX7_falseSorts 97 = .ok (.goto (-52), 3) := by decide +kernel
theorem dX7_falseSorts_100 : decode cX7_falseSorts 100 = .ok (.iload 4, 2) := by decide +kernel
theorem dX7_falseSorts_102 : decode cX7_falseSorts 102 = .ok (.ireturn, 1) := by decide +kernel
theorem dX7_kin_0 : decode cX7_kin 0 = .ok (.aload_n 0, 1) := by decide +kernel
theorem dX7_kin_1 : decode cX7_kin 1 = .ok (.iload_n 1, 1) := by decide +kernel
theorem dX7_kin_2 : decode cX7_kin 2 = .ok (.iload_n 2, 1) := by decide +kernel
theorem dX7_kin_3 : decode cX7_kin 3 = .ok (.invokevirtual 159, 3) := by decide +kernel
theorem dX7_kin_6 : decode cX7_kin 6 = .ok (.ifCond .eq 25, 3) := by decide +kernel
theorem dX7_kin_9 : decode cX7_kin 9 = .ok (.aload_n 0, 1) := by decide +kernel
theorem dX7_kin_10 : decode cX7_kin 10 = .ok (.iload_n 1, 1) := by decide +kernel
theorem dX7_kin_11 : decode cX7_kin 11 = .ok (.invokevirtual 169, 3) := by decide +kernel
theorem dX7_kin_14 : decode cX7_kin 14 = .ok (.iconst 1, 1) := by decide +kernel
theorem dX7_kin_15 : decode cX7_kin 15 = .ok (.iload_n 1, 1) := by decide +kernel
theorem dX7_kin_16 : decode cX7_kin 16 = .ok (.ishl, 1) := by decide +kernel
theorem dX7_kin_17 : decode cX7_kin 17 = .ok (.ior, 1) := by decide +kernel
theorem dX7_kin_18 : decode cX7_kin 18 = .ok (.aload_n 0, 1) := by decide +kernel
theorem dX7_kin_19 : decode cX7_kin 19 = .ok (.iload_n 2, 1) := by decide +kernel
theorem dX7_kin_20 : decode cX7_kin 20 = .ok (.invokevirtual 169, 3) := by decide +kernel
theorem dX7_kin_23 : decode cX7_kin 23 = .ok (.iconst 1, 1) := by decide +kernel
theorem dX7_kin_24 : decode cX7_kin 24 = .ok (.iload_n 2, 1) := by decide +kernel
theorem dX7_kin_25 : decode cX7_kin 25 = .ok (.ishl, 1) := by decide +kernel
theorem dX7_kin_26 : decode cX7_kin 26 = .ok (.ior, 1) := by decide +kernel
theorem dX7_kin_27 : decode cX7_kin 27 = .ok (.iand, 1) := by decide +kernel
theorem dX7_kin_28 : decode cX7_kin 28 = .ok (.goto 8, 3) := by decide +kernel
theorem dX7_kin_31 : decode cX7_kin 31 = .ok (.aload_n 0, 1) := by decide +kernel
theorem dX7_kin_32 : decode cX7_kin 32 = .ok (.iconst 1, 1) := by decide +kernel
theorem dX7_kin_33 : decode cX7_kin 33 = .ok (.invokevirtual 65, 3) := by decide +kernel
theorem dX7_kin_36 : decode cX7_kin 36 = .ok (.ireturn, 1) := by decide +kernel
theorem dX7_balance_0 : decode cX7_balance 0 = .ok (.iconst 0, 1) := by decide +kernel
theorem dX7_balance_1 : decode cX7_balance 1 = .ok (.istore_n 2, 1) := by decide +kernel
theorem dX7_balance_2 : decode cX7_balance 2 = .ok (.iconst 0, 1) := by decide +kernel
theorem dX7_balance_3 : decode cX7_balance 3 = .ok (.istore_n 3, 1) := by decide +kernel
theorem dX7_balance_4 : decode cX7_balance 4 = .ok (.iload_n 3, 1) := by decide +kernel
theorem dX7_balance_5 : decode cX7_balance 5 = .ok (.aload_n 0, 1) := by decide +kernel
theorem dX7_balance_6 : decode cX7_balance 6 = .ok (.getfield 7, 3) := by decide +kernel
theorem dX7_balance_9 : decode cX7_balance 9 = .ok (.iconst 4, 1) := by decide +kernel
theorem dX7_balance_10 : decode cX7_balance 10 = .ok (.iaload, 1) := by decide +kernel
theorem dX7_balance_11 : decode cX7_balance 11 = .ok (.if_icmp .ge 25, 3) := by decide +kernel
theorem dX7_balance_14 : decode cX7_balance 14 = .ok (.iload_n 2, 1) := by decide +kernel
theorem dX7_balance_15 : decode cX7_balance 15 = .ok (.aload_n 0, 1) := by decide +kernel
theorem dX7_balance_16 : decode cX7_balance 16 = .ok (.iload_n 3, 1) := by decide +kernel
theorem dX7_balance_17 : decode cX7_balance 17 = .ok (.iload_n 1, 1) := by decide +kernel
theorem dX7_balance_18 : decode cX7_balance 18 = .ok (.invokevirtual 188, 3) := by decide +kernel
theorem dX7_balance_21 : decode cX7_balance 21 = .ok (.aload_n 0, 1) := by decide +kernel
theorem dX7_balance_22 : decode cX7_balance 22 = .ok (.iload_n 1, 1) := by decide +kernel
theorem dX7_balance_23 : decode cX7_balance 23 = .ok (.iload_n 3, 1) := by decide +kernel
theorem dX7_balance_24 : decode cX7_balance 24 = .ok (.invokevirtual 188, 3) := by decide +kernel
theorem dX7_balance_27 : decode cX7_balance 27 = .ok (.isub, 1) := by decide +kernel
theorem dX7_balance_28 : decode cX7_balance 28 = .ok (.iadd, 1) := by decide +kernel
theorem dX7_balance_29 : decode cX7_balance 29 = .ok (.istore_n 2, 1) := by decide +kernel
theorem dX7_balance_30 : decode cX7_balance 30 = .ok (.iinc 3 1, 3) := by decide +kernel
theorem dX7_balance_33 : decode cX7_balance 33 = .ok (.goto (-29), 3) := by decide +kernel
theorem dX7_balance_36 : decode cX7_balance 36 = .ok (.iload_n 2, 1) := by decide +kernel
theorem dX7_balance_37 : decode cX7_balance 37 = .ok (.ireturn, 1) := by decide +kernel
theorem dX7_fewestPayments_0 : decode cX7_fewestPayments 0 = .ok (.iconst 0, 1) := by decide +kernel
theorem dX7_fewestPayments_1 : decode cX7_fewestPayments 1 = .ok (.istore_n 1, 1) := by decide +kernel
theorem dX7_fewestPayments_2 : decode cX7_fewestPayments 2 = .ok (.iconst 0, 1) := by decide +kernel
theorem dX7_fewestPayments_3 : decode cX7_fewestPayments 3 = .ok (.istore_n 2, 1) := by decide +kernel
theorem dX7_fewestPayments_4 : decode cX7_fewestPayments 4 = .ok (.iconst 0, 1) := by decide +kernel
theorem dX7_fewestPayments_5 : decode cX7_fewestPayments 5 = .ok (.istore_n 3, 1) := by decide +kernel
theorem dX7_fewestPayments_6 : decode cX7_fewestPayments 6 = .ok (.iload_n 3, 1) := by decide +kernel
theorem dX7_fewestPayments_7 : decode cX7_fewestPayments 7 = .ok (.aload_n 0, 1) := by decide +kernel
theorem dX7_fewestPayments_8 : decode cX7_fewestPayments 8 = .ok (.getfield 7, 3) := by decide +kernel
theorem dX7_fewestPayments_11 : decode cX7_fewestPayments 11 = .ok (.iconst 4, 1) := by decide +kernel
theorem dX7_fewestPayments_12 : decode cX7_fewestPayments 12 = .ok (.iaload, 1) := by decide +kernel
theorem dX7_fewestPayments_13 : decode cX7_fewestPayments 13 = .ok (.if_icmp .ge 43, 3) := by decide +kernel
theorem dX7_fewestPayments_16 : decode cX7_fewestPayments 16 = .ok (.iload_n 1, 1) := by decide +kernel
theorem dX7_fewestPayments_17 : decode cX7_fewestPayments 17 = .ok (.aload_n 0, 1) := by decide +kernel
theorem dX7_fewestPayments_18 : decode cX7_fewestPayments 18 = .ok (.iload_n 3, 1) := by decide +kernel
theorem dX7_fewestPayments_19 : decode cX7_fewestPayments 19 = .ok (.invokevirtual 219, 3) := by decide +kernel
theorem dX7_fewestPayments_22 : decode cX7_fewestPayments 22 = .ok (.ifCond .eq 9, 3) := by decide +kernel
theorem dX7_fewestPayments_25 : decode cX7_fewestPayments 25 = .ok (.iconst 1, 1) := by decide +kernel
theorem dX7_fewestPayments_26 : decode cX7_fewestPayments 26 = .ok (.iload_n 3, 1) := by decide +kernel
theorem dX7_fewestPayments_27 : decode cX7_fewestPayments 27 = .ok (.ishl, 1) := by decide +kernel
theorem dX7_fewestPayments_28 : decode cX7_fewestPayments 28 = .ok (.goto 4, 3) := by decide +kernel
theorem dX7_fewestPayments_31 : decode cX7_fewestPayments 31 = .ok (.iconst 0, 1) := by decide +kernel
theorem dX7_fewestPayments_32 : decode cX7_fewestPayments 32 = .ok (.ior, 1) := by decide +kernel
theorem dX7_fewestPayments_33 : decode cX7_fewestPayments 33 = .ok (.istore_n 1, 1) := by decide +kernel
theorem dX7_fewestPayments_34 : decode cX7_fewestPayments 34 = .ok (.iload_n 2, 1) := by decide +kernel
theorem dX7_fewestPayments_35 : decode cX7_fewestPayments 35 = .ok (.aload_n 0, 1) := by decide +kernel
theorem dX7_fewestPayments_36 : decode cX7_fewestPayments 36 = .ok (.iload_n 3, 1) := by decide +kernel
theorem dX7_fewestPayments_37 : decode cX7_fewestPayments 37 = .ok (.invokevirtual 219, 3) := by decide +kernel
theorem dX7_fewestPayments_40 : decode cX7_fewestPayments 40 = .ok (.ifCond .eq 7, 3) := by decide +kernel
theorem dX7_fewestPayments_43 : decode cX7_fewestPayments 43 = .ok (.iconst 1, 1) := by decide +kernel
theorem dX7_fewestPayments_44 : decode cX7_fewestPayments 44 = .ok (.goto 4, 3) := by decide +kernel
theorem dX7_fewestPayments_47 : decode cX7_fewestPayments 47 = .ok (.iconst 0, 1) := by decide +kernel
theorem dX7_fewestPayments_48 : decode cX7_fewestPayments 48 = .ok (.iadd, 1) := by decide +kernel
theorem dX7_fewestPayments_49 : decode cX7_fewestPayments 49 = .ok (.istore_n 2, 1) := by decide +kernel
theorem dX7_fewestPayments_50 : decode cX7_fewestPayments 50 = .ok (.iinc 3 1, 3) := by decide +kernel
theorem dX7_fewestPayments_53 : decode cX7_fewestPayments 53 = .ok (.goto (-47), 3) := by decide +kernel
theorem dX7_fewestPayments_56 : decode cX7_fewestPayments 56 = .ok (.aload_n 0, 1) := by decide +kernel
theorem dX7_fewestPayments_57 : decode cX7_fewestPayments 57 = .ok (.getfield 31, 3) := by decide +kernel
theorem dX7_fewestPayments_60 : decode cX7_fewestPayments 60 = .ok (.iconst 0, 1) := by decide +kernel
theorem dX7_fewestPayments_61 : decode cX7_fewestPayments 61 = .ok (.iconst 0, 1) := by decide +kernel
theorem dX7_fewestPayments_62 : decode cX7_fewestPayments 62 = .ok (.iastore, 1) := by decide +kernel
theorem dX7_fewestPayments_63 : decode cX7_fewestPayments 63 = .ok (.aload_n 0, 1) := by decide +kernel
theorem dX7_fewestPayments_64 : decode cX7_fewestPayments 64 = .ok (.getfield 34, 3) := by decide +kernel
theorem dX7_fewestPayments_67 : decode cX7_fewestPayments 67 = .ok (.iconst 0, 1) := by decide +kernel
theorem dX7_fewestPayments_68 : decode cX7_fewestPayments 68 = .ok (.iconst 0, 1) := by decide +kernel
theorem dX7_fewestPayments_69 : decode cX7_fewestPayments 69 = .ok (.iastore, 1) := by decide +kernel
theorem dX7_fewestPayments_70 : decode cX7_fewestPayments 70 = .ok (.iconst 1, 1) := by decide +kernel
theorem dX7_fewestPayments_71 : decode cX7_fewestPayments 71 = .ok (.istore_n 3, 1) := by decide +kernel
theorem dX7_fewestPayments_72 : decode cX7_fewestPayments 72 = .ok (.iload_n 3, 1) := by decide +kernel
theorem dX7_fewestPayments_73 : decode cX7_fewestPayments 73 = .ok (.iload_n 1, 1) := by decide +kernel
theorem dX7_fewestPayments_74 : decode cX7_fewestPayments 74 = .ok (.if_icmp .gt 123, 3) := by decide +kernel
theorem dX7_fewestPayments_77 : decode cX7_fewestPayments 77 = .ok (.iload_n 3, 1) := by decide +kernel
theorem dX7_fewestPayments_78 : decode cX7_fewestPayments 78 = .ok (.iload_n 1, 1) := by decide +kernel
theorem dX7_fewestPayments_79 : decode cX7_fewestPayments 79 = .ok (.iconst (-1), 1) := by decide +kernel
theorem dX7_fewestPayments_80 : decode cX7_fewestPayments 80 = .ok (.ixor, 1) := by decide +kernel
theorem dX7_fewestPayments_81 : decode cX7_fewestPayments 81 = .ok (.iand, 1) := by decide +kernel
theorem dX7_fewestPayments_82 : decode cX7_fewestPayments 82 = .ok (.ifCond .ne 109, 3) := by decide +kernel
theorem dX7_fewestPayments_85 : decode cX7_fewestPayments 85 = .ok (.iconst 0, 1) := by decide +kernel
theorem dX7_fewestPayments_86 : decode cX7_fewestPayments 86 = .ok (.istore 4, 2) := by decide +kernel
theorem dX7_fewestPayments_88 : decode cX7_fewestPayments 88 = .ok (.iconst 0, 1) := by decide +kernel
theorem dX7_fewestPayments_89 : decode cX7_fewestPayments 89 = .ok (.istore 5, 2) := by decide +kernel
theorem dX7_fewestPayments_91 : decode cX7_fewestPayments 91 = .ok (.iconst 0, 1) := by decide +kernel
theorem dX7_fewestPayments_92 : decode cX7_fewestPayments 92 = .ok (.istore 6, 2) := by decide +kernel
theorem dX7_fewestPayments_94 : decode cX7_fewestPayments 94 = .ok (.iload 6, 2) := by decide +kernel
theorem dX7_fewestPayments_96 : decode cX7_fewestPayments 96 = .ok (.aload_n 0, 1) := by decide +kernel
theorem dX7_fewestPayments_97 : decode cX7_fewestPayments 97 = .ok (.getfield 7, 3) := by decide +kernel
theorem dX7_fewestPayments_100 : decode cX7_fewestPayments 100 = .ok (.iconst 4, 1) := by decide +kernel
theorem dX7_fewestPayments_101 : decode cX7_fewestPayments 101 = .ok (.iaload, 1) := by decide +kernel
theorem dX7_fewestPayments_102 : decode cX7_fewestPayments 102 = .ok (.if_icmp .ge 61, 3) := by decide +kernel
theorem dX7_fewestPayments_105 : decode cX7_fewestPayments 105 = .ok (.iload_n 3, 1) := by decide +kernel
theorem dX7_fewestPayments_106 : decode cX7_fewestPayments 106 = .ok (.iload 6, 2) := by decide +kernel
theorem dX7_fewestPayments_108 : decode cX7_fewestPayments 108 = .ok (.ishr, 1) := by decide +kernel
theorem dX7_fewestPayments_109 : decode cX7_fewestPayments 109 = .ok (.iconst 1, 1) := by decide +kernel
theorem dX7_fewestPayments_110 : decode cX7_fewestPayments 110 = .ok (.iand, 1) := by decide +kernel
theorem dX7_fewestPayments_111 : decode cX7_fewestPayments 111 = .ok (.iconst 1, 1) := by decide +kernel
theorem dX7_fewestPayments_112 : decode cX7_fewestPayments 112 = .ok (.if_icmp .ne 45, 3) := by decide +kernel
theorem dX7_fewestPayments_115 : decode cX7_fewestPayments 115 = .ok (.iload 4, 2) := by decide +kernel
theorem dX7_fewestPayments_117 : decode cX7_fewestPayments 117 = .ok (.aload_n 0, 1) := by decide +kernel
theorem dX7_fewestPayments_118 : decode cX7_fewestPayments 118 = .ok (.iload 6, 2) := by decide +kernel
theorem dX7_fewestPayments_120 : decode cX7_fewestPayments 120 = .ok (.invokevirtual 219, 3) := by decide +kernel
theorem dX7_fewestPayments_123 : decode cX7_fewestPayments 123 = .ok (.iadd, 1) := by decide +kernel
theorem dX7_fewestPayments_124 : decode cX7_fewestPayments 124 = .ok (.istore 4, 2) := by decide +kernel
theorem dX7_fewestPayments_126 : decode cX7_fewestPayments 126 = .ok (.aload_n 0, 1) := by decide +kernel
theorem dX7_fewestPayments_127 : decode cX7_fewestPayments 127 = .ok (.getfield 34, 3) := by decide +kernel
theorem dX7_fewestPayments_130 : decode cX7_fewestPayments 130 = .ok (.iload_n 3, 1) := by decide +kernel
theorem dX7_fewestPayments_131 : decode cX7_fewestPayments 131 = .ok (.iconst 1, 1) := by decide +kernel
theorem dX7_fewestPayments_132 : decode cX7_fewestPayments 132 = .ok (.iload 6, 2) := by decide +kernel
theorem dX7_fewestPayments_134 : decode cX7_fewestPayments 134 = .ok (.ishl, 1) := by decide +kernel
theorem dX7_fewestPayments_135 : decode cX7_fewestPayments 135 = .ok (.iconst (-1), 1) := by decide +kernel
theorem dX7_fewestPayments_136 : decode cX7_fewestPayments 136 = .ok (.ixor, 1) := by decide +kernel
theorem dX7_fewestPayments_137 : decode cX7_fewestPayments 137 = .ok (.iand, 1) := by decide +kernel
theorem dX7_fewestPayments_138 : decode cX7_fewestPayments 138 = .ok (.iaload, 1) := by decide +kernel
theorem dX7_fewestPayments_139 : decode cX7_fewestPayments 139 = .ok (.istore 7, 2) := by decide +kernel
theorem dX7_fewestPayments_141 : decode cX7_fewestPayments 141 = .ok (.iload 7, 2) := by decide +kernel
theorem dX7_fewestPayments_143 : decode cX7_fewestPayments 143 = .ok (.iload 5, 2) := by decide +kernel
theorem dX7_fewestPayments_145 : decode cX7_fewestPayments 145 = .ok (.if_icmp .le 8, 3) := by decide +kernel
theorem dX7_fewestPayments_148 : decode cX7_fewestPayments 148 = .ok (.iload 7, 2) := by decide +kernel
theorem dX7_fewestPayments_150 : decode cX7_fewestPayments 150 = .ok (.goto 5, 3) := by decide +kernel
theorem dX7_fewestPayments_153 : decode cX7_fewestPayments 153 = .ok (.iload 5, 2) := by decide +kernel
theorem dX7_fewestPayments_155 : decode cX7_fewestPayments 155 = .ok (.istore 5, 2) := by decide +kernel
theorem dX7_fewestPayments_157 : decode cX7_fewestPayments 157 = .ok (.iinc 6 1, 3) := by decide +kernel
theorem dX7_fewestPayments_160 : decode cX7_fewestPayments 160 = .ok (.goto (-66), 3) := by decide +kernel
theorem dX7_fewestPayments_163 : decode cX7_fewestPayments 163 = .ok (.aload_n 0, 1) := by decide +kernel
theorem dX7_fewestPayments_164 : decode cX7_fewestPayments 164 = .ok (.getfield 31, 3) := by decide +kernel
theorem dX7_fewestPayments_167 : decode cX7_fewestPayments 167 = .ok (.iload_n 3, 1) := by decide +kernel
theorem dX7_fewestPayments_168 : decode cX7_fewestPayments 168 = .ok (.iload 4, 2) := by decide +kernel
theorem dX7_fewestPayments_170 : decode cX7_fewestPayments 170 = .ok (.iastore, 1) := by decide +kernel
theorem dX7_fewestPayments_171 : decode cX7_fewestPayments 171 = .ok (.aload_n 0, 1) := by decide +kernel
theorem dX7_fewestPayments_172 : decode cX7_fewestPayments 172 = .ok (.getfield 34, 3) := by decide +kernel
theorem dX7_fewestPayments_175 : decode cX7_fewestPayments 175 = .ok (.iload_n 3, 1) := by decide +kernel
theorem dX7_fewestPayments_176 : decode cX7_fewestPayments 176 = .ok (.iload 4, 2) := by decide +kernel
theorem dX7_fewestPayments_178 : decode cX7_fewestPayments 178 = .ok (.ifCond .ne 10, 3) := by decide +kernel
theorem dX7_fewestPayments_181 : decode cX7_fewestPayments 181 = .ok (.iload 5, 2) := by decide +kernel
theorem dX7_fewestPayments_183 : decode cX7_fewestPayments 183 = .ok (.iconst 1, 1) := by decide +kernel
theorem dX7_fewestPayments_184 : decode cX7_fewestPayments 184 = .ok (.iadd, 1) := by decide +kernel
theorem dX7_fewestPayments_185 : decode cX7_fewestPayments 185 = .ok (.goto 5, 3) := by decide +kernel
theorem dX7_fewestPayments_188 : decode cX7_fewestPayments 188 = .ok (.iload 5, 2) := by decide +kernel
theorem dX7_fewestPayments_190 : decode cX7_fewestPayments 190 = .ok (.iastore, 1) := by decide +kernel
theorem dX7_fewestPayments_191 : decode cX7_fewestPayments 191 = .ok (.iinc 3 1, 3) := by decide +kernel
theorem dX7_fewestPayments_194 : decode cX7_fewestPayments 194 = .ok (.goto (-122), 3) := by decide +kernel
theorem dX7_fewestPayments_197 : decode cX7_fewestPayments 197 = .ok (.iload_n 2, 1) := by decide +kernel
theorem dX7_fewestPayments_198 : decode cX7_fewestPayments 198 = .ok (.aload_n 0, 1) := by decide +kernel
theorem dX7_fewestPayments_199 : decode cX7_fewestPayments 199 = .ok (.getfield 34, 3) := by decide +kernel
theorem dX7_fewestPayments_202 : decode cX7_fewestPayments 202 = .ok (.iload_n 1, 1) := by decide +kernel
theorem dX7_fewestPayments_203 : decode cX7_fewestPayments 203 = .ok (.iaload, 1) := by decide +kernel
theorem dX7_fewestPayments_204 : decode cX7_fewestPayments 204 = .ok (.isub, 1) := by decide +kernel
theorem dX7_fewestPayments_205 : decode cX7_fewestPayments 205 = .ok (.ireturn, 1) := by decide +kernel
theorem dX7_nets_0 : decode cX7_nets 0 = .ok (.iload_n 1, 1) := by decide +kernel
theorem dX7_nets_1 : decode cX7_nets 1 = .ok (.iconst 0, 1) := by decide +kernel
theorem dX7_nets_2 : decode cX7_nets 2 = .ok (.iconst 1, 1) := by decide +kernel
theorem dX7_nets_3 : decode cX7_nets 3 = .ok (.invokestatic 53, 3) := by decide +kernel
theorem dX7_nets_6 : decode cX7_nets 6 = .ok (.ifCond .ne 9, 3) := by decide +kernel
theorem dX7_nets_9 : decode cX7_nets 9 = .ok (.aload_n 0, 1) := by decide +kernel
theorem dX7_nets_10 : decode cX7_nets 10 = .ok (.iconst 1, 1) := by decide +kernel
theorem dX7_nets_11 : decode cX7_nets 11 = .ok (.invokevirtual 65, 3) := by decide +kernel
theorem dX7_nets_14 : decode cX7_nets 14 = .ok (.ireturn, 1) := by decide +kernel
theorem dX7_nets_15 : decode cX7_nets 15 = .ok (.iload_n 1, 1) := by decide +kernel
theorem dX7_nets_16 : decode cX7_nets 16 = .ok (.ifCond .ne 8, 3) := by decide +kernel
theorem dX7_nets_19 : decode cX7_nets 19 = .ok (.aload_n 0, 1) := by decide +kernel
theorem dX7_nets_20 : decode cX7_nets 20 = .ok (.invokevirtual 222, 3) := by decide +kernel
theorem dX7_nets_23 : decode cX7_nets 23 = .ok (.ireturn, 1) := by decide +kernel
theorem dX7_nets_24 : decode cX7_nets 24 = .ok (.iconst 0, 1) := by decide +kernel
theorem dX7_nets_25 : decode cX7_nets 25 = .ok (.istore_n 2, 1) := by decide +kernel
theorem dX7_nets_26 : decode cX7_nets 26 = .ok (.iconst 0, 1) := by decide +kernel
theorem dX7_nets_27 : decode cX7_nets 27 = .ok (.istore_n 3, 1) := by decide +kernel
theorem dX7_nets_28 : decode cX7_nets 28 = .ok (.iload_n 3, 1) := by decide +kernel
theorem dX7_nets_29 : decode cX7_nets 29 = .ok (.aload_n 0, 1) := by decide +kernel
theorem dX7_nets_30 : decode cX7_nets 30 = .ok (.getfield 7, 3) := by decide +kernel
theorem dX7_nets_33 : decode cX7_nets 33 = .ok (.iconst 4, 1) := by decide +kernel
theorem dX7_nets_34 : decode cX7_nets 34 = .ok (.iaload, 1) := by decide +kernel
theorem dX7_nets_35 : decode cX7_nets 35 = .ok (.if_icmp .ge 29, 3) := by decide +kernel
theorem dX7_nets_38 : decode cX7_nets 38 = .ok (.iload_n 2, 1) := by decide +kernel
theorem dX7_nets_39 : decode cX7_nets 39 = .ok (.aload_n 0, 1) := by decide +kernel
theorem dX7_nets_40 : decode cX7_nets 40 = .ok (.iload_n 3, 1) := by decide +kernel
theorem dX7_nets_41 : decode cX7_nets 41 = .ok (.invokevirtual 219, 3) := by decide +kernel
theorem dX7_nets_44 : decode cX7_nets 44 = .ok (.ifCond .le 11, 3) := by decide +kernel
theorem dX7_nets_47 : decode cX7_nets 47 = .ok (.aload_n 0, 1) := by decide +kernel
theorem dX7_nets_48 : decode cX7_nets 48 = .ok (.iload_n 3, 1) := by decide +kernel
theorem dX7_nets_49 : decode cX7_nets 49 = .ok (.invokevirtual 219, 3) := by decide +kernel
theorem dX7_nets_52 : decode cX7_nets 52 = .ok (.goto 4, 3) := by decide +kernel
theorem dX7_nets_55 : decode cX7_nets 55 = .ok (.iconst 0, 1) := by decide +kernel
theorem dX7_nets_56 : decode cX7_nets 56 = .ok (.iadd, 1) := by decide +kernel
theorem dX7_nets_57 : decode cX7_nets 57 = .ok (.istore_n 2, 1) := by decide +kernel
theorem dX7_nets_58 : decode cX7_nets 58 = .ok (.iinc 3 1, 3) := by decide +kernel
theorem dX7_nets_61 : decode cX7_nets 61 = .ok (.goto (-33), 3) := by decide +kernel
theorem dX7_nets_64 : decode cX7_nets 64 = .ok (.iload_n 2, 1) := by decide +kernel
theorem dX7_nets_65 : decode cX7_nets 65 = .ok (.ireturn, 1) := by decide +kernel
theorem dX7_divisor_0 : decode cX7_divisor 0 = .ok (.iload_n 0, 1) := by decide +kernel
theorem dX7_divisor_1 : decode cX7_divisor 1 = .ok (.istore_n 2, 1) := by decide +kernel
theorem dX7_divisor_2 : decode cX7_divisor 2 = .ok (.iload_n 1, 1) := by decide +kernel
theorem dX7_divisor_3 : decode cX7_divisor 3 = .ok (.istore_n 3, 1) := by decide +kernel
theorem dX7_divisor_4 : decode cX7_divisor 4 = .ok (.iload_n 3, 1) := by decide +kernel
theorem dX7_divisor_5 : decode cX7_divisor 5 = .ok (.ifCond .eq 16, 3) := by decide +kernel
theorem dX7_divisor_8 : decode cX7_divisor 8 = .ok (.iload_n 2, 1) := by decide +kernel
theorem dX7_divisor_9 : decode cX7_divisor 9 = .ok (.iload_n 3, 1) := by decide +kernel
theorem dX7_divisor_10 : decode cX7_divisor 10 = .ok (.irem, 1) := by decide +kernel
theorem dX7_divisor_11 : decode cX7_divisor 11 = .ok (.istore 4, 2) := by decide +kernel
theorem dX7_divisor_13 : decode cX7_divisor 13 = .ok (.iload_n 3, 1) := by decide +kernel
theorem dX7_divisor_14 : decode cX7_divisor 14 = .ok (.istore_n 2, 1) := by decide +kernel
theorem dX7_divisor_15 : decode cX7_divisor 15 = .ok (.iload 4, 2) := by decide +kernel
theorem dX7_divisor_17 : decode cX7_divisor 17 = .ok (.istore_n 3, 1) := by decide +kernel
theorem dX7_divisor_18 : decode cX7_divisor 18 = .ok (.goto (-14), 3) := by decide +kernel
theorem dX7_divisor_21 : decode cX7_divisor 21 = .ok (.iload_n 2, 1) := by decide +kernel
theorem dX7_divisor_22 : decode cX7_divisor 22 = .ok (.ireturn, 1) := by decide +kernel
theorem dX7_pouredHeap_0 : decode cX7_pouredHeap 0 = .ok (.iconst 0, 1) := by decide +kernel
theorem dX7_pouredHeap_1 : decode cX7_pouredHeap 1 = .ok (.istore_n 3, 1) := by decide +kernel
theorem dX7_pouredHeap_2 : decode cX7_pouredHeap 2 = .ok (.iconst 0, 1) := by decide +kernel
theorem dX7_pouredHeap_3 : decode cX7_pouredHeap 3 = .ok (.istore 4, 2) := by decide +kernel
theorem dX7_pouredHeap_5 : decode cX7_pouredHeap 5 = .ok (.iload 4, 2) := by decide +kernel
theorem dX7_pouredHeap_7 : decode cX7_pouredHeap 7 = .ok (.iconst 5, 1) := by decide +kernel
theorem dX7_pouredHeap_8 : decode cX7_pouredHeap 8 = .ok (.if_icmp .ge 29, 3) := by decide +kernel
theorem dX7_pouredHeap_11 : decode cX7_pouredHeap 11 = .ok (.iload_n 3, 1) := by decide +kernel
theorem dX7_pouredHeap_12 : decode cX7_pouredHeap 12 = .ok (.aload_n 0, 1) := by decide +kernel
theorem dX7_pouredHeap_13 : decode cX7_pouredHeap 13 = .ok (.iload_n 1, 1) := by decide +kernel
theorem dX7_pouredHeap_14 : decode cX7_pouredHeap 14 = .ok (.iload 4, 2) := by decide +kernel
theorem dX7_pouredHeap_16 : decode cX7_pouredHeap 16 = .ok (.invokevirtual 57, 3) := by decide +kernel
theorem dX7_pouredHeap_19 : decode cX7_pouredHeap 19 = .ok (.aload_n 0, 1) := by decide +kernel
theorem dX7_pouredHeap_20 : decode cX7_pouredHeap 20 = .ok (.iload_n 2, 1) := by decide +kernel
theorem dX7_pouredHeap_21 : decode cX7_pouredHeap 21 = .ok (.iload 4, 2) := by decide +kernel
theorem dX7_pouredHeap_23 : decode cX7_pouredHeap 23 = .ok (.invokevirtual 57, 3) := by decide +kernel
theorem dX7_pouredHeap_26 : decode cX7_pouredHeap 26 = .ok (.iadd, 1) := by decide +kernel
theorem dX7_pouredHeap_27 : decode cX7_pouredHeap 27 = .ok (.iconst 2, 1) := by decide +kernel
theorem dX7_pouredHeap_28 : decode cX7_pouredHeap 28 = .ok (.idiv, 1) := by decide +kernel
theorem dX7_pouredHeap_29 : decode cX7_pouredHeap 29 = .ok (.iadd, 1) := by decide +kernel
theorem dX7_pouredHeap_30 : decode cX7_pouredHeap 30 = .ok (.istore_n 3, 1) := by decide +kernel
theorem dX7_pouredHeap_31 : decode cX7_pouredHeap 31 = .ok (.iinc 4 1, 3) := by decide +kernel
theorem dX7_pouredHeap_34 : decode cX7_pouredHeap 34 = .ok (.goto (-29), 3) := by decide +kernel
theorem dX7_pouredHeap_37 : decode cX7_pouredHeap 37 = .ok (.iload_n 3, 1) := by decide +kernel
theorem dX7_pouredHeap_38 : decode cX7_pouredHeap 38 = .ok (.ireturn, 1) := by decide +kernel
theorem dX7_odds_0 : decode cX7_odds 0 = .ok (.iload_n 1, 1) := by decide +kernel
theorem dX7_odds_1 : decode cX7_odds 1 = .ok (.iconst 0, 1) := by decide +kernel
theorem dX7_odds_2 : decode cX7_odds 2 = .ok (.sipush 500, 3) := by decide +kernel
theorem dX7_odds_5 : decode cX7_odds 5 = .ok (.invokestatic 53, 3) := by decide +kernel
theorem dX7_odds_8 : decode cX7_odds 8 = .ok (.ifCond .eq 12, 3) := by decide +kernel
theorem dX7_odds_11 : decode cX7_odds 11 = .ok (.iload_n 2, 1) := by decide +kernel
theorem dX7_odds_12 : decode cX7_odds 12 = .ok (.iconst 0, 1) := by decide +kernel
theorem dX7_odds_13 : decode cX7_odds 13 = .ok (.iconst 1, 1) := by decide +kernel
theorem dX7_odds_14 : decode cX7_odds 14 = .ok (.invokestatic 53, 3) := by decide +kernel
theorem dX7_odds_17 : decode cX7_odds 17 = .ok (.ifCond .ne 9, 3) := by decide +kernel
theorem dX7_odds_20 : decode cX7_odds 20 = .ok (.aload_n 0, 1) := by decide +kernel
theorem dX7_odds_21 : decode cX7_odds 21 = .ok (.iconst 1, 1) := by decide +kernel
theorem dX7_odds_22 : decode cX7_odds 22 = .ok (.invokevirtual 65, 3) := by decide +kernel
theorem dX7_odds_25 : decode cX7_odds 25 = .ok (.ireturn, 1) := by decide +kernel
theorem dX7_odds_26 : decode cX7_odds 26 = .ok (.aload_n 0, 1) := by decide +kernel
theorem dX7_odds_27 : decode cX7_odds 27 = .ok (.getfield 7, 3) := by decide +kernel
theorem dX7_odds_30 : decode cX7_odds 30 = .ok (.iconst 4, 1) := by decide +kernel
theorem dX7_odds_31 : decode cX7_odds 31 = .ok (.iaload, 1) := by decide +kernel
theorem dX7_odds_32 : decode cX7_odds 32 = .ok (.iconst 2, 1) := by decide +kernel
theorem dX7_odds_33 : decode cX7_odds 33 = .ok (.if_icmp .ge 9, 3) := by decide +kernel
theorem dX7_odds_36 : decode cX7_odds 36 = .ok (.aload_n 0, 1) := by decide +kernel
theorem dX7_odds_37 : decode cX7_odds 37 = .ok (.iconst 3, 1) := by decide +kernel
theorem dX7_odds_38 : decode cX7_odds 38 = .ok (.invokevirtual 65, 3) := by decide +kernel
theorem dX7_odds_41 : decode cX7_odds 41 = .ok (.ireturn, 1) := by decide +kernel
theorem dX7_odds_42 : decode cX7_odds 42 = .ok (.iconst 0, 1) := by decide +kernel
theorem dX7_odds_43 : decode cX7_odds 43 = .ok (.istore_n 3, 1) := by decide +kernel
theorem dX7_odds_44 : decode cX7_odds 44 = .ok (.iconst 0, 1) := by decide +kernel
theorem dX7_odds_45 : decode cX7_odds 45 = .ok (.istore 4, 2) := by decide +kernel
theorem dX7_odds_47 : decode cX7_odds 47 = .ok (.iconst 0, 1) := by decide +kernel
theorem dX7_odds_48 : decode cX7_odds 48 = .ok (.istore 5, 2) := by decide +kernel
theorem dX7_odds_50 : decode cX7_odds 50 = .ok (.iload 5, 2) := by decide +kernel
theorem dX7_odds_52 : decode cX7_odds 52 = .ok (.aload_n 0, 1) := by decide +kernel
theorem dX7_odds_53 : decode cX7_odds 53 = .ok (.getfield 7, 3) := by decide +kernel
theorem dX7_odds_56 : decode cX7_odds 56 = .ok (.iconst 4, 1) := by decide +kernel
theorem dX7_odds_57 : decode cX7_odds 57 = .ok (.iaload, 1) := by decide +kernel
theorem dX7_odds_58 : decode cX7_odds 58 = .ok (.if_icmp .ge 57, 3) := by decide +kernel
theorem dX7_odds_61 : decode cX7_odds 61 = .ok (.iload 5, 2) := by decide +kernel
theorem dX7_odds_63 : decode cX7_odds 63 = .ok (.iconst 1, 1) := by decide +kernel
theorem dX7_odds_64 : decode cX7_odds 64 = .ok (.iadd, 1) := by decide +kernel
theorem dX7_odds_65 : decode cX7_odds 65 = .ok (.istore 6, 2) := by decide +kernel
theorem dX7_odds_67 : decode cX7_odds 67 = .ok (.iload 6, 2) := by decide +kernel
theorem dX7_odds_69 : decode cX7_odds 69 = .ok (.aload_n 0, 1) := by decide +kernel
theorem dX7_odds_70 : decode cX7_odds 70 = .ok (.getfield 7, 3) := by decide +kernel
theorem dX7_odds_73 : decode cX7_odds 73 = .ok (.iconst 4, 1) := by decide +kernel
theorem dX7_odds_74 : decode cX7_odds 74 = .ok (.iaload, 1) := by decide +kernel
theorem dX7_odds_75 : decode cX7_odds 75 = .ok (.if_icmp .ge 34, 3) := by decide +kernel
theorem dX7_odds_78 : decode cX7_odds 78 = .ok (.iinc 3 1, 3) := by decide +kernel
theorem dX7_odds_81 : decode cX7_odds 81 = .ok (.iload 4, 2) := by decide +kernel
theorem dX7_odds_83 : decode cX7_odds 83 = .ok (.aload_n 0, 1) := by decide +kernel
theorem dX7_odds_84 : decode cX7_odds 84 = .ok (.iload 5, 2) := by decide +kernel
theorem dX7_odds_86 : decode cX7_odds 86 = .ok (.iload 6, 2) := by decide +kernel
theorem dX7_odds_88 : decode cX7_odds 88 = .ok (.invokevirtual 225, 3) := by decide +kernel
theorem dX7_odds_91 : decode cX7_odds 91 = .ok (.iload_n 1, 1) := by decide +kernel
theorem dX7_odds_92 : decode cX7_odds 92 = .ok (.if_icmp .ge 7, 3) := by decide +kernel
theorem dX7_odds_95 : decode cX7_odds 95 = .ok (.iconst 1, 1) := by decide +kernel
theorem dX7_odds_96 : decode cX7_odds 96 = .ok (.goto 4, 3) := by decide +kernel
theorem dX7_odds_99 : decode cX7_odds 99 = .ok (.iconst 0, 1) := by decide +kernel
theorem dX7_odds_100 : decode cX7_odds 100 = .ok (.iadd, 1) := by decide +kernel
theorem dX7_odds_101 : decode cX7_odds 101 = .ok (.istore 4, 2) := by decide +kernel
theorem dX7_odds_103 : decode cX7_odds 103 = .ok (.iinc 6 1, 3) := by decide +kernel
theorem dX7_odds_106 : decode cX7_odds 106 = .ok (.goto (-39), 3) := by decide +kernel
theorem dX7_odds_109 : decode cX7_odds 109 = .ok (.iinc 5 1, 3) := by decide +kernel
theorem dX7_odds_112 : decode cX7_odds 112 = .ok (.goto (-62), 3) := by decide +kernel
theorem dX7_odds_115 : decode cX7_odds 115 = .ok (.iload 4, 2) := by decide +kernel
theorem dX7_odds_117 : decode cX7_odds 117 = .ok (.iload_n 3, 1) := by decide +kernel
theorem dX7_odds_118 : decode cX7_odds 118 = .ok (.invokestatic 228, 3) := by decide +kernel
theorem dX7_odds_121 : decode cX7_odds 121 = .ok (.istore 5, 2) := by decide +kernel
theorem dX7_odds_123 : decode cX7_odds 123 = .ok (.iload_n 2, 1) := by decide +kernel
theorem dX7_odds_124 : decode cX7_odds 124 = .ok (.ifCond .ne 11, 3) := by decide +kernel
theorem dX7_odds_127 : decode cX7_odds 127 = .ok (.iload 4, 2) := by decide +kernel
theorem dX7_odds_129 : decode cX7_odds 129 = .ok (.iload 5, 2) := by decide +kernel
theorem dX7_odds_131 : decode cX7_odds 131 = .ok (.idiv, 1) := by decide +kernel
theorem dX7_odds_132 : decode cX7_odds 132 = .ok (.goto 7, 3) := by decide +kernel
theorem dX7_odds_135 : decode cX7_odds 135 = .ok (.iload_n 3, 1) := by decide +kernel
theorem dX7_odds_136 : decode cX7_odds 136 = .ok (.iload 5, 2) := by decide +kernel
theorem dX7_odds_138 : decode cX7_odds 138 = .ok (.idiv, 1) := by decide +kernel
theorem dX7_odds_139 : decode cX7_odds 139 = .ok (.ireturn, 1) := by decide +kernel
theorem dX7_haveSo_0 : decode cX7_haveSo 0 = .ok (.iconst 1, 1) := by decide +kernel
theorem dX7_haveSo_1 : decode cX7_haveSo 1 = .ok (.istore_n 3, 1) := by decide +kernel
theorem dX7_haveSo_2 : decode cX7_haveSo 2 = .ok (.iconst 0, 1) := by decide +kernel
theorem dX7_haveSo_3 : decode cX7_haveSo 3 = .ok (.istore 4, 2) := by decide +kernel
theorem dX7_haveSo_5 : decode cX7_haveSo 5 = .ok (.iload 4, 2) := by decide +kernel
theorem dX7_haveSo_7 : decode cX7_haveSo 7 = .ok (.aload_n 0, 1) := by decide +kernel
theorem dX7_haveSo_8 : decode cX7_haveSo 8 = .ok (.getfield 43, 3) := by decide +kernel
theorem dX7_haveSo_11 : decode cX7_haveSo 11 = .ok (.iload_n 2, 1) := by decide +kernel
theorem dX7_haveSo_12 : decode cX7_haveSo 12 = .ok (.iaload, 1) := by decide +kernel
theorem dX7_haveSo_13 : decode cX7_haveSo 13 = .ok (.if_icmp .ge 86, 3) := by decide +kernel
theorem dX7_haveSo_16 : decode cX7_haveSo 16 = .ok (.iconst 0, 1) := by decide +kernel
theorem dX7_haveSo_17 : decode cX7_haveSo 17 = .ok (.istore 5, 2) := by decide +kernel
theorem dX7_haveSo_19 : decode cX7_haveSo 19 = .ok (.iconst 0, 1) := by decide +kernel
theorem dX7_haveSo_20 : decode cX7_haveSo 20 = .ok (.istore 6, 2) := by decide +kernel
theorem dX7_haveSo_22 : decode cX7_haveSo 22 = .ok (.iload 6, 2) := by decide +kernel
theorem dX7_haveSo_24 : decode cX7_haveSo 24 = .ok (.aload_n 0, 1) := by decide +kernel
theorem dX7_haveSo_25 : decode cX7_haveSo 25 = .ok (.getfield 7, 3) := by decide +kernel
theorem dX7_haveSo_28 : decode cX7_haveSo 28 = .ok (.iconst 4, 1) := by decide +kernel
theorem dX7_haveSo_29 : decode cX7_haveSo 29 = .ok (.iaload, 1) := by decide +kernel
theorem dX7_haveSo_30 : decode cX7_haveSo 30 = .ok (.if_icmp .ge 36, 3) := by decide +kernel
theorem dX7_haveSo_33 : decode cX7_haveSo 33 = .ok (.iload 5, 2) := by decide +kernel
theorem dX7_haveSo_35 : decode cX7_haveSo 35 = .ok (.iload_n 1, 1) := by decide +kernel
theorem dX7_haveSo_36 : decode cX7_haveSo 36 = .ok (.iload 6, 2) := by decide +kernel
theorem dX7_haveSo_38 : decode cX7_haveSo 38 = .ok (.ishr, 1) := by decide +kernel
theorem dX7_haveSo_39 : decode cX7_haveSo 39 = .ok (.iconst 1, 1) := by decide +kernel
theorem dX7_haveSo_40 : decode cX7_haveSo 40 = .ok (.iand, 1) := by decide +kernel
theorem dX7_haveSo_41 : decode cX7_haveSo 41 = .ok (.iconst 1, 1) := by decide +kernel
theorem dX7_haveSo_42 : decode cX7_haveSo 42 = .ok (.if_icmp .ne 14, 3) := by decide +kernel
theorem dX7_haveSo_45 : decode cX7_haveSo 45 = .ok (.aload_n 0, 1) := by decide +kernel
theorem dX7_haveSo_46 : decode cX7_haveSo 46 = .ok (.iload 6, 2) := by decide +kernel
theorem dX7_haveSo_48 : decode cX7_haveSo 48 = .ok (.iload 4, 2) := by decide +kernel
theorem dX7_haveSo_50 : decode cX7_haveSo 50 = .ok (.invokevirtual 57, 3) := by decide +kernel
theorem dX7_haveSo_53 : decode cX7_haveSo 53 = .ok (.goto 4, 3) := by decide +kernel
theorem dX7_haveSo_56 : decode cX7_haveSo 56 = .ok (.iconst 0, 1) := by decide +kernel
theorem dX7_haveSo_57 : decode cX7_haveSo 57 = .ok (.iadd, 1) := by decide +kernel
theorem dX7_haveSo_58 : decode cX7_haveSo 58 = .ok (.istore 5, 2) := by decide +kernel
theorem dX7_haveSo_60 : decode cX7_haveSo 60 = .ok (.iinc 6 1, 3) := by decide +kernel
theorem dX7_haveSo_63 : decode cX7_haveSo 63 = .ok (.goto (-41), 3) := by decide +kernel
theorem dX7_haveSo_66 : decode cX7_haveSo 66 = .ok (.iload_n 3, 1) := by decide +kernel
theorem dX7_haveSo_67 : decode cX7_haveSo 67 = .ok (.ifCond .eq 24, 3) := by decide +kernel
theorem dX7_haveSo_70 : decode cX7_haveSo 70 = .ok (.iload 5, 2) := by decide +kernel
theorem dX7_haveSo_72 : decode cX7_haveSo 72 = .ok (.aload_n 0, 1) := by decide +kernel
theorem dX7_haveSo_73 : decode cX7_haveSo 73 = .ok (.getfield 46, 3) := by decide +kernel
theorem dX7_haveSo_76 : decode cX7_haveSo 76 = .ok (.bipush 24, 2) := by decide +kernel
theorem dX7_haveSo_78 : decode cX7_haveSo 78 = .ok (.iload_n 2, 1) := by decide +kernel
theorem dX7_haveSo_79 : decode cX7_haveSo 79 = .ok (.imul, 1) := by decide +kernel
theorem dX7_haveSo_80 : decode cX7_haveSo 80 = .ok (.iload 4, 2) := by decide +kernel
theorem dX7_haveSo_82 : decode cX7_haveSo 82 = .ok (.iadd, 1) := by decide +kernel
theorem dX7_haveSo_83 : decode cX7_haveSo 83 = .ok (.iaload, 1) := by decide +kernel
theorem dX7_haveSo_84 : decode cX7_haveSo 84 = .ok (.if_icmp .ne 7, 3) := by decide +kernel
theorem dX7_haveSo_87 : decode cX7_haveSo 87 = .ok (.iconst 1, 1) := by decide +kernel
theorem dX7_haveSo_88 : decode cX7_haveSo 88 = .ok (.goto 4, 3) := by decide +kernel
theorem dX7_haveSo_91 : decode cX7_haveSo 91 = .ok (.iconst 0, 1) := by decide +kernel
theorem dX7_haveSo_92 : decode cX7_haveSo 92 = .ok (.istore_n 3, 1) := by decide +kernel
theorem dX7_haveSo_93 : decode cX7_haveSo 93 = .ok (.iinc 4 1, 3) := by decide +kernel
theorem dX7_haveSo_96 : decode cX7_haveSo 96 = .ok (.goto (-91), 3) := by decide +kernel
theorem dX7_haveSo_99 : decode cX7_haveSo 99 = .ok (.iload_n 3, 1) := by decide +kernel
theorem dX7_haveSo_100 : decode cX7_haveSo 100 = .ok (.ireturn, 1) := by decide +kernel
theorem dX7_fits_0 : decode cX7_fits 0 = .ok (.iload_n 2, 1) := by decide +kernel
theorem dX7_fits_1 : decode cX7_fits 1 = .ok (.iconst 0, 1) := by decide +kernel
theorem dX7_fits_2 : decode cX7_fits 2 = .ok (.iconst 1, 1) := by decide +kernel
theorem dX7_fits_3 : decode cX7_fits 3 = .ok (.invokestatic 53, 3) := by decide +kernel
theorem dX7_fits_6 : decode cX7_fits 6 = .ok (.ifCond .eq 11, 3) := by decide +kernel
theorem dX7_fits_9 : decode cX7_fits 9 = .ok (.aload_n 0, 1) := by decide +kernel
theorem dX7_fits_10 : decode cX7_fits 10 = .ok (.iload_n 1, 1) := by decide +kernel
theorem dX7_fits_11 : decode cX7_fits 11 = .ok (.invokevirtual 231, 3) := by decide +kernel
theorem dX7_fits_14 : decode cX7_fits 14 = .ok (.goto 4, 3) := by decide +kernel
theorem dX7_fits_17 : decode cX7_fits 17 = .ok (.iconst 1, 1) := by decide +kernel
theorem dX7_fits_18 : decode cX7_fits 18 = .ok (.istore_n 3, 1) := by decide +kernel
theorem dX7_fits_19 : decode cX7_fits 19 = .ok (.iload_n 3, 1) := by decide +kernel
theorem dX7_fits_20 : decode cX7_fits 20 = .ok (.ifCond .eq 9, 3) := by decide +kernel
theorem dX7_fits_23 : decode cX7_fits 23 = .ok (.aload_n 0, 1) := by decide +kernel
theorem dX7_fits_24 : decode cX7_fits 24 = .ok (.iload_n 3, 1) := by decide +kernel
theorem dX7_fits_25 : decode cX7_fits 25 = .ok (.invokevirtual 65, 3) := by decide +kernel
theorem dX7_fits_28 : decode cX7_fits 28 = .ok (.ireturn, 1) := by decide +kernel
theorem dX7_fits_29 : decode cX7_fits 29 = .ok (.aload_n 0, 1) := by decide +kernel
theorem dX7_fits_30 : decode cX7_fits 30 = .ok (.getfield 43, 3) := by decide +kernel
theorem dX7_fits_33 : decode cX7_fits 33 = .ok (.iload_n 1, 1) := by decide +kernel
theorem dX7_fits_34 : decode cX7_fits 34 = .ok (.iaload, 1) := by decide +kernel
theorem dX7_fits_35 : decode cX7_fits 35 = .ok (.iconst 5, 1) := by decide +kernel
theorem dX7_fits_36 : decode cX7_fits 36 = .ok (.if_icmp .le 9, 3) := by decide +kernel
theorem dX7_fits_39 : decode cX7_fits 39 = .ok (.aload_n 0, 1) := by decide +kernel
theorem dX7_fits_40 : decode cX7_fits 40 = .ok (.iconst 2, 1) := by decide +kernel
theorem dX7_fits_41 : decode cX7_fits 41 = .ok (.invokevirtual 65, 3) := by decide +kernel
theorem dX7_fits_44 : decode cX7_fits 44 = .ok (.ireturn, 1) := by decide +kernel
theorem dX7_fits_45 : decode cX7_fits 45 = .ok (.iconst 0, 1) := by decide +kernel
theorem dX7_fits_46 : decode cX7_fits 46 = .ok (.istore 4, 2) := by decide +kernel
theorem dX7_fits_48 : decode cX7_fits 48 = .ok (.iconst (-1), 1) := by decide +kernel
theorem dX7_fits_49 : decode cX7_fits 49 = .ok (.istore 5, 2) := by decide +kernel
theorem dX7_fits_51 : decode cX7_fits 51 = .ok (.iconst 1, 1) := by decide +kernel
theorem dX7_fits_52 : decode cX7_fits 52 = .ok (.aload_n 0, 1) := by decide +kernel
theorem dX7_fits_53 : decode cX7_fits 53 = .ok (.getfield 7, 3) := by decide +kernel
theorem dX7_fits_56 : decode cX7_fits 56 = .ok (.iconst 4, 1) := by decide +kernel
theorem dX7_fits_57 : decode cX7_fits 57 = .ok (.iaload, 1) := by decide +kernel
theorem dX7_fits_58 : decode cX7_fits 58 = .ok (.ishl, 1) := by decide +kernel
theorem dX7_fits_59 : decode cX7_fits 59 = .ok (.iconst 1, 1) := by decide +kernel
theorem dX7_fits_60 : decode cX7_fits 60 = .ok (.isub, 1) := by decide +kernel
theorem dX7_fits_61 : decode cX7_fits 61 = .ok (.istore 6, 2) := by decide +kernel
theorem dX7_fits_63 : decode cX7_fits 63 = .ok (.iload 6, 2) := by decide +kernel
theorem dX7_fits_65 : decode cX7_fits 65 = .ok (.ifCond .le 47, 3) := by decide +kernel
theorem dX7_fits_68 : decode cX7_fits 68 = .ok (.aload_n 0, 1) := by decide +kernel
theorem dX7_fits_69 : decode cX7_fits 69 = .ok (.iload 6, 2) := by decide +kernel
theorem dX7_fits_71 : decode cX7_fits 71 = .ok (.iload_n 1, 1) := by decide +kernel
theorem dX7_fits_72 : decode cX7_fits 72 = .ok (.invokevirtual 234, 3) := by decide +kernel
theorem dX7_fits_75 : decode cX7_fits 75 = .ok (.istore 7, 2) := by decide +kernel
theorem dX7_fits_77 : decode cX7_fits 77 = .ok (.iload 4, 2) := by decide +kernel
theorem dX7_fits_79 : decode cX7_fits 79 = .ok (.iload 7, 2) := by decide +kernel
theorem dX7_fits_81 : decode cX7_fits 81 = .ok (.ifCond .eq 7, 3) := by decide +kernel
theorem dX7_fits_84 : decode cX7_fits 84 = .ok (.iconst 1, 1) := by decide +kernel
theorem dX7_fits_85 : decode cX7_fits 85 = .ok (.goto 4, 3) := by decide +kernel
theorem dX7_fits_88 : decode cX7_fits 88 = .ok (.iconst 0, 1) := by decide +kernel
theorem dX7_fits_89 : decode cX7_fits 89 = .ok (.iadd, 1) := by decide +kernel
theorem dX7_fits_90 : decode cX7_fits 90 = .ok (.istore 4, 2) := by decide +kernel
theorem dX7_fits_92 : decode cX7_fits 92 = .ok (.iload 7, 2) := by decide +kernel
theorem dX7_fits_94 : decode cX7_fits 94 = .ok (.ifCond .eq 8, 3) := by decide +kernel
theorem dX7_fits_97 : decode cX7_fits 97 = .ok (.iload 6, 2) := by decide +kernel
theorem dX7_fits_99 : decode cX7_fits 99 = .ok (.goto 5, 3) := by decide +kernel
theorem dX7_fits_102 : decode cX7_fits 102 = .ok (.iload 5, 2) := by decide +kernel
theorem dX7_fits_104 : decode cX7_fits 104 = .ok (.istore 5, 2) := by decide +kernel
theorem dX7_fits_106 : decode cX7_fits 106 = .ok (.iinc 6 (-1), 3) := by decide +kernel
theorem dX7_fits_109 : decode cX7_fits 109 = .ok (.goto (-46), 3) := by decide +kernel
theorem dX7_fits_112 : decode cX7_fits 112 = .ok (.iload_n 2, 1) := by decide +kernel
theorem dX7_fits_113 : decode cX7_fits 113 = .ok (.ifCond .ne 8, 3) := by decide +kernel
theorem dX7_fits_116 : decode cX7_fits 116 = .ok (.iload 4, 2) := by decide +kernel
theorem dX7_fits_118 : decode cX7_fits 118 = .ok (.goto 19, 3) := by decide +kernel
theorem dX7_fits_121 : decode cX7_fits 121 = .ok (.iload 5, 2) := by decide +kernel
theorem dX7_fits_123 : decode cX7_fits 123 = .ok (.iconst (-1), 1) := by decide +kernel
theorem dX7_fits_124 : decode cX7_fits 124 = .ok (.if_icmp .ne 11, 3) := by decide +kernel
theorem dX7_fits_127 : decode cX7_fits 127 = .ok (.aload_n 0, 1) := by decide +kernel
theorem dX7_fits_128 : decode cX7_fits 128 = .ok (.iconst 2, 1) := by decide +kernel
theorem dX7_fits_129 : decode cX7_fits 129 = .ok (.invokevirtual 65, 3) := by decide +kernel
theorem dX7_fits_132 : decode cX7_fits 132 = .ok (.goto 5, 3) := by decide +kernel
theorem dX7_fits_135 : decode cX7_fits 135 = .ok (.iload 5, 2) := by decide +kernel
theorem dX7_fits_137 : decode cX7_fits 137 = .ok (.ireturn, 1) := by decide +kernel
theorem dX7_starts_0 : decode cX7_starts 0 = .ok (.aload_n 0, 1) := by decide +kernel
theorem dX7_starts_1 : decode cX7_starts 1 = .ok (.getfield 237, 3) := by decide +kernel
theorem dX7_starts_4 : decode cX7_starts 4 = .ok (.bipush 30, 2) := by decide +kernel
theorem dX7_starts_6 : decode cX7_starts 6 = .ok (.if_icmp .ge 23, 3) := by decide +kernel
theorem dX7_starts_9 : decode cX7_starts 9 = .ok (.aload_n 0, 1) := by decide +kernel
theorem dX7_starts_10 : decode cX7_starts 10 = .ok (.getfield 37, 3) := by decide +kernel
theorem dX7_starts_13 : decode cX7_starts 13 = .ok (.aload_n 0, 1) := by decide +kernel
theorem dX7_starts_14 : decode cX7_starts 14 = .ok (.getfield 237, 3) := by decide +kernel
theorem dX7_starts_17 : decode cX7_starts 17 = .ok (.iload_n 1, 1) := by decide +kernel
theorem dX7_starts_18 : decode cX7_starts 18 = .ok (.iastore, 1) := by decide +kernel
theorem dX7_starts_19 : decode cX7_starts 19 = .ok (.aload_n 0, 1) := by decide +kernel
theorem dX7_starts_20 : decode cX7_starts 20 = .ok (.dup, 1) := by decide +kernel
theorem dX7_starts_21 : decode cX7_starts 21 = .ok (.getfield 237, 3) := by decide +kernel
theorem dX7_starts_24 : decode cX7_starts 24 = .ok (.iconst 1, 1) := by decide +kernel
theorem dX7_starts_25 : decode cX7_starts 25 = .ok (.iadd, 1) := by decide +kernel
theorem dX7_starts_26 : decode cX7_starts 26 = .ok (.putfield 237, 3) := by decide +kernel
theorem dX7_starts_29 : decode cX7_starts 29 = .ok (.return_, 1) := by decide +kernel
theorem dX7_above_0 : decode cX7_above 0 = .ok (.iload_n 0, 1) := by decide +kernel
theorem dX7_above_1 : decode cX7_above 1 = .ok (.iconst 4, 1) := by decide +kernel
theorem dX7_above_2 : decode cX7_above 2 = .ok (.if_icmp .ne 7, 3) := by decide +kernel
theorem dX7_above_5 : decode cX7_above 5 = .ok (.iconst 1, 1) := by decide +kernel
theorem dX7_above_6 : decode cX7_above 6 = .ok (.goto 13, 3) := by decide +kernel
theorem dX7_above_9 : decode cX7_above 9 = .ok (.iload_n 0, 1) := by decide +kernel
theorem dX7_above_10 : decode cX7_above 10 = .ok (.iconst 5, 1) := by decide +kernel
theorem dX7_above_11 : decode cX7_above 11 = .ok (.if_icmp .ne 7, 3) := by decide +kernel
theorem dX7_above_14 : decode cX7_above 14 = .ok (.iconst 2, 1) := by decide +kernel
theorem dX7_above_15 : decode cX7_above 15 = .ok (.goto 4, 3) := by decide +kernel
theorem dX7_above_18 : decode cX7_above 18 = .ok (.iconst 0, 1) := by decide +kernel
theorem dX7_above_19 : decode cX7_above 19 = .ok (.ireturn, 1) := by decide +kernel
theorem dX7_kindNow_0 : decode cX7_kindNow 0 = .ok (.aload_n 0, 1) := by decide +kernel
theorem dX7_kindNow_1 : decode cX7_kindNow 1 = .ok (.aload_n 0, 1) := by decide +kernel
theorem dX7_kindNow_2 : decode cX7_kindNow 2 = .ok (.getfield 240, 3) := by decide +kernel
theorem dX7_kindNow_5 : decode cX7_kindNow 5 = .ok (.iconst 0, 1) := by decide +kernel
theorem dX7_kindNow_6 : decode cX7_kindNow 6 = .ok (.invokevirtual 124, 3) := by decide +kernel
theorem dX7_kindNow_9 : decode cX7_kindNow 9 = .ok (.ireturn, 1) := by decide +kernel
theorem dX7_mNow_0 : decode cX7_mNow 0 = .ok (.aload_n 0, 1) := by decide +kernel
theorem dX7_mNow_1 : decode cX7_mNow 1 = .ok (.aload_n 0, 1) := by decide +kernel
theorem dX7_mNow_2 : decode cX7_mNow 2 = .ok (.getfield 240, 3) := by decide +kernel
theorem dX7_mNow_5 : decode cX7_mNow 5 = .ok (.iconst 1, 1) := by decide +kernel
theorem dX7_mNow_6 : decode cX7_mNow 6 = .ok (.invokevirtual 124, 3) := by decide +kernel
theorem dX7_mNow_9 : decode cX7_mNow 9 = .ok (.ireturn, 1) := by decide +kernel
theorem dX7_washesAs_0 : decode cX7_washesAs 0 = .ok (.iload_n 1, 1) := by decide +kernel
theorem dX7_washesAs_1 : decode cX7_washesAs 1 = .ok (.tableswitch 101 0 6 #[43, 56, 101, 101, 74, 101, 92], 43) := by decide +kernel
theorem dX7_washesAs_44 : decode cX7_washesAs 44 = .ok (.aload_n 0, 1) := by decide +kernel
theorem dX7_washesAs_45 : decode cX7_washesAs 45 = .ok (.bipush 10, 2) := by decide +kernel
theorem dX7_washesAs_47 : decode cX7_washesAs 47 = .ok (.invokevirtual 243, 3) := by decide +kernel
theorem dX7_washesAs_50 : decode cX7_washesAs 50 = .ok (.iload_n 2, 1) := by decide +kernel
theorem dX7_washesAs_51 : decode cX7_washesAs 51 = .ok (.aload_n 0, 1) := by decide +kernel
theorem dX7_washesAs_52 : decode cX7_washesAs 52 = .ok (.getfield 240, 3) := by decide +kernel
theorem dX7_washesAs_55 : decode cX7_washesAs 55 = .ok (.iadd, 1) := by decide +kernel
theorem dX7_washesAs_56 : decode cX7_washesAs 56 = .ok (.ireturn, 1) := by decide +kernel
theorem dX7_washesAs_57 : decode cX7_washesAs 57 = .ok (.aload_n 0, 1) := by decide +kernel
theorem dX7_washesAs_58 : decode cX7_washesAs 58 = .ok (.bipush 20, 2) := by decide +kernel
theorem dX7_washesAs_60 : decode cX7_washesAs 60 = .ok (.invokevirtual 243, 3) := by decide +kernel
theorem dX7_washesAs_63 : decode cX7_washesAs 63 = .ok (.aload_n 0, 1) := by decide +kernel
theorem dX7_washesAs_64 : decode cX7_washesAs 64 = .ok (.iconst 1, 1) := by decide +kernel
theorem dX7_washesAs_65 : decode cX7_washesAs 65 = .ok (.invokestatic 175, 3) := by decide +kernel
theorem dX7_washesAs_68 : decode cX7_washesAs 68 = .ok (.iload_n 2, 1) := by decide +kernel
theorem dX7_washesAs_69 : decode cX7_washesAs 69 = .ok (.invokevirtual 247, 3) := by decide +kernel
theorem dX7_washesAs_72 : decode cX7_washesAs 72 = .ok (.iconst 4, 1) := by decide +kernel
theorem dX7_washesAs_73 : decode cX7_washesAs 73 = .ok (.isub, 1) := by decide +kernel
theorem dX7_washesAs_74 : decode cX7_washesAs 74 = .ok (.ireturn, 1) := by decide +kernel
theorem dX7_washesAs_75 : decode cX7_washesAs 75 = .ok (.aload_n 0, 1) := by decide +kernel
theorem dX7_washesAs_76 : decode cX7_washesAs 76 = .ok (.bipush 50, 2) := by decide +kernel
theorem dX7_washesAs_78 : decode cX7_washesAs 78 = .ok (.invokevirtual 243, 3) := by decide +kernel
theorem dX7_washesAs_81 : decode cX7_washesAs 81 = .ok (.aload_n 0, 1) := by decide +kernel
theorem dX7_washesAs_82 : decode cX7_washesAs 82 = .ok (.iconst 4, 1) := by decide +kernel
theorem dX7_washesAs_83 : decode cX7_washesAs 83 = .ok (.invokestatic 175, 3) := by decide +kernel
theorem dX7_washesAs_86 : decode cX7_washesAs 86 = .ok (.iload_n 2, 1) := by decide +kernel
theorem dX7_washesAs_87 : decode cX7_washesAs 87 = .ok (.invokevirtual 247, 3) := by decide +kernel
theorem dX7_washesAs_90 : decode cX7_washesAs 90 = .ok (.iconst 3, 1) := by decide +kernel
theorem dX7_washesAs_91 : decode cX7_washesAs 91 = .ok (.imul, 1) := by decide +kernel
theorem dX7_washesAs_92 : decode cX7_washesAs 92 = .ok (.ireturn, 1) := by decide +kernel
theorem dX7_washesAs_93 : decode cX7_washesAs 93 = .ok (.aload_n 0, 1) := by decide +kernel
theorem dX7_washesAs_94 : decode cX7_washesAs 94 = .ok (.bipush 70, 2) := by decide +kernel
theorem dX7_washesAs_96 : decode cX7_washesAs 96 = .ok (.invokevirtual 243, 3) := by decide +kernel
theorem dX7_washesAs_99 : decode cX7_washesAs 99 = .ok (.bipush 9, 2) := by decide +kernel
theorem dX7_washesAs_101 : decode cX7_washesAs 101 = .ok (.ireturn, 1) := by decide +kernel
theorem dX7_washesAs_102 : decode cX7_washesAs 102 = .ok (.aload_n 0, 1) := by decide +kernel
theorem dX7_washesAs_103 : decode cX7_washesAs 103 = .ok (.iload_n 1, 1) := by decide +kernel
theorem dX7_washesAs_104 : decode cX7_washesAs 104 = .ok (.invokestatic 175, 3) := by decide +kernel
theorem dX7_washesAs_107 : decode cX7_washesAs 107 = .ok (.iload_n 2, 1) := by decide +kernel
theorem dX7_washesAs_108 : decode cX7_washesAs 108 = .ok (.invokevirtual 247, 3) := by decide +kernel
theorem dX7_washesAs_111 : decode cX7_washesAs 111 = .ok (.ireturn, 1) := by decide +kernel
theorem dX7_wringsAs_0 : decode cX7_wringsAs 0 = .ok (.iload_n 1, 1) := by decide +kernel
theorem dX7_wringsAs_1 : decode cX7_wringsAs 1 = .ok (.tableswitch 119 0 6 #[43, 119, 61, 119, 119, 79, 97], 43) := by decide +kernel
theorem dX7_wringsAs_44 : decode cX7_wringsAs 44 = .ok (.aload_n 0, 1) := by decide +kernel
theorem dX7_wringsAs_45 : decode cX7_wringsAs 45 = .ok (.bipush 11, 2) := by decide +kernel
theorem dX7_wringsAs_47 : decode cX7_wringsAs 47 = .ok (.invokevirtual 243, 3) := by decide +kernel
theorem dX7_wringsAs_50 : decode cX7_wringsAs 50 = .ok (.aload_n 0, 1) := by decide +kernel
theorem dX7_wringsAs_51 : decode cX7_wringsAs 51 = .ok (.aload_n 0, 1) := by decide +kernel
theorem dX7_wringsAs_52 : decode cX7_wringsAs 52 = .ok (.invokevirtual 250, 3) := by decide +kernel
theorem dX7_wringsAs_55 : decode cX7_wringsAs 55 = .ok (.iload_n 2, 1) := by decide +kernel
theorem dX7_wringsAs_56 : decode cX7_wringsAs 56 = .ok (.invokevirtual 247, 3) := by decide +kernel
theorem dX7_wringsAs_59 : decode cX7_wringsAs 59 = .ok (.iconst 2, 1) := by decide +kernel
theorem dX7_wringsAs_60 : decode cX7_wringsAs 60 = .ok (.imul, 1) := by decide +kernel
theorem dX7_wringsAs_61 : decode cX7_wringsAs 61 = .ok (.ireturn, 1) := by decide +kernel
theorem dX7_wringsAs_62 : decode cX7_wringsAs 62 = .ok (.aload_n 0, 1) := by decide +kernel
theorem dX7_wringsAs_63 : decode cX7_wringsAs 63 = .ok (.bipush 30, 2) := by decide +kernel
theorem dX7_wringsAs_65 : decode cX7_wringsAs 65 = .ok (.invokevirtual 243, 3) := by decide +kernel
theorem dX7_wringsAs_68 : decode cX7_wringsAs 68 = .ok (.iconst 0, 1) := by decide +kernel
theorem dX7_wringsAs_69 : decode cX7_wringsAs 69 = .ok (.aload_n 0, 1) := by decide +kernel
theorem dX7_wringsAs_70 : decode cX7_wringsAs 70 = .ok (.iconst 2, 1) := by decide +kernel
theorem dX7_wringsAs_71 : decode cX7_wringsAs 71 = .ok (.invokestatic 175, 3) := by decide +kernel
theorem dX7_wringsAs_74 : decode cX7_wringsAs 74 = .ok (.iload_n 2, 1) := by decide +kernel
theorem dX7_wringsAs_75 : decode cX7_wringsAs 75 = .ok (.invokevirtual 253, 3) := by decide +kernel
theorem dX7_wringsAs_78 : decode cX7_wringsAs 78 = .ok (.isub, 1) := by decide +kernel
theorem dX7_wringsAs_79 : decode cX7_wringsAs 79 = .ok (.ireturn, 1) := by decide +kernel
theorem dX7_wringsAs_80 : decode cX7_wringsAs 80 = .ok (.aload_n 0, 1) := by decide +kernel
theorem dX7_wringsAs_81 : decode cX7_wringsAs 81 = .ok (.bipush 60, 2) := by decide +kernel
theorem dX7_wringsAs_83 : decode cX7_wringsAs 83 = .ok (.invokevirtual 243, 3) := by decide +kernel
theorem dX7_wringsAs_86 : decode cX7_wringsAs 86 = .ok (.aload_n 0, 1) := by decide +kernel
theorem dX7_wringsAs_87 : decode cX7_wringsAs 87 = .ok (.iconst 5, 1) := by decide +kernel
theorem dX7_wringsAs_88 : decode cX7_wringsAs 88 = .ok (.invokestatic 175, 3) := by decide +kernel
theorem dX7_wringsAs_91 : decode cX7_wringsAs 91 = .ok (.iload_n 2, 1) := by decide +kernel
theorem dX7_wringsAs_92 : decode cX7_wringsAs 92 = .ok (.iconst 1, 1) := by decide +kernel
theorem dX7_wringsAs_93 : decode cX7_wringsAs 93 = .ok (.iadd, 1) := by decide +kernel
theorem dX7_wringsAs_94 : decode cX7_wringsAs 94 = .ok (.invokevirtual 253, 3) := by decide +kernel
theorem dX7_wringsAs_97 : decode cX7_wringsAs 97 = .ok (.ireturn, 1) := by decide +kernel
theorem dX7_wringsAs_98 : decode cX7_wringsAs 98 = .ok (.aload_n 0, 1) := by decide +kernel
theorem dX7_wringsAs_99 : decode cX7_wringsAs 99 = .ok (.bipush 71, 2) := by decide +kernel
theorem dX7_wringsAs_101 : decode cX7_wringsAs 101 = .ok (.invokevirtual 243, 3) := by decide +kernel
theorem dX7_wringsAs_104 : decode cX7_wringsAs 104 = .ok (.aload_n 0, 1) := by decide +kernel
theorem dX7_wringsAs_105 : decode cX7_wringsAs 105 = .ok (.bipush 6, 2) := by decide +kernel
theorem dX7_wringsAs_107 : decode cX7_wringsAs 107 = .ok (.invokestatic 175, 3) := by decide +kernel
theorem dX7_wringsAs_110 : decode cX7_wringsAs 110 = .ok (.iload_n 2, 1) := by decide +kernel
theorem dX7_wringsAs_111 : decode cX7_wringsAs 111 = .ok (.invokevirtual 253, 3) := by decide +kernel
theorem dX7_wringsAs_114 : decode cX7_wringsAs 114 = .ok (.aload_n 0, 1) := by decide +kernel
theorem dX7_wringsAs_115 : decode cX7_wringsAs 115 = .ok (.invokevirtual 256, 3) := by decide +kernel
theorem dX7_wringsAs_118 : decode cX7_wringsAs 118 = .ok (.iadd, 1) := by decide +kernel
theorem dX7_wringsAs_119 : decode cX7_wringsAs 119 = .ok (.ireturn, 1) := by decide +kernel
theorem dX7_wringsAs_120 : decode cX7_wringsAs 120 = .ok (.aload_n 0, 1) := by decide +kernel
theorem dX7_wringsAs_121 : decode cX7_wringsAs 121 = .ok (.iload_n 1, 1) := by decide +kernel
theorem dX7_wringsAs_122 : decode cX7_wringsAs 122 = .ok (.invokestatic 175, 3) := by decide +kernel
theorem dX7_wringsAs_125 : decode cX7_wringsAs 125 = .ok (.iload_n 2, 1) := by decide +kernel
theorem dX7_wringsAs_126 : decode cX7_wringsAs 126 = .ok (.invokevirtual 253, 3) := by decide +kernel
theorem dX7_wringsAs_129 : decode cX7_wringsAs 129 = .ok (.ireturn, 1) := by decide +kernel
theorem dX7_airsAs_0 : decode cX7_airsAs 0 = .ok (.iload_n 1, 1) := by decide +kernel
theorem dX7_airsAs_1 : decode cX7_airsAs 1 = .ok (.tableswitch 95 0 4 #[35, 95, 95, 56, 74], 35) := by decide +kernel
theorem dX7_airsAs_36 : decode cX7_airsAs 36 = .ok (.aload_n 0, 1) := by decide +kernel
theorem dX7_airsAs_37 : decode cX7_airsAs 37 = .ok (.bipush 12, 2) := by decide +kernel
theorem dX7_airsAs_39 : decode cX7_airsAs 39 = .ok (.invokevirtual 243, 3) := by decide +kernel
theorem dX7_airsAs_42 : decode cX7_airsAs 42 = .ok (.aload_n 0, 1) := by decide +kernel
theorem dX7_airsAs_43 : decode cX7_airsAs 43 = .ok (.aload_n 0, 1) := by decide +kernel
theorem dX7_airsAs_44 : decode cX7_airsAs 44 = .ok (.invokevirtual 250, 3) := by decide +kernel
theorem dX7_airsAs_47 : decode cX7_airsAs 47 = .ok (.iload_n 2, 1) := by decide +kernel
theorem dX7_airsAs_48 : decode cX7_airsAs 48 = .ok (.invokevirtual 253, 3) := by decide +kernel
theorem dX7_airsAs_51 : decode cX7_airsAs 51 = .ok (.aload_n 0, 1) := by decide +kernel
theorem dX7_airsAs_52 : decode cX7_airsAs 52 = .ok (.invokevirtual 256, 3) := by decide +kernel
theorem dX7_airsAs_55 : decode cX7_airsAs 55 = .ok (.isub, 1) := by decide +kernel
theorem dX7_airsAs_56 : decode cX7_airsAs 56 = .ok (.ireturn, 1) := by decide +kernel
theorem dX7_airsAs_57 : decode cX7_airsAs 57 = .ok (.aload_n 0, 1) := by decide +kernel
theorem dX7_airsAs_58 : decode cX7_airsAs 58 = .ok (.bipush 40, 2) := by decide +kernel
theorem dX7_airsAs_60 : decode cX7_airsAs 60 = .ok (.invokevirtual 243, 3) := by decide +kernel
theorem dX7_airsAs_63 : decode cX7_airsAs 63 = .ok (.aload_n 0, 1) := by decide +kernel
theorem dX7_airsAs_64 : decode cX7_airsAs 64 = .ok (.iconst 3, 1) := by decide +kernel
theorem dX7_airsAs_65 : decode cX7_airsAs 65 = .ok (.invokestatic 175, 3) := by decide +kernel
theorem dX7_airsAs_68 : decode cX7_airsAs 68 = .ok (.iload_n 2, 1) := by decide +kernel
theorem dX7_airsAs_69 : decode cX7_airsAs 69 = .ok (.iconst 2, 1) := by decide +kernel
theorem dX7_airsAs_70 : decode cX7_airsAs 70 = .ok (.idiv, 1) := by decide +kernel
theorem dX7_airsAs_71 : decode cX7_airsAs 71 = .ok (.invokevirtual 259, 3) := by decide +kernel
theorem dX7_airsAs_74 : decode cX7_airsAs 74 = .ok (.ireturn, 1) := by decide +kernel
theorem dX7_airsAs_75 : decode cX7_airsAs 75 = .ok (.aload_n 0, 1) := by decide +kernel
theorem dX7_airsAs_76 : decode cX7_airsAs 76 = .ok (.bipush 51, 2) := by decide +kernel
theorem dX7_airsAs_78 : decode cX7_airsAs 78 = .ok (.invokevirtual 243, 3) := by decide +kernel
theorem dX7_airsAs_81 : decode cX7_airsAs 81 = .ok (.aload_n 0, 1) := by decide +kernel
theorem dX7_airsAs_82 : decode cX7_airsAs 82 = .ok (.iconst 4, 1) := by decide +kernel
theorem dX7_airsAs_83 : decode cX7_airsAs 83 = .ok (.invokestatic 175, 3) := by decide +kernel
theorem dX7_airsAs_86 : decode cX7_airsAs 86 = .ok (.iload_n 2, 1) := by decide +kernel
theorem dX7_airsAs_87 : decode cX7_airsAs 87 = .ok (.invokevirtual 259, 3) := by decide +kernel
theorem dX7_airsAs_90 : decode cX7_airsAs 90 = .ok (.aload_n 0, 1) := by decide +kernel
theorem dX7_airsAs_91 : decode cX7_airsAs 91 = .ok (.getfield 240, 3) := by decide +kernel
theorem dX7_airsAs_94 : decode cX7_airsAs 94 = .ok (.ixor, 1) := by decide +kernel
theorem dX7_airsAs_95 : decode cX7_airsAs 95 = .ok (.ireturn, 1) := by decide +kernel
theorem dX7_airsAs_96 : decode cX7_airsAs 96 = .ok (.aload_n 0, 1) := by decide +kernel
theorem dX7_airsAs_97 : decode cX7_airsAs 97 = .ok (.iload_n 1, 1) := by decide +kernel
theorem dX7_airsAs_98 : decode cX7_airsAs 98 = .ok (.invokestatic 175, 3) := by decide +kernel
theorem dX7_airsAs_101 : decode cX7_airsAs 101 = .ok (.iload_n 2, 1) := by decide +kernel
theorem dX7_airsAs_102 : decode cX7_airsAs 102 = .ok (.invokevirtual 259, 3) := by decide +kernel
theorem dX7_airsAs_105 : decode cX7_airsAs 105 = .ok (.ireturn, 1) := by decide +kernel
theorem dX7_partsAs_0 : decode cX7_partsAs 0 = .ok (.iload_n 1, 1) := by decide +kernel
theorem dX7_partsAs_1 : decode cX7_partsAs 1 = .ok (.lookupswitch 119 #[(0, 27), (1, 78)], 27) := by decide +kernel
theorem dX7_partsAs_28 : decode cX7_partsAs 28 = .ok (.aload_n 0, 1) := by decide +kernel
theorem dX7_partsAs_29 : decode cX7_partsAs 29 = .ok (.bipush 13, 2) := by decide +kernel
theorem dX7_partsAs_31 : decode cX7_partsAs 31 = .ok (.invokevirtual 243, 3) := by decide +kernel
theorem dX7_partsAs_34 : decode cX7_partsAs 34 = .ok (.aload_n 0, 1) := by decide +kernel
theorem dX7_partsAs_35 : decode cX7_partsAs 35 = .ok (.invokevirtual 256, 3) := by decide +kernel
theorem dX7_partsAs_38 : decode cX7_partsAs 38 = .ok (.aload_n 0, 1) := by decide +kernel
theorem dX7_partsAs_39 : decode cX7_partsAs 39 = .ok (.getfield 240, 3) := by decide +kernel
theorem dX7_partsAs_42 : decode cX7_partsAs 42 = .ok (.isub, 1) := by decide +kernel
theorem dX7_partsAs_43 : decode cX7_partsAs 43 = .ok (.istore_n 3, 1) := by decide +kernel
theorem dX7_partsAs_44 : decode cX7_partsAs 44 = .ok (.aload_n 0, 1) := by decide +kernel
theorem dX7_partsAs_45 : decode cX7_partsAs 45 = .ok (.iload_n 3, 1) := by decide +kernel
theorem dX7_partsAs_46 : decode cX7_partsAs 46 = .ok (.ifCond .ne 7, 3) := by decide +kernel
theorem dX7_partsAs_49 : decode cX7_partsAs 49 = .ok (.iconst 1, 1) := by decide +kernel
theorem dX7_partsAs_50 : decode cX7_partsAs 50 = .ok (.goto 4, 3) := by decide +kernel
theorem dX7_partsAs_53 : decode cX7_partsAs 53 = .ok (.iconst 0, 1) := by decide +kernel
theorem dX7_partsAs_54 : decode cX7_partsAs 54 = .ok (.putfield 262, 3) := by decide +kernel
theorem dX7_partsAs_57 : decode cX7_partsAs 57 = .ok (.iload_n 3, 1) := by decide +kernel
theorem dX7_partsAs_58 : decode cX7_partsAs 58 = .ok (.ifCond .ne 7, 3) := by decide +kernel
theorem dX7_partsAs_61 : decode cX7_partsAs 61 = .ok (.iconst 0, 1) := by decide +kernel
theorem dX7_partsAs_62 : decode cX7_partsAs 62 = .ok (.goto 16, 3) := by decide +kernel
theorem dX7_partsAs_65 : decode cX7_partsAs 65 = .ok (.iload_n 3, 1) := by decide +kernel
theorem dX7_partsAs_66 : decode cX7_partsAs 66 = .ok (.iconst (-1), 1) := by decide +kernel
theorem dX7_partsAs_67 : decode cX7_partsAs 67 = .ok (.if_icmp .ne 8, 3) := by decide +kernel
theorem dX7_partsAs_70 : decode cX7_partsAs 70 = .ok (.iload_n 2, 1) := by decide +kernel
theorem dX7_partsAs_71 : decode cX7_partsAs 71 = .ok (.ineg, 1) := by decide +kernel
theorem dX7_partsAs_72 : decode cX7_partsAs 72 = .ok (.goto 6, 3) := by decide +kernel
theorem dX7_partsAs_75 : decode cX7_partsAs 75 = .ok (.iload_n 2, 1) := by decide +kernel
theorem dX7_partsAs_76 : decode cX7_partsAs 76 = .ok (.iload_n 3, 1) := by decide +kernel
theorem dX7_partsAs_77 : decode cX7_partsAs 77 = .ok (.idiv, 1) := by decide +kernel
theorem dX7_partsAs_78 : decode cX7_partsAs 78 = .ok (.ireturn, 1) := by decide +kernel
theorem dX7_partsAs_79 : decode cX7_partsAs 79 = .ok (.aload_n 0, 1) := by decide +kernel
theorem dX7_partsAs_80 : decode cX7_partsAs 80 = .ok (.bipush 21, 2) := by decide +kernel
theorem dX7_partsAs_82 : decode cX7_partsAs 82 = .ok (.invokevirtual 243, 3) := by decide +kernel
theorem dX7_partsAs_85 : decode cX7_partsAs 85 = .ok (.aload_n 0, 1) := by decide +kernel
theorem dX7_partsAs_86 : decode cX7_partsAs 86 = .ok (.iconst 1, 1) := by decide +kernel
theorem dX7_partsAs_87 : decode cX7_partsAs 87 = .ok (.invokestatic 175, 3) := by decide +kernel
theorem dX7_partsAs_90 : decode cX7_partsAs 90 = .ok (.iload_n 2, 1) := by decide +kernel
theorem dX7_partsAs_91 : decode cX7_partsAs 91 = .ok (.invokevirtual 266, 3) := by decide +kernel
theorem dX7_partsAs_94 : decode cX7_partsAs 94 = .ok (.istore 4, 2) := by decide +kernel
theorem dX7_partsAs_96 : decode cX7_partsAs 96 = .ok (.aload_n 0, 1) := by decide +kernel
theorem dX7_partsAs_97 : decode cX7_partsAs 97 = .ok (.getfield 262, 3) := by decide +kernel
theorem dX7_partsAs_100 : decode cX7_partsAs 100 = .ok (.ifCond .eq 7, 3) := by decide +kernel
theorem dX7_partsAs_103 : decode cX7_partsAs 103 = .ok (.iconst 0, 1) := by decide +kernel
theorem dX7_partsAs_104 : decode cX7_partsAs 104 = .ok (.goto 15, 3) := by decide +kernel
theorem dX7_partsAs_107 : decode cX7_partsAs 107 = .ok (.iload 4, 2) := by decide +kernel
theorem dX7_partsAs_109 : decode cX7_partsAs 109 = .ok (.aload_n 0, 1) := by decide +kernel
theorem dX7_partsAs_110 : decode cX7_partsAs 110 = .ok (.aload_n 0, 1) := by decide +kernel
theorem dX7_partsAs_111 : decode cX7_partsAs 111 = .ok (.invokevirtual 250, 3) := by decide +kernel
theorem dX7_partsAs_114 : decode cX7_partsAs 114 = .ok (.iconst 1, 1) := by decide +kernel
theorem dX7_partsAs_115 : decode cX7_partsAs 115 = .ok (.invokevirtual 253, 3) := by decide +kernel
theorem dX7_partsAs_118 : decode cX7_partsAs 118 = .ok (.iadd, 1) := by decide +kernel
theorem dX7_partsAs_119 : decode cX7_partsAs 119 = .ok (.ireturn, 1) := by decide +kernel
theorem dX7_partsAs_120 : decode cX7_partsAs 120 = .ok (.aload_n 0, 1) := by decide +kernel
theorem dX7_partsAs_121 : decode cX7_partsAs 121 = .ok (.iload_n 1, 1) := by decide +kernel
theorem dX7_partsAs_122 : decode cX7_partsAs 122 = .ok (.invokestatic 175, 3) := by decide +kernel
theorem dX7_partsAs_125 : decode cX7_partsAs 125 = .ok (.iload_n 2, 1) := by decide +kernel
theorem dX7_partsAs_126 : decode cX7_partsAs 126 = .ok (.invokevirtual 266, 3) := by decide +kernel
theorem dX7_partsAs_129 : decode cX7_partsAs 129 = .ok (.ireturn, 1) := by decide +kernel
theorem dX7_voice_0 : decode cX7_voice 0 = .ok (.aload_n 0, 1) := by decide +kernel
theorem dX7_voice_1 : decode cX7_voice 1 = .ok (.iload_n 1, 1) := by decide +kernel
theorem dX7_voice_2 : decode cX7_voice 2 = .ok (.invokevirtual 156, 3) := by decide +kernel
theorem dX7_voice_5 : decode cX7_voice 5 = .ok (.ifCond .eq 12, 3) := by decide +kernel
theorem dX7_voice_8 : decode cX7_voice 8 = .ok (.iload_n 2, 1) := by decide +kernel
theorem dX7_voice_9 : decode cX7_voice 9 = .ok (.iconst 0, 1) := by decide +kernel
theorem dX7_voice_10 : decode cX7_voice 10 = .ok (.iconst 3, 1) := by decide +kernel
theorem dX7_voice_11 : decode cX7_voice 11 = .ok (.invokestatic 53, 3) := by decide +kernel
theorem dX7_voice_14 : decode cX7_voice 14 = .ok (.ifCond .ne 9, 3) := by decide +kernel
theorem dX7_voice_17 : decode cX7_voice 17 = .ok (.aload_n 0, 1) := by decide +kernel
theorem dX7_voice_18 : decode cX7_voice 18 = .ok (.iconst 1, 1) := by decide +kernel
theorem dX7_voice_19 : decode cX7_voice 19 = .ok (.invokevirtual 65, 3) := by decide +kernel
theorem dX7_voice_22 : decode cX7_voice 22 = .ok (.ireturn, 1) := by decide +kernel
theorem dX7_voice_23 : decode cX7_voice 23 = .ok (.aload_n 0, 1) := by decide +kernel
theorem dX7_voice_24 : decode cX7_voice 24 = .ok (.iconst 0, 1) := by decide +kernel
theorem dX7_voice_25 : decode cX7_voice 25 = .ok (.putfield 237, 3) := by decide +kernel
theorem dX7_voice_28 : decode cX7_voice 28 = .ok (.aload_n 0, 1) := by decide +kernel
theorem dX7_voice_29 : decode cX7_voice 29 = .ok (.iload_n 1, 1) := by decide +kernel
theorem dX7_voice_30 : decode cX7_voice 30 = .ok (.putfield 240, 3) := by decide +kernel
theorem dX7_voice_33 : decode cX7_voice 33 = .ok (.aload_n 0, 1) := by decide +kernel
theorem dX7_voice_34 : decode cX7_voice 34 = .ok (.iconst 0, 1) := by decide +kernel
theorem dX7_voice_35 : decode cX7_voice 35 = .ok (.putfield 262, 3) := by decide +kernel
theorem dX7_voice_38 : decode cX7_voice 38 = .ok (.aload_n 0, 1) := by decide +kernel
theorem dX7_voice_39 : decode cX7_voice 39 = .ok (.invokevirtual 250, 3) := by decide +kernel
theorem dX7_voice_42 : decode cX7_voice 42 = .ok (.istore 4, 2) := by decide +kernel
theorem dX7_voice_44 : decode cX7_voice 44 = .ok (.iload_n 2, 1) := by decide +kernel
theorem dX7_voice_45 : decode cX7_voice 45 = .ok (.ifCond .ne 13, 3) := by decide +kernel
theorem dX7_voice_48 : decode cX7_voice 48 = .ok (.aload_n 0, 1) := by decide +kernel
theorem dX7_voice_49 : decode cX7_voice 49 = .ok (.iload 4, 2) := by decide +kernel
theorem dX7_voice_51 : decode cX7_voice 51 = .ok (.iload_n 3, 1) := by decide +kernel
theorem dX7_voice_52 : decode cX7_voice 52 = .ok (.invokevirtual 247, 3) := by decide +kernel
theorem dX7_voice_55 : decode cX7_voice 55 = .ok (.goto 40, 3) := by decide +kernel
theorem dX7_voice_58 : decode cX7_voice 58 = .ok (.iload_n 2, 1) := by decide +kernel
theorem dX7_voice_59 : decode cX7_voice 59 = .ok (.iconst 1, 1) := by decide +kernel
theorem dX7_voice_60 : decode cX7_voice 60 = .ok (.if_icmp .ne 13, 3) := by decide +kernel
theorem dX7_voice_63 : decode cX7_voice 63 = .ok (.aload_n 0, 1) := by decide +kernel
theorem dX7_voice_64 : decode cX7_voice 64 = .ok (.iload 4, 2) := by decide +kernel
theorem dX7_voice_66 : decode cX7_voice 66 = .ok (.iload_n 3, 1) := by decide +kernel
theorem dX7_voice_67 : decode cX7_voice 67 = .ok (.invokevirtual 253, 3) := by decide +kernel
theorem dX7_voice_70 : decode cX7_voice 70 = .ok (.goto 25, 3) := by decide +kernel
theorem dX7_voice_73 : decode cX7_voice 73 = .ok (.iload_n 2, 1) := by decide +kernel
theorem dX7_voice_74 : decode cX7_voice 74 = .ok (.iconst 2, 1) := by decide +kernel
theorem dX7_voice_75 : decode cX7_voice 75 = .ok (.if_icmp .ne 13, 3) := by decide +kernel
theorem dX7_voice_78 : decode cX7_voice 78 = .ok (.aload_n 0, 1) := by decide +kernel
theorem dX7_voice_79 : decode cX7_voice 79 = .ok (.iload 4, 2) := by decide +kernel
theorem dX7_voice_81 : decode cX7_voice 81 = .ok (.iload_n 3, 1) := by decide +kernel
theorem dX7_voice_82 : decode cX7_voice 82 = .ok (.invokevirtual 259, 3) := by decide +kernel
theorem dX7_voice_85 : decode cX7_voice 85 = .ok (.goto 10, 3) := by decide +kernel
theorem dX7_voice_88 : decode cX7_voice 88 = .ok (.aload_n 0, 1) := by decide +kernel
theorem dX7_voice_89 : decode cX7_voice 89 = .ok (.iload 4, 2) := by decide +kernel
theorem dX7_voice_91 : decode cX7_voice 91 = .ok (.iload_n 3, 1) := by decide +kernel
theorem dX7_voice_92 : decode cX7_voice 92 = .ok (.invokevirtual 266, 3) := by decide +kernel
theorem dX7_voice_95 : decode cX7_voice 95 = .ok (.istore 5, 2) := by decide +kernel
theorem dX7_voice_97 : decode cX7_voice 97 = .ok (.aload_n 0, 1) := by decide +kernel
theorem dX7_voice_98 : decode cX7_voice 98 = .ok (.getfield 262, 3) := by decide +kernel
theorem dX7_voice_101 : decode cX7_voice 101 = .ok (.ifCond .eq 12, 3) := by decide +kernel
theorem dX7_voice_104 : decode cX7_voice 104 = .ok (.aload_n 0, 1) := by decide +kernel
theorem dX7_voice_105 : decode cX7_voice 105 = .ok (.bipush 6, 2) := by decide +kernel
theorem dX7_voice_107 : decode cX7_voice 107 = .ok (.invokevirtual 65, 3) := by decide +kernel
theorem dX7_voice_110 : decode cX7_voice 110 = .ok (.goto 5, 3) := by decide +kernel
theorem dX7_voice_113 : decode cX7_voice 113 = .ok (.iload 5, 2) := by decide +kernel
theorem dX7_voice_115 : decode cX7_voice 115 = .ok (.ireturn, 1) := by decide +kernel
theorem dX7_body_0 : decode cX7_body 0 = .ok (.iload_n 1, 1) := by decide +kernel
theorem dX7_body_1 : decode cX7_body 1 = .ok (.iconst 0, 1) := by decide +kernel
theorem dX7_body_2 : decode cX7_body 2 = .ok (.aload_n 0, 1) := by decide +kernel
theorem dX7_body_3 : decode cX7_body 3 = .ok (.getfield 237, 3) := by decide +kernel
theorem dX7_body_6 : decode cX7_body 6 = .ok (.iconst 1, 1) := by decide +kernel
theorem dX7_body_7 : decode cX7_body 7 = .ok (.isub, 1) := by decide +kernel
theorem dX7_body_8 : decode cX7_body 8 = .ok (.invokestatic 53, 3) := by decide +kernel
theorem dX7_body_11 : decode cX7_body 11 = .ok (.ifCond .eq 12, 3) := by decide +kernel
theorem dX7_body_14 : decode cX7_body 14 = .ok (.aload_n 0, 1) := by decide +kernel
theorem dX7_body_15 : decode cX7_body 15 = .ok (.getfield 37, 3) := by decide +kernel
theorem dX7_body_18 : decode cX7_body 18 = .ok (.iload_n 1, 1) := by decide +kernel
theorem dX7_body_19 : decode cX7_body 19 = .ok (.iaload, 1) := by decide +kernel
theorem dX7_body_20 : decode cX7_body 20 = .ok (.goto 8, 3) := by decide +kernel
theorem dX7_body_23 : decode cX7_body 23 = .ok (.aload_n 0, 1) := by decide +kernel
theorem dX7_body_24 : decode cX7_body 24 = .ok (.iconst 2, 1) := by decide +kernel
theorem dX7_body_25 : decode cX7_body 25 = .ok (.invokevirtual 65, 3) := by decide +kernel
theorem dX7_body_28 : decode cX7_body 28 = .ok (.ireturn, 1) := by decide +kernel
theorem dX7_isSheet_0 : decode cX7_isSheet 0 = .ok (.iload_n 0, 1) := by decide +kernel
theorem dX7_isSheet_1 : decode cX7_isSheet 1 = .ok (.iconst 0, 1) := by decide +kernel
theorem dX7_isSheet_2 : decode cX7_isSheet 2 = .ok (.iconst 3, 1) := by decide +kernel
theorem dX7_isSheet_3 : decode cX7_isSheet 3 = .ok (.invokestatic 53, 3) := by decide +kernel
theorem dX7_isSheet_6 : decode cX7_isSheet 6 = .ok (.ireturn, 1) := by decide +kernel
theorem dX7_sheet_0 : decode cX7_sheet 0 = .ok (.iload_n 1, 1) := by decide +kernel
theorem dX7_sheet_1 : decode cX7_sheet 1 = .ok (.invokestatic 269, 3) := by decide +kernel
theorem dX7_sheet_4 : decode cX7_sheet 4 = .ok (.ifCond .eq 25, 3) := by decide +kernel
theorem dX7_sheet_7 : decode cX7_sheet 7 = .ok (.iload_n 2, 1) := by decide +kernel
theorem dX7_sheet_8 : decode cX7_sheet 8 = .ok (.ifCond .eq 27, 3) := by decide +kernel
theorem dX7_sheet_11 : decode cX7_sheet 11 = .ok (.iload_n 2, 1) := by decide +kernel
theorem dX7_sheet_12 : decode cX7_sheet 12 = .ok (.bipush 8, 2) := by decide +kernel
theorem dX7_sheet_14 : decode cX7_sheet 14 = .ok (.if_icmp .eq 21, 3) := by decide +kernel
theorem dX7_sheet_17 : decode cX7_sheet 17 = .ok (.iload_n 2, 1) := by decide +kernel
theorem dX7_sheet_18 : decode cX7_sheet 18 = .ok (.bipush 16, 2) := by decide +kernel
theorem dX7_sheet_20 : decode cX7_sheet 20 = .ok (.if_icmp .eq 15, 3) := by decide +kernel
theorem dX7_sheet_23 : decode cX7_sheet 23 = .ok (.iload_n 2, 1) := by decide +kernel
theorem dX7_sheet_24 : decode cX7_sheet 24 = .ok (.bipush 32, 2) := by decide +kernel
theorem dX7_sheet_26 : decode cX7_sheet 26 = .ok (.if_icmp .eq 9, 3) := by decide +kernel
theorem dX7_sheet_29 : decode cX7_sheet 29 = .ok (.aload_n 0, 1) := by decide +kernel
theorem dX7_sheet_30 : decode cX7_sheet 30 = .ok (.iconst 1, 1) := by decide +kernel
theorem dX7_sheet_31 : decode cX7_sheet 31 = .ok (.invokevirtual 65, 3) := by decide +kernel
theorem dX7_sheet_34 : decode cX7_sheet 34 = .ok (.ireturn, 1) := by decide +kernel
theorem dX7_sheet_35 : decode cX7_sheet 35 = .ok (.iload_n 2, 1) := by decide +kernel
theorem dX7_sheet_36 : decode cX7_sheet 36 = .ok (.ifCond .eq 13, 3) := by decide +kernel
theorem dX7_sheet_39 : decode cX7_sheet 39 = .ok (.iload_n 3, 1) := by decide +kernel
theorem dX7_sheet_40 : decode cX7_sheet 40 = .ok (.ifCond .ge 9, 3) := by decide +kernel
theorem dX7_sheet_43 : decode cX7_sheet 43 = .ok (.aload_n 0, 1) := by decide +kernel
theorem dX7_sheet_44 : decode cX7_sheet 44 = .ok (.iconst 3, 1) := by decide +kernel
theorem dX7_sheet_45 : decode cX7_sheet 45 = .ok (.invokevirtual 65, 3) := by decide +kernel
theorem dX7_sheet_48 : decode cX7_sheet 48 = .ok (.ireturn, 1) := by decide +kernel
theorem dX7_sheet_49 : decode cX7_sheet 49 = .ok (.iload_n 2, 1) := by decide +kernel
theorem dX7_sheet_50 : decode cX7_sheet 50 = .ok (.ifCond .eq 15, 3) := by decide +kernel
theorem dX7_sheet_53 : decode cX7_sheet 53 = .ok (.iload_n 3, 1) := by decide +kernel
theorem dX7_sheet_54 : decode cX7_sheet 54 = .ok (.bipush 24, 2) := by decide +kernel
theorem dX7_sheet_56 : decode cX7_sheet 56 = .ok (.if_icmp .le 9, 3) := by decide +kernel
theorem dX7_sheet_59 : decode cX7_sheet 59 = .ok (.aload_n 0, 1) := by decide +kernel
theorem dX7_sheet_60 : decode cX7_sheet 60 = .ok (.iconst 1, 1) := by decide +kernel
theorem dX7_sheet_61 : decode cX7_sheet 61 = .ok (.invokevirtual 65, 3) := by decide +kernel
theorem dX7_sheet_64 : decode cX7_sheet 64 = .ok (.ireturn, 1) := by decide +kernel
theorem dX7_sheet_65 : decode cX7_sheet 65 = .ok (.aload_n 0, 1) := by decide +kernel
theorem dX7_sheet_66 : decode cX7_sheet 66 = .ok (.getfield 40, 3) := by decide +kernel
theorem dX7_sheet_69 : decode cX7_sheet 69 = .ok (.iload_n 1, 1) := by decide +kernel
theorem dX7_sheet_70 : decode cX7_sheet 70 = .ok (.iload_n 2, 1) := by decide +kernel
theorem dX7_sheet_71 : decode cX7_sheet 71 = .ok (.iastore, 1) := by decide +kernel
theorem dX7_sheet_72 : decode cX7_sheet 72 = .ok (.aload_n 0, 1) := by decide +kernel
theorem dX7_sheet_73 : decode cX7_sheet 73 = .ok (.getfield 43, 3) := by decide +kernel
theorem dX7_sheet_76 : decode cX7_sheet 76 = .ok (.iload_n 1, 1) := by decide +kernel
theorem dX7_sheet_77 : decode cX7_sheet 77 = .ok (.iload_n 2, 1) := by decide +kernel
theorem dX7_sheet_78 : decode cX7_sheet 78 = .ok (.ifCond .ne 7, 3) := by decide +kernel
theorem dX7_sheet_81 : decode cX7_sheet 81 = .ok (.iconst 0, 1) := by decide +kernel
theorem dX7_sheet_82 : decode cX7_sheet 82 = .ok (.goto 4, 3) := by decide +kernel
theorem dX7_sheet_85 : decode cX7_sheet 85 = .ok (.iload_n 3, 1) := by decide +kernel
theorem dX7_sheet_86 : decode cX7_sheet 86 = .ok (.iastore, 1) := by decide +kernel
theorem dX7_sheet_87 : decode cX7_sheet 87 = .ok (.iconst 0, 1) := by decide +kernel
theorem dX7_sheet_88 : decode cX7_sheet 88 = .ok (.istore 4, 2) := by decide +kernel
theorem dX7_sheet_90 : decode cX7_sheet 90 = .ok (.iload 4, 2) := by decide +kernel
theorem dX7_sheet_92 : decode cX7_sheet 92 = .ok (.bipush 24, 2) := by decide +kernel
theorem dX7_sheet_94 : decode cX7_sheet 94 = .ok (.if_icmp .ge 22, 3) := by decide +kernel
theorem dX7_sheet_97 : decode cX7_sheet 97 = .ok (.aload_n 0, 1) := by decide +kernel
theorem dX7_sheet_98 : decode cX7_sheet 98 = .ok (.getfield 46, 3) := by decide +kernel
theorem dX7_sheet_101 : decode cX7_sheet 101 = .ok (.bipush 24, 2) := by decide +kernel
theorem dX7_sheet_103 : decode cX7_sheet 103 = .ok (.iload_n 1, 1) := by decide +kernel
theorem dX7_sheet_104 : decode cX7_sheet 104 = .ok (.imul, 1) := by decide +kernel
theorem dX7_sheet_105 : decode cX7_sheet 105 = .ok (.iload 4, 2) := by decide +kernel
theorem dX7_sheet_107 : decode cX7_sheet 107 = .ok (.iadd, 1) := by decide +kernel
theorem dX7_sheet_108 : decode cX7_sheet 108 = .ok (.iconst 0, 1) := by decide +kernel
theorem dX7_sheet_109 : decode cX7_sheet 109 = .ok (.iastore, 1) := by decide +kernel
theorem dX7_sheet_110 : decode cX7_sheet 110 = .ok (.iinc 4 1, 3) := by decide +kernel
theorem dX7_sheet_113 : decode cX7_sheet 113 = .ok (.goto (-23), 3) := by decide +kernel
theorem dX7_sheet_116 : decode cX7_sheet 116 = .ok (.iconst 1, 1) := by decide +kernel
theorem dX7_sheet_117 : decode cX7_sheet 117 = .ok (.ireturn, 1) := by decide +kernel
theorem dX7_put_0 : decode cX7_put 0 = .ok (.iload_n 1, 1) := by decide +kernel
theorem dX7_put_1 : decode cX7_put 1 = .ok (.invokestatic 269, 3) := by decide +kernel
theorem dX7_put_4 : decode cX7_put 4 = .ok (.ifCond .ne 9, 3) := by decide +kernel
theorem dX7_put_7 : decode cX7_put 7 = .ok (.aload_n 0, 1) := by decide +kernel
theorem dX7_put_8 : decode cX7_put 8 = .ok (.iconst 1, 1) := by decide +kernel
theorem dX7_put_9 : decode cX7_put 9 = .ok (.invokevirtual 65, 3) := by decide +kernel
theorem dX7_put_12 : decode cX7_put 12 = .ok (.ireturn, 1) := by decide +kernel
theorem dX7_put_13 : decode cX7_put 13 = .ok (.aload_n 0, 1) := by decide +kernel
theorem dX7_put_14 : decode cX7_put 14 = .ok (.getfield 40, 3) := by decide +kernel
theorem dX7_put_17 : decode cX7_put 17 = .ok (.iload_n 1, 1) := by decide +kernel
theorem dX7_put_18 : decode cX7_put 18 = .ok (.iaload, 1) := by decide +kernel
theorem dX7_put_19 : decode cX7_put 19 = .ok (.ifCond .ne 9, 3) := by decide +kernel
theorem dX7_put_22 : decode cX7_put 22 = .ok (.aload_n 0, 1) := by decide +kernel
theorem dX7_put_23 : decode cX7_put 23 = .ok (.iconst 2, 1) := by decide +kernel
theorem dX7_put_24 : decode cX7_put 24 = .ok (.invokevirtual 65, 3) := by decide +kernel
theorem dX7_put_27 : decode cX7_put 27 = .ok (.ireturn, 1) := by decide +kernel
theorem dX7_put_28 : decode cX7_put 28 = .ok (.iload_n 2, 1) := by decide +kernel
theorem dX7_put_29 : decode cX7_put 29 = .ok (.iconst 0, 1) := by decide +kernel
theorem dX7_put_30 : decode cX7_put 30 = .ok (.aload_n 0, 1) := by decide +kernel
theorem dX7_put_31 : decode cX7_put 31 = .ok (.getfield 43, 3) := by decide +kernel
theorem dX7_put_34 : decode cX7_put 34 = .ok (.iload_n 1, 1) := by decide +kernel
theorem dX7_put_35 : decode cX7_put 35 = .ok (.iaload, 1) := by decide +kernel
theorem dX7_put_36 : decode cX7_put 36 = .ok (.iconst 1, 1) := by decide +kernel
theorem dX7_put_37 : decode cX7_put 37 = .ok (.isub, 1) := by decide +kernel
theorem dX7_put_38 : decode cX7_put 38 = .ok (.invokestatic 53, 3) := by decide +kernel
theorem dX7_put_41 : decode cX7_put 41 = .ok (.ifCond .ne 9, 3) := by decide +kernel
theorem dX7_put_44 : decode cX7_put 44 = .ok (.aload_n 0, 1) := by decide +kernel
theorem dX7_put_45 : decode cX7_put 45 = .ok (.iconst 1, 1) := by decide +kernel
theorem dX7_put_46 : decode cX7_put 46 = .ok (.invokevirtual 65, 3) := by decide +kernel
theorem dX7_put_49 : decode cX7_put 49 = .ok (.ireturn, 1) := by decide +kernel
theorem dX7_put_50 : decode cX7_put 50 = .ok (.bipush 32, 2) := by decide +kernel
theorem dX7_put_52 : decode cX7_put 52 = .ok (.aload_n 0, 1) := by decide +kernel
theorem dX7_put_53 : decode cX7_put 53 = .ok (.getfield 40, 3) := by decide +kernel
theorem dX7_put_56 : decode cX7_put 56 = .ok (.iload_n 1, 1) := by decide +kernel
theorem dX7_put_57 : decode cX7_put 57 = .ok (.iaload, 1) := by decide +kernel
theorem dX7_put_58 : decode cX7_put 58 = .ok (.isub, 1) := by decide +kernel
theorem dX7_put_59 : decode cX7_put 59 = .ok (.istore 4, 2) := by decide +kernel
theorem dX7_put_61 : decode cX7_put 61 = .ok (.aload_n 0, 1) := by decide +kernel
theorem dX7_put_62 : decode cX7_put 62 = .ok (.getfield 46, 3) := by decide +kernel
theorem dX7_put_65 : decode cX7_put 65 = .ok (.bipush 24, 2) := by decide +kernel
theorem dX7_put_67 : decode cX7_put 67 = .ok (.iload_n 1, 1) := by decide +kernel
theorem dX7_put_68 : decode cX7_put 68 = .ok (.imul, 1) := by decide +kernel
theorem dX7_put_69 : decode cX7_put 69 = .ok (.iload_n 2, 1) := by decide +kernel
theorem dX7_put_70 : decode cX7_put 70 = .ok (.iadd, 1) := by decide +kernel
theorem dX7_put_71 : decode cX7_put 71 = .ok (.iload_n 3, 1) := by decide +kernel
theorem dX7_put_72 : decode cX7_put 72 = .ok (.iload 4, 2) := by decide +kernel
theorem dX7_put_74 : decode cX7_put 74 = .ok (.ishl, 1) := by decide +kernel
theorem dX7_put_75 : decode cX7_put 75 = .ok (.iload 4, 2) := by decide +kernel
theorem dX7_put_77 : decode cX7_put 77 = .ok (.ishr, 1) := by decide +kernel
theorem dX7_put_78 : decode cX7_put 78 = .ok (.iastore, 1) := by decide +kernel
theorem dX7_put_79 : decode cX7_put 79 = .ok (.iconst 1, 1) := by decide +kernel
theorem dX7_put_80 : decode cX7_put 80 = .ok (.ireturn, 1) := by decide +kernel
theorem dX7_move_0 : decode cX7_move 0 = .ok (.iload_n 1, 1) := by decide +kernel
theorem dX7_move_1 : decode cX7_move 1 = .ok (.invokestatic 269, 3) := by decide +kernel
theorem dX7_move_4 : decode cX7_move 4 = .ok (.ifCond .eq 10, 3) := by decide +kernel
theorem dX7_move_7 : decode cX7_move 7 = .ok (.iload_n 3, 1) := by decide +kernel
theorem dX7_move_8 : decode cX7_move 8 = .ok (.invokestatic 269, 3) := by decide +kernel
theorem dX7_move_11 : decode cX7_move 11 = .ok (.ifCond .ne 9, 3) := by decide +kernel
theorem dX7_move_14 : decode cX7_move 14 = .ok (.aload_n 0, 1) := by decide +kernel
theorem dX7_move_15 : decode cX7_move 15 = .ok (.iconst 1, 1) := by decide +kernel
theorem dX7_move_16 : decode cX7_move 16 = .ok (.invokevirtual 65, 3) := by decide +kernel
theorem dX7_move_19 : decode cX7_move 19 = .ok (.ireturn, 1) := by decide +kernel
theorem dX7_move_20 : decode cX7_move 20 = .ok (.aload_n 0, 1) := by decide +kernel
theorem dX7_move_21 : decode cX7_move 21 = .ok (.getfield 40, 3) := by decide +kernel
theorem dX7_move_24 : decode cX7_move 24 = .ok (.iload_n 1, 1) := by decide +kernel
theorem dX7_move_25 : decode cX7_move 25 = .ok (.iaload, 1) := by decide +kernel
theorem dX7_move_26 : decode cX7_move 26 = .ok (.ifCond .eq 12, 3) := by decide +kernel
theorem dX7_move_29 : decode cX7_move 29 = .ok (.aload_n 0, 1) := by decide +kernel
theorem dX7_move_30 : decode cX7_move 30 = .ok (.getfield 40, 3) := by decide +kernel
theorem dX7_move_33 : decode cX7_move 33 = .ok (.iload_n 3, 1) := by decide +kernel
theorem dX7_move_34 : decode cX7_move 34 = .ok (.iaload, 1) := by decide +kernel
theorem dX7_move_35 : decode cX7_move 35 = .ok (.ifCond .ne 9, 3) := by decide +kernel
theorem dX7_move_38 : decode cX7_move 38 = .ok (.aload_n 0, 1) := by decide +kernel
theorem dX7_move_39 : decode cX7_move 39 = .ok (.iconst 2, 1) := by decide +kernel
theorem dX7_move_40 : decode cX7_move 40 = .ok (.invokevirtual 65, 3) := by decide +kernel
theorem dX7_move_43 : decode cX7_move 43 = .ok (.ireturn, 1) := by decide +kernel
theorem dX7_move_44 : decode cX7_move 44 = .ok (.aload_n 0, 1) := by decide +kernel
theorem dX7_move_45 : decode cX7_move 45 = .ok (.getfield 40, 3) := by decide +kernel
theorem dX7_move_48 : decode cX7_move 48 = .ok (.iload_n 1, 1) := by decide +kernel
theorem dX7_move_49 : decode cX7_move 49 = .ok (.iaload, 1) := by decide +kernel
theorem dX7_move_50 : decode cX7_move 50 = .ok (.aload_n 0, 1) := by decide +kernel
theorem dX7_move_51 : decode cX7_move 51 = .ok (.getfield 40, 3) := by decide +kernel
theorem dX7_move_54 : decode cX7_move 54 = .ok (.iload_n 3, 1) := by decide +kernel
theorem dX7_move_55 : decode cX7_move 55 = .ok (.iaload, 1) := by decide +kernel
theorem dX7_move_56 : decode cX7_move 56 = .ok (.if_icmp .eq 9, 3) := by decide +kernel
theorem dX7_move_59 : decode cX7_move 59 = .ok (.aload_n 0, 1) := by decide +kernel
theorem dX7_move_60 : decode cX7_move 60 = .ok (.iconst 5, 1) := by decide +kernel
theorem dX7_move_61 : decode cX7_move 61 = .ok (.invokevirtual 65, 3) := by decide +kernel
theorem dX7_move_64 : decode cX7_move 64 = .ok (.ireturn, 1) := by decide +kernel
theorem dX7_move_65 : decode cX7_move 65 = .ok (.iload 5, 2) := by decide +kernel
theorem dX7_move_67 : decode cX7_move 67 = .ok (.ifCond .lt 39, 3) := by decide +kernel
theorem dX7_move_70 : decode cX7_move 70 = .ok (.iload_n 2, 1) := by decide +kernel
theorem dX7_move_71 : decode cX7_move 71 = .ok (.ifCond .lt 35, 3) := by decide +kernel
theorem dX7_move_74 : decode cX7_move 74 = .ok (.iload 4, 2) := by decide +kernel
theorem dX7_move_76 : decode cX7_move 76 = .ok (.ifCond .lt 30, 3) := by decide +kernel
theorem dX7_move_79 : decode cX7_move 79 = .ok (.iload_n 2, 1) := by decide +kernel
theorem dX7_move_80 : decode cX7_move 80 = .ok (.aload_n 0, 1) := by decide +kernel
theorem dX7_move_81 : decode cX7_move 81 = .ok (.getfield 43, 3) := by decide +kernel
theorem dX7_move_84 : decode cX7_move 84 = .ok (.iload_n 1, 1) := by decide +kernel
theorem dX7_move_85 : decode cX7_move 85 = .ok (.iaload, 1) := by decide +kernel
theorem dX7_move_86 : decode cX7_move 86 = .ok (.iload 5, 2) := by decide +kernel
theorem dX7_move_88 : decode cX7_move 88 = .ok (.isub, 1) := by decide +kernel
theorem dX7_move_89 : decode cX7_move 89 = .ok (.if_icmp .gt 17, 3) := by decide +kernel
theorem dX7_move_92 : decode cX7_move 92 = .ok (.iload 4, 2) := by decide +kernel
theorem dX7_move_94 : decode cX7_move 94 = .ok (.aload_n 0, 1) := by decide +kernel
theorem dX7_move_95 : decode cX7_move 95 = .ok (.getfield 43, 3) := by decide +kernel
theorem dX7_move_98 : decode cX7_move 98 = .ok (.iload_n 3, 1) := by decide +kernel
theorem dX7_move_99 : decode cX7_move 99 = .ok (.iaload, 1) := by decide +kernel
theorem dX7_move_100 : decode cX7_move 100 = .ok (.iload 5, 2) := by decide +kernel
theorem dX7_move_102 : decode cX7_move 102 = .ok (.isub, 1) := by decide +kernel
theorem dX7_move_103 : decode cX7_move 103 = .ok (.if_icmp .le 9, 3) := by decide +kernel
theorem dX7_move_106 : decode cX7_move 106 = .ok (.aload_n 0, 1) := by decide +kernel
theorem dX7_move_107 : decode cX7_move 107 = .ok (.iconst 1, 1) := by decide +kernel
theorem dX7_move_108 : decode cX7_move 108 = .ok (.invokevirtual 65, 3) := by decide +kernel
theorem dX7_move_111 : decode cX7_move 111 = .ok (.ireturn, 1) := by decide +kernel
theorem dX7_move_112 : decode cX7_move 112 = .ok (.iconst 0, 1) := by decide +kernel
theorem dX7_move_113 : decode cX7_move 113 = .ok (.istore 6, 2) := by decide +kernel
theorem dX7_move_115 : decode cX7_move 115 = .ok (.iload 6, 2) := by decide +kernel
theorem dX7_move_117 : decode cX7_move 117 = .ok (.iload 5, 2) := by decide +kernel
theorem dX7_move_119 : decode cX7_move 119 = .ok (.if_icmp .ge 30, 3) := by decide +kernel
theorem dX7_move_122 : decode cX7_move 122 = .ok (.aload_n 0, 1) := by decide +kernel
theorem dX7_move_123 : decode cX7_move 123 = .ok (.getfield 49, 3) := by decide +kernel
theorem dX7_move_126 : decode cX7_move 126 = .ok (.iload 6, 2) := by decide +kernel
theorem dX7_move_128 : decode cX7_move 128 = .ok (.aload_n 0, 1) := by decide +kernel
theorem dX7_move_129 : decode cX7_move 129 = .ok (.getfield 46, 3) := by decide +kernel
theorem dX7_move_132 : decode cX7_move 132 = .ok (.bipush 24, 2) := by decide +kernel
theorem dX7_move_134 : decode cX7_move 134 = .ok (.iload_n 1, 1) := by decide +kernel
theorem dX7_move_135 : decode cX7_move 135 = .ok (.imul, 1) := by decide +kernel
theorem dX7_move_136 : decode cX7_move 136 = .ok (.iload_n 2, 1) := by decide +kernel
theorem dX7_move_137 : decode cX7_move 137 = .ok (.iadd, 1) := by decide +kernel
theorem dX7_move_138 : decode cX7_move 138 = .ok (.iload 6, 2) := by decide +kernel
theorem dX7_move_140 : decode cX7_move 140 = .ok (.iadd, 1) := by decide +kernel
theorem dX7_move_141 : decode cX7_move 141 = .ok (.iaload, 1) := by decide +kernel
theorem dX7_move_142 : decode cX7_move 142 = .ok (.iastore, 1) := by decide +kernel
theorem dX7_move_143 : decode cX7_move 143 = .ok (.iinc 6 1, 3) := by decide +kernel
theorem dX7_move_146 : decode cX7_move 146 = .ok (.goto (-31), 3) := by decide +kernel
theorem dX7_move_149 : decode cX7_move 149 = .ok (.iconst 0, 1) := by decide +kernel
theorem dX7_move_150 : decode cX7_move 150 = .ok (.istore 6, 2) := by decide +kernel
theorem dX7_move_152 : decode cX7_move 152 = .ok (.iload 6, 2) := by decide +kernel
theorem dX7_move_154 : decode cX7_move 154 = .ok (.iload 5, 2) := by decide +kernel
theorem dX7_move_156 : decode cX7_move 156 = .ok (.if_icmp .ge 31, 3) := by decide +kernel
theorem dX7_move_159 : decode cX7_move 159 = .ok (.aload_n 0, 1) := by decide +kernel
theorem dX7_move_160 : decode cX7_move 160 = .ok (.getfield 46, 3) := by decide +kernel
theorem dX7_move_163 : decode cX7_move 163 = .ok (.bipush 24, 2) := by decide +kernel
theorem dX7_move_165 : decode cX7_move 165 = .ok (.iload_n 3, 1) := by decide +kernel
theorem dX7_move_166 : decode cX7_move 166 = .ok (.imul, 1) := by decide +kernel
theorem dX7_move_167 : decode cX7_move 167 = .ok (.iload 4, 2) := by decide +kernel
theorem dX7_move_169 : decode cX7_move 169 = .ok (.iadd, 1) := by decide +kernel
theorem dX7_move_170 : decode cX7_move 170 = .ok (.iload 6, 2) := by decide +kernel
theorem dX7_move_172 : decode cX7_move 172 = .ok (.iadd, 1) := by decide +kernel
theorem dX7_move_173 : decode cX7_move 173 = .ok (.aload_n 0, 1) := by decide +kernel
theorem dX7_move_174 : decode cX7_move 174 = .ok (.getfield 49, 3) := by decide +kernel
theorem dX7_move_177 : decode cX7_move 177 = .ok (.iload 6, 2) := by decide +kernel
theorem dX7_move_179 : decode cX7_move 179 = .ok (.iaload, 1) := by decide +kernel
theorem dX7_move_180 : decode cX7_move 180 = .ok (.iastore, 1) := by decide +kernel
theorem dX7_move_181 : decode cX7_move 181 = .ok (.iinc 6 1, 3) := by decide +kernel
theorem dX7_move_184 : decode cX7_move 184 = .ok (.goto (-32), 3) := by decide +kernel
theorem dX7_move_187 : decode cX7_move 187 = .ok (.iload 5, 2) := by decide +kernel
theorem dX7_move_189 : decode cX7_move 189 = .ok (.ireturn, 1) := by decide +kernel
theorem dX7_lacks_0 : decode cX7_lacks 0 = .ok (.iload_n 1, 1) := by decide +kernel
theorem dX7_lacks_1 : decode cX7_lacks 1 = .ok (.invokestatic 269, 3) := by decide +kernel
theorem dX7_lacks_4 : decode cX7_lacks 4 = .ok (.ifCond .ne 7, 3) := by decide +kernel
theorem dX7_lacks_7 : decode cX7_lacks 7 = .ok (.iconst 1, 1) := by decide +kernel
theorem dX7_lacks_8 : decode cX7_lacks 8 = .ok (.goto 17, 3) := by decide +kernel
theorem dX7_lacks_11 : decode cX7_lacks 11 = .ok (.aload_n 0, 1) := by decide +kernel
theorem dX7_lacks_12 : decode cX7_lacks 12 = .ok (.getfield 40, 3) := by decide +kernel
theorem dX7_lacks_15 : decode cX7_lacks 15 = .ok (.iload_n 1, 1) := by decide +kernel
theorem dX7_lacks_16 : decode cX7_lacks 16 = .ok (.iaload, 1) := by decide +kernel
theorem dX7_lacks_17 : decode cX7_lacks 17 = .ok (.ifCond .ne 7, 3) := by decide +kernel
theorem dX7_lacks_20 : decode cX7_lacks 20 = .ok (.iconst 2, 1) := by decide +kernel
theorem dX7_lacks_21 : decode cX7_lacks 21 = .ok (.goto 4, 3) := by decide +kernel
theorem dX7_lacks_24 : decode cX7_lacks 24 = .ok (.iconst 0, 1) := by decide +kernel
theorem dX7_lacks_25 : decode cX7_lacks 25 = .ok (.ireturn, 1) := by decide +kernel
theorem dX7_spoons_0 : decode cX7_spoons 0 = .ok (.aload_n 0, 1) := by decide +kernel
theorem dX7_spoons_1 : decode cX7_spoons 1 = .ok (.iload_n 1, 1) := by decide +kernel
theorem dX7_spoons_2 : decode cX7_spoons 2 = .ok (.invokevirtual 156, 3) := by decide +kernel
theorem dX7_spoons_5 : decode cX7_spoons 5 = .ok (.ifCond .eq 11, 3) := by decide +kernel
theorem dX7_spoons_8 : decode cX7_spoons 8 = .ok (.aload_n 0, 1) := by decide +kernel
theorem dX7_spoons_9 : decode cX7_spoons 9 = .ok (.iload_n 2, 1) := by decide +kernel
theorem dX7_spoons_10 : decode cX7_spoons 10 = .ok (.invokevirtual 231, 3) := by decide +kernel
theorem dX7_spoons_13 : decode cX7_spoons 13 = .ok (.goto 4, 3) := by decide +kernel
theorem dX7_spoons_16 : decode cX7_spoons 16 = .ok (.iconst 1, 1) := by decide +kernel
theorem dX7_spoons_17 : decode cX7_spoons 17 = .ok (.istore_n 3, 1) := by decide +kernel
theorem dX7_spoons_18 : decode cX7_spoons 18 = .ok (.iload_n 3, 1) := by decide +kernel
theorem dX7_spoons_19 : decode cX7_spoons 19 = .ok (.ifCond .eq 9, 3) := by decide +kernel
theorem dX7_spoons_22 : decode cX7_spoons 22 = .ok (.aload_n 0, 1) := by decide +kernel
theorem dX7_spoons_23 : decode cX7_spoons 23 = .ok (.iload_n 3, 1) := by decide +kernel
theorem dX7_spoons_24 : decode cX7_spoons 24 = .ok (.invokevirtual 65, 3) := by decide +kernel
theorem dX7_spoons_27 : decode cX7_spoons 27 = .ok (.ireturn, 1) := by decide +kernel
theorem dX7_spoons_28 : decode cX7_spoons 28 = .ok (.iconst 0, 1) := by decide +kernel
theorem dX7_spoons_29 : decode cX7_spoons 29 = .ok (.istore 4, 2) := by decide +kernel
theorem dX7_spoons_31 : decode cX7_spoons 31 = .ok (.iload 4, 2) := by decide +kernel
theorem dX7_spoons_33 : decode cX7_spoons 33 = .ok (.aload_n 0, 1) := by decide +kernel
theorem dX7_spoons_34 : decode cX7_spoons 34 = .ok (.getfield 43, 3) := by decide +kernel
theorem dX7_spoons_37 : decode cX7_spoons 37 = .ok (.iload_n 2, 1) := by decide +kernel
theorem dX7_spoons_38 : decode cX7_spoons 38 = .ok (.iaload, 1) := by decide +kernel
theorem dX7_spoons_39 : decode cX7_spoons 39 = .ok (.if_icmp .ge 64, 3) := by decide +kernel
theorem dX7_spoons_42 : decode cX7_spoons 42 = .ok (.iload 4, 2) := by decide +kernel
theorem dX7_spoons_44 : decode cX7_spoons 44 = .ok (.invokestatic 178, 3) := by decide +kernel
theorem dX7_spoons_47 : decode cX7_spoons 47 = .ok (.ifCond .eq 56, 3) := by decide +kernel
theorem dX7_spoons_50 : decode cX7_spoons 50 = .ok (.aload_n 0, 1) := by decide +kernel
theorem dX7_spoons_51 : decode cX7_spoons 51 = .ok (.getfield 46, 3) := by decide +kernel
theorem dX7_spoons_54 : decode cX7_spoons 54 = .ok (.bipush 24, 2) := by decide +kernel
theorem dX7_spoons_56 : decode cX7_spoons 56 = .ok (.iload_n 2, 1) := by decide +kernel
theorem dX7_spoons_57 : decode cX7_spoons 57 = .ok (.imul, 1) := by decide +kernel
theorem dX7_spoons_58 : decode cX7_spoons 58 = .ok (.iload 4, 2) := by decide +kernel
theorem dX7_spoons_60 : decode cX7_spoons 60 = .ok (.iadd, 1) := by decide +kernel
theorem dX7_spoons_61 : decode cX7_spoons 61 = .ok (.iaload, 1) := by decide +kernel
theorem dX7_spoons_62 : decode cX7_spoons 62 = .ok (.iconst 0, 1) := by decide +kernel
theorem dX7_spoons_63 : decode cX7_spoons 63 = .ok (.bipush 99, 2) := by decide +kernel
theorem dX7_spoons_65 : decode cX7_spoons 65 = .ok (.invokestatic 53, 3) := by decide +kernel
theorem dX7_spoons_68 : decode cX7_spoons 68 = .ok (.ifCond .eq 35, 3) := by decide +kernel
theorem dX7_spoons_71 : decode cX7_spoons 71 = .ok (.aload_n 0, 1) := by decide +kernel
theorem dX7_spoons_72 : decode cX7_spoons 72 = .ok (.getfield 7, 3) := by decide +kernel
theorem dX7_spoons_75 : decode cX7_spoons 75 = .ok (.bipush 38, 2) := by decide +kernel
theorem dX7_spoons_77 : decode cX7_spoons 77 = .ok (.iconst 5, 1) := by decide +kernel
theorem dX7_spoons_78 : decode cX7_spoons 78 = .ok (.iload_n 1, 1) := by decide +kernel
theorem dX7_spoons_79 : decode cX7_spoons 79 = .ok (.imul, 1) := by decide +kernel
theorem dX7_spoons_80 : decode cX7_spoons 80 = .ok (.iadd, 1) := by decide +kernel
theorem dX7_spoons_81 : decode cX7_spoons 81 = .ok (.iload 4, 2) := by decide +kernel
theorem dX7_spoons_83 : decode cX7_spoons 83 = .ok (.iadd, 1) := by decide +kernel
theorem dX7_spoons_84 : decode cX7_spoons 84 = .ok (.aload_n 0, 1) := by decide +kernel
theorem dX7_spoons_85 : decode cX7_spoons 85 = .ok (.getfield 46, 3) := by decide +kernel
theorem dX7_spoons_88 : decode cX7_spoons 88 = .ok (.bipush 24, 2) := by decide +kernel
theorem dX7_spoons_90 : decode cX7_spoons 90 = .ok (.iload_n 2, 1) := by decide +kernel
theorem dX7_spoons_91 : decode cX7_spoons 91 = .ok (.imul, 1) := by decide +kernel
theorem dX7_spoons_92 : decode cX7_spoons 92 = .ok (.iload 4, 2) := by decide +kernel
theorem dX7_spoons_94 : decode cX7_spoons 94 = .ok (.iadd, 1) := by decide +kernel
theorem dX7_spoons_95 : decode cX7_spoons 95 = .ok (.iaload, 1) := by decide +kernel
theorem dX7_spoons_96 : decode cX7_spoons 96 = .ok (.iastore, 1) := by decide +kernel
theorem dX7_spoons_97 : decode cX7_spoons 97 = .ok (.iinc 4 1, 3) := by decide +kernel
theorem dX7_spoons_100 : decode cX7_spoons 100 = .ok (.goto (-69), 3) := by decide +kernel
theorem dX7_spoons_103 : decode cX7_spoons 103 = .ok (.iload 4, 2) := by decide +kernel
theorem dX7_spoons_105 : decode cX7_spoons 105 = .ok (.ireturn, 1) := by decide +kernel
theorem dX7_judge_0 : decode cX7_judge 0 = .ok (.aload_n 0, 1) := by decide +kernel
theorem dX7_judge_1 : decode cX7_judge 1 = .ok (.iload_n 1, 1) := by decide +kernel
theorem dX7_judge_2 : decode cX7_judge 2 = .ok (.invokevirtual 231, 3) := by decide +kernel
theorem dX7_judge_5 : decode cX7_judge 5 = .ok (.istore_n 2, 1) := by decide +kernel
theorem dX7_judge_6 : decode cX7_judge 6 = .ok (.iload_n 2, 1) := by decide +kernel
theorem dX7_judge_7 : decode cX7_judge 7 = .ok (.ifCond .eq 9, 3) := by decide +kernel
theorem dX7_judge_10 : decode cX7_judge 10 = .ok (.aload_n 0, 1) := by decide +kernel
theorem dX7_judge_11 : decode cX7_judge 11 = .ok (.iload_n 2, 1) := by decide +kernel
theorem dX7_judge_12 : decode cX7_judge 12 = .ok (.invokevirtual 65, 3) := by decide +kernel
theorem dX7_judge_15 : decode cX7_judge 15 = .ok (.ireturn, 1) := by decide +kernel
theorem dX7_judge_16 : decode cX7_judge 16 = .ok (.iconst 0, 1) := by decide +kernel
theorem dX7_judge_17 : decode cX7_judge 17 = .ok (.istore_n 3, 1) := by decide +kernel
theorem dX7_judge_18 : decode cX7_judge 18 = .ok (.iload_n 3, 1) := by decide +kernel
theorem dX7_judge_19 : decode cX7_judge 19 = .ok (.aload_n 0, 1) := by decide +kernel
theorem dX7_judge_20 : decode cX7_judge 20 = .ok (.getfield 43, 3) := by decide +kernel
theorem dX7_judge_23 : decode cX7_judge 23 = .ok (.iload_n 1, 1) := by decide +kernel
theorem dX7_judge_24 : decode cX7_judge 24 = .ok (.iaload, 1) := by decide +kernel
theorem dX7_judge_25 : decode cX7_judge 25 = .ok (.if_icmp .ge 36, 3) := by decide +kernel
theorem dX7_judge_28 : decode cX7_judge 28 = .ok (.aload_n 0, 1) := by decide +kernel
theorem dX7_judge_29 : decode cX7_judge 29 = .ok (.iload_n 3, 1) := by decide +kernel
theorem dX7_judge_30 : decode cX7_judge 30 = .ok (.invokevirtual 156, 3) := by decide +kernel
theorem dX7_judge_33 : decode cX7_judge 33 = .ok (.ifCond .eq 28, 3) := by decide +kernel
theorem dX7_judge_36 : decode cX7_judge 36 = .ok (.aload_n 0, 1) := by decide +kernel
theorem dX7_judge_37 : decode cX7_judge 37 = .ok (.iload_n 3, 1) := by decide +kernel
theorem dX7_judge_38 : decode cX7_judge 38 = .ok (.invokevirtual 163, 3) := by decide +kernel
theorem dX7_judge_41 : decode cX7_judge 41 = .ok (.aload_n 0, 1) := by decide +kernel
theorem dX7_judge_42 : decode cX7_judge 42 = .ok (.getfield 46, 3) := by decide +kernel
theorem dX7_judge_45 : decode cX7_judge 45 = .ok (.bipush 24, 2) := by decide +kernel
theorem dX7_judge_47 : decode cX7_judge 47 = .ok (.iload_n 1, 1) := by decide +kernel
theorem dX7_judge_48 : decode cX7_judge 48 = .ok (.imul, 1) := by decide +kernel
theorem dX7_judge_49 : decode cX7_judge 49 = .ok (.iload_n 3, 1) := by decide +kernel
theorem dX7_judge_50 : decode cX7_judge 50 = .ok (.iadd, 1) := by decide +kernel
theorem dX7_judge_51 : decode cX7_judge 51 = .ok (.iaload, 1) := by decide +kernel
theorem dX7_judge_52 : decode cX7_judge 52 = .ok (.if_icmp .ne 9, 3) := by decide +kernel
theorem dX7_judge_55 : decode cX7_judge 55 = .ok (.iinc 3 1, 3) := by decide +kernel
theorem dX7_judge_58 : decode cX7_judge 58 = .ok (.goto (-40), 3) := by decide +kernel
theorem dX7_judge_61 : decode cX7_judge 61 = .ok (.iload_n 3, 1) := by decide +kernel
theorem dX7_judge_62 : decode cX7_judge 62 = .ok (.ireturn, 1) := by decide +kernel
theorem dX7_image_0 : decode cX7_image 0 = .ok (.aload_n 0, 1) := by decide +kernel
theorem dX7_image_1 : decode cX7_image 1 = .ok (.getfield 7, 3) := by decide +kernel
theorem dX7_image_4 : decode cX7_image 4 = .ok (.aload_n 0, 1) := by decide +kernel
theorem dX7_image_5 : decode cX7_image 5 = .ok (.getfield 13, 3) := by decide +kernel
theorem dX7_image_8 : decode cX7_image 8 = .ok (.invokestatic 272, 3) := by decide +kernel
theorem dX7_image_11 : decode cX7_image 11 = .ok (.aload_n 0, 1) := by decide +kernel
theorem dX7_image_12 : decode cX7_image 12 = .ok (.dup, 1) := by decide +kernel
theorem dX7_image_13 : decode cX7_image 13 = .ok (.getfield 276, 3) := by decide +kernel
theorem dX7_image_16 : decode cX7_image 16 = .ok (.iconst 1, 1) := by decide +kernel
theorem dX7_image_17 : decode cX7_image 17 = .ok (.iadd, 1) := by decide +kernel
theorem dX7_image_18 : decode cX7_image 18 = .ok (.putfield 276, 3) := by decide +kernel
theorem dX7_image_21 : decode cX7_image 21 = .ok (.aload_n 0, 1) := by decide +kernel
theorem dX7_image_22 : decode cX7_image 22 = .ok (.getfield 276, 3) := by decide +kernel
theorem dX7_image_25 : decode cX7_image 25 = .ok (.ireturn, 1) := by decide +kernel
theorem dX7_restore_0 : decode cX7_restore 0 = .ok (.aload_n 0, 1) := by decide +kernel
theorem dX7_restore_1 : decode cX7_restore 1 = .ok (.getfield 276, 3) := by decide +kernel
theorem dX7_restore_4 : decode cX7_restore 4 = .ok (.ifCond .ne 9, 3) := by decide +kernel
theorem dX7_restore_7 : decode cX7_restore 7 = .ok (.aload_n 0, 1) := by decide +kernel
theorem dX7_restore_8 : decode cX7_restore 8 = .ok (.iconst 2, 1) := by decide +kernel
theorem dX7_restore_9 : decode cX7_restore 9 = .ok (.invokevirtual 65, 3) := by decide +kernel
theorem dX7_restore_12 : decode cX7_restore 12 = .ok (.ireturn, 1) := by decide +kernel
theorem dX7_restore_13 : decode cX7_restore 13 = .ok (.aload_n 0, 1) := by decide +kernel
theorem dX7_restore_14 : decode cX7_restore 14 = .ok (.getfield 13, 3) := by decide +kernel
theorem dX7_restore_17 : decode cX7_restore 17 = .ok (.aload_n 0, 1) := by decide +kernel
theorem dX7_restore_18 : decode cX7_restore 18 = .ok (.getfield 7, 3) := by decide +kernel
theorem dX7_restore_21 : decode cX7_restore 21 = .ok (.invokestatic 272, 3) := by decide +kernel
theorem dX7_restore_24 : decode cX7_restore 24 = .ok (.aload_n 0, 1) := by decide +kernel
theorem dX7_restore_25 : decode cX7_restore 25 = .ok (.getfield 7, 3) := by decide +kernel
theorem dX7_restore_28 : decode cX7_restore 28 = .ok (.iconst 0, 1) := by decide +kernel
theorem dX7_restore_29 : decode cX7_restore 29 = .ok (.iaload, 1) := by decide +kernel
theorem dX7_restore_30 : decode cX7_restore 30 = .ok (.ireturn, 1) := by decide +kernel
theorem dX7_tell_0 : decode cX7_tell 0 = .ok (.aload_n 0, 1) := by decide +kernel
theorem dX7_tell_1 : decode cX7_tell 1 = .ok (.getfield 7, 3) := by decide +kernel
theorem dX7_tell_4 : decode cX7_tell 4 = .ok (.iconst 3, 1) := by decide +kernel
theorem dX7_tell_5 : decode cX7_tell 5 = .ok (.iaload, 1) := by decide +kernel
theorem dX7_tell_6 : decode cX7_tell 6 = .ok (.bipush 24, 2) := by decide +kernel
theorem dX7_tell_8 : decode cX7_tell 8 = .ok (.if_icmp .ne 9, 3) := by decide +kernel
theorem dX7_tell_11 : decode cX7_tell 11 = .ok (.aload_n 0, 1) := by decide +kernel
theorem dX7_tell_12 : decode cX7_tell 12 = .ok (.iconst 4, 1) := by decide +kernel
theorem dX7_tell_13 : decode cX7_tell 13 = .ok (.invokevirtual 65, 3) := by decide +kernel
theorem dX7_tell_16 : decode cX7_tell 16 = .ok (.ireturn, 1) := by decide +kernel
theorem dX7_tell_17 : decode cX7_tell 17 = .ok (.aload_n 0, 1) := by decide +kernel
theorem dX7_tell_18 : decode cX7_tell 18 = .ok (.getfield 7, 3) := by decide +kernel
theorem dX7_tell_21 : decode cX7_tell 21 = .ok (.sipush 452, 3) := by decide +kernel
theorem dX7_tell_24 : decode cX7_tell 24 = .ok (.aload_n 0, 1) := by decide +kernel
theorem dX7_tell_25 : decode cX7_tell 25 = .ok (.getfield 7, 3) := by decide +kernel
theorem dX7_tell_28 : decode cX7_tell 28 = .ok (.iconst 3, 1) := by decide +kernel
theorem dX7_tell_29 : decode cX7_tell 29 = .ok (.iaload, 1) := by decide +kernel
theorem dX7_tell_30 : decode cX7_tell 30 = .ok (.iadd, 1) := by decide +kernel
theorem dX7_tell_31 : decode cX7_tell 31 = .ok (.iload_n 1, 1) := by decide +kernel
theorem dX7_tell_32 : decode cX7_tell 32 = .ok (.iastore, 1) := by decide +kernel
theorem dX7_tell_33 : decode cX7_tell 33 = .ok (.aload_n 0, 1) := by decide +kernel
theorem dX7_tell_34 : decode cX7_tell 34 = .ok (.getfield 7, 3) := by decide +kernel
theorem dX7_tell_37 : decode cX7_tell 37 = .ok (.iconst 3, 1) := by decide +kernel
theorem dX7_tell_38 : decode cX7_tell 38 = .ok (.dup2, 1) := by decide +kernel
theorem dX7_tell_39 : decode cX7_tell 39 = .ok (.iaload, 1) := by decide +kernel
theorem dX7_tell_40 : decode cX7_tell 40 = .ok (.iconst 1, 1) := by decide +kernel
theorem dX7_tell_41 : decode cX7_tell 41 = .ok (.iadd, 1) := by decide +kernel
theorem dX7_tell_42 : decode cX7_tell 42 = .ok (.iastore, 1) := by decide +kernel
theorem dX7_tell_43 : decode cX7_tell 43 = .ok (.aload_n 0, 1) := by decide +kernel
theorem dX7_tell_44 : decode cX7_tell 44 = .ok (.getfield 7, 3) := by decide +kernel
theorem dX7_tell_47 : decode cX7_tell 47 = .ok (.iconst 3, 1) := by decide +kernel
theorem dX7_tell_48 : decode cX7_tell 48 = .ok (.iaload, 1) := by decide +kernel
theorem dX7_tell_49 : decode cX7_tell 49 = .ok (.ireturn, 1) := by decide +kernel
theorem dX7_check_0 : decode cX7_check 0 = .ok (.aload_n 0, 1) := by decide +kernel
theorem dX7_check_1 : decode cX7_check 1 = .ok (.getfield 7, 3) := by decide +kernel
theorem dX7_check_4 : decode cX7_check 4 = .ok (.iconst 3, 1) := by decide +kernel
theorem dX7_check_5 : decode cX7_check 5 = .ok (.iaload, 1) := by decide +kernel
theorem dX7_check_6 : decode cX7_check 6 = .ok (.istore_n 1, 1) := by decide +kernel
theorem dX7_check_7 : decode cX7_check 7 = .ok (.aload_n 0, 1) := by decide +kernel
theorem dX7_check_8 : decode cX7_check 8 = .ok (.getfield 7, 3) := by decide +kernel
theorem dX7_check_11 : decode cX7_check 11 = .ok (.iconst 3, 1) := by decide +kernel
theorem dX7_check_12 : decode cX7_check 12 = .ok (.iconst 0, 1) := by decide +kernel
theorem dX7_check_13 : decode cX7_check 13 = .ok (.iastore, 1) := by decide +kernel
theorem dX7_check_14 : decode cX7_check 14 = .ok (.iconst 0, 1) := by decide +kernel
theorem dX7_check_15 : decode cX7_check 15 = .ok (.istore_n 2, 1) := by decide +kernel
theorem dX7_check_16 : decode cX7_check 16 = .ok (.iload_n 2, 1) := by decide +kernel
theorem dX7_check_17 : decode cX7_check 17 = .ok (.iload_n 1, 1) := by decide +kernel
theorem dX7_check_18 : decode cX7_check 18 = .ok (.if_icmp .ge 39, 3) := by decide +kernel
theorem dX7_check_21 : decode cX7_check 21 = .ok (.aload_n 0, 1) := by decide +kernel
theorem dX7_check_22 : decode cX7_check 22 = .ok (.iload_n 2, 1) := by decide +kernel
theorem dX7_check_23 : decode cX7_check 23 = .ok (.invokevirtual 156, 3) := by decide +kernel
theorem dX7_check_26 : decode cX7_check 26 = .ok (.ifCond .eq 21, 3) := by decide +kernel
theorem dX7_check_29 : decode cX7_check 29 = .ok (.aload_n 0, 1) := by decide +kernel
theorem dX7_check_30 : decode cX7_check 30 = .ok (.getfield 7, 3) := by decide +kernel
theorem dX7_check_33 : decode cX7_check 33 = .ok (.sipush 452, 3) := by decide +kernel
theorem dX7_check_36 : decode cX7_check 36 = .ok (.iload_n 2, 1) := by decide +kernel
theorem dX7_check_37 : decode cX7_check 37 = .ok (.iadd, 1) := by decide +kernel
theorem dX7_check_38 : decode cX7_check 38 = .ok (.iaload, 1) := by decide +kernel
theorem dX7_check_39 : decode cX7_check 39 = .ok (.aload_n 0, 1) := by decide +kernel
theorem dX7_check_40 : decode cX7_check 40 = .ok (.iload_n 2, 1) := by decide +kernel
theorem dX7_check_41 : decode cX7_check 41 = .ok (.invokevirtual 166, 3) := by decide +kernel
theorem dX7_check_44 : decode cX7_check 44 = .ok (.if_icmp .eq 7, 3) := by decide +kernel
theorem dX7_check_47 : decode cX7_check 47 = .ok (.iconst 1, 1) := by decide +kernel
theorem dX7_check_48 : decode cX7_check 48 = .ok (.iload_n 2, 1) := by decide +kernel
theorem dX7_check_49 : decode cX7_check 49 = .ok (.iadd, 1) := by decide +kernel
theorem dX7_check_50 : decode cX7_check 50 = .ok (.ireturn, 1) := by decide +kernel
theorem dX7_check_51 : decode cX7_check 51 = .ok (.iinc 2 1, 3) := by decide +kernel
theorem dX7_check_54 : decode cX7_check 54 = .ok (.goto (-38), 3) := by decide +kernel
theorem dX7_check_57 : decode cX7_check 57 = .ok (.iconst 0, 1) := by decide +kernel
theorem dX7_check_58 : decode cX7_check 58 = .ok (.ireturn, 1) := by decide +kernel
theorem dX7_count_0 : decode cX7_count 0 = .ok (.iload_n 1, 1) := by decide +kernel
theorem dX7_count_1 : decode cX7_count 1 = .ok (.tableswitch 79 0 5 #[39, 46, 53, 60, 67, 72], 39) := by decide +kernel
theorem dX7_count_40 : decode cX7_count 40 = .ok (.aload_n 0, 1) := by decide +kernel
theorem dX7_count_41 : decode cX7_count 41 = .ok (.getfield 7, 3) := by decide +kernel
theorem dX7_count_44 : decode cX7_count 44 = .ok (.iconst 4, 1) := by decide +kernel
theorem dX7_count_45 : decode cX7_count 45 = .ok (.iaload, 1) := by decide +kernel
theorem dX7_count_46 : decode cX7_count 46 = .ok (.ireturn, 1) := by decide +kernel
theorem dX7_count_47 : decode cX7_count 47 = .ok (.aload_n 0, 1) := by decide +kernel
theorem dX7_count_48 : decode cX7_count 48 = .ok (.getfield 7, 3) := by decide +kernel
theorem dX7_count_51 : decode cX7_count 51 = .ok (.iconst 0, 1) := by decide +kernel
theorem dX7_count_52 : decode cX7_count 52 = .ok (.iaload, 1) := by decide +kernel
theorem dX7_count_53 : decode cX7_count 53 = .ok (.ireturn, 1) := by decide +kernel
theorem dX7_count_54 : decode cX7_count 54 = .ok (.aload_n 0, 1) := by decide +kernel
theorem dX7_count_55 : decode cX7_count 55 = .ok (.getfield 7, 3) := by decide +kernel
theorem dX7_count_58 : decode cX7_count 58 = .ok (.iconst 2, 1) := by decide +kernel
theorem dX7_count_59 : decode cX7_count 59 = .ok (.iaload, 1) := by decide +kernel
theorem dX7_count_60 : decode cX7_count 60 = .ok (.ireturn, 1) := by decide +kernel
theorem dX7_count_61 : decode cX7_count 61 = .ok (.aload_n 0, 1) := by decide +kernel
theorem dX7_count_62 : decode cX7_count 62 = .ok (.getfield 7, 3) := by decide +kernel
theorem dX7_count_65 : decode cX7_count 65 = .ok (.iconst 3, 1) := by decide +kernel
theorem dX7_count_66 : decode cX7_count 66 = .ok (.iaload, 1) := by decide +kernel
theorem dX7_count_67 : decode cX7_count 67 = .ok (.ireturn, 1) := by decide +kernel
theorem dX7_count_68 : decode cX7_count 68 = .ok (.aload_n 0, 1) := by decide +kernel
theorem dX7_count_69 : decode cX7_count 69 = .ok (.getfield 237, 3) := by decide +kernel
theorem dX7_count_72 : decode cX7_count 72 = .ok (.ireturn, 1) := by decide +kernel
theorem dX7_count_73 : decode cX7_count 73 = .ok (.aload_n 0, 1) := by decide +kernel
theorem dX7_count_74 : decode cX7_count 74 = .ok (.getfield 7, 3) := by decide +kernel
theorem dX7_count_77 : decode cX7_count 77 = .ok (.iconst 1, 1) := by decide +kernel
theorem dX7_count_78 : decode cX7_count 78 = .ok (.iaload, 1) := by decide +kernel
theorem dX7_count_79 : decode cX7_count 79 = .ok (.ireturn, 1) := by decide +kernel
theorem dX7_count_80 : decode cX7_count 80 = .ok (.aload_n 0, 1) := by decide +kernel
theorem dX7_count_81 : decode cX7_count 81 = .ok (.iconst 1, 1) := by decide +kernel
theorem dX7_count_82 : decode cX7_count 82 = .ok (.invokevirtual 65, 3) := by decide +kernel
theorem dX7_count_85 : decode cX7_count 85 = .ok (.ireturn, 1) := by decide +kernel
theorem dX7_told_0 : decode cX7_told 0 = .ok (.iload_n 1, 1) := by decide +kernel
theorem dX7_told_1 : decode cX7_told 1 = .ok (.iconst 1, 1) := by decide +kernel
theorem dX7_told_2 : decode cX7_told 2 = .ok (.bipush 6, 2) := by decide +kernel
theorem dX7_told_4 : decode cX7_told 4 = .ok (.invokestatic 53, 3) := by decide +kernel
theorem dX7_told_7 : decode cX7_told 7 = .ok (.ifCond .eq 12, 3) := by decide +kernel
theorem dX7_told_10 : decode cX7_told 10 = .ok (.aload_n 0, 1) := by decide +kernel
theorem dX7_told_11 : decode cX7_told 11 = .ok (.getfield 19, 3) := by decide +kernel
theorem dX7_told_14 : decode cX7_told 14 = .ok (.iload_n 1, 1) := by decide +kernel
theorem dX7_told_15 : decode cX7_told 15 = .ok (.iaload, 1) := by decide +kernel
theorem dX7_told_16 : decode cX7_told 16 = .ok (.goto 8, 3) := by decide +kernel
theorem dX7_told_19 : decode cX7_told 19 = .ok (.aload_n 0, 1) := by decide +kernel
theorem dX7_told_20 : decode cX7_told 20 = .ok (.iconst 1, 1) := by decide +kernel
theorem dX7_told_21 : decode cX7_told 21 = .ok (.invokevirtual 65, 3) := by decide +kernel
theorem dX7_told_24 : decode cX7_told 24 = .ok (.ireturn, 1) := by decide +kernel
theorem dL_law_0 : decode cL_law 0 = .ok (.new 7, 3) := by decide +kernel
theorem dL_law_3 : decode cL_law 3 = .ok (.dup, 1) := by decide +kernel
theorem dL_law_4 : decode cL_law 4 = .ok (.invokespecial 9, 3) := by decide +kernel
theorem dL_law_7 : decode cL_law 7 = .ok (.astore_n 1, 1) := by decide +kernel
theorem dL_law_8 : decode cL_law 8 = .ok (.new 10, 3) := by decide +kernel
theorem dL_law_11 : decode cL_law 11 = .ok (.dup, 1) := by decide +kernel
theorem dL_law_12 : decode cL_law 12 = .ok (.invokespecial 12, 3) := by decide +kernel
theorem dL_law_15 : decode cL_law 15 = .ok (.astore_n 2, 1) := by decide +kernel
theorem dL_law_16 : decode cL_law 16 = .ok (.iconst 0, 1) := by decide +kernel
theorem dL_law_17 : decode cL_law 17 = .ok (.istore_n 3, 1) := by decide +kernel
theorem dL_law_18 : decode cL_law 18 = .ok (.iload_n 3, 1) := by decide +kernel
theorem dL_law_19 : decode cL_law 19 = .ok (.aload_n 0, 1) := by decide +kernel
theorem dL_law_20 : decode cL_law 20 = .ok (.arraylength, 1) := by decide +kernel
theorem dL_law_21 : decode cL_law 21 = .ok (.bipush 6, 2) := by decide +kernel
theorem dL_law_23 : decode cL_law 23 = .ok (.isub, 1) := by decide +kernel
theorem dL_law_24 : decode cL_law 24 = .ok (.if_icmp .gt 1490, 3) := by decide +kernel
theorem dL_law_27 : decode cL_law 27 = .ok (.aload_n 0, 1) := by decide +kernel
theorem dL_law_28 : decode cL_law 28 = .ok (.iload_n 3, 1) := by decide +kernel
theorem dL_law_29 : decode cL_law 29 = .ok (.iaload, 1) := by decide +kernel
theorem dL_law_30 : decode cL_law 30 = .ok (.bipush 63, 2) := by decide +kernel
theorem dL_law_32 : decode cL_law 32 = .ok (.iand, 1) := by decide +kernel
theorem dL_law_33 : decode cL_law 33 = .ok (.tableswitch 1475 0 39 #[175, 198, 241, 274, 307, 340, 373, 416, 449, 502, 555, 588, 651, 674, 697, 750, 773, 796, 819, 842, 885, 918, 951, 974, 1007, 1030, 1063, 1096, 1139, 1162, 1205, 1248, 1311, 1344, 1367, 1380, 1393, 1416, 1429, 1452], 175) := by decide +kernel
theorem dL_law_208 : decode cL_law 208 = .ok (.aload_n 1, 1) := by decide +kernel
theorem dL_law_209 : decode cL_law 209 = .ok (.aload_n 0, 1) := by decide +kernel
theorem dL_law_210 : decode cL_law 210 = .ok (.iload_n 3, 1) := by decide +kernel
theorem dL_law_211 : decode cL_law 211 = .ok (.iconst 1, 1) := by decide +kernel
theorem dL_law_212 : decode cL_law 212 = .ok (.iadd, 1) := by decide +kernel
theorem dL_law_213 : decode cL_law 213 = .ok (.iaload, 1) := by decide +kernel
theorem dL_law_214 : decode cL_law 214 = .ok (.invokevirtual 13, 3) := by decide +kernel
theorem dL_law_217 : decode cL_law 217 = .ok (.aload_n 2, 1) := by decide +kernel
theorem dL_law_218 : decode cL_law 218 = .ok (.aload_n 0, 1) := by decide +kernel
theorem dL_law_219 : decode cL_law 219 = .ok (.iload_n 3, 1) := by decide +kernel
theorem dL_law_220 : decode cL_law 220 = .ok (.iconst 1, 1) := by decide +kernel
theorem dL_law_221 : decode cL_law 221 = .ok (.iadd, 1) := by decide +kernel
theorem dL_law_222 : decode cL_law 222 = .ok (.iaload, 1) := by decide +kernel
theorem dL_law_223 : decode cL_law 223 = .ok (.invokevirtual 17, 3) := by decide +kernel
theorem dL_law_226 : decode cL_law 226 = .ok (.if_icmp .eq 1282, 3) := by decide +kernel
theorem dL_law_229 : decode cL_law 229 = .ok (.iconst 0, 1) := by decide +kernel
theorem dL_law_230 : decode cL_law 230 = .ok (.ireturn, 1) := by decide +kernel
theorem dL_law_231 : decode cL_law 231 = .ok (.aload_n 1, 1) := by decide +kernel
theorem dL_law_232 : decode cL_law 232 = .ok (.aload_n 0, 1) := by decide +kernel
theorem dL_law_233 : decode cL_law 233 = .ok (.iload_n 3, 1) := by decide +kernel
theorem dL_law_234 : decode cL_law 234 = .ok (.iconst 1, 1) := by decide +kernel
theorem dL_law_235 : decode cL_law 235 = .ok (.iadd, 1) := by decide +kernel
theorem dL_law_236 : decode cL_law 236 = .ok (.iaload, 1) := by decide +kernel
theorem dL_law_237 : decode cL_law 237 = .ok (.aload_n 0, 1) := by decide +kernel
theorem dL_law_238 : decode cL_law 238 = .ok (.iload_n 3, 1) := by decide +kernel
theorem dL_law_239 : decode cL_law 239 = .ok (.iconst 2, 1) := by decide +kernel
theorem dL_law_240 : decode cL_law 240 = .ok (.iadd, 1) := by decide +kernel
theorem dL_law_241 : decode cL_law 241 = .ok (.iaload, 1) := by decide +kernel
theorem dL_law_242 : decode cL_law 242 = .ok (.aload_n 0, 1) := by decide +kernel
theorem dL_law_243 : decode cL_law 243 = .ok (.iload_n 3, 1) := by decide +kernel
theorem dL_law_244 : decode cL_law 244 = .ok (.iconst 3, 1) := by decide +kernel
theorem dL_law_245 : decode cL_law 245 = .ok (.iadd, 1) := by decide +kernel
theorem dL_law_246 : decode cL_law 246 = .ok (.iaload, 1) := by decide +kernel
theorem dL_law_247 : decode cL_law 247 = .ok (.invokevirtual 18, 3) := by decide +kernel
theorem dL_law_250 : decode cL_law 250 = .ok (.aload_n 2, 1) := by decide +kernel
theorem dL_law_251 : decode cL_law 251 = .ok (.aload_n 0, 1) := by decide +kernel
theorem dL_law_252 : decode cL_law 252 = .ok (.iload_n 3, 1) := by decide +kernel
theorem dL_law_253 : decode cL_law 253 = .ok (.iconst 1, 1) := by decide +kernel
theorem dL_law_254 : decode cL_law 254 = .ok (.iadd, 1) := by decide +kernel
theorem dL_law_255 : decode cL_law 255 = .ok (.iaload, 1) := by decide +kernel
theorem dL_law_256 : decode cL_law 256 = .ok (.aload_n 0, 1) := by decide +kernel
theorem dL_law_257 : decode cL_law 257 = .ok (.iload_n 3, 1) := by decide +kernel
theorem dL_law_258 : decode cL_law 258 = .ok (.iconst 2, 1) := by decide +kernel
theorem dL_law_259 : decode cL_law 259 = .ok (.iadd, 1) := by decide +kernel
theorem dL_law_260 : decode cL_law 260 = .ok (.iaload, 1) := by decide +kernel
theorem dL_law_261 : decode cL_law 261 = .ok (.aload_n 0, 1) := by decide +kernel
theorem dL_law_262 : decode cL_law 262 = .ok (.iload_n 3, 1) := by decide +kernel
theorem dL_law_263 : decode cL_law 263 = .ok (.iconst 3, 1) := by decide +kernel
theorem dL_law_264 : decode cL_law 264 = .ok (.iadd, 1) := by decide +kernel
theorem dL_law_265 : decode cL_law 265 = .ok (.iaload, 1) := by decide +kernel
theorem dL_law_266 : decode cL_law 266 = .ok (.invokevirtual 22, 3) := by decide +kernel
theorem dL_law_269 : decode cL_law 269 = .ok (.if_icmp .eq 1239, 3) := by decide +kernel
theorem dL_law_272 : decode cL_law 272 = .ok (.iconst 0, 1) := by decide +kernel
theorem dL_law_273 : decode cL_law 273 = .ok (.ireturn, 1) := by decide +kernel
theorem dL_law_274 : decode cL_law 274 = .ok (.aload_n 1, 1) := by decide +kernel
theorem dL_law_275 : decode cL_law 275 = .ok (.aload_n 0, 1) := by decide +kernel
theorem dL_law_276 : decode cL_law 276 = .ok (.iload_n 3, 1) := by decide +kernel
theorem dL_law_277 : decode cL_law 277 = .ok (.iconst 1, 1) := by decide +kernel
theorem dL_law_278 : decode cL_law 278 = .ok (.iadd, 1) := by decide +kernel
theorem dL_law_279 : decode cL_law 279 = .ok (.iaload, 1) := by decide +kernel
theorem dL_law_280 : decode cL_law 280 = .ok (.aload_n 0, 1) := by decide +kernel
theorem dL_law_281 : decode cL_law 281 = .ok (.iload_n 3, 1) := by decide +kernel
theorem dL_law_282 : decode cL_law 282 = .ok (.iconst 2, 1) := by decide +kernel
theorem dL_law_283 : decode cL_law 283 = .ok (.iadd, 1) := by decide +kernel
theorem dL_law_284 : decode cL_law 284 = .ok (.iaload, 1) := by decide +kernel
theorem dL_law_285 : decode cL_law 285 = .ok (.invokevirtual 23, 3) := by decide +kernel
theorem dL_law_288 : decode cL_law 288 = .ok (.aload_n 2, 1) := by decide +kernel
theorem dL_law_289 : decode cL_law 289 = .ok (.aload_n 0, 1) := by decide +kernel
theorem dL_law_290 : decode cL_law 290 = .ok (.iload_n 3, 1) := by decide +kernel
theorem dL_law_291 : decode cL_law 291 = .ok (.iconst 1, 1) := by decide +kernel
theorem dL_law_292 : decode cL_law 292 = .ok (.iadd, 1) := by decide +kernel
theorem dL_law_293 : decode cL_law 293 = .ok (.iaload, 1) := by decide +kernel
theorem dL_law_294 : decode cL_law 294 = .ok (.aload_n 0, 1) := by decide +kernel
theorem dL_law_295 : decode cL_law 295 = .ok (.iload_n 3, 1) := by decide +kernel
theorem dL_law_296 : decode cL_law 296 = .ok (.iconst 2, 1) := by decide +kernel
theorem dL_law_297 : decode cL_law 297 = .ok (.iadd, 1) := by decide +kernel
theorem dL_law_298 : decode cL_law 298 = .ok (.iaload, 1) := by decide +kernel
theorem dL_law_299 : decode cL_law 299 = .ok (.invokevirtual 27, 3) := by decide +kernel
theorem dL_law_302 : decode cL_law 302 = .ok (.if_icmp .eq 1206, 3) := by decide +kernel
theorem dL_law_305 : decode cL_law 305 = .ok (.iconst 0, 1) := by decide +kernel
theorem dL_law_306 : decode cL_law 306 = .ok (.ireturn, 1) := by decide +kernel
theorem dL_law_307 : decode cL_law 307 = .ok (.aload_n 1, 1) := by decide +kernel
theorem dL_law_308 : decode cL_law 308 = .ok (.aload_n 0, 1) := by decide +kernel
theorem dL_law_309 : decode cL_law 309 = .ok (.iload_n 3, 1) := by decide +kernel
theorem dL_law_310 : decode cL_law 310 = .ok (.iconst 1, 1) := by decide +kernel
theorem dL_law_311 : decode cL_law 311 = .ok (.iadd, 1) := by decide +kernel
theorem dL_law_312 : decode cL_law 312 = .ok (.iaload, 1) := by decide +kernel
theorem dL_law_313 : decode cL_law 313 = .ok (.aload_n 0, 1) := by decide +kernel
theorem dL_law_314 : decode cL_law 314 = .ok (.iload_n 3, 1) := by decide +kernel
theorem dL_law_315 : decode cL_law 315 = .ok (.iconst 2, 1) := by decide +kernel
theorem dL_law_316 : decode cL_law 316 = .ok (.iadd, 1) := by decide +kernel
theorem dL_law_317 : decode cL_law 317 = .ok (.iaload, 1) := by decide +kernel
theorem dL_law_318 : decode cL_law 318 = .ok (.invokevirtual 28, 3) := by decide +kernel
theorem dL_law_321 : decode cL_law 321 = .ok (.aload_n 2, 1) := by decide +kernel
theorem dL_law_322 : decode cL_law 322 = .ok (.aload_n 0, 1) := by decide +kernel
theorem dL_law_323 : decode cL_law 323 = .ok (.iload_n 3, 1) := by decide +kernel
theorem dL_law_324 : decode cL_law 324 = .ok (.iconst 1, 1) := by decide +kernel
theorem dL_law_325 : decode cL_law 325 = .ok (.iadd, 1) := by decide +kernel
theorem dL_law_326 : decode cL_law 326 = .ok (.iaload, 1) := by decide +kernel
theorem dL_law_327 : decode cL_law 327 = .ok (.aload_n 0, 1) := by decide +kernel
theorem dL_law_328 : decode cL_law 328 = .ok (.iload_n 3, 1) := by decide +kernel
theorem dL_law_329 : decode cL_law 329 = .ok (.iconst 2, 1) := by decide +kernel
theorem dL_law_330 : decode cL_law 330 = .ok (.iadd, 1) := by decide +kernel
theorem dL_law_331 : decode cL_law 331 = .ok (.iaload, 1) := by decide +kernel
theorem dL_law_332 : decode cL_law 332 = .ok (.invokevirtual 31, 3) := by decide +kernel
theorem dL_law_335 : decode cL_law 335 = .ok (.if_icmp .eq 1173, 3) := by decide +kernel
theorem dL_law_338 : decode cL_law 338 = .ok (.iconst 0, 1) := by decide +kernel
theorem dL_law_339 : decode cL_law 339 = .ok (.ireturn, 1) := by decide +kernel
theorem dL_law_340 : decode cL_law 340 = .ok (.aload_n 1, 1) := by decide +kernel
theorem dL_law_341 : decode cL_law 341 = .ok (.aload_n 0, 1) := by decide +kernel
theorem dL_law_342 : decode cL_law 342 = .ok (.iload_n 3, 1) := by decide +kernel
theorem dL_law_343 : decode cL_law 343 = .ok (.iconst 1, 1) := by decide +kernel
theorem dL_law_344 : decode cL_law 344 = .ok (.iadd, 1) := by decide +kernel
theorem dL_law_345 : decode cL_law 345 = .ok (.iaload, 1) := by decide +kernel
theorem dL_law_346 : decode cL_law 346 = .ok (.aload_n 0, 1) := by decide +kernel
theorem dL_law_347 : decode cL_law 347 = .ok (.iload_n 3, 1) := by decide +kernel
theorem dL_law_348 : decode cL_law 348 = .ok (.iconst 2, 1) := by decide +kernel
theorem dL_law_349 : decode cL_law 349 = .ok (.iadd, 1) := by decide +kernel
theorem dL_law_350 : decode cL_law 350 = .ok (.iaload, 1) := by decide +kernel
theorem dL_law_351 : decode cL_law 351 = .ok (.invokevirtual 32, 3) := by decide +kernel
theorem dL_law_354 : decode cL_law 354 = .ok (.aload_n 2, 1) := by decide +kernel
theorem dL_law_355 : decode cL_law 355 = .ok (.aload_n 0, 1) := by decide +kernel
theorem dL_law_356 : decode cL_law 356 = .ok (.iload_n 3, 1) := by decide +kernel
theorem dL_law_357 : decode cL_law 357 = .ok (.iconst 1, 1) := by decide +kernel
theorem dL_law_358 : decode cL_law 358 = .ok (.iadd, 1) := by decide +kernel
theorem dL_law_359 : decode cL_law 359 = .ok (.iaload, 1) := by decide +kernel
theorem dL_law_360 : decode cL_law 360 = .ok (.aload_n 0, 1) := by decide +kernel
theorem dL_law_361 : decode cL_law 361 = .ok (.iload_n 3, 1) := by decide +kernel
theorem dL_law_362 : decode cL_law 362 = .ok (.iconst 2, 1) := by decide +kernel
theorem dL_law_363 : decode cL_law 363 = .ok (.iadd, 1) := by decide +kernel
theorem dL_law_364 : decode cL_law 364 = .ok (.iaload, 1) := by decide +kernel
theorem dL_law_365 : decode cL_law 365 = .ok (.invokevirtual 35, 3) := by decide +kernel
theorem dL_law_368 : decode cL_law 368 = .ok (.if_icmp .eq 1140, 3) := by decide +kernel
theorem dL_law_371 : decode cL_law 371 = .ok (.iconst 0, 1) := by decide +kernel
theorem dL_law_372 : decode cL_law 372 = .ok (.ireturn, 1) := by decide +kernel
theorem dL_law_373 : decode cL_law 373 = .ok (.aload_n 1, 1) := by decide +kernel
theorem dL_law_374 : decode cL_law 374 = .ok (.aload_n 0, 1) := by decide +kernel
theorem dL_law_375 : decode cL_law 375 = .ok (.iload_n 3, 1) := by decide +kernel
theorem dL_law_376 : decode cL_law 376 = .ok (.iconst 1, 1) := by decide +kernel
theorem dL_law_377 : decode cL_law 377 = .ok (.iadd, 1) := by decide +kernel
theorem dL_law_378 : decode cL_law 378 = .ok (.iaload, 1) := by decide +kernel
theorem dL_law_379 : decode cL_law 379 = .ok (.aload_n 0, 1) := by decide +kernel
theorem dL_law_380 : decode cL_law 380 = .ok (.iload_n 3, 1) := by decide +kernel
theorem dL_law_381 : decode cL_law 381 = .ok (.iconst 2, 1) := by decide +kernel
theorem dL_law_382 : decode cL_law 382 = .ok (.iadd, 1) := by decide +kernel
theorem dL_law_383 : decode cL_law 383 = .ok (.iaload, 1) := by decide +kernel
theorem dL_law_384 : decode cL_law 384 = .ok (.invokevirtual 36, 3) := by decide +kernel
theorem dL_law_387 : decode cL_law 387 = .ok (.aload_n 2, 1) := by decide +kernel
theorem dL_law_388 : decode cL_law 388 = .ok (.aload_n 0, 1) := by decide +kernel
theorem dL_law_389 : decode cL_law 389 = .ok (.iload_n 3, 1) := by decide +kernel
theorem dL_law_390 : decode cL_law 390 = .ok (.iconst 1, 1) := by decide +kernel
theorem dL_law_391 : decode cL_law 391 = .ok (.iadd, 1) := by decide +kernel
theorem dL_law_392 : decode cL_law 392 = .ok (.iaload, 1) := by decide +kernel
theorem dL_law_393 : decode cL_law 393 = .ok (.aload_n 0, 1) := by decide +kernel
theorem dL_law_394 : decode cL_law 394 = .ok (.iload_n 3, 1) := by decide +kernel
theorem dL_law_395 : decode cL_law 395 = .ok (.iconst 2, 1) := by decide +kernel
theorem dL_law_396 : decode cL_law 396 = .ok (.iadd, 1) := by decide +kernel
theorem dL_law_397 : decode cL_law 397 = .ok (.iaload, 1) := by decide +kernel
theorem dL_law_398 : decode cL_law 398 = .ok (.invokevirtual 39, 3) := by decide +kernel
theorem dL_law_401 : decode cL_law 401 = .ok (.if_icmp .eq 1107, 3) := by decide +kernel
theorem dL_law_404 : decode cL_law 404 = .ok (.iconst 0, 1) := by decide +kernel
theorem dL_law_405 : decode cL_law 405 = .ok (.ireturn, 1) := by decide +kernel
theorem dL_law_406 : decode cL_law 406 = .ok (.aload_n 1, 1) := by decide +kernel
theorem dL_law_407 : decode cL_law 407 = .ok (.aload_n 0, 1) := by decide +kernel
theorem dL_law_408 : decode cL_law 408 = .ok (.iload_n 3, 1) := by decide +kernel
theorem dL_law_409 : decode cL_law 409 = .ok (.iconst 1, 1) := by decide +kernel
theorem dL_law_410 : decode cL_law 410 = .ok (.iadd, 1) := by decide +kernel
theorem dL_law_411 : decode cL_law 411 = .ok (.iaload, 1) := by decide +kernel
theorem dL_law_412 : decode cL_law 412 = .ok (.aload_n 0, 1) := by decide +kernel
theorem dL_law_413 : decode cL_law 413 = .ok (.iload_n 3, 1) := by decide +kernel
theorem dL_law_414 : decode cL_law 414 = .ok (.iconst 2, 1) := by decide +kernel
theorem dL_law_415 : decode cL_law 415 = .ok (.iadd, 1) := by decide +kernel
theorem dL_law_416 : decode cL_law 416 = .ok (.iaload, 1) := by decide +kernel
theorem dL_law_417 : decode cL_law 417 = .ok (.aload_n 0, 1) := by decide +kernel
theorem dL_law_418 : decode cL_law 418 = .ok (.iload_n 3, 1) := by decide +kernel
theorem dL_law_419 : decode cL_law 419 = .ok (.iconst 3, 1) := by decide +kernel
theorem dL_law_420 : decode cL_law 420 = .ok (.iadd, 1) := by decide +kernel
theorem dL_law_421 : decode cL_law 421 = .ok (.iaload, 1) := by decide +kernel
theorem dL_law_422 : decode cL_law 422 = .ok (.invokevirtual 40, 3) := by decide +kernel
theorem dL_law_425 : decode cL_law 425 = .ok (.aload_n 2, 1) := by decide +kernel
theorem dL_law_426 : decode cL_law 426 = .ok (.aload_n 0, 1) := by decide +kernel
theorem dL_law_427 : decode cL_law 427 = .ok (.iload_n 3, 1) := by decide +kernel
theorem dL_law_428 : decode cL_law 428 = .ok (.iconst 1, 1) := by decide +kernel
theorem dL_law_429 : decode cL_law 429 = .ok (.iadd, 1) := by decide +kernel
theorem dL_law_430 : decode cL_law 430 = .ok (.iaload, 1) := by decide +kernel
theorem dL_law_431 : decode cL_law 431 = .ok (.aload_n 0, 1) := by decide +kernel
theorem dL_law_432 : decode cL_law 432 = .ok (.iload_n 3, 1) := by decide +kernel
theorem dL_law_433 : decode cL_law 433 = .ok (.iconst 2, 1) := by decide +kernel
theorem dL_law_434 : decode cL_law 434 = .ok (.iadd, 1) := by decide +kernel
theorem dL_law_435 : decode cL_law 435 = .ok (.iaload, 1) := by decide +kernel
theorem dL_law_436 : decode cL_law 436 = .ok (.aload_n 0, 1) := by decide +kernel
theorem dL_law_437 : decode cL_law 437 = .ok (.iload_n 3, 1) := by decide +kernel
theorem dL_law_438 : decode cL_law 438 = .ok (.iconst 3, 1) := by decide +kernel
theorem dL_law_439 : decode cL_law 439 = .ok (.iadd, 1) := by decide +kernel
theorem dL_law_440 : decode cL_law 440 = .ok (.iaload, 1) := by decide +kernel
theorem dL_law_441 : decode cL_law 441 = .ok (.invokevirtual 43, 3) := by decide +kernel
theorem dL_law_444 : decode cL_law 444 = .ok (.if_icmp .eq 1064, 3) := by decide +kernel
theorem dL_law_447 : decode cL_law 447 = .ok (.iconst 0, 1) := by decide +kernel
theorem dL_law_448 : decode cL_law 448 = .ok (.ireturn, 1) := by decide +kernel
theorem dL_law_449 : decode cL_law 449 = .ok (.aload_n 1, 1) := by decide +kernel
theorem dL_law_450 : decode cL_law 450 = .ok (.aload_n 0, 1) := by decide +kernel
theorem dL_law_451 : decode cL_law 451 = .ok (.iload_n 3, 1) := by decide +kernel
theorem dL_law_452 : decode cL_law 452 = .ok (.iconst 1, 1) := by decide +kernel
theorem dL_law_453 : decode cL_law 453 = .ok (.iadd, 1) := by decide +kernel
theorem dL_law_454 : decode cL_law 454 = .ok (.iaload, 1) := by decide +kernel
theorem dL_law_455 : decode cL_law 455 = .ok (.aload_n 0, 1) := by decide +kernel
theorem dL_law_456 : decode cL_law 456 = .ok (.iload_n 3, 1) := by decide +kernel
theorem dL_law_457 : decode cL_law 457 = .ok (.iconst 2, 1) := by decide +kernel
theorem dL_law_458 : decode cL_law 458 = .ok (.iadd, 1) := by decide +kernel
theorem dL_law_459 : decode cL_law 459 = .ok (.iaload, 1) := by decide +kernel
theorem dL_law_460 : decode cL_law 460 = .ok (.invokevirtual 44, 3) := by decide +kernel
theorem dL_law_463 : decode cL_law 463 = .ok (.aload_n 2, 1) := by decide +kernel
theorem dL_law_464 : decode cL_law 464 = .ok (.aload_n 0, 1) := by decide +kernel
theorem dL_law_465 : decode cL_law 465 = .ok (.iload_n 3, 1) := by decide +kernel
theorem dL_law_466 : decode cL_law 466 = .ok (.iconst 1, 1) := by decide +kernel
theorem dL_law_467 : decode cL_law 467 = .ok (.iadd, 1) := by decide +kernel
theorem dL_law_468 : decode cL_law 468 = .ok (.iaload, 1) := by decide +kernel
theorem dL_law_469 : decode cL_law 469 = .ok (.aload_n 0, 1) := by decide +kernel
theorem dL_law_470 : decode cL_law 470 = .ok (.iload_n 3, 1) := by decide +kernel
theorem dL_law_471 : decode cL_law 471 = .ok (.iconst 2, 1) := by decide +kernel
theorem dL_law_472 : decode cL_law 472 = .ok (.iadd, 1) := by decide +kernel
theorem dL_law_473 : decode cL_law 473 = .ok (.iaload, 1) := by decide +kernel
theorem dL_law_474 : decode cL_law 474 = .ok (.invokevirtual 47, 3) := by decide +kernel
theorem dL_law_477 : decode cL_law 477 = .ok (.if_icmp .eq 1031, 3) := by decide +kernel
theorem dL_law_480 : decode cL_law 480 = .ok (.iconst 0, 1) := by decide +kernel
theorem dL_law_481 : decode cL_law 481 = .ok (.ireturn, 1) := by decide +kernel
theorem dL_law_482 : decode cL_law 482 = .ok (.aload_n 1, 1) := by decide +kernel
theorem dL_law_483 : decode cL_law 483 = .ok (.aload_n 0, 1) := by decide +kernel
theorem dL_law_484 : decode cL_law 484 = .ok (.iload_n 3, 1) := by decide +kernel
theorem dL_law_485 : decode cL_law 485 = .ok (.iconst 1, 1) := by decide +kernel
theorem dL_law_486 : decode cL_law 486 = .ok (.iadd, 1) := by decide +kernel
theorem dL_law_487 : decode cL_law 487 = .ok (.iaload, 1) := by decide +kernel
theorem dL_law_488 : decode cL_law 488 = .ok (.aload_n 0, 1) := by decide +kernel
theorem dL_law_489 : decode cL_law 489 = .ok (.iload_n 3, 1) := by decide +kernel
theorem dL_law_490 : decode cL_law 490 = .ok (.iconst 2, 1) := by decide +kernel
theorem dL_law_491 : decode cL_law 491 = .ok (.iadd, 1) := by decide +kernel
theorem dL_law_492 : decode cL_law 492 = .ok (.iaload, 1) := by decide +kernel
theorem dL_law_493 : decode cL_law 493 = .ok (.aload_n 0, 1) := by decide +kernel
theorem dL_law_494 : decode cL_law 494 = .ok (.iload_n 3, 1) := by decide +kernel
theorem dL_law_495 : decode cL_law 495 = .ok (.iconst 3, 1) := by decide +kernel
theorem dL_law_496 : decode cL_law 496 = .ok (.iadd, 1) := by decide +kernel
theorem dL_law_497 : decode cL_law 497 = .ok (.iaload, 1) := by decide +kernel
theorem dL_law_498 : decode cL_law 498 = .ok (.aload_n 0, 1) := by decide +kernel
theorem dL_law_499 : decode cL_law 499 = .ok (.iload_n 3, 1) := by decide +kernel
theorem dL_law_500 : decode cL_law 500 = .ok (.iconst 4, 1) := by decide +kernel
theorem dL_law_501 : decode cL_law 501 = .ok (.iadd, 1) := by decide +kernel
theorem dL_law_502 : decode cL_law 502 = .ok (.iaload, 1) := by decide +kernel
theorem dL_law_503 : decode cL_law 503 = .ok (.invokevirtual 48, 3) := by decide +kernel
theorem dL_law_506 : decode cL_law 506 = .ok (.aload_n 2, 1) := by decide +kernel
theorem dL_law_507 : decode cL_law 507 = .ok (.aload_n 0, 1) := by decide +kernel
theorem dL_law_508 : decode cL_law 508 = .ok (.iload_n 3, 1) := by decide +kernel
theorem dL_law_509 : decode cL_law 509 = .ok (.iconst 1, 1) := by decide +kernel
theorem dL_law_510 : decode cL_law 510 = .ok (.iadd, 1) := by decide +kernel
theorem dL_law_511 : decode cL_law 511 = .ok (.iaload, 1) := by decide +kernel
theorem dL_law_512 : decode cL_law 512 = .ok (.aload_n 0, 1) := by decide +kernel
theorem dL_law_513 : decode cL_law 513 = .ok (.iload_n 3, 1) := by decide +kernel
theorem dL_law_514 : decode cL_law 514 = .ok (.iconst 2, 1) := by decide +kernel
theorem dL_law_515 : decode cL_law 515 = .ok (.iadd, 1) := by decide +kernel
theorem dL_law_516 : decode cL_law 516 = .ok (.iaload, 1) := by decide +kernel
theorem dL_law_517 : decode cL_law 517 = .ok (.aload_n 0, 1) := by decide +kernel
theorem dL_law_518 : decode cL_law 518 = .ok (.iload_n 3, 1) := by decide +kernel
theorem dL_law_519 : decode cL_law 519 = .ok (.iconst 3, 1) := by decide +kernel
theorem dL_law_520 : decode cL_law 520 = .ok (.iadd, 1) := by decide +kernel
theorem dL_law_521 : decode cL_law 521 = .ok (.iaload, 1) := by decide +kernel
theorem dL_law_522 : decode cL_law 522 = .ok (.aload_n 0, 1) := by decide +kernel
theorem dL_law_523 : decode cL_law 523 = .ok (.iload_n 3, 1) := by decide +kernel
theorem dL_law_524 : decode cL_law 524 = .ok (.iconst 4, 1) := by decide +kernel
theorem dL_law_525 : decode cL_law 525 = .ok (.iadd, 1) := by decide +kernel
theorem dL_law_526 : decode cL_law 526 = .ok (.iaload, 1) := by decide +kernel
theorem dL_law_527 : decode cL_law 527 = .ok (.invokevirtual 52, 3) := by decide +kernel
theorem dL_law_530 : decode cL_law 530 = .ok (.if_icmp .eq 978, 3) := by decide +kernel
theorem dL_law_533 : decode cL_law 533 = .ok (.iconst 0, 1) := by decide +kernel
theorem dL_law_534 : decode cL_law 534 = .ok (.ireturn, 1) := by decide +kernel
theorem dL_law_535 : decode cL_law 535 = .ok (.aload_n 1, 1) := by decide +kernel
theorem dL_law_536 : decode cL_law 536 = .ok (.aload_n 0, 1) := by decide +kernel
theorem dL_law_537 : decode cL_law 537 = .ok (.iload_n 3, 1) := by decide +kernel
theorem dL_law_538 : decode cL_law 538 = .ok (.iconst 1, 1) := by decide +kernel
theorem dL_law_539 : decode cL_law 539 = .ok (.iadd, 1) := by decide +kernel
theorem dL_law_540 : decode cL_law 540 = .ok (.iaload, 1) := by decide +kernel
theorem dL_law_541 : decode cL_law 541 = .ok (.aload_n 0, 1) := by decide +kernel
theorem dL_law_542 : decode cL_law 542 = .ok (.iload_n 3, 1) := by decide +kernel
theorem dL_law_543 : decode cL_law 543 = .ok (.iconst 2, 1) := by decide +kernel
theorem dL_law_544 : decode cL_law 544 = .ok (.iadd, 1) := by decide +kernel
theorem dL_law_545 : decode cL_law 545 = .ok (.iaload, 1) := by decide +kernel
theorem dL_law_546 : decode cL_law 546 = .ok (.aload_n 0, 1) := by decide +kernel
theorem dL_law_547 : decode cL_law 547 = .ok (.iload_n 3, 1) := by decide +kernel
theorem dL_law_548 : decode cL_law 548 = .ok (.iconst 3, 1) := by decide +kernel
theorem dL_law_549 : decode cL_law 549 = .ok (.iadd, 1) := by decide +kernel
theorem dL_law_550 : decode cL_law 550 = .ok (.iaload, 1) := by decide +kernel
theorem dL_law_551 : decode cL_law 551 = .ok (.aload_n 0, 1) := by decide +kernel
theorem dL_law_552 : decode cL_law 552 = .ok (.iload_n 3, 1) := by decide +kernel
theorem dL_law_553 : decode cL_law 553 = .ok (.iconst 4, 1) := by decide +kernel
theorem dL_law_554 : decode cL_law 554 = .ok (.iadd, 1) := by decide +kernel
theorem dL_law_555 : decode cL_law 555 = .ok (.iaload, 1) := by decide +kernel
theorem dL_law_556 : decode cL_law 556 = .ok (.invokevirtual 53, 3) := by decide +kernel
theorem dL_law_559 : decode cL_law 559 = .ok (.aload_n 2, 1) := by decide +kernel
theorem dL_law_560 : decode cL_law 560 = .ok (.aload_n 0, 1) := by decide +kernel
theorem dL_law_561 : decode cL_law 561 = .ok (.iload_n 3, 1) := by decide +kernel
theorem dL_law_562 : decode cL_law 562 = .ok (.iconst 1, 1) := by decide +kernel
theorem dL_law_563 : decode cL_law 563 = .ok (.iadd, 1) := by decide +kernel
theorem dL_law_564 : decode cL_law 564 = .ok (.iaload, 1) := by decide +kernel
theorem dL_law_565 : decode cL_law 565 = .ok (.aload_n 0, 1) := by decide +kernel
theorem dL_law_566 : decode cL_law 566 = .ok (.iload_n 3, 1) := by decide +kernel
theorem dL_law_567 : decode cL_law 567 = .ok (.iconst 2, 1) := by decide +kernel
theorem dL_law_568 : decode cL_law 568 = .ok (.iadd, 1) := by decide +kernel
theorem dL_law_569 : decode cL_law 569 = .ok (.iaload, 1) := by decide +kernel
theorem dL_law_570 : decode cL_law 570 = .ok (.aload_n 0, 1) := by decide +kernel
theorem dL_law_571 : decode cL_law 571 = .ok (.iload_n 3, 1) := by decide +kernel
theorem dL_law_572 : decode cL_law 572 = .ok (.iconst 3, 1) := by decide +kernel
theorem dL_law_573 : decode cL_law 573 = .ok (.iadd, 1) := by decide +kernel
theorem dL_law_574 : decode cL_law 574 = .ok (.iaload, 1) := by decide +kernel
theorem dL_law_575 : decode cL_law 575 = .ok (.aload_n 0, 1) := by decide +kernel
theorem dL_law_576 : decode cL_law 576 = .ok (.iload_n 3, 1) := by decide +kernel
theorem dL_law_577 : decode cL_law 577 = .ok (.iconst 4, 1) := by decide +kernel
theorem dL_law_578 : decode cL_law 578 = .ok (.iadd, 1) := by decide +kernel
theorem dL_law_579 : decode cL_law 579 = .ok (.iaload, 1) := by decide +kernel
theorem dL_law_580 : decode cL_law 580 = .ok (.invokevirtual 56, 3) := by decide +kernel
theorem dL_law_583 : decode cL_law 583 = .ok (.if_icmp .eq 925, 3) := by decide +kernel
theorem dL_law_586 : decode cL_law 586 = .ok (.iconst 0, 1) := by decide +kernel
theorem dL_law_587 : decode cL_law 587 = .ok (.ireturn, 1) := by decide +kernel
theorem dL_law_588 : decode cL_law 588 = .ok (.aload_n 1, 1) := by decide +kernel
theorem dL_law_589 : decode cL_law 589 = .ok (.aload_n 0, 1) := by decide +kernel
theorem dL_law_590 : decode cL_law 590 = .ok (.iload_n 3, 1) := by decide +kernel
theorem dL_law_591 : decode cL_law 591 = .ok (.iconst 1, 1) := by decide +kernel
theorem dL_law_592 : decode cL_law 592 = .ok (.iadd, 1) := by decide +kernel
theorem dL_law_593 : decode cL_law 593 = .ok (.iaload, 1) := by decide +kernel
theorem dL_law_594 : decode cL_law 594 = .ok (.aload_n 0, 1) := by decide +kernel
theorem dL_law_595 : decode cL_law 595 = .ok (.iload_n 3, 1) := by decide +kernel
theorem dL_law_596 : decode cL_law 596 = .ok (.iconst 2, 1) := by decide +kernel
theorem dL_law_597 : decode cL_law 597 = .ok (.iadd, 1) := by decide +kernel
theorem dL_law_598 : decode cL_law 598 = .ok (.iaload, 1) := by decide +kernel
theorem dL_law_599 : decode cL_law 599 = .ok (.invokevirtual 57, 3) := by decide +kernel
theorem dL_law_602 : decode cL_law 602 = .ok (.aload_n 2, 1) := by decide +kernel
theorem dL_law_603 : decode cL_law 603 = .ok (.aload_n 0, 1) := by decide +kernel
theorem dL_law_604 : decode cL_law 604 = .ok (.iload_n 3, 1) := by decide +kernel
theorem dL_law_605 : decode cL_law 605 = .ok (.iconst 1, 1) := by decide +kernel
theorem dL_law_606 : decode cL_law 606 = .ok (.iadd, 1) := by decide +kernel
theorem dL_law_607 : decode cL_law 607 = .ok (.iaload, 1) := by decide +kernel
theorem dL_law_608 : decode cL_law 608 = .ok (.aload_n 0, 1) := by decide +kernel
theorem dL_law_609 : decode cL_law 609 = .ok (.iload_n 3, 1) := by decide +kernel
theorem dL_law_610 : decode cL_law 610 = .ok (.iconst 2, 1) := by decide +kernel
theorem dL_law_611 : decode cL_law 611 = .ok (.iadd, 1) := by decide +kernel
theorem dL_law_612 : decode cL_law 612 = .ok (.iaload, 1) := by decide +kernel
theorem dL_law_613 : decode cL_law 613 = .ok (.invokevirtual 60, 3) := by decide +kernel
theorem dL_law_616 : decode cL_law 616 = .ok (.if_icmp .eq 892, 3) := by decide +kernel
theorem dL_law_619 : decode cL_law 619 = .ok (.iconst 0, 1) := by decide +kernel
theorem dL_law_620 : decode cL_law 620 = .ok (.ireturn, 1) := by decide +kernel
theorem dL_law_621 : decode cL_law 621 = .ok (.aload_n 1, 1) := by decide +kernel
theorem dL_law_622 : decode cL_law 622 = .ok (.aload_n 0, 1) := by decide +kernel
theorem dL_law_623 : decode cL_law 623 = .ok (.iload_n 3, 1) := by decide +kernel
theorem dL_law_624 : decode cL_law 624 = .ok (.iconst 1, 1) := by decide +kernel
theorem dL_law_625 : decode cL_law 625 = .ok (.iadd, 1) := by decide +kernel
theorem dL_law_626 : decode cL_law 626 = .ok (.iaload, 1) := by decide +kernel
theorem dL_law_627 : decode cL_law 627 = .ok (.i2l, 1) := by decide +kernel
theorem dL_law_628 : decode cL_law 628 = .ok (.bipush 32, 2) := by decide +kernel
theorem dL_law_630 : decode cL_law 630 = .ok (.lshl, 1) := by decide +kernel
theorem dL_law_631 : decode cL_law 631 = .ok (.aload_n 0, 1) := by decide +kernel
theorem dL_law_632 : decode cL_law 632 = .ok (.iload_n 3, 1) := by decide +kernel
theorem dL_law_633 : decode cL_law 633 = .ok (.iconst 2, 1) := by decide +kernel
theorem dL_law_634 : decode cL_law 634 = .ok (.iadd, 1) := by decide +kernel
theorem dL_law_635 : decode cL_law 635 = .ok (.iaload, 1) := by decide +kernel
theorem dL_law_636 : decode cL_law 636 = .ok (.i2l, 1) := by decide +kernel
theorem dL_law_637 : decode cL_law 637 = .ok (.ldc2_w 61, 3) := by decide +kernel
theorem dL_law_640 : decode cL_law 640 = .ok (.land, 1) := by decide +kernel
theorem dL_law_641 : decode cL_law 641 = .ok (.lor, 1) := by decide +kernel
theorem dL_law_642 : decode cL_law 642 = .ok (.aload_n 0, 1) := by decide +kernel
theorem dL_law_643 : decode cL_law 643 = .ok (.iload_n 3, 1) := by decide +kernel
theorem dL_law_644 : decode cL_law 644 = .ok (.iconst 3, 1) := by decide +kernel
theorem dL_law_645 : decode cL_law 645 = .ok (.iadd, 1) := by decide +kernel
theorem dL_law_646 : decode cL_law 646 = .ok (.iaload, 1) := by decide +kernel
theorem dL_law_647 : decode cL_law 647 = .ok (.invokevirtual 63, 3) := by decide +kernel
theorem dL_law_650 : decode cL_law 650 = .ok (.aload_n 2, 1) := by decide +kernel
theorem dL_law_651 : decode cL_law 651 = .ok (.aload_n 0, 1) := by decide +kernel
theorem dL_law_652 : decode cL_law 652 = .ok (.iload_n 3, 1) := by decide +kernel
theorem dL_law_653 : decode cL_law 653 = .ok (.iconst 1, 1) := by decide +kernel
theorem dL_law_654 : decode cL_law 654 = .ok (.iadd, 1) := by decide +kernel
theorem dL_law_655 : decode cL_law 655 = .ok (.iaload, 1) := by decide +kernel
theorem dL_law_656 : decode cL_law 656 = .ok (.i2l, 1) := by decide +kernel
theorem dL_law_657 : decode cL_law 657 = .ok (.bipush 32, 2) := by decide +kernel
theorem dL_law_659 : decode cL_law 659 = .ok (.lshl, 1) := by decide +kernel
theorem dL_law_660 : decode cL_law 660 = .ok (.aload_n 0, 1) := by decide +kernel
theorem dL_law_661 : decode cL_law 661 = .ok (.iload_n 3, 1) := by decide +kernel
theorem dL_law_662 : decode cL_law 662 = .ok (.iconst 2, 1) := by decide +kernel
theorem dL_law_663 : decode cL_law 663 = .ok (.iadd, 1) := by decide +kernel
theorem dL_law_664 : decode cL_law 664 = .ok (.iaload, 1) := by decide +kernel
theorem dL_law_665 : decode cL_law 665 = .ok (.i2l, 1) := by decide +kernel
theorem dL_law_666 : decode cL_law 666 = .ok (.ldc2_w 61, 3) := by decide +kernel
theorem dL_law_669 : decode cL_law 669 = .ok (.land, 1) := by decide +kernel
theorem dL_law_670 : decode cL_law 670 = .ok (.lor, 1) := by decide +kernel
theorem dL_law_671 : decode cL_law 671 = .ok (.aload_n 0, 1) := by decide +kernel
theorem dL_law_672 : decode cL_law 672 = .ok (.iload_n 3, 1) := by decide +kernel
theorem dL_law_673 : decode cL_law 673 = .ok (.iconst 3, 1) := by decide +kernel
theorem dL_law_674 : decode cL_law 674 = .ok (.iadd, 1) := by decide +kernel
theorem dL_law_675 : decode cL_law 675 = .ok (.iaload, 1) := by decide +kernel
theorem dL_law_676 : decode cL_law 676 = .ok (.invokevirtual 67, 3) := by decide +kernel
theorem dL_law_679 : decode cL_law 679 = .ok (.if_icmp .eq 829, 3) := by decide +kernel
theorem dL_law_682 : decode cL_law 682 = .ok (.iconst 0, 1) := by decide +kernel
theorem dL_law_683 : decode cL_law 683 = .ok (.ireturn, 1) := by decide +kernel
theorem dL_law_684 : decode cL_law 684 = .ok (.aload_n 1, 1) := by decide +kernel
theorem dL_law_685 : decode cL_law 685 = .ok (.aload_n 0, 1) := by decide +kernel
theorem dL_law_686 : decode cL_law 686 = .ok (.iload_n 3, 1) := by decide +kernel
theorem dL_law_687 : decode cL_law 687 = .ok (.iconst 1, 1) := by decide +kernel
theorem dL_law_688 : decode cL_law 688 = .ok (.iadd, 1) := by decide +kernel
theorem dL_law_689 : decode cL_law 689 = .ok (.iaload, 1) := by decide +kernel
theorem dL_law_690 : decode cL_law 690 = .ok (.invokevirtual 68, 3) := by decide +kernel
theorem dL_law_693 : decode cL_law 693 = .ok (.aload_n 2, 1) := by decide +kernel
theorem dL_law_694 : decode cL_law 694 = .ok (.aload_n 0, 1) := by decide +kernel
theorem dL_law_695 : decode cL_law 695 = .ok (.iload_n 3, 1) := by decide +kernel
theorem dL_law_696 : decode cL_law 696 = .ok (.iconst 1, 1) := by decide +kernel
theorem dL_law_697 : decode cL_law 697 = .ok (.iadd, 1) := by decide +kernel
theorem dL_law_698 : decode cL_law 698 = .ok (.iaload, 1) := by decide +kernel
theorem dL_law_699 : decode cL_law 699 = .ok (.invokevirtual 71, 3) := by decide +kernel
theorem dL_law_702 : decode cL_law 702 = .ok (.if_icmp .eq 806, 3) := by decide +kernel
theorem dL_law_705 : decode cL_law 705 = .ok (.iconst 0, 1) := by decide +kernel
theorem dL_law_706 : decode cL_law 706 = .ok (.ireturn, 1) := by decide +kernel
theorem dL_law_707 : decode cL_law 707 = .ok (.aload_n 1, 1) := by decide +kernel
theorem dL_law_708 : decode cL_law 708 = .ok (.aload_n 0, 1) := by decide +kernel
theorem dL_law_709 : decode cL_law 709 = .ok (.iload_n 3, 1) := by decide +kernel
theorem dL_law_710 : decode cL_law 710 = .ok (.iconst 1, 1) := by decide +kernel
theorem dL_law_711 : decode cL_law 711 = .ok (.iadd, 1) := by decide +kernel
theorem dL_law_712 : decode cL_law 712 = .ok (.iaload, 1) := by decide +kernel
theorem dL_law_713 : decode cL_law 713 = .ok (.invokevirtual 72, 3) := by decide +kernel
theorem dL_law_716 : decode cL_law 716 = .ok (.aload_n 2, 1) := by decide +kernel
theorem dL_law_717 : decode cL_law 717 = .ok (.aload_n 0, 1) := by decide +kernel
theorem dL_law_718 : decode cL_law 718 = .ok (.iload_n 3, 1) := by decide +kernel
theorem dL_law_719 : decode cL_law 719 = .ok (.iconst 1, 1) := by decide +kernel
theorem dL_law_720 : decode cL_law 720 = .ok (.iadd, 1) := by decide +kernel
theorem dL_law_721 : decode cL_law 721 = .ok (.iaload, 1) := by decide +kernel
theorem dL_law_722 : decode cL_law 722 = .ok (.invokevirtual 75, 3) := by decide +kernel
theorem dL_law_725 : decode cL_law 725 = .ok (.if_icmp .eq 783, 3) := by decide +kernel
theorem dL_law_728 : decode cL_law 728 = .ok (.iconst 0, 1) := by decide +kernel
theorem dL_law_729 : decode cL_law 729 = .ok (.ireturn, 1) := by decide +kernel
theorem dL_law_730 : decode cL_law 730 = .ok (.aload_n 1, 1) := by decide +kernel
theorem dL_law_731 : decode cL_law 731 = .ok (.aload_n 0, 1) := by decide +kernel
theorem dL_law_732 : decode cL_law 732 = .ok (.iload_n 3, 1) := by decide +kernel
theorem dL_law_733 : decode cL_law 733 = .ok (.iconst 1, 1) := by decide +kernel
theorem dL_law_734 : decode cL_law 734 = .ok (.iadd, 1) := by decide +kernel
theorem dL_law_735 : decode cL_law 735 = .ok (.iaload, 1) := by decide +kernel
theorem dL_law_736 : decode cL_law 736 = .ok (.aload_n 0, 1) := by decide +kernel
theorem dL_law_737 : decode cL_law 737 = .ok (.iload_n 3, 1) := by decide +kernel
theorem dL_law_738 : decode cL_law 738 = .ok (.iconst 2, 1) := by decide +kernel
theorem dL_law_739 : decode cL_law 739 = .ok (.iadd, 1) := by decide +kernel
theorem dL_law_740 : decode cL_law 740 = .ok (.iaload, 1) := by decide +kernel
theorem dL_law_741 : decode cL_law 741 = .ok (.aload_n 0, 1) := by decide +kernel
theorem dL_law_742 : decode cL_law 742 = .ok (.iload_n 3, 1) := by decide +kernel
theorem dL_law_743 : decode cL_law 743 = .ok (.iconst 3, 1) := by decide +kernel
theorem dL_law_744 : decode cL_law 744 = .ok (.iadd, 1) := by decide +kernel
theorem dL_law_745 : decode cL_law 745 = .ok (.iaload, 1) := by decide +kernel
theorem dL_law_746 : decode cL_law 746 = .ok (.aload_n 0, 1) := by decide +kernel
theorem dL_law_747 : decode cL_law 747 = .ok (.iload_n 3, 1) := by decide +kernel
theorem dL_law_748 : decode cL_law 748 = .ok (.iconst 4, 1) := by decide +kernel
theorem dL_law_749 : decode cL_law 749 = .ok (.iadd, 1) := by decide +kernel
theorem dL_law_750 : decode cL_law 750 = .ok (.iaload, 1) := by decide +kernel
theorem dL_law_751 : decode cL_law 751 = .ok (.invokevirtual 76, 3) := by decide +kernel
theorem dL_law_754 : decode cL_law 754 = .ok (.aload_n 2, 1) := by decide +kernel
theorem dL_law_755 : decode cL_law 755 = .ok (.aload_n 0, 1) := by decide +kernel
theorem dL_law_756 : decode cL_law 756 = .ok (.iload_n 3, 1) := by decide +kernel
theorem dL_law_757 : decode cL_law 757 = .ok (.iconst 1, 1) := by decide +kernel
theorem dL_law_758 : decode cL_law 758 = .ok (.iadd, 1) := by decide +kernel
theorem dL_law_759 : decode cL_law 759 = .ok (.iaload, 1) := by decide +kernel
theorem dL_law_760 : decode cL_law 760 = .ok (.aload_n 0, 1) := by decide +kernel
theorem dL_law_761 : decode cL_law 761 = .ok (.iload_n 3, 1) := by decide +kernel
theorem dL_law_762 : decode cL_law 762 = .ok (.iconst 2, 1) := by decide +kernel
theorem dL_law_763 : decode cL_law 763 = .ok (.iadd, 1) := by decide +kernel
theorem dL_law_764 : decode cL_law 764 = .ok (.iaload, 1) := by decide +kernel
theorem dL_law_765 : decode cL_law 765 = .ok (.aload_n 0, 1) := by decide +kernel
theorem dL_law_766 : decode cL_law 766 = .ok (.iload_n 3, 1) := by decide +kernel
theorem dL_law_767 : decode cL_law 767 = .ok (.iconst 3, 1) := by decide +kernel
theorem dL_law_768 : decode cL_law 768 = .ok (.iadd, 1) := by decide +kernel
theorem dL_law_769 : decode cL_law 769 = .ok (.iaload, 1) := by decide +kernel
theorem dL_law_770 : decode cL_law 770 = .ok (.aload_n 0, 1) := by decide +kernel
theorem dL_law_771 : decode cL_law 771 = .ok (.iload_n 3, 1) := by decide +kernel
theorem dL_law_772 : decode cL_law 772 = .ok (.iconst 4, 1) := by decide +kernel
theorem dL_law_773 : decode cL_law 773 = .ok (.iadd, 1) := by decide +kernel
theorem dL_law_774 : decode cL_law 774 = .ok (.iaload, 1) := by decide +kernel
theorem dL_law_775 : decode cL_law 775 = .ok (.invokevirtual 79, 3) := by decide +kernel
theorem dL_law_778 : decode cL_law 778 = .ok (.if_icmp .eq 730, 3) := by decide +kernel
theorem dL_law_781 : decode cL_law 781 = .ok (.iconst 0, 1) := by decide +kernel
theorem dL_law_782 : decode cL_law 782 = .ok (.ireturn, 1) := by decide +kernel
theorem dL_law_783 : decode cL_law 783 = .ok (.aload_n 1, 1) := by decide +kernel
theorem dL_law_784 : decode cL_law 784 = .ok (.aload_n 0, 1) := by decide +kernel
theorem dL_law_785 : decode cL_law 785 = .ok (.iload_n 3, 1) := by decide +kernel
theorem dL_law_786 : decode cL_law 786 = .ok (.iconst 1, 1) := by decide +kernel
theorem dL_law_787 : decode cL_law 787 = .ok (.iadd, 1) := by decide +kernel
theorem dL_law_788 : decode cL_law 788 = .ok (.iaload, 1) := by decide +kernel
theorem dL_law_789 : decode cL_law 789 = .ok (.invokevirtual 80, 3) := by decide +kernel
theorem dL_law_792 : decode cL_law 792 = .ok (.aload_n 2, 1) := by decide +kernel
theorem dL_law_793 : decode cL_law 793 = .ok (.aload_n 0, 1) := by decide +kernel
theorem dL_law_794 : decode cL_law 794 = .ok (.iload_n 3, 1) := by decide +kernel
theorem dL_law_795 : decode cL_law 795 = .ok (.iconst 1, 1) := by decide +kernel
theorem dL_law_796 : decode cL_law 796 = .ok (.iadd, 1) := by decide +kernel
theorem dL_law_797 : decode cL_law 797 = .ok (.iaload, 1) := by decide +kernel
theorem dL_law_798 : decode cL_law 798 = .ok (.invokevirtual 83, 3) := by decide +kernel
theorem dL_law_801 : decode cL_law 801 = .ok (.if_icmp .eq 707, 3) := by decide +kernel
theorem dL_law_804 : decode cL_law 804 = .ok (.iconst 0, 1) := by decide +kernel
theorem dL_law_805 : decode cL_law 805 = .ok (.ireturn, 1) := by decide +kernel
theorem dL_law_806 : decode cL_law 806 = .ok (.aload_n 1, 1) := by decide +kernel
theorem dL_law_807 : decode cL_law 807 = .ok (.aload_n 0, 1) := by decide +kernel
theorem dL_law_808 : decode cL_law 808 = .ok (.iload_n 3, 1) := by decide +kernel
theorem dL_law_809 : decode cL_law 809 = .ok (.iconst 1, 1) := by decide +kernel
theorem dL_law_810 : decode cL_law 810 = .ok (.iadd, 1) := by decide +kernel
theorem dL_law_811 : decode cL_law 811 = .ok (.iaload, 1) := by decide +kernel
theorem dL_law_812 : decode cL_law 812 = .ok (.invokevirtual 84, 3) := by decide +kernel
theorem dL_law_815 : decode cL_law 815 = .ok (.aload_n 2, 1) := by decide +kernel
theorem dL_law_816 : decode cL_law 816 = .ok (.aload_n 0, 1) := by decide +kernel
theorem dL_law_817 : decode cL_law 817 = .ok (.iload_n 3, 1) := by decide +kernel
theorem dL_law_818 : decode cL_law 818 = .ok (.iconst 1, 1) := by decide +kernel
theorem dL_law_819 : decode cL_law 819 = .ok (.iadd, 1) := by decide +kernel
theorem dL_law_820 : decode cL_law 820 = .ok (.iaload, 1) := by decide +kernel
theorem dL_law_821 : decode cL_law 821 = .ok (.invokevirtual 87, 3) := by decide +kernel
theorem dL_law_824 : decode cL_law 824 = .ok (.if_icmp .eq 684, 3) := by decide +kernel
theorem dL_law_827 : decode cL_law 827 = .ok (.iconst 0, 1) := by decide +kernel
theorem dL_law_828 : decode cL_law 828 = .ok (.ireturn, 1) := by decide +kernel
theorem dL_law_829 : decode cL_law 829 = .ok (.aload_n 1, 1) := by decide +kernel
theorem dL_law_830 : decode cL_law 830 = .ok (.aload_n 0, 1) := by decide +kernel
theorem dL_law_831 : decode cL_law 831 = .ok (.iload_n 3, 1) := by decide +kernel
theorem dL_law_832 : decode cL_law 832 = .ok (.iconst 1, 1) := by decide +kernel
theorem dL_law_833 : decode cL_law 833 = .ok (.iadd, 1) := by decide +kernel
theorem dL_law_834 : decode cL_law 834 = .ok (.iaload, 1) := by decide +kernel
theorem dL_law_835 : decode cL_law 835 = .ok (.invokevirtual 88, 3) := by decide +kernel
theorem dL_law_838 : decode cL_law 838 = .ok (.aload_n 2, 1) := by decide +kernel
theorem dL_law_839 : decode cL_law 839 = .ok (.aload_n 0, 1) := by decide +kernel
theorem dL_law_840 : decode cL_law 840 = .ok (.iload_n 3, 1) := by decide +kernel
theorem dL_law_841 : decode cL_law 841 = .ok (.iconst 1, 1) := by decide +kernel
theorem dL_law_842 : decode cL_law 842 = .ok (.iadd, 1) := by decide +kernel
theorem dL_law_843 : decode cL_law 843 = .ok (.iaload, 1) := by decide +kernel
theorem dL_law_844 : decode cL_law 844 = .ok (.invokevirtual 91, 3) := by decide +kernel
theorem dL_law_847 : decode cL_law 847 = .ok (.if_icmp .eq 661, 3) := by decide +kernel
theorem dL_law_850 : decode cL_law 850 = .ok (.iconst 0, 1) := by decide +kernel
theorem dL_law_851 : decode cL_law 851 = .ok (.ireturn, 1) := by decide +kernel
theorem dL_law_852 : decode cL_law 852 = .ok (.aload_n 1, 1) := by decide +kernel
theorem dL_law_853 : decode cL_law 853 = .ok (.aload_n 0, 1) := by decide +kernel
theorem dL_law_854 : decode cL_law 854 = .ok (.iload_n 3, 1) := by decide +kernel
theorem dL_law_855 : decode cL_law 855 = .ok (.iconst 1, 1) := by decide +kernel
theorem dL_law_856 : decode cL_law 856 = .ok (.iadd, 1) := by decide +kernel
theorem dL_law_857 : decode cL_law 857 = .ok (.iaload, 1) := by decide +kernel
theorem dL_law_858 : decode cL_law 858 = .ok (.invokevirtual 92, 3) := by decide +kernel
theorem dL_law_861 : decode cL_law 861 = .ok (.aload_n 2, 1) := by decide +kernel
theorem dL_law_862 : decode cL_law 862 = .ok (.aload_n 0, 1) := by decide +kernel
theorem dL_law_863 : decode cL_law 863 = .ok (.iload_n 3, 1) := by decide +kernel
theorem dL_law_864 : decode cL_law 864 = .ok (.iconst 1, 1) := by decide +kernel
theorem dL_law_865 : decode cL_law 865 = .ok (.iadd, 1) := by decide +kernel
theorem dL_law_866 : decode cL_law 866 = .ok (.iaload, 1) := by decide +kernel
theorem dL_law_867 : decode cL_law 867 = .ok (.invokevirtual 95, 3) := by decide +kernel
theorem dL_law_870 : decode cL_law 870 = .ok (.if_icmp .eq 638, 3) := by decide +kernel
theorem dL_law_873 : decode cL_law 873 = .ok (.iconst 0, 1) := by decide +kernel
theorem dL_law_874 : decode cL_law 874 = .ok (.ireturn, 1) := by decide +kernel
theorem dL_law_875 : decode cL_law 875 = .ok (.aload_n 1, 1) := by decide +kernel
theorem dL_law_876 : decode cL_law 876 = .ok (.aload_n 0, 1) := by decide +kernel
theorem dL_law_877 : decode cL_law 877 = .ok (.iload_n 3, 1) := by decide +kernel
theorem dL_law_878 : decode cL_law 878 = .ok (.iconst 1, 1) := by decide +kernel
theorem dL_law_879 : decode cL_law 879 = .ok (.iadd, 1) := by decide +kernel
theorem dL_law_880 : decode cL_law 880 = .ok (.iaload, 1) := by decide +kernel
theorem dL_law_881 : decode cL_law 881 = .ok (.aload_n 0, 1) := by decide +kernel
theorem dL_law_882 : decode cL_law 882 = .ok (.iload_n 3, 1) := by decide +kernel
theorem dL_law_883 : decode cL_law 883 = .ok (.iconst 2, 1) := by decide +kernel
theorem dL_law_884 : decode cL_law 884 = .ok (.iadd, 1) := by decide +kernel
theorem dL_law_885 : decode cL_law 885 = .ok (.iaload, 1) := by decide +kernel
theorem dL_law_886 : decode cL_law 886 = .ok (.aload_n 0, 1) := by decide +kernel
theorem dL_law_887 : decode cL_law 887 = .ok (.iload_n 3, 1) := by decide +kernel
theorem dL_law_888 : decode cL_law 888 = .ok (.iconst 3, 1) := by decide +kernel
theorem dL_law_889 : decode cL_law 889 = .ok (.iadd, 1) := by decide +kernel
theorem dL_law_890 : decode cL_law 890 = .ok (.iaload, 1) := by decide +kernel
theorem dL_law_891 : decode cL_law 891 = .ok (.invokevirtual 96, 3) := by decide +kernel
theorem dL_law_894 : decode cL_law 894 = .ok (.aload_n 2, 1) := by decide +kernel
theorem dL_law_895 : decode cL_law 895 = .ok (.aload_n 0, 1) := by decide +kernel
theorem dL_law_896 : decode cL_law 896 = .ok (.iload_n 3, 1) := by decide +kernel
theorem dL_law_897 : decode cL_law 897 = .ok (.iconst 1, 1) := by decide +kernel
theorem dL_law_898 : decode cL_law 898 = .ok (.iadd, 1) := by decide +kernel
theorem dL_law_899 : decode cL_law 899 = .ok (.iaload, 1) := by decide +kernel
theorem dL_law_900 : decode cL_law 900 = .ok (.aload_n 0, 1) := by decide +kernel
theorem dL_law_901 : decode cL_law 901 = .ok (.iload_n 3, 1) := by decide +kernel
theorem dL_law_902 : decode cL_law 902 = .ok (.iconst 2, 1) := by decide +kernel
theorem dL_law_903 : decode cL_law 903 = .ok (.iadd, 1) := by decide +kernel
theorem dL_law_904 : decode cL_law 904 = .ok (.iaload, 1) := by decide +kernel
theorem dL_law_905 : decode cL_law 905 = .ok (.aload_n 0, 1) := by decide +kernel
theorem dL_law_906 : decode cL_law 906 = .ok (.iload_n 3, 1) := by decide +kernel
theorem dL_law_907 : decode cL_law 907 = .ok (.iconst 3, 1) := by decide +kernel
theorem dL_law_908 : decode cL_law 908 = .ok (.iadd, 1) := by decide +kernel
theorem dL_law_909 : decode cL_law 909 = .ok (.iaload, 1) := by decide +kernel
theorem dL_law_910 : decode cL_law 910 = .ok (.invokevirtual 99, 3) := by decide +kernel
theorem dL_law_913 : decode cL_law 913 = .ok (.if_icmp .eq 595, 3) := by decide +kernel
theorem dL_law_916 : decode cL_law 916 = .ok (.iconst 0, 1) := by decide +kernel
theorem dL_law_917 : decode cL_law 917 = .ok (.ireturn, 1) := by decide +kernel
theorem dL_law_918 : decode cL_law 918 = .ok (.aload_n 1, 1) := by decide +kernel
theorem dL_law_919 : decode cL_law 919 = .ok (.aload_n 0, 1) := by decide +kernel
theorem dL_law_920 : decode cL_law 920 = .ok (.iload_n 3, 1) := by decide +kernel
theorem dL_law_921 : decode cL_law 921 = .ok (.iconst 1, 1) := by decide +kernel
theorem dL_law_922 : decode cL_law 922 = .ok (.iadd, 1) := by decide +kernel
theorem dL_law_923 : decode cL_law 923 = .ok (.iaload, 1) := by decide +kernel
theorem dL_law_924 : decode cL_law 924 = .ok (.aload_n 0, 1) := by decide +kernel
theorem dL_law_925 : decode cL_law 925 = .ok (.iload_n 3, 1) := by decide +kernel
theorem dL_law_926 : decode cL_law 926 = .ok (.iconst 2, 1) := by decide +kernel
theorem dL_law_927 : decode cL_law 927 = .ok (.iadd, 1) := by decide +kernel
theorem dL_law_928 : decode cL_law 928 = .ok (.iaload, 1) := by decide +kernel
theorem dL_law_929 : decode cL_law 929 = .ok (.invokevirtual 100, 3) := by decide +kernel
theorem dL_law_932 : decode cL_law 932 = .ok (.aload_n 2, 1) := by decide +kernel
theorem dL_law_933 : decode cL_law 933 = .ok (.aload_n 0, 1) := by decide +kernel
theorem dL_law_934 : decode cL_law 934 = .ok (.iload_n 3, 1) := by decide +kernel
theorem dL_law_935 : decode cL_law 935 = .ok (.iconst 1, 1) := by decide +kernel
theorem dL_law_936 : decode cL_law 936 = .ok (.iadd, 1) := by decide +kernel
theorem dL_law_937 : decode cL_law 937 = .ok (.iaload, 1) := by decide +kernel
theorem dL_law_938 : decode cL_law 938 = .ok (.aload_n 0, 1) := by decide +kernel
theorem dL_law_939 : decode cL_law 939 = .ok (.iload_n 3, 1) := by decide +kernel
theorem dL_law_940 : decode cL_law 940 = .ok (.iconst 2, 1) := by decide +kernel
theorem dL_law_941 : decode cL_law 941 = .ok (.iadd, 1) := by decide +kernel
theorem dL_law_942 : decode cL_law 942 = .ok (.iaload, 1) := by decide +kernel
theorem dL_law_943 : decode cL_law 943 = .ok (.invokevirtual 103, 3) := by decide +kernel
theorem dL_law_946 : decode cL_law 946 = .ok (.if_icmp .eq 562, 3) := by decide +kernel
theorem dL_law_949 : decode cL_law 949 = .ok (.iconst 0, 1) := by decide +kernel
theorem dL_law_950 : decode cL_law 950 = .ok (.ireturn, 1) := by decide +kernel
theorem dL_law_951 : decode cL_law 951 = .ok (.aload_n 1, 1) := by decide +kernel
theorem dL_law_952 : decode cL_law 952 = .ok (.aload_n 0, 1) := by decide +kernel
theorem dL_law_953 : decode cL_law 953 = .ok (.iload_n 3, 1) := by decide +kernel
theorem dL_law_954 : decode cL_law 954 = .ok (.iconst 1, 1) := by decide +kernel
theorem dL_law_955 : decode cL_law 955 = .ok (.iadd, 1) := by decide +kernel
theorem dL_law_956 : decode cL_law 956 = .ok (.iaload, 1) := by decide +kernel
theorem dL_law_957 : decode cL_law 957 = .ok (.aload_n 0, 1) := by decide +kernel
theorem dL_law_958 : decode cL_law 958 = .ok (.iload_n 3, 1) := by decide +kernel
theorem dL_law_959 : decode cL_law 959 = .ok (.iconst 2, 1) := by decide +kernel
theorem dL_law_960 : decode cL_law 960 = .ok (.iadd, 1) := by decide +kernel
theorem dL_law_961 : decode cL_law 961 = .ok (.iaload, 1) := by decide +kernel
theorem dL_law_962 : decode cL_law 962 = .ok (.invokevirtual 104, 3) := by decide +kernel
theorem dL_law_965 : decode cL_law 965 = .ok (.aload_n 2, 1) := by decide +kernel
theorem dL_law_966 : decode cL_law 966 = .ok (.aload_n 0, 1) := by decide +kernel
theorem dL_law_967 : decode cL_law 967 = .ok (.iload_n 3, 1) := by decide +kernel
theorem dL_law_968 : decode cL_law 968 = .ok (.iconst 1, 1) := by decide +kernel
theorem dL_law_969 : decode cL_law 969 = .ok (.iadd, 1) := by decide +kernel
theorem dL_law_970 : decode cL_law 970 = .ok (.iaload, 1) := by decide +kernel
theorem dL_law_971 : decode cL_law 971 = .ok (.aload_n 0, 1) := by decide +kernel
theorem dL_law_972 : decode cL_law 972 = .ok (.iload_n 3, 1) := by decide +kernel
theorem dL_law_973 : decode cL_law 973 = .ok (.iconst 2, 1) := by decide +kernel
theorem dL_law_974 : decode cL_law 974 = .ok (.iadd, 1) := by decide +kernel
theorem dL_law_975 : decode cL_law 975 = .ok (.iaload, 1) := by decide +kernel
theorem dL_law_976 : decode cL_law 976 = .ok (.invokevirtual 107, 3) := by decide +kernel
theorem dL_law_979 : decode cL_law 979 = .ok (.if_icmp .eq 529, 3) := by decide +kernel
theorem dL_law_982 : decode cL_law 982 = .ok (.iconst 0, 1) := by decide +kernel
theorem dL_law_983 : decode cL_law 983 = .ok (.ireturn, 1) := by decide +kernel
theorem dL_law_984 : decode cL_law 984 = .ok (.aload_n 1, 1) := by decide +kernel
theorem dL_law_985 : decode cL_law 985 = .ok (.aload_n 0, 1) := by decide +kernel
theorem dL_law_986 : decode cL_law 986 = .ok (.iload_n 3, 1) := by decide +kernel
theorem dL_law_987 : decode cL_law 987 = .ok (.iconst 1, 1) := by decide +kernel
theorem dL_law_988 : decode cL_law 988 = .ok (.iadd, 1) := by decide +kernel
theorem dL_law_989 : decode cL_law 989 = .ok (.iaload, 1) := by decide +kernel
theorem dL_law_990 : decode cL_law 990 = .ok (.invokevirtual 108, 3) := by decide +kernel
theorem dL_law_993 : decode cL_law 993 = .ok (.aload_n 2, 1) := by decide +kernel
theorem dL_law_994 : decode cL_law 994 = .ok (.aload_n 0, 1) := by decide +kernel
theorem dL_law_995 : decode cL_law 995 = .ok (.iload_n 3, 1) := by decide +kernel
theorem dL_law_996 : decode cL_law 996 = .ok (.iconst 1, 1) := by decide +kernel
theorem dL_law_997 : decode cL_law 997 = .ok (.iadd, 1) := by decide +kernel
theorem dL_law_998 : decode cL_law 998 = .ok (.iaload, 1) := by decide +kernel
theorem dL_law_999 : decode cL_law 999 = .ok (.invokevirtual 111, 3) := by decide +kernel
theorem dL_law_1002 : decode cL_law 1002 = .ok (.if_icmp .eq 506, 3) := by decide +kernel
theorem dL_law_1005 : decode cL_law 1005 = .ok (.iconst 0, 1) := by decide +kernel
theorem dL_law_1006 : decode cL_law 1006 = .ok (.ireturn, 1) := by decide +kernel
theorem dL_law_1007 : decode cL_law 1007 = .ok (.aload_n 1, 1) := by decide +kernel
theorem dL_law_1008 : decode cL_law 1008 = .ok (.aload_n 0, 1) := by decide +kernel
theorem dL_law_1009 : decode cL_law 1009 = .ok (.iload_n 3, 1) := by decide +kernel
theorem dL_law_1010 : decode cL_law 1010 = .ok (.iconst 1, 1) := by decide +kernel
theorem dL_law_1011 : decode cL_law 1011 = .ok (.iadd, 1) := by decide +kernel
theorem dL_law_1012 : decode cL_law 1012 = .ok (.iaload, 1) := by decide +kernel
theorem dL_law_1013 : decode cL_law 1013 = .ok (.aload_n 0, 1) := by decide +kernel
theorem dL_law_1014 : decode cL_law 1014 = .ok (.iload_n 3, 1) := by decide +kernel
theorem dL_law_1015 : decode cL_law 1015 = .ok (.iconst 2, 1) := by decide +kernel
theorem dL_law_1016 : decode cL_law 1016 = .ok (.iadd, 1) := by decide +kernel
theorem dL_law_1017 : decode cL_law 1017 = .ok (.iaload, 1) := by decide +kernel
theorem dL_law_1018 : decode cL_law 1018 = .ok (.invokevirtual 112, 3) := by decide +kernel
theorem dL_law_1021 : decode cL_law 1021 = .ok (.aload_n 2, 1) := by decide +kernel
theorem dL_law_1022 : decode cL_law 1022 = .ok (.aload_n 0, 1) := by decide +kernel
theorem dL_law_1023 : decode cL_law 1023 = .ok (.iload_n 3, 1) := by decide +kernel
theorem dL_law_1024 : decode cL_law 1024 = .ok (.iconst 1, 1) := by decide +kernel
theorem dL_law_1025 : decode cL_law 1025 = .ok (.iadd, 1) := by decide +kernel
theorem dL_law_1026 : decode cL_law 1026 = .ok (.iaload, 1) := by decide +kernel
theorem dL_law_1027 : decode cL_law 1027 = .ok (.aload_n 0, 1) := by decide +kernel
theorem dL_law_1028 : decode cL_law 1028 = .ok (.iload_n 3, 1) := by decide +kernel
theorem dL_law_1029 : decode cL_law 1029 = .ok (.iconst 2, 1) := by decide +kernel
theorem dL_law_1030 : decode cL_law 1030 = .ok (.iadd, 1) := by decide +kernel
theorem dL_law_1031 : decode cL_law 1031 = .ok (.iaload, 1) := by decide +kernel
theorem dL_law_1032 : decode cL_law 1032 = .ok (.invokevirtual 115, 3) := by decide +kernel
theorem dL_law_1035 : decode cL_law 1035 = .ok (.if_icmp .eq 473, 3) := by decide +kernel
theorem dL_law_1038 : decode cL_law 1038 = .ok (.iconst 0, 1) := by decide +kernel
theorem dL_law_1039 : decode cL_law 1039 = .ok (.ireturn, 1) := by decide +kernel
theorem dL_law_1040 : decode cL_law 1040 = .ok (.aload_n 1, 1) := by decide +kernel
theorem dL_law_1041 : decode cL_law 1041 = .ok (.aload_n 0, 1) := by decide +kernel
theorem dL_law_1042 : decode cL_law 1042 = .ok (.iload_n 3, 1) := by decide +kernel
theorem dL_law_1043 : decode cL_law 1043 = .ok (.iconst 1, 1) := by decide +kernel
theorem dL_law_1044 : decode cL_law 1044 = .ok (.iadd, 1) := by decide +kernel
theorem dL_law_1045 : decode cL_law 1045 = .ok (.iaload, 1) := by decide +kernel
theorem dL_law_1046 : decode cL_law 1046 = .ok (.invokevirtual 116, 3) := by decide +kernel
theorem dL_law_1049 : decode cL_law 1049 = .ok (.aload_n 2, 1) := by decide +kernel
theorem dL_law_1050 : decode cL_law 1050 = .ok (.aload_n 0, 1) := by decide +kernel
theorem dL_law_1051 : decode cL_law 1051 = .ok (.iload_n 3, 1) := by decide +kernel
theorem dL_law_1052 : decode cL_law 1052 = .ok (.iconst 1, 1) := by decide +kernel
theorem dL_law_1053 : decode cL_law 1053 = .ok (.iadd, 1) := by decide +kernel
theorem dL_law_1054 : decode cL_law 1054 = .ok (.iaload, 1) := by decide +kernel
theorem dL_law_1055 : decode cL_law 1055 = .ok (.invokevirtual 119, 3) := by decide +kernel
theorem dL_law_1058 : decode cL_law 1058 = .ok (.if_icmp .eq 450, 3) := by decide +kernel
theorem dL_law_1061 : decode cL_law 1061 = .ok (.iconst 0, 1) := by decide +kernel
theorem dL_law_1062 : decode cL_law 1062 = .ok (.ireturn, 1) := by decide +kernel
theorem dL_law_1063 : decode cL_law 1063 = .ok (.aload_n 1, 1) := by decide +kernel
theorem dL_law_1064 : decode cL_law 1064 = .ok (.aload_n 0, 1) := by decide +kernel
theorem dL_law_1065 : decode cL_law 1065 = .ok (.iload_n 3, 1) := by decide +kernel
theorem dL_law_1066 : decode cL_law 1066 = .ok (.iconst 1, 1) := by decide +kernel
theorem dL_law_1067 : decode cL_law 1067 = .ok (.iadd, 1) := by decide +kernel
theorem dL_law_1068 : decode cL_law 1068 = .ok (.iaload, 1) := by decide +kernel
theorem dL_law_1069 : decode cL_law 1069 = .ok (.aload_n 0, 1) := by decide +kernel
theorem dL_law_1070 : decode cL_law 1070 = .ok (.iload_n 3, 1) := by decide +kernel
theorem dL_law_1071 : decode cL_law 1071 = .ok (.iconst 2, 1) := by decide +kernel
theorem dL_law_1072 : decode cL_law 1072 = .ok (.iadd, 1) := by decide +kernel
theorem dL_law_1073 : decode cL_law 1073 = .ok (.iaload, 1) := by decide +kernel
theorem dL_law_1074 : decode cL_law 1074 = .ok (.invokevirtual 120, 3) := by decide +kernel
theorem dL_law_1077 : decode cL_law 1077 = .ok (.aload_n 2, 1) := by decide +kernel
theorem dL_law_1078 : decode cL_law 1078 = .ok (.aload_n 0, 1) := by decide +kernel
theorem dL_law_1079 : decode cL_law 1079 = .ok (.iload_n 3, 1) := by decide +kernel
theorem dL_law_1080 : decode cL_law 1080 = .ok (.iconst 1, 1) := by decide +kernel
theorem dL_law_1081 : decode cL_law 1081 = .ok (.iadd, 1) := by decide +kernel
theorem dL_law_1082 : decode cL_law 1082 = .ok (.iaload, 1) := by decide +kernel
theorem dL_law_1083 : decode cL_law 1083 = .ok (.aload_n 0, 1) := by decide +kernel
theorem dL_law_1084 : decode cL_law 1084 = .ok (.iload_n 3, 1) := by decide +kernel
theorem dL_law_1085 : decode cL_law 1085 = .ok (.iconst 2, 1) := by decide +kernel
theorem dL_law_1086 : decode cL_law 1086 = .ok (.iadd, 1) := by decide +kernel
theorem dL_law_1087 : decode cL_law 1087 = .ok (.iaload, 1) := by decide +kernel
theorem dL_law_1088 : decode cL_law 1088 = .ok (.invokevirtual 123, 3) := by decide +kernel
theorem dL_law_1091 : decode cL_law 1091 = .ok (.if_icmp .eq 417, 3) := by decide +kernel
theorem dL_law_1094 : decode cL_law 1094 = .ok (.iconst 0, 1) := by decide +kernel
theorem dL_law_1095 : decode cL_law 1095 = .ok (.ireturn, 1) := by decide +kernel
theorem dL_law_1096 : decode cL_law 1096 = .ok (.aload_n 1, 1) := by decide +kernel
theorem dL_law_1097 : decode cL_law 1097 = .ok (.aload_n 0, 1) := by decide +kernel
theorem dL_law_1098 : decode cL_law 1098 = .ok (.iload_n 3, 1) := by decide +kernel
theorem dL_law_1099 : decode cL_law 1099 = .ok (.iconst 1, 1) := by decide +kernel
theorem dL_law_1100 : decode cL_law 1100 = .ok (.iadd, 1) := by decide +kernel
theorem dL_law_1101 : decode cL_law 1101 = .ok (.iaload, 1) := by decide +kernel
theorem dL_law_1102 : decode cL_law 1102 = .ok (.aload_n 0, 1) := by decide +kernel
theorem dL_law_1103 : decode cL_law 1103 = .ok (.iload_n 3, 1) := by decide +kernel
theorem dL_law_1104 : decode cL_law 1104 = .ok (.iconst 2, 1) := by decide +kernel
theorem dL_law_1105 : decode cL_law 1105 = .ok (.iadd, 1) := by decide +kernel
theorem dL_law_1106 : decode cL_law 1106 = .ok (.iaload, 1) := by decide +kernel
theorem dL_law_1107 : decode cL_law 1107 = .ok (.invokevirtual 124, 3) := by decide +kernel
theorem dL_law_1110 : decode cL_law 1110 = .ok (.aload_n 2, 1) := by decide +kernel
theorem dL_law_1111 : decode cL_law 1111 = .ok (.aload_n 0, 1) := by decide +kernel
theorem dL_law_1112 : decode cL_law 1112 = .ok (.iload_n 3, 1) := by decide +kernel
theorem dL_law_1113 : decode cL_law 1113 = .ok (.iconst 1, 1) := by decide +kernel
theorem dL_law_1114 : decode cL_law 1114 = .ok (.iadd, 1) := by decide +kernel
theorem dL_law_1115 : decode cL_law 1115 = .ok (.iaload, 1) := by decide +kernel
theorem dL_law_1116 : decode cL_law 1116 = .ok (.aload_n 0, 1) := by decide +kernel
theorem dL_law_1117 : decode cL_law 1117 = .ok (.iload_n 3, 1) := by decide +kernel
theorem dL_law_1118 : decode cL_law 1118 = .ok (.iconst 2, 1) := by decide +kernel
theorem dL_law_1119 : decode cL_law 1119 = .ok (.iadd, 1) := by decide +kernel
theorem dL_law_1120 : decode cL_law 1120 = .ok (.iaload, 1) := by decide +kernel
theorem dL_law_1121 : decode cL_law 1121 = .ok (.invokevirtual 127, 3) := by decide +kernel
theorem dL_law_1124 : decode cL_law 1124 = .ok (.if_icmp .eq 384, 3) := by decide +kernel
theorem dL_law_1127 : decode cL_law 1127 = .ok (.iconst 0, 1) := by decide +kernel
theorem dL_law_1128 : decode cL_law 1128 = .ok (.ireturn, 1) := by decide +kernel
theorem dL_law_1129 : decode cL_law 1129 = .ok (.aload_n 1, 1) := by decide +kernel
theorem dL_law_1130 : decode cL_law 1130 = .ok (.aload_n 0, 1) := by decide +kernel
theorem dL_law_1131 : decode cL_law 1131 = .ok (.iload_n 3, 1) := by decide +kernel
theorem dL_law_1132 : decode cL_law 1132 = .ok (.iconst 1, 1) := by decide +kernel
theorem dL_law_1133 : decode cL_law 1133 = .ok (.iadd, 1) := by decide +kernel
theorem dL_law_1134 : decode cL_law 1134 = .ok (.iaload, 1) := by decide +kernel
theorem dL_law_1135 : decode cL_law 1135 = .ok (.aload_n 0, 1) := by decide +kernel
theorem dL_law_1136 : decode cL_law 1136 = .ok (.iload_n 3, 1) := by decide +kernel
theorem dL_law_1137 : decode cL_law 1137 = .ok (.iconst 2, 1) := by decide +kernel
theorem dL_law_1138 : decode cL_law 1138 = .ok (.iadd, 1) := by decide +kernel
theorem dL_law_1139 : decode cL_law 1139 = .ok (.iaload, 1) := by decide +kernel
theorem dL_law_1140 : decode cL_law 1140 = .ok (.aload_n 0, 1) := by decide +kernel
theorem dL_law_1141 : decode cL_law 1141 = .ok (.iload_n 3, 1) := by decide +kernel
theorem dL_law_1142 : decode cL_law 1142 = .ok (.iconst 3, 1) := by decide +kernel
theorem dL_law_1143 : decode cL_law 1143 = .ok (.iadd, 1) := by decide +kernel
theorem dL_law_1144 : decode cL_law 1144 = .ok (.iaload, 1) := by decide +kernel
theorem dL_law_1145 : decode cL_law 1145 = .ok (.invokevirtual 128, 3) := by decide +kernel
theorem dL_law_1148 : decode cL_law 1148 = .ok (.aload_n 2, 1) := by decide +kernel
theorem dL_law_1149 : decode cL_law 1149 = .ok (.aload_n 0, 1) := by decide +kernel
theorem dL_law_1150 : decode cL_law 1150 = .ok (.iload_n 3, 1) := by decide +kernel
theorem dL_law_1151 : decode cL_law 1151 = .ok (.iconst 1, 1) := by decide +kernel
theorem dL_law_1152 : decode cL_law 1152 = .ok (.iadd, 1) := by decide +kernel
theorem dL_law_1153 : decode cL_law 1153 = .ok (.iaload, 1) := by decide +kernel
theorem dL_law_1154 : decode cL_law 1154 = .ok (.aload_n 0, 1) := by decide +kernel
theorem dL_law_1155 : decode cL_law 1155 = .ok (.iload_n 3, 1) := by decide +kernel
theorem dL_law_1156 : decode cL_law 1156 = .ok (.iconst 2, 1) := by decide +kernel
theorem dL_law_1157 : decode cL_law 1157 = .ok (.iadd, 1) := by decide +kernel
theorem dL_law_1158 : decode cL_law 1158 = .ok (.iaload, 1) := by decide +kernel
theorem dL_law_1159 : decode cL_law 1159 = .ok (.aload_n 0, 1) := by decide +kernel
theorem dL_law_1160 : decode cL_law 1160 = .ok (.iload_n 3, 1) := by decide +kernel
theorem dL_law_1161 : decode cL_law 1161 = .ok (.iconst 3, 1) := by decide +kernel
theorem dL_law_1162 : decode cL_law 1162 = .ok (.iadd, 1) := by decide +kernel
theorem dL_law_1163 : decode cL_law 1163 = .ok (.iaload, 1) := by decide +kernel
theorem dL_law_1164 : decode cL_law 1164 = .ok (.invokevirtual 131, 3) := by decide +kernel
theorem dL_law_1167 : decode cL_law 1167 = .ok (.if_icmp .eq 341, 3) := by decide +kernel
theorem dL_law_1170 : decode cL_law 1170 = .ok (.iconst 0, 1) := by decide +kernel
theorem dL_law_1171 : decode cL_law 1171 = .ok (.ireturn, 1) := by decide +kernel
theorem dL_law_1172 : decode cL_law 1172 = .ok (.aload_n 1, 1) := by decide +kernel
theorem dL_law_1173 : decode cL_law 1173 = .ok (.aload_n 0, 1) := by decide +kernel
theorem dL_law_1174 : decode cL_law 1174 = .ok (.iload_n 3, 1) := by decide +kernel
theorem dL_law_1175 : decode cL_law 1175 = .ok (.iconst 1, 1) := by decide +kernel
theorem dL_law_1176 : decode cL_law 1176 = .ok (.iadd, 1) := by decide +kernel
theorem dL_law_1177 : decode cL_law 1177 = .ok (.iaload, 1) := by decide +kernel
theorem dL_law_1178 : decode cL_law 1178 = .ok (.invokevirtual 132, 3) := by decide +kernel
theorem dL_law_1181 : decode cL_law 1181 = .ok (.aload_n 2, 1) := by decide +kernel
theorem dL_law_1182 : decode cL_law 1182 = .ok (.aload_n 0, 1) := by decide +kernel
theorem dL_law_1183 : decode cL_law 1183 = .ok (.iload_n 3, 1) := by decide +kernel
theorem dL_law_1184 : decode cL_law 1184 = .ok (.iconst 1, 1) := by decide +kernel
theorem dL_law_1185 : decode cL_law 1185 = .ok (.iadd, 1) := by decide +kernel
theorem dL_law_1186 : decode cL_law 1186 = .ok (.iaload, 1) := by decide +kernel
theorem dL_law_1187 : decode cL_law 1187 = .ok (.invokevirtual 135, 3) := by decide +kernel
theorem dL_law_1190 : decode cL_law 1190 = .ok (.if_icmp .eq 318, 3) := by decide +kernel
theorem dL_law_1193 : decode cL_law 1193 = .ok (.iconst 0, 1) := by decide +kernel
theorem dL_law_1194 : decode cL_law 1194 = .ok (.ireturn, 1) := by decide +kernel
theorem dL_law_1195 : decode cL_law 1195 = .ok (.aload_n 1, 1) := by decide +kernel
theorem dL_law_1196 : decode cL_law 1196 = .ok (.aload_n 0, 1) := by decide +kernel
theorem dL_law_1197 : decode cL_law 1197 = .ok (.iload_n 3, 1) := by decide +kernel
theorem dL_law_1198 : decode cL_law 1198 = .ok (.iconst 1, 1) := by decide +kernel
theorem dL_law_1199 : decode cL_law 1199 = .ok (.iadd, 1) := by decide +kernel
theorem dL_law_1200 : decode cL_law 1200 = .ok (.iaload, 1) := by decide +kernel
theorem dL_law_1201 : decode cL_law 1201 = .ok (.aload_n 0, 1) := by decide +kernel
theorem dL_law_1202 : decode cL_law 1202 = .ok (.iload_n 3, 1) := by decide +kernel
theorem dL_law_1203 : decode cL_law 1203 = .ok (.iconst 2, 1) := by decide +kernel
theorem dL_law_1204 : decode cL_law 1204 = .ok (.iadd, 1) := by decide +kernel
theorem dL_law_1205 : decode cL_law 1205 = .ok (.iaload, 1) := by decide +kernel
theorem dL_law_1206 : decode cL_law 1206 = .ok (.aload_n 0, 1) := by decide +kernel
theorem dL_law_1207 : decode cL_law 1207 = .ok (.iload_n 3, 1) := by decide +kernel
theorem dL_law_1208 : decode cL_law 1208 = .ok (.iconst 3, 1) := by decide +kernel
theorem dL_law_1209 : decode cL_law 1209 = .ok (.iadd, 1) := by decide +kernel
theorem dL_law_1210 : decode cL_law 1210 = .ok (.iaload, 1) := by decide +kernel
theorem dL_law_1211 : decode cL_law 1211 = .ok (.invokevirtual 136, 3) := by decide +kernel
theorem dL_law_1214 : decode cL_law 1214 = .ok (.aload_n 2, 1) := by decide +kernel
theorem dL_law_1215 : decode cL_law 1215 = .ok (.aload_n 0, 1) := by decide +kernel
theorem dL_law_1216 : decode cL_law 1216 = .ok (.iload_n 3, 1) := by decide +kernel
theorem dL_law_1217 : decode cL_law 1217 = .ok (.iconst 1, 1) := by decide +kernel
theorem dL_law_1218 : decode cL_law 1218 = .ok (.iadd, 1) := by decide +kernel
theorem dL_law_1219 : decode cL_law 1219 = .ok (.iaload, 1) := by decide +kernel
theorem dL_law_1220 : decode cL_law 1220 = .ok (.aload_n 0, 1) := by decide +kernel
theorem dL_law_1221 : decode cL_law 1221 = .ok (.iload_n 3, 1) := by decide +kernel
theorem dL_law_1222 : decode cL_law 1222 = .ok (.iconst 2, 1) := by decide +kernel
theorem dL_law_1223 : decode cL_law 1223 = .ok (.iadd, 1) := by decide +kernel
theorem dL_law_1224 : decode cL_law 1224 = .ok (.iaload, 1) := by decide +kernel
theorem dL_law_1225 : decode cL_law 1225 = .ok (.aload_n 0, 1) := by decide +kernel
theorem dL_law_1226 : decode cL_law 1226 = .ok (.iload_n 3, 1) := by decide +kernel
theorem dL_law_1227 : decode cL_law 1227 = .ok (.iconst 3, 1) := by decide +kernel
theorem dL_law_1228 : decode cL_law 1228 = .ok (.iadd, 1) := by decide +kernel
theorem dL_law_1229 : decode cL_law 1229 = .ok (.iaload, 1) := by decide +kernel
theorem dL_law_1230 : decode cL_law 1230 = .ok (.invokevirtual 139, 3) := by decide +kernel
theorem dL_law_1233 : decode cL_law 1233 = .ok (.if_icmp .eq 275, 3) := by decide +kernel
theorem dL_law_1236 : decode cL_law 1236 = .ok (.iconst 0, 1) := by decide +kernel
theorem dL_law_1237 : decode cL_law 1237 = .ok (.ireturn, 1) := by decide +kernel
theorem dL_law_1238 : decode cL_law 1238 = .ok (.aload_n 1, 1) := by decide +kernel
theorem dL_law_1239 : decode cL_law 1239 = .ok (.aload_n 0, 1) := by decide +kernel
theorem dL_law_1240 : decode cL_law 1240 = .ok (.iload_n 3, 1) := by decide +kernel
theorem dL_law_1241 : decode cL_law 1241 = .ok (.iconst 1, 1) := by decide +kernel
theorem dL_law_1242 : decode cL_law 1242 = .ok (.iadd, 1) := by decide +kernel
theorem dL_law_1243 : decode cL_law 1243 = .ok (.iaload, 1) := by decide +kernel
theorem dL_law_1244 : decode cL_law 1244 = .ok (.aload_n 0, 1) := by decide +kernel
theorem dL_law_1245 : decode cL_law 1245 = .ok (.iload_n 3, 1) := by decide +kernel
theorem dL_law_1246 : decode cL_law 1246 = .ok (.iconst 2, 1) := by decide +kernel
theorem dL_law_1247 : decode cL_law 1247 = .ok (.iadd, 1) := by decide +kernel
theorem dL_law_1248 : decode cL_law 1248 = .ok (.iaload, 1) := by decide +kernel
theorem dL_law_1249 : decode cL_law 1249 = .ok (.aload_n 0, 1) := by decide +kernel
theorem dL_law_1250 : decode cL_law 1250 = .ok (.iload_n 3, 1) := by decide +kernel
theorem dL_law_1251 : decode cL_law 1251 = .ok (.iconst 3, 1) := by decide +kernel
theorem dL_law_1252 : decode cL_law 1252 = .ok (.iadd, 1) := by decide +kernel
theorem dL_law_1253 : decode cL_law 1253 = .ok (.iaload, 1) := by decide +kernel
theorem dL_law_1254 : decode cL_law 1254 = .ok (.invokevirtual 140, 3) := by decide +kernel
theorem dL_law_1257 : decode cL_law 1257 = .ok (.aload_n 2, 1) := by decide +kernel
theorem dL_law_1258 : decode cL_law 1258 = .ok (.aload_n 0, 1) := by decide +kernel
theorem dL_law_1259 : decode cL_law 1259 = .ok (.iload_n 3, 1) := by decide +kernel
theorem dL_law_1260 : decode cL_law 1260 = .ok (.iconst 1, 1) := by decide +kernel
theorem dL_law_1261 : decode cL_law 1261 = .ok (.iadd, 1) := by decide +kernel
theorem dL_law_1262 : decode cL_law 1262 = .ok (.iaload, 1) := by decide +kernel
theorem dL_law_1263 : decode cL_law 1263 = .ok (.aload_n 0, 1) := by decide +kernel
theorem dL_law_1264 : decode cL_law 1264 = .ok (.iload_n 3, 1) := by decide +kernel
theorem dL_law_1265 : decode cL_law 1265 = .ok (.iconst 2, 1) := by decide +kernel
theorem dL_law_1266 : decode cL_law 1266 = .ok (.iadd, 1) := by decide +kernel
theorem dL_law_1267 : decode cL_law 1267 = .ok (.iaload, 1) := by decide +kernel
theorem dL_law_1268 : decode cL_law 1268 = .ok (.aload_n 0, 1) := by decide +kernel
theorem dL_law_1269 : decode cL_law 1269 = .ok (.iload_n 3, 1) := by decide +kernel
theorem dL_law_1270 : decode cL_law 1270 = .ok (.iconst 3, 1) := by decide +kernel
theorem dL_law_1271 : decode cL_law 1271 = .ok (.iadd, 1) := by decide +kernel
theorem dL_law_1272 : decode cL_law 1272 = .ok (.iaload, 1) := by decide +kernel
theorem dL_law_1273 : decode cL_law 1273 = .ok (.invokevirtual 143, 3) := by decide +kernel
theorem dL_law_1276 : decode cL_law 1276 = .ok (.if_icmp .eq 232, 3) := by decide +kernel
theorem dL_law_1279 : decode cL_law 1279 = .ok (.iconst 0, 1) := by decide +kernel
theorem dL_law_1280 : decode cL_law 1280 = .ok (.ireturn, 1) := by decide +kernel
theorem dL_law_1281 : decode cL_law 1281 = .ok (.aload_n 1, 1) := by decide +kernel
theorem dL_law_1282 : decode cL_law 1282 = .ok (.aload_n 0, 1) := by decide +kernel
theorem dL_law_1283 : decode cL_law 1283 = .ok (.iload_n 3, 1) := by decide +kernel
theorem dL_law_1284 : decode cL_law 1284 = .ok (.iconst 1, 1) := by decide +kernel
theorem dL_law_1285 : decode cL_law 1285 = .ok (.iadd, 1) := by decide +kernel
theorem dL_law_1286 : decode cL_law 1286 = .ok (.iaload, 1) := by decide +kernel
theorem dL_law_1287 : decode cL_law 1287 = .ok (.aload_n 0, 1) := by decide +kernel
theorem dL_law_1288 : decode cL_law 1288 = .ok (.iload_n 3, 1) := by decide +kernel
theorem dL_law_1289 : decode cL_law 1289 = .ok (.iconst 2, 1) := by decide +kernel
theorem dL_law_1290 : decode cL_law 1290 = .ok (.iadd, 1) := by decide +kernel
theorem dL_law_1291 : decode cL_law 1291 = .ok (.iaload, 1) := by decide +kernel
theorem dL_law_1292 : decode cL_law 1292 = .ok (.aload_n 0, 1) := by decide +kernel
theorem dL_law_1293 : decode cL_law 1293 = .ok (.iload_n 3, 1) := by decide +kernel
theorem dL_law_1294 : decode cL_law 1294 = .ok (.iconst 3, 1) := by decide +kernel
theorem dL_law_1295 : decode cL_law 1295 = .ok (.iadd, 1) := by decide +kernel
theorem dL_law_1296 : decode cL_law 1296 = .ok (.iaload, 1) := by decide +kernel
theorem dL_law_1297 : decode cL_law 1297 = .ok (.aload_n 0, 1) := by decide +kernel
theorem dL_law_1298 : decode cL_law 1298 = .ok (.iload_n 3, 1) := by decide +kernel
theorem dL_law_1299 : decode cL_law 1299 = .ok (.iconst 4, 1) := by decide +kernel
theorem dL_law_1300 : decode cL_law 1300 = .ok (.iadd, 1) := by decide +kernel
theorem dL_law_1301 : decode cL_law 1301 = .ok (.iaload, 1) := by decide +kernel
theorem dL_law_1302 : decode cL_law 1302 = .ok (.aload_n 0, 1) := by decide +kernel
theorem dL_law_1303 : decode cL_law 1303 = .ok (.iload_n 3, 1) := by decide +kernel
theorem dL_law_1304 : decode cL_law 1304 = .ok (.iconst 5, 1) := by decide +kernel
theorem dL_law_1305 : decode cL_law 1305 = .ok (.iadd, 1) := by decide +kernel
theorem dL_law_1306 : decode cL_law 1306 = .ok (.iaload, 1) := by decide +kernel
theorem dL_law_1307 : decode cL_law 1307 = .ok (.invokevirtual 144, 3) := by decide +kernel
theorem dL_law_1310 : decode cL_law 1310 = .ok (.aload_n 2, 1) := by decide +kernel
theorem dL_law_1311 : decode cL_law 1311 = .ok (.aload_n 0, 1) := by decide +kernel
theorem dL_law_1312 : decode cL_law 1312 = .ok (.iload_n 3, 1) := by decide +kernel
theorem dL_law_1313 : decode cL_law 1313 = .ok (.iconst 1, 1) := by decide +kernel
theorem dL_law_1314 : decode cL_law 1314 = .ok (.iadd, 1) := by decide +kernel
theorem dL_law_1315 : decode cL_law 1315 = .ok (.iaload, 1) := by decide +kernel
theorem dL_law_1316 : decode cL_law 1316 = .ok (.aload_n 0, 1) := by decide +kernel
theorem dL_law_1317 : decode cL_law 1317 = .ok (.iload_n 3, 1) := by decide +kernel
theorem dL_law_1318 : decode cL_law 1318 = .ok (.iconst 2, 1) := by decide +kernel
theorem dL_law_1319 : decode cL_law 1319 = .ok (.iadd, 1) := by decide +kernel
theorem dL_law_1320 : decode cL_law 1320 = .ok (.iaload, 1) := by decide +kernel
theorem dL_law_1321 : decode cL_law 1321 = .ok (.aload_n 0, 1) := by decide +kernel
theorem dL_law_1322 : decode cL_law 1322 = .ok (.iload_n 3, 1) := by decide +kernel
theorem dL_law_1323 : decode cL_law 1323 = .ok (.iconst 3, 1) := by decide +kernel
theorem dL_law_1324 : decode cL_law 1324 = .ok (.iadd, 1) := by decide +kernel
theorem dL_law_1325 : decode cL_law 1325 = .ok (.iaload, 1) := by decide +kernel
theorem dL_law_1326 : decode cL_law 1326 = .ok (.aload_n 0, 1) := by decide +kernel
theorem dL_law_1327 : decode cL_law 1327 = .ok (.iload_n 3, 1) := by decide +kernel
theorem dL_law_1328 : decode cL_law 1328 = .ok (.iconst 4, 1) := by decide +kernel
theorem dL_law_1329 : decode cL_law 1329 = .ok (.iadd, 1) := by decide +kernel
theorem dL_law_1330 : decode cL_law 1330 = .ok (.iaload, 1) := by decide +kernel
theorem dL_law_1331 : decode cL_law 1331 = .ok (.aload_n 0, 1) := by decide +kernel
theorem dL_law_1332 : decode cL_law 1332 = .ok (.iload_n 3, 1) := by decide +kernel
theorem dL_law_1333 : decode cL_law 1333 = .ok (.iconst 5, 1) := by decide +kernel
theorem dL_law_1334 : decode cL_law 1334 = .ok (.iadd, 1) := by decide +kernel
theorem dL_law_1335 : decode cL_law 1335 = .ok (.iaload, 1) := by decide +kernel
theorem dL_law_1336 : decode cL_law 1336 = .ok (.invokevirtual 148, 3) := by decide +kernel
theorem dL_law_1339 : decode cL_law 1339 = .ok (.if_icmp .eq 169, 3) := by decide +kernel
theorem dL_law_1342 : decode cL_law 1342 = .ok (.iconst 0, 1) := by decide +kernel
theorem dL_law_1343 : decode cL_law 1343 = .ok (.ireturn, 1) := by decide +kernel
theorem dL_law_1344 : decode cL_law 1344 = .ok (.aload_n 1, 1) := by decide +kernel
theorem dL_law_1345 : decode cL_law 1345 = .ok (.aload_n 0, 1) := by decide +kernel
theorem dL_law_1346 : decode cL_law 1346 = .ok (.iload_n 3, 1) := by decide +kernel
theorem dL_law_1347 : decode cL_law 1347 = .ok (.iconst 1, 1) := by decide +kernel
theorem dL_law_1348 : decode cL_law 1348 = .ok (.iadd, 1) := by decide +kernel
theorem dL_law_1349 : decode cL_law 1349 = .ok (.iaload, 1) := by decide +kernel
theorem dL_law_1350 : decode cL_law 1350 = .ok (.aload_n 0, 1) := by decide +kernel
theorem dL_law_1351 : decode cL_law 1351 = .ok (.iload_n 3, 1) := by decide +kernel
theorem dL_law_1352 : decode cL_law 1352 = .ok (.iconst 2, 1) := by decide +kernel
theorem dL_law_1353 : decode cL_law 1353 = .ok (.iadd, 1) := by decide +kernel
theorem dL_law_1354 : decode cL_law 1354 = .ok (.iaload, 1) := by decide +kernel
theorem dL_law_1355 : decode cL_law 1355 = .ok (.invokevirtual 149, 3) := by decide +kernel
theorem dL_law_1358 : decode cL_law 1358 = .ok (.aload_n 2, 1) := by decide +kernel
theorem dL_law_1359 : decode cL_law 1359 = .ok (.aload_n 0, 1) := by decide +kernel
theorem dL_law_1360 : decode cL_law 1360 = .ok (.iload_n 3, 1) := by decide +kernel
theorem dL_law_1361 : decode cL_law 1361 = .ok (.iconst 1, 1) := by decide +kernel
theorem dL_law_1362 : decode cL_law 1362 = .ok (.iadd, 1) := by decide +kernel
theorem dL_law_1363 : decode cL_law 1363 = .ok (.iaload, 1) := by decide +kernel
theorem dL_law_1364 : decode cL_law 1364 = .ok (.aload_n 0, 1) := by decide +kernel
theorem dL_law_1365 : decode cL_law 1365 = .ok (.iload_n 3, 1) := by decide +kernel
theorem dL_law_1366 : decode cL_law 1366 = .ok (.iconst 2, 1) := by decide +kernel
theorem dL_law_1367 : decode cL_law 1367 = .ok (.iadd, 1) := by decide +kernel
theorem dL_law_1368 : decode cL_law 1368 = .ok (.iaload, 1) := by decide +kernel
theorem dL_law_1369 : decode cL_law 1369 = .ok (.invokevirtual 152, 3) := by decide +kernel
theorem dL_law_1372 : decode cL_law 1372 = .ok (.if_icmp .eq 136, 3) := by decide +kernel
theorem dL_law_1375 : decode cL_law 1375 = .ok (.iconst 0, 1) := by decide +kernel
theorem dL_law_1376 : decode cL_law 1376 = .ok (.ireturn, 1) := by decide +kernel
theorem dL_law_1377 : decode cL_law 1377 = .ok (.aload_n 1, 1) := by decide +kernel
theorem dL_law_1378 : decode cL_law 1378 = .ok (.aload_n 0, 1) := by decide +kernel
theorem dL_law_1379 : decode cL_law 1379 = .ok (.iload_n 3, 1) := by decide +kernel
theorem dL_law_1380 : decode cL_law 1380 = .ok (.iconst 1, 1) := by decide +kernel
theorem dL_law_1381 : decode cL_law 1381 = .ok (.iadd, 1) := by decide +kernel
theorem dL_law_1382 : decode cL_law 1382 = .ok (.iaload, 1) := by decide +kernel
theorem dL_law_1383 : decode cL_law 1383 = .ok (.invokevirtual 153, 3) := by decide +kernel
theorem dL_law_1386 : decode cL_law 1386 = .ok (.aload_n 2, 1) := by decide +kernel
theorem dL_law_1387 : decode cL_law 1387 = .ok (.aload_n 0, 1) := by decide +kernel
theorem dL_law_1388 : decode cL_law 1388 = .ok (.iload_n 3, 1) := by decide +kernel
theorem dL_law_1389 : decode cL_law 1389 = .ok (.iconst 1, 1) := by decide +kernel
theorem dL_law_1390 : decode cL_law 1390 = .ok (.iadd, 1) := by decide +kernel
theorem dL_law_1391 : decode cL_law 1391 = .ok (.iaload, 1) := by decide +kernel
theorem dL_law_1392 : decode cL_law 1392 = .ok (.invokevirtual 156, 3) := by decide +kernel
theorem dL_law_1395 : decode cL_law 1395 = .ok (.if_icmp .eq 113, 3) := by decide +kernel
theorem dL_law_1398 : decode cL_law 1398 = .ok (.iconst 0, 1) := by decide +kernel
theorem dL_law_1399 : decode cL_law 1399 = .ok (.ireturn, 1) := by decide +kernel
theorem dL_law_1400 : decode cL_law 1400 = .ok (.aload_n 1, 1) := by decide +kernel
theorem dL_law_1401 : decode cL_law 1401 = .ok (.invokevirtual 157, 3) := by decide +kernel
theorem dL_law_1404 : decode cL_law 1404 = .ok (.aload_n 2, 1) := by decide +kernel
theorem dL_law_1405 : decode cL_law 1405 = .ok (.invokevirtual 161, 3) := by decide +kernel
theorem dL_law_1408 : decode cL_law 1408 = .ok (.if_icmp .eq 100, 3) := by decide +kernel
theorem dL_law_1411 : decode cL_law 1411 = .ok (.iconst 0, 1) := by decide +kernel
theorem dL_law_1412 : decode cL_law 1412 = .ok (.ireturn, 1) := by decide +kernel
theorem dL_law_1413 : decode cL_law 1413 = .ok (.aload_n 1, 1) := by decide +kernel
theorem dL_law_1414 : decode cL_law 1414 = .ok (.invokevirtual 162, 3) := by decide +kernel
theorem dL_law_1417 : decode cL_law 1417 = .ok (.aload_n 2, 1) := by decide +kernel
theorem dL_law_1418 : decode cL_law 1418 = .ok (.invokevirtual 165, 3) := by decide +kernel
theorem dL_law_1421 : decode cL_law 1421 = .ok (.if_icmp .eq 87, 3) := by decide +kernel
theorem dL_law_1424 : decode cL_law 1424 = .ok (.iconst 0, 1) := by decide +kernel
theorem dL_law_1425 : decode cL_law 1425 = .ok (.ireturn, 1) := by decide +kernel
theorem dL_law_1426 : decode cL_law 1426 = .ok (.aload_n 1, 1) := by decide +kernel
theorem dL_law_1427 : decode cL_law 1427 = .ok (.aload_n 0, 1) := by decide +kernel
theorem dL_law_1428 : decode cL_law 1428 = .ok (.iload_n 3, 1) := by decide +kernel
theorem dL_law_1429 : decode cL_law 1429 = .ok (.iconst 1, 1) := by decide +kernel
theorem dL_law_1430 : decode cL_law 1430 = .ok (.iadd, 1) := by decide +kernel
theorem dL_law_1431 : decode cL_law 1431 = .ok (.iaload, 1) := by decide +kernel
theorem dL_law_1432 : decode cL_law 1432 = .ok (.invokevirtual 166, 3) := by decide +kernel
theorem dL_law_1435 : decode cL_law 1435 = .ok (.aload_n 2, 1) := by decide +kernel
theorem dL_law_1436 : decode cL_law 1436 = .ok (.aload_n 0, 1) := by decide +kernel
theorem dL_law_1437 : decode cL_law 1437 = .ok (.iload_n 3, 1) := by decide +kernel
theorem dL_law_1438 : decode cL_law 1438 = .ok (.iconst 1, 1) := by decide +kernel
theorem dL_law_1439 : decode cL_law 1439 = .ok (.iadd, 1) := by decide +kernel
theorem dL_law_1440 : decode cL_law 1440 = .ok (.iaload, 1) := by decide +kernel
theorem dL_law_1441 : decode cL_law 1441 = .ok (.invokevirtual 169, 3) := by decide +kernel
theorem dL_law_1444 : decode cL_law 1444 = .ok (.if_icmp .eq 64, 3) := by decide +kernel
theorem dL_law_1447 : decode cL_law 1447 = .ok (.iconst 0, 1) := by decide +kernel
theorem dL_law_1448 : decode cL_law 1448 = .ok (.ireturn, 1) := by decide +kernel
theorem dL_law_1449 : decode cL_law 1449 = .ok (.aload_n 1, 1) := by decide +kernel
theorem dL_law_1450 : decode cL_law 1450 = .ok (.invokevirtual 170, 3) := by decide +kernel
theorem dL_law_1453 : decode cL_law 1453 = .ok (.aload_n 2, 1) := by decide +kernel
theorem dL_law_1454 : decode cL_law 1454 = .ok (.invokevirtual 173, 3) := by decide +kernel
theorem dL_law_1457 : decode cL_law 1457 = .ok (.if_icmp .eq 51, 3) := by decide +kernel
theorem dL_law_1460 : decode cL_law 1460 = .ok (.iconst 0, 1) := by decide +kernel
theorem dL_law_1461 : decode cL_law 1461 = .ok (.ireturn, 1) := by decide +kernel
theorem dL_law_1462 : decode cL_law 1462 = .ok (.aload_n 1, 1) := by decide +kernel
theorem dL_law_1463 : decode cL_law 1463 = .ok (.aload_n 0, 1) := by decide +kernel
theorem dL_law_1464 : decode cL_law 1464 = .ok (.iload_n 3, 1) := by decide +kernel
theorem dL_law_1465 : decode cL_law 1465 = .ok (.iconst 1, 1) := by decide +kernel
theorem dL_law_1466 : decode cL_law 1466 = .ok (.iadd, 1) := by decide +kernel
theorem dL_law_1467 : decode cL_law 1467 = .ok (.iaload, 1) := by decide +kernel
theorem dL_law_1468 : decode cL_law 1468 = .ok (.invokevirtual 174, 3) := by decide +kernel
theorem dL_law_1471 : decode cL_law 1471 = .ok (.aload_n 2, 1) := by decide +kernel
theorem dL_law_1472 : decode cL_law 1472 = .ok (.aload_n 0, 1) := by decide +kernel
theorem dL_law_1473 : decode cL_law 1473 = .ok (.iload_n 3, 1) := by decide +kernel
theorem dL_law_1474 : decode cL_law 1474 = .ok (.iconst 1, 1) := by decide +kernel
theorem dL_law_1475 : decode cL_law 1475 = .ok (.iadd, 1) := by decide +kernel
theorem dL_law_1476 : decode cL_law 1476 = .ok (.iaload, 1) := by decide +kernel
theorem dL_law_1477 : decode cL_law 1477 = .ok (.invokevirtual 177, 3) := by decide +kernel
theorem dL_law_1480 : decode cL_law 1480 = .ok (.if_icmp .eq 28, 3) := by decide +kernel
theorem dL_law_1483 : decode cL_law 1483 = .ok (.iconst 0, 1) := by decide +kernel
theorem dL_law_1484 : decode cL_law 1484 = .ok (.ireturn, 1) := by decide +kernel
theorem dL_law_1485 : decode cL_law 1485 = .ok (.aload_n 1, 1) := by decide +kernel
theorem dL_law_1486 : decode cL_law 1486 = .ok (.aload_n 0, 1) := by decide +kernel
theorem dL_law_1487 : decode cL_law 1487 = .ok (.iload_n 3, 1) := by decide +kernel
theorem dL_law_1488 : decode cL_law 1488 = .ok (.iconst 1, 1) := by decide +kernel
theorem dL_law_1489 : decode cL_law 1489 = .ok (.iadd, 1) := by decide +kernel
theorem dL_law_1490 : decode cL_law 1490 = .ok (.iaload, 1) := by decide +kernel
theorem dL_law_1491 : decode cL_law 1491 = .ok (.invokevirtual 178, 3) := by decide +kernel
theorem dL_law_1494 : decode cL_law 1494 = .ok (.aload_n 2, 1) := by decide +kernel
theorem dL_law_1495 : decode cL_law 1495 = .ok (.aload_n 0, 1) := by decide +kernel
theorem dL_law_1496 : decode cL_law 1496 = .ok (.iload_n 3, 1) := by decide +kernel
theorem dL_law_1497 : decode cL_law 1497 = .ok (.iconst 1, 1) := by decide +kernel
theorem dL_law_1498 : decode cL_law 1498 = .ok (.iadd, 1) := by decide +kernel
theorem dL_law_1499 : decode cL_law 1499 = .ok (.iaload, 1) := by decide +kernel
theorem dL_law_1500 : decode cL_law 1500 = .ok (.invokevirtual 181, 3) := by decide +kernel
theorem dL_law_1503 : decode cL_law 1503 = .ok (.if_icmp .eq 5, 3) := by decide +kernel
theorem dL_law_1506 : decode cL_law 1506 = .ok (.iconst 0, 1) := by decide +kernel
theorem dL_law_1507 : decode cL_law 1507 = .ok (.ireturn, 1) := by decide +kernel
theorem dL_law_1508 : decode cL_law 1508 = .ok (.iinc 3 6, 3) := by decide +kernel
theorem dL_law_1511 : decode cL_law 1511 = .ok (.goto (-1493), 3) := by decide +kernel
theorem dL_law_1514 : decode cL_law 1514 = .ok (.iconst 1, 1) := by decide +kernel
theorem dL_law_1515 : decode cL_law 1515 = .ok (.ireturn, 1) := by decide +kernel
end
section
theorem wd_0 : Cond.classLink RL 7 RX6 ∈ GW := wdg (i := 77) (by decide +kernel) rfl
theorem wd_1 : Cond.instantiable RX6 8 ∈ GW := wdg (i := 78) (by decide +kernel) rfl
theorem wd_2 : Cond.initialized RX6 ∈ GW := wdg (i := 67) (by decide +kernel) rfl
theorem wd_3 : Cond.classLink RL 10 RX7 ∈ GW := wdg (i := 765) (by decide +kernel) rfl
theorem wd_4 : Cond.instantiable RX7 22 ∈ GW := wdg (i := 766) (by decide +kernel) rfl
theorem wd_5 : Cond.initialized RX7 ∈ GW := wdg (i := 74) (by decide +kernel) rfl
theorem wd_6 : Cond.constantLong RL 61 (4294967295) ∈ GW := wdg (i := 1236) (by decide +kernel) rfl
theorem wd_7 : Cond.methodLink RL 9 yX6_init ∈ GW := wdg (i := 79) (by decide +kernel) rfl
theorem wd_8 : Cond.instanceMethod yX6_init ∈ GW := wdg (i := 80) (by decide +kernel) rfl
theorem wd_9 : Cond.code yX6_init cX6_init 2 none ∈ GW := wdg (i := 81) (by decide +kernel) rfl
theorem wd_10 : Cond.methodLink RX6 3 objectInit ∈ GW := wdg (i := 82) (by decide +kernel) rfl
theorem wd_11 : Cond.instanceMethod objectInit ∈ GW := wdg (i := 83) (by decide +kernel) rfl
theorem wd_12 : Cond.code objectInit ⟨#[0xb1]⟩ 1 none ∈ GW := wdg (i := 84) (by decide +kernel) rfl
theorem wd_13 : Cond.classLink RX6 9 RX5 ∈ GW := wdg (i := 85) (by decide +kernel) rfl
theorem wd_14 : Cond.instantiable RX5 15 ∈ GW := wdg (i := 86) (by decide +kernel) rfl
theorem wd_15 : Cond.initialized RX5 ∈ GW := wdg (i := 68) (by decide +kernel) rfl
theorem wd_16 : Cond.fieldLink RX6 12 "DirtPress" "world" "LDirtPress$World;" ∈ GW := wdg (i := 266) (by decide +kernel) rfl
theorem wd_17 : Cond.fieldLink RX6 16 "DirtPress" "kept" "LDirtPress$World;" ∈ GW := wdg (i := 267) (by decide +kernel) rfl
theorem wd_18 : Cond.arrayClass .int ∈ GW := wdg (i := 107) (by decide +kernel) rfl
theorem wd_19 : Cond.fieldLink RX6 19 "DirtPress" "errors" "[I" ∈ GW := wdg (i := 269) (by decide +kernel) rfl
theorem wd_20 : Cond.classLink RX6 23 RX1 ∈ GW := wdg (i := 172) (by decide +kernel) rfl
theorem wd_21 : Cond.fieldLink RX6 25 "DirtPress" "sheets" "[LDirtPress$Sheet;" ∈ GW := wdg (i := 270) (by decide +kernel) rfl
theorem wd_22 : Cond.instantiable RX1 3 ∈ GW := wdg (i := 174) (by decide +kernel) rfl
theorem wd_23 : Cond.initialized RX1 ∈ GW := wdg (i := 70) (by decide +kernel) rfl
theorem wd_24 : Cond.classLink RX6 30 RX0 ∈ GW := wdg (i := 194) (by decide +kernel) rfl
theorem wd_25 : Cond.instantiable RX0 6 ∈ GW := wdg (i := 195) (by decide +kernel) rfl
theorem wd_26 : Cond.initialized RX0 ∈ GW := wdg (i := 71) (by decide +kernel) rfl
theorem wd_27 : Cond.fieldLink RX6 33 "DirtPress" "reader" "LDirtPress$Reader;" ∈ GW := wdg (i := 271) (by decide +kernel) rfl
theorem wd_28 : Cond.classLink RX6 37 RX4 ∈ GW := wdg (i := 222) (by decide +kernel) rfl
theorem wd_29 : Cond.instantiable RX4 3 ∈ GW := wdg (i := 223) (by decide +kernel) rfl
theorem wd_30 : Cond.initialized RX4 ∈ GW := wdg (i := 72) (by decide +kernel) rfl
theorem wd_31 : Cond.fieldLink RX6 40 "DirtPress" "thought" "LDirtPress$Thought;" ∈ GW := wdg (i := 272) (by decide +kernel) rfl
theorem wd_32 : Cond.classLink RX6 44 RX2 ∈ GW := wdg (i := 238) (by decide +kernel) rfl
theorem wd_33 : Cond.instantiable RX2 6 ∈ GW := wdg (i := 239) (by decide +kernel) rfl
theorem wd_34 : Cond.initialized RX2 ∈ GW := wdg (i := 73) (by decide +kernel) rfl
theorem wd_35 : Cond.fieldLink RX6 47 "DirtPress" "latest" "LDirtPress$Speech;" ∈ GW := wdg (i := 273) (by decide +kernel) rfl
theorem wd_36 : Cond.instanceMethod yX5_init ∈ GW := wdg (i := 88) (by decide +kernel) rfl
theorem wd_37 : Cond.code yX5_init cX5_init 1 none ∈ GW := wdg (i := 89) (by decide +kernel) rfl
theorem wd_38 : Cond.methodLink RX5 3 objectInit ∈ GW := wdg (i := 90) (by decide +kernel) rfl
theorem wd_39 : Cond.fieldLink RX5 9 "DirtPress$World" "km" "[I" ∈ GW := wdg (i := 111) (by decide +kernel) rfl
theorem wd_40 : Cond.fieldLink RX5 15 "DirtPress$World" "father" "[I" ∈ GW := wdg (i := 113) (by decide +kernel) rfl
theorem wd_41 : Cond.fieldLink RX5 18 "DirtPress$World" "mother" "[I" ∈ GW := wdg (i := 115) (by decide +kernel) rfl
theorem wd_42 : Cond.fieldLink RX5 21 "DirtPress$World" "from" "[I" ∈ GW := wdg (i := 117) (by decide +kernel) rfl
theorem wd_43 : Cond.fieldLink RX5 24 "DirtPress$World" "spoons" "[I" ∈ GW := wdg (i := 119) (by decide +kernel) rfl
theorem wd_44 : Cond.fieldLink RX5 27 "DirtPress$World" "owed" "[I" ∈ GW := wdg (i := 122) (by decide +kernel) rfl
theorem wd_45 : Cond.fieldLink RX5 30 "DirtPress$World" "z" "I" ∈ GW := wdg (i := 127) (by decide +kernel) rfl
theorem wd_46 : Cond.fieldLink RX5 34 "DirtPress$World" "tape" "[I" ∈ GW := wdg (i := 129) (by decide +kernel) rfl
theorem wd_47 : Cond.classLink RX5 37 RX3 ∈ GW := wdg (i := 91) (by decide +kernel) rfl
theorem wd_48 : Cond.instantiable RX3 3 ∈ GW := wdg (i := 92) (by decide +kernel) rfl
theorem wd_49 : Cond.initialized RX3 ∈ GW := wdg (i := 69) (by decide +kernel) rfl
theorem wd_50 : Cond.fieldLink RX5 40 "DirtPress$World" "gainText" "LDirtPress$Text;" ∈ GW := wdg (i := 135) (by decide +kernel) rfl
theorem wd_51 : Cond.fieldLink RX5 44 "DirtPress$World" "worthText" "LDirtPress$Text;" ∈ GW := wdg (i := 136) (by decide +kernel) rfl
theorem wd_52 : Cond.fieldLink RX5 47 "DirtPress$World" "waiting" "[I" ∈ GW := wdg (i := 137) (by decide +kernel) rfl
theorem wd_53 : Cond.instanceMethod yX3_init ∈ GW := wdg (i := 94) (by decide +kernel) rfl
theorem wd_54 : Cond.code yX3_init cX3_init 1 none ∈ GW := wdg (i := 95) (by decide +kernel) rfl
theorem wd_55 : Cond.methodLink RX3 3 objectInit ∈ GW := wdg (i := 96) (by decide +kernel) rfl
theorem wd_56 : Cond.fieldLink RX3 9 "DirtPress$Text" "parts" "[I" ∈ GW := wdg (i := 97) (by decide +kernel) rfl
theorem wd_57 : Cond.fieldLink RX3 15 "DirtPress$Text" "stack" "[I" ∈ GW := wdg (i := 98) (by decide +kernel) rfl
theorem wd_58 : Cond.instanceMethod yX1_init ∈ GW := wdg (i := 176) (by decide +kernel) rfl
theorem wd_59 : Cond.code yX1_init cX1_init 1 none ∈ GW := wdg (i := 177) (by decide +kernel) rfl
theorem wd_60 : Cond.methodLink RX1 3 objectInit ∈ GW := wdg (i := 178) (by decide +kernel) rfl
theorem wd_61 : Cond.fieldLink RX1 9 "DirtPress$Sheet" "numbers" "[I" ∈ GW := wdg (i := 179) (by decide +kernel) rfl
theorem wd_62 : Cond.instanceMethod yX0_init ∈ GW := wdg (i := 197) (by decide +kernel) rfl
theorem wd_63 : Cond.code yX0_init cX0_init 1 none ∈ GW := wdg (i := 198) (by decide +kernel) rfl
theorem wd_64 : Cond.methodLink RX0 3 objectInit ∈ GW := wdg (i := 199) (by decide +kernel) rfl
theorem wd_65 : Cond.classLink RX0 9 RX3 ∈ GW := wdg (i := 200) (by decide +kernel) rfl
theorem wd_66 : Cond.fieldLink RX0 12 "DirtPress$Reader" "made" "LDirtPress$Text;" ∈ GW := wdg (i := 202) (by decide +kernel) rfl
theorem wd_67 : Cond.fieldLink RX0 18 "DirtPress$Reader" "tape" "[I" ∈ GW := wdg (i := 204) (by decide +kernel) rfl
theorem wd_68 : Cond.instanceMethod yX4_init ∈ GW := wdg (i := 225) (by decide +kernel) rfl
theorem wd_69 : Cond.code yX4_init cX4_init 1 none ∈ GW := wdg (i := 226) (by decide +kernel) rfl
theorem wd_70 : Cond.methodLink RX4 3 objectInit ∈ GW := wdg (i := 227) (by decide +kernel) rfl
theorem wd_71 : Cond.fieldLink RX4 9 "DirtPress$Thought" "cells" "[I" ∈ GW := wdg (i := 228) (by decide +kernel) rfl
theorem wd_72 : Cond.fieldLink RX4 15 "DirtPress$Thought" "sums" "[I" ∈ GW := wdg (i := 229) (by decide +kernel) rfl
theorem wd_73 : Cond.fieldLink RX4 18 "DirtPress$Thought" "groups" "[I" ∈ GW := wdg (i := 230) (by decide +kernel) rfl
theorem wd_74 : Cond.instanceMethod yX2_init ∈ GW := wdg (i := 241) (by decide +kernel) rfl
theorem wd_75 : Cond.code yX2_init cX2_init 1 none ∈ GW := wdg (i := 242) (by decide +kernel) rfl
theorem wd_76 : Cond.methodLink RX2 3 objectInit ∈ GW := wdg (i := 243) (by decide +kernel) rfl
theorem wd_77 : Cond.fieldLink RX2 9 "DirtPress$Speech" "bodies" "[I" ∈ GW := wdg (i := 244) (by decide +kernel) rfl
theorem wd_78 : Cond.methodLink RL 12 yX7_init ∈ GW := wdg (i := 767) (by decide +kernel) rfl
theorem wd_79 : Cond.instanceMethod yX7_init ∈ GW := wdg (i := 768) (by decide +kernel) rfl
theorem wd_80 : Cond.code yX7_init cX7_init 1 none ∈ GW := wdg (i := 769) (by decide +kernel) rfl
theorem wd_81 : Cond.methodLink RX7 1 objectInit ∈ GW := wdg (i := 770) (by decide +kernel) rfl
theorem wd_82 : Cond.fieldLink RX7 7 "DirtPressModel" "s" "[I" ∈ GW := wdg (i := 771) (by decide +kernel) rfl
theorem wd_83 : Cond.fieldLink RX7 13 "DirtPressModel" "kept" "[I" ∈ GW := wdg (i := 772) (by decide +kernel) rfl
theorem wd_84 : Cond.fieldLink RX7 16 "DirtPressModel" "laid" "[I" ∈ GW := wdg (i := 773) (by decide +kernel) rfl
theorem wd_85 : Cond.fieldLink RX7 19 "DirtPressModel" "errors" "[I" ∈ GW := wdg (i := 775) (by decide +kernel) rfl
theorem wd_86 : Cond.fieldLink RX7 22 "DirtPressModel" "step" "[I" ∈ GW := wdg (i := 780) (by decide +kernel) rfl
theorem wd_87 : Cond.fieldLink RX7 25 "DirtPressModel" "named" "[I" ∈ GW := wdg (i := 781) (by decide +kernel) rfl
theorem wd_88 : Cond.fieldLink RX7 28 "DirtPressModel" "pile" "[I" ∈ GW := wdg (i := 782) (by decide +kernel) rfl
theorem wd_89 : Cond.fieldLink RX7 31 "DirtPressModel" "sums1" "[I" ∈ GW := wdg (i := 783) (by decide +kernel) rfl
theorem wd_90 : Cond.fieldLink RX7 34 "DirtPressModel" "parts1" "[I" ∈ GW := wdg (i := 784) (by decide +kernel) rfl
theorem wd_91 : Cond.fieldLink RX7 37 "DirtPressModel" "trace" "[I" ∈ GW := wdg (i := 786) (by decide +kernel) rfl
theorem wd_92 : Cond.fieldLink RX7 40 "DirtPressModel" "bits" "[I" ∈ GW := wdg (i := 789) (by decide +kernel) rfl
theorem wd_93 : Cond.fieldLink RX7 43 "DirtPressModel" "sizes" "[I" ∈ GW := wdg (i := 790) (by decide +kernel) rfl
theorem wd_94 : Cond.fieldLink RX7 46 "DirtPressModel" "number" "[I" ∈ GW := wdg (i := 791) (by decide +kernel) rfl
theorem wd_95 : Cond.fieldLink RX7 49 "DirtPressModel" "aside" "[I" ∈ GW := wdg (i := 792) (by decide +kernel) rfl
theorem wd_96 : Cond.methodLink RL 13 yX6_person ∈ GW := wdg (i := 291) (by decide +kernel) rfl
theorem wd_97 : Cond.instanceMethod yX6_person ∈ GW := wdg (i := 292) (by decide +kernel) rfl
theorem wd_98 : Cond.selects RX6 yX6_person yX6_person ∈ GW := wdg (i := 293) (by decide +kernel) rfl
theorem wd_99 : Cond.code yX6_person cX6_person 2 (some .int) ∈ GW := wdg (i := 294) (by decide +kernel) rfl
theorem wd_100 : Cond.fieldLink RX6 59 "DirtPress$World" "people" "I" ∈ GW := wdg (i := 109) (by decide +kernel) rfl
theorem wd_101 : Cond.methodLink RX6 51 yX6_notKm ∈ GW := wdg (i := 295) (by decide +kernel) rfl
theorem wd_102 : Cond.static yX6_notKm ∈ GW := wdg (i := 296) (by decide +kernel) rfl
theorem wd_103 : Cond.code yX6_notKm cX6_notKm 1 (some .boolean) ∈ GW := wdg (i := 297) (by decide +kernel) rfl
theorem wd_104 : Cond.methodLink RX6 115 yX6_notWithin ∈ GW := wdg (i := 298) (by decide +kernel) rfl
theorem wd_105 : Cond.static yX6_notWithin ∈ GW := wdg (i := 299) (by decide +kernel) rfl
theorem wd_106 : Cond.code yX6_notWithin cX6_notWithin 3 (some .boolean) ∈ GW := wdg (i := 300) (by decide +kernel) rfl
theorem wd_107 : Cond.methodLink RX6 55 yX6_error ∈ GW := wdg (i := 301) (by decide +kernel) rfl
theorem wd_108 : Cond.instanceMethod yX6_error ∈ GW := wdg (i := 303) (by decide +kernel) rfl
theorem wd_109 : Cond.selects RX6 yX6_error yX6_error ∈ GW := wdg (i := 0) (by decide +kernel) rfl
theorem wd_110 : Cond.code yX6_error cX6_error 2 (some .int) ∈ GW := wdg (i := 304) (by decide +kernel) rfl
theorem wd_111 : Cond.constant RX6 294 (-1000000000) ∈ GW := wdg (i := 305) (by decide +kernel) rfl
theorem wd_112 : Cond.methodLink RX6 63 yX5_addOrphan ∈ GW := wdg (i := 306) (by decide +kernel) rfl
theorem wd_113 : Cond.instanceMethod yX5_addOrphan ∈ GW := wdg (i := 307) (by decide +kernel) rfl
theorem wd_114 : Cond.selects RX5 yX5_addOrphan yX5_addOrphan ∈ GW := wdg (i := 308) (by decide +kernel) rfl
theorem wd_115 : Cond.code yX5_addOrphan cX5_addOrphan 3 (some .int) ∈ GW := wdg (i := 309) (by decide +kernel) rfl
theorem wd_116 : Cond.fieldLink RX5 50 "DirtPress$World" "people" "I" ∈ GW := wdg (i := 108) (by decide +kernel) rfl
theorem wd_117 : Cond.methodLink RL 17 yX7_person ∈ GW := wdg (i := 903) (by decide +kernel) rfl
theorem wd_118 : Cond.instanceMethod yX7_person ∈ GW := wdg (i := 904) (by decide +kernel) rfl
theorem wd_119 : Cond.selects RX7 yX7_person yX7_person ∈ GW := wdg (i := 905) (by decide +kernel) rfl
theorem wd_120 : Cond.code yX7_person cX7_person 2 (some .int) ∈ GW := wdg (i := 906) (by decide +kernel) rfl
theorem wd_121 : Cond.methodLink RX7 150 yX7_isKind ∈ GW := wdg (i := 907) (by decide +kernel) rfl
theorem wd_122 : Cond.static yX7_isKind ∈ GW := wdg (i := 908) (by decide +kernel) rfl
theorem wd_123 : Cond.code yX7_isKind cX7_isKind 1 (some .boolean) ∈ GW := wdg (i := 909) (by decide +kernel) rfl
theorem wd_124 : Cond.methodLink RX7 53 yX7_in ∈ GW := wdg (i := 842) (by decide +kernel) rfl
theorem wd_125 : Cond.static yX7_in ∈ GW := wdg (i := 843) (by decide +kernel) rfl
theorem wd_126 : Cond.code yX7_in cX7_in 3 (some .boolean) ∈ GW := wdg (i := 844) (by decide +kernel) rfl
theorem wd_127 : Cond.methodLink RX7 65 yX7_error ∈ GW := wdg (i := 845) (by decide +kernel) rfl
theorem wd_128 : Cond.instanceMethod yX7_error ∈ GW := wdg (i := 847) (by decide +kernel) rfl
theorem wd_129 : Cond.selects RX7 yX7_error yX7_error ∈ GW := wdg (i := 14) (by decide +kernel) rfl
theorem wd_130 : Cond.code yX7_error cX7_error 2 (some .int) ∈ GW := wdg (i := 848) (by decide +kernel) rfl
theorem wd_131 : Cond.constant RX7 52 (-1000000000) ∈ GW := wdg (i := 849) (by decide +kernel) rfl
theorem wd_132 : Cond.methodLink RX7 153 yX7_born ∈ GW := wdg (i := 910) (by decide +kernel) rfl
theorem wd_133 : Cond.instanceMethod yX7_born ∈ GW := wdg (i := 912) (by decide +kernel) rfl
theorem wd_134 : Cond.selects RX7 yX7_born yX7_born ∈ GW := wdg (i := 26) (by decide +kernel) rfl
theorem wd_135 : Cond.code yX7_born cX7_born 6 (some .int) ∈ GW := wdg (i := 913) (by decide +kernel) rfl
theorem wd_136 : Cond.methodLink RX7 147 yX7_lays1 ∈ GW := wdg (i := 914) (by decide +kernel) rfl
theorem wd_137 : Cond.instanceMethod yX7_lays1 ∈ GW := wdg (i := 916) (by decide +kernel) rfl
theorem wd_138 : Cond.selects RX7 yX7_lays1 yX7_lays1 ∈ GW := wdg (i := 27) (by decide +kernel) rfl
theorem wd_139 : Cond.code yX7_lays1 cX7_lays1 4 none ∈ GW := wdg (i := 917) (by decide +kernel) rfl
theorem wd_140 : Cond.methodLink RX7 57 yX7_has ∈ GW := wdg (i := 918) (by decide +kernel) rfl
theorem wd_141 : Cond.instanceMethod yX7_has ∈ GW := wdg (i := 920) (by decide +kernel) rfl
theorem wd_142 : Cond.selects RX7 yX7_has yX7_has ∈ GW := wdg (i := 28) (by decide +kernel) rfl
theorem wd_143 : Cond.code yX7_has cX7_has 3 (some .int) ∈ GW := wdg (i := 921) (by decide +kernel) rfl
theorem wd_144 : Cond.methodLink RL 18 yX6_child ∈ GW := wdg (i := 310) (by decide +kernel) rfl
theorem wd_145 : Cond.instanceMethod yX6_child ∈ GW := wdg (i := 311) (by decide +kernel) rfl
theorem wd_146 : Cond.selects RX6 yX6_child yX6_child ∈ GW := wdg (i := 312) (by decide +kernel) rfl
theorem wd_147 : Cond.code yX6_child cX6_child 4 (some .int) ∈ GW := wdg (i := 313) (by decide +kernel) rfl
theorem wd_148 : Cond.methodLink RX6 66 yX6_notTwo ∈ GW := wdg (i := 314) (by decide +kernel) rfl
theorem wd_149 : Cond.instanceMethod yX6_notTwo ∈ GW := wdg (i := 316) (by decide +kernel) rfl
theorem wd_150 : Cond.selects RX6 yX6_notTwo yX6_notTwo ∈ GW := wdg (i := 1) (by decide +kernel) rfl
theorem wd_151 : Cond.code yX6_notTwo cX6_notTwo 3 (some .boolean) ∈ GW := wdg (i := 317) (by decide +kernel) rfl
theorem wd_152 : Cond.methodLink RX6 74 yX6_notOne ∈ GW := wdg (i := 318) (by decide +kernel) rfl
theorem wd_153 : Cond.instanceMethod yX6_notOne ∈ GW := wdg (i := 320) (by decide +kernel) rfl
theorem wd_154 : Cond.selects RX6 yX6_notOne yX6_notOne ∈ GW := wdg (i := 2) (by decide +kernel) rfl
theorem wd_155 : Cond.code yX6_notOne cX6_notOne 2 (some .boolean) ∈ GW := wdg (i := 321) (by decide +kernel) rfl
theorem wd_156 : Cond.methodLink RX6 70 yX5_addChild ∈ GW := wdg (i := 322) (by decide +kernel) rfl
theorem wd_157 : Cond.instanceMethod yX5_addChild ∈ GW := wdg (i := 323) (by decide +kernel) rfl
theorem wd_158 : Cond.selects RX5 yX5_addChild yX5_addChild ∈ GW := wdg (i := 324) (by decide +kernel) rfl
theorem wd_159 : Cond.code yX5_addChild cX5_addChild 6 (some .int) ∈ GW := wdg (i := 325) (by decide +kernel) rfl
theorem wd_160 : Cond.methodLink RX5 72 yX5_addOrphan ∈ GW := wdg (i := 326) (by decide +kernel) rfl
theorem wd_161 : Cond.methodLink RX5 76 yX5_withForebears ∈ GW := wdg (i := 327) (by decide +kernel) rfl
theorem wd_162 : Cond.instanceMethod yX5_withForebears ∈ GW := wdg (i := 328) (by decide +kernel) rfl
theorem wd_163 : Cond.selects RX5 yX5_withForebears yX5_withForebears ∈ GW := wdg (i := 329) (by decide +kernel) rfl
theorem wd_164 : Cond.code yX5_withForebears cX5_withForebears 2 (some .int) ∈ GW := wdg (i := 330) (by decide +kernel) rfl
theorem wd_165 : Cond.static yX6_cell ∈ GW := wdg (i := 332) (by decide +kernel) rfl
theorem wd_166 : Cond.code yX6_cell cX6_cell 2 (some .int) ∈ GW := wdg (i := 333) (by decide +kernel) rfl
theorem wd_167 : Cond.methodLink RX5 83 yX5_poured ∈ GW := wdg (i := 334) (by decide +kernel) rfl
theorem wd_168 : Cond.instanceMethod yX5_poured ∈ GW := wdg (i := 335) (by decide +kernel) rfl
theorem wd_169 : Cond.selects RX5 yX5_poured yX5_poured ∈ GW := wdg (i := 336) (by decide +kernel) rfl
theorem wd_170 : Cond.code yX5_poured cX5_poured 4 (some .int) ∈ GW := wdg (i := 337) (by decide +kernel) rfl
theorem wd_171 : Cond.methodLink RL 22 yX7_child ∈ GW := wdg (i := 922) (by decide +kernel) rfl
theorem wd_172 : Cond.instanceMethod yX7_child ∈ GW := wdg (i := 923) (by decide +kernel) rfl
theorem wd_173 : Cond.selects RX7 yX7_child yX7_child ∈ GW := wdg (i := 924) (by decide +kernel) rfl
theorem wd_174 : Cond.code yX7_child cX7_child 4 (some .int) ∈ GW := wdg (i := 925) (by decide +kernel) rfl
theorem wd_175 : Cond.methodLink RX7 159 yX7_areTwo ∈ GW := wdg (i := 926) (by decide +kernel) rfl
theorem wd_176 : Cond.instanceMethod yX7_areTwo ∈ GW := wdg (i := 928) (by decide +kernel) rfl
theorem wd_177 : Cond.selects RX7 yX7_areTwo yX7_areTwo ∈ GW := wdg (i := 29) (by decide +kernel) rfl
theorem wd_178 : Cond.code yX7_areTwo cX7_areTwo 3 (some .boolean) ∈ GW := wdg (i := 929) (by decide +kernel) rfl
theorem wd_179 : Cond.methodLink RX7 156 yX7_isPerson ∈ GW := wdg (i := 930) (by decide +kernel) rfl
theorem wd_180 : Cond.instanceMethod yX7_isPerson ∈ GW := wdg (i := 932) (by decide +kernel) rfl
theorem wd_181 : Cond.selects RX7 yX7_isPerson yX7_isPerson ∈ GW := wdg (i := 30) (by decide +kernel) rfl
theorem wd_182 : Cond.code yX7_isPerson cX7_isPerson 2 (some .boolean) ∈ GW := wdg (i := 933) (by decide +kernel) rfl
theorem wd_183 : Cond.methodLink RL 23 yX6_personIs ∈ GW := wdg (i := 338) (by decide +kernel) rfl
theorem wd_184 : Cond.instanceMethod yX6_personIs ∈ GW := wdg (i := 339) (by decide +kernel) rfl
theorem wd_185 : Cond.selects RX6 yX6_personIs yX6_personIs ∈ GW := wdg (i := 340) (by decide +kernel) rfl
theorem wd_186 : Cond.code yX6_personIs cX6_personIs 3 (some .int) ∈ GW := wdg (i := 341) (by decide +kernel) rfl
theorem wd_187 : Cond.fieldLink RX6 83 "DirtPress$World" "father" "[I" ∈ GW := wdg (i := 114) (by decide +kernel) rfl
theorem wd_188 : Cond.fieldLink RX6 86 "DirtPress$World" "mother" "[I" ∈ GW := wdg (i := 116) (by decide +kernel) rfl
theorem wd_189 : Cond.fieldLink RX6 89 "DirtPress$World" "spoons" "[I" ∈ GW := wdg (i := 121) (by decide +kernel) rfl
theorem wd_190 : Cond.fieldLink RX6 99 "DirtPress$World" "from" "[I" ∈ GW := wdg (i := 118) (by decide +kernel) rfl
theorem wd_191 : Cond.methodLink RX6 77 yX5_kindOf ∈ GW := wdg (i := 342) (by decide +kernel) rfl
theorem wd_192 : Cond.instanceMethod yX5_kindOf ∈ GW := wdg (i := 343) (by decide +kernel) rfl
theorem wd_193 : Cond.selects RX5 yX5_kindOf yX5_kindOf ∈ GW := wdg (i := 344) (by decide +kernel) rfl
theorem wd_194 : Cond.code yX5_kindOf cX5_kindOf 2 (some .int) ∈ GW := wdg (i := 345) (by decide +kernel) rfl
theorem wd_195 : Cond.methodLink RX6 80 yX5_numberOf ∈ GW := wdg (i := 346) (by decide +kernel) rfl
theorem wd_196 : Cond.instanceMethod yX5_numberOf ∈ GW := wdg (i := 347) (by decide +kernel) rfl
theorem wd_197 : Cond.selects RX5 yX5_numberOf yX5_numberOf ∈ GW := wdg (i := 348) (by decide +kernel) rfl
theorem wd_198 : Cond.code yX5_numberOf cX5_numberOf 2 (some .int) ∈ GW := wdg (i := 349) (by decide +kernel) rfl
theorem wd_199 : Cond.methodLink RX6 92 yX6_together ∈ GW := wdg (i := 350) (by decide +kernel) rfl
theorem wd_200 : Cond.static yX6_together ∈ GW := wdg (i := 351) (by decide +kernel) rfl
theorem wd_201 : Cond.code yX6_together cX6_together 4 (some .int) ∈ GW := wdg (i := 352) (by decide +kernel) rfl
theorem wd_202 : Cond.methodLink RX6 111 yX6_cell ∈ GW := wdg (i := 353) (by decide +kernel) rfl
theorem wd_203 : Cond.methodLink RX6 96 yX5_worthOf ∈ GW := wdg (i := 354) (by decide +kernel) rfl
theorem wd_204 : Cond.instanceMethod yX5_worthOf ∈ GW := wdg (i := 355) (by decide +kernel) rfl
theorem wd_205 : Cond.selects RX5 yX5_worthOf yX5_worthOf ∈ GW := wdg (i := 356) (by decide +kernel) rfl
theorem wd_206 : Cond.code yX5_worthOf cX5_worthOf 4 (some .int) ∈ GW := wdg (i := 357) (by decide +kernel) rfl
theorem wd_207 : Cond.methodLink RX5 100 yX5_given ∈ GW := wdg (i := 358) (by decide +kernel) rfl
theorem wd_208 : Cond.instanceMethod yX5_given ∈ GW := wdg (i := 359) (by decide +kernel) rfl
theorem wd_209 : Cond.selects RX5 yX5_given yX5_given ∈ GW := wdg (i := 360) (by decide +kernel) rfl
theorem wd_210 : Cond.code yX5_given cX5_given 7 (some .int) ∈ GW := wdg (i := 361) (by decide +kernel) rfl
theorem wd_211 : Cond.methodLink RX5 127 yX5_textOf ∈ GW := wdg (i := 362) (by decide +kernel) rfl
theorem wd_212 : Cond.instanceMethod yX5_textOf ∈ GW := wdg (i := 363) (by decide +kernel) rfl
theorem wd_213 : Cond.selects RX5 yX5_textOf yX5_textOf ∈ GW := wdg (i := 364) (by decide +kernel) rfl
theorem wd_214 : Cond.code yX5_textOf cX5_textOf 2 (some (.object "DirtPress$Text")) ∈ GW := wdg (i := 365) (by decide +kernel) rfl
theorem wd_215 : Cond.methodLink RX5 131 yX3_stands ∈ GW := wdg (i := 366) (by decide +kernel) rfl
theorem wd_216 : Cond.instanceMethod yX3_stands ∈ GW := wdg (i := 367) (by decide +kernel) rfl
theorem wd_217 : Cond.selects RX3 yX3_stands yX3_stands ∈ GW := wdg (i := 368) (by decide +kernel) rfl
theorem wd_218 : Cond.code yX3_stands cX3_stands 1 (some .boolean) ∈ GW := wdg (i := 369) (by decide +kernel) rfl
theorem wd_219 : Cond.fieldLink RX3 18 "DirtPress$Text" "size" "I" ∈ GW := wdg (i := 99) (by decide +kernel) rfl
theorem wd_220 : Cond.methodLink RX5 135 yX3_value ∈ GW := wdg (i := 370) (by decide +kernel) rfl
theorem wd_221 : Cond.instanceMethod yX3_value ∈ GW := wdg (i := 371) (by decide +kernel) rfl
theorem wd_222 : Cond.selects RX3 yX3_value yX3_value ∈ GW := wdg (i := 372) (by decide +kernel) rfl
theorem wd_223 : Cond.code yX3_value cX3_value 7 (some .int) ∈ GW := wdg (i := 373) (by decide +kernel) rfl
theorem wd_224 : Cond.methodLink RX3 28 yX3_named ∈ GW := wdg (i := 374) (by decide +kernel) rfl
theorem wd_225 : Cond.static yX3_named ∈ GW := wdg (i := 375) (by decide +kernel) rfl
theorem wd_226 : Cond.code yX3_named cX3_named 4 (some .int) ∈ GW := wdg (i := 376) (by decide +kernel) rfl
theorem wd_227 : Cond.static yX6_truth ∈ GW := wdg (i := 378) (by decide +kernel) rfl
theorem wd_228 : Cond.code yX6_truth cX6_truth 1 (some .int) ∈ GW := wdg (i := 379) (by decide +kernel) rfl
theorem wd_229 : Cond.methodLink RX3 36 yX3_joined ∈ GW := wdg (i := 380) (by decide +kernel) rfl
theorem wd_230 : Cond.static yX3_joined ∈ GW := wdg (i := 381) (by decide +kernel) rfl
theorem wd_231 : Cond.code yX3_joined cX3_joined 3 (some .int) ∈ GW := wdg (i := 382) (by decide +kernel) rfl
theorem wd_232 : Cond.static yX6_held ∈ GW := wdg (i := 384) (by decide +kernel) rfl
theorem wd_233 : Cond.code yX6_held cX6_held 3 (some .int) ∈ GW := wdg (i := 385) (by decide +kernel) rfl
theorem wd_234 : Cond.methodLink RX6 279 Lib.Math.min.name ∈ GW := wdg (i := 386) (by decide +kernel) rfl
theorem wd_235 : Cond.static Lib.Math.min.name ∈ GW := wdg (i := 387) (by decide +kernel) rfl
theorem wd_236 : Cond.initialized "java/lang/Math" ∈ GW := wdg (i := 75) (by decide +kernel) rfl
theorem wd_237 : Cond.code Lib.Math.min.name Lib.Math.min.code 2 (some .int) ∈ GW := wdg (i := 388) (by decide +kernel) rfl
theorem wd_238 : Cond.methodLink RX6 214 Lib.Math.max.name ∈ GW := wdg (i := 389) (by decide +kernel) rfl
theorem wd_239 : Cond.static Lib.Math.max.name ∈ GW := wdg (i := 390) (by decide +kernel) rfl
theorem wd_240 : Cond.code Lib.Math.max.name Lib.Math.max.code 2 (some .int) ∈ GW := wdg (i := 391) (by decide +kernel) rfl
theorem wd_241 : Cond.methodLink RL 27 yX7_personIs ∈ GW := wdg (i := 934) (by decide +kernel) rfl
theorem wd_242 : Cond.instanceMethod yX7_personIs ∈ GW := wdg (i := 935) (by decide +kernel) rfl
theorem wd_243 : Cond.selects RX7 yX7_personIs yX7_personIs ∈ GW := wdg (i := 936) (by decide +kernel) rfl
theorem wd_244 : Cond.code yX7_personIs cX7_personIs 3 (some .int) ∈ GW := wdg (i := 937) (by decide +kernel) rfl
theorem wd_245 : Cond.methodLink RX7 124 yX7_its ∈ GW := wdg (i := 938) (by decide +kernel) rfl
theorem wd_246 : Cond.instanceMethod yX7_its ∈ GW := wdg (i := 940) (by decide +kernel) rfl
theorem wd_247 : Cond.selects RX7 yX7_its yX7_its ∈ GW := wdg (i := 31) (by decide +kernel) rfl
theorem wd_248 : Cond.code yX7_its cX7_its 3 (some .int) ∈ GW := wdg (i := 941) (by decide +kernel) rfl
theorem wd_249 : Cond.methodLink RX7 163 yX7_heap ∈ GW := wdg (i := 942) (by decide +kernel) rfl
theorem wd_250 : Cond.instanceMethod yX7_heap ∈ GW := wdg (i := 944) (by decide +kernel) rfl
theorem wd_251 : Cond.selects RX7 yX7_heap yX7_heap ∈ GW := wdg (i := 32) (by decide +kernel) rfl
theorem wd_252 : Cond.code yX7_heap cX7_heap 4 (some .int) ∈ GW := wdg (i := 945) (by decide +kernel) rfl
theorem wd_253 : Cond.methodLink RX7 166 yX7_worthOf ∈ GW := wdg (i := 946) (by decide +kernel) rfl
theorem wd_254 : Cond.instanceMethod yX7_worthOf ∈ GW := wdg (i := 948) (by decide +kernel) rfl
theorem wd_255 : Cond.selects RX7 yX7_worthOf yX7_worthOf ∈ GW := wdg (i := 33) (by decide +kernel) rfl
theorem wd_256 : Cond.code yX7_worthOf cX7_worthOf 4 (some .int) ∈ GW := wdg (i := 949) (by decide +kernel) rfl
theorem wd_257 : Cond.methodLink RX7 136 yX7_worthTold ∈ GW := wdg (i := 950) (by decide +kernel) rfl
theorem wd_258 : Cond.instanceMethod yX7_worthTold ∈ GW := wdg (i := 952) (by decide +kernel) rfl
theorem wd_259 : Cond.selects RX7 yX7_worthTold yX7_worthTold ∈ GW := wdg (i := 34) (by decide +kernel) rfl
theorem wd_260 : Cond.code yX7_worthTold cX7_worthTold 4 (some .int) ∈ GW := wdg (i := 953) (by decide +kernel) rfl
theorem wd_261 : Cond.methodLink RX7 118 yX7_hasText ∈ GW := wdg (i := 899) (by decide +kernel) rfl
theorem wd_262 : Cond.instanceMethod yX7_hasText ∈ GW := wdg (i := 901) (by decide +kernel) rfl
theorem wd_263 : Cond.selects RX7 yX7_hasText yX7_hasText ∈ GW := wdg (i := 25) (by decide +kernel) rfl
theorem wd_264 : Cond.code yX7_hasText cX7_hasText 2 (some .boolean) ∈ GW := wdg (i := 902) (by decide +kernel) rfl
theorem wd_265 : Cond.methodLink RX7 130 yX7_worked ∈ GW := wdg (i := 954) (by decide +kernel) rfl
theorem wd_266 : Cond.instanceMethod yX7_worked ∈ GW := wdg (i := 956) (by decide +kernel) rfl
theorem wd_267 : Cond.selects RX7 yX7_worked yX7_worked ∈ GW := wdg (i := 35) (by decide +kernel) rfl
theorem wd_268 : Cond.code yX7_worked cX7_worked 7 (some .int) ∈ GW := wdg (i := 957) (by decide +kernel) rfl
theorem wd_269 : Cond.methodLink RX7 121 yX7_joined ∈ GW := wdg (i := 958) (by decide +kernel) rfl
theorem wd_270 : Cond.static yX7_joined ∈ GW := wdg (i := 959) (by decide +kernel) rfl
theorem wd_271 : Cond.code yX7_joined cX7_joined 3 (some .int) ∈ GW := wdg (i := 960) (by decide +kernel) rfl
theorem wd_272 : Cond.methodLink RX7 61 yX7_held ∈ GW := wdg (i := 961) (by decide +kernel) rfl
theorem wd_273 : Cond.static yX7_held ∈ GW := wdg (i := 962) (by decide +kernel) rfl
theorem wd_274 : Cond.code yX7_held cX7_held 3 (some .int) ∈ GW := wdg (i := 963) (by decide +kernel) rfl
theorem wd_275 : Cond.methodLink RX7 169 yX7_fromOf ∈ GW := wdg (i := 964) (by decide +kernel) rfl
theorem wd_276 : Cond.instanceMethod yX7_fromOf ∈ GW := wdg (i := 966) (by decide +kernel) rfl
theorem wd_277 : Cond.selects RX7 yX7_fromOf yX7_fromOf ∈ GW := wdg (i := 36) (by decide +kernel) rfl
theorem wd_278 : Cond.code yX7_fromOf cX7_fromOf 6 (some .int) ∈ GW := wdg (i := 967) (by decide +kernel) rfl
theorem wd_279 : Cond.methodLink RL 28 yX6_become ∈ GW := wdg (i := 392) (by decide +kernel) rfl
theorem wd_280 : Cond.instanceMethod yX6_become ∈ GW := wdg (i := 393) (by decide +kernel) rfl
theorem wd_281 : Cond.selects RX6 yX6_become yX6_become ∈ GW := wdg (i := 394) (by decide +kernel) rfl
theorem wd_282 : Cond.code yX6_become cX6_become 4 (some .int) ∈ GW := wdg (i := 395) (by decide +kernel) rfl
theorem wd_283 : Cond.fieldLink RX6 102 "DirtPress$World" "km" "[I" ∈ GW := wdg (i := 112) (by decide +kernel) rfl
theorem wd_284 : Cond.methodLink RL 31 yX7_become ∈ GW := wdg (i := 968) (by decide +kernel) rfl
theorem wd_285 : Cond.instanceMethod yX7_become ∈ GW := wdg (i := 969) (by decide +kernel) rfl
theorem wd_286 : Cond.selects RX7 yX7_become yX7_become ∈ GW := wdg (i := 970) (by decide +kernel) rfl
theorem wd_287 : Cond.code yX7_become cX7_become 3 (some .int) ∈ GW := wdg (i := 971) (by decide +kernel) rfl
theorem wd_288 : Cond.methodLink RX7 172 yX7_change1 ∈ GW := wdg (i := 972) (by decide +kernel) rfl
theorem wd_289 : Cond.instanceMethod yX7_change1 ∈ GW := wdg (i := 974) (by decide +kernel) rfl
theorem wd_290 : Cond.selects RX7 yX7_change1 yX7_change1 ∈ GW := wdg (i := 37) (by decide +kernel) rfl
theorem wd_291 : Cond.code yX7_change1 cX7_change1 4 (some .int) ∈ GW := wdg (i := 975) (by decide +kernel) rfl
theorem wd_292 : Cond.methodLink RL 32 yX6_as ∈ GW := wdg (i := 396) (by decide +kernel) rfl
theorem wd_293 : Cond.instanceMethod yX6_as ∈ GW := wdg (i := 397) (by decide +kernel) rfl
theorem wd_294 : Cond.selects RX6 yX6_as yX6_as ∈ GW := wdg (i := 398) (by decide +kernel) rfl
theorem wd_295 : Cond.code yX6_as cX6_as 3 (some .int) ∈ GW := wdg (i := 399) (by decide +kernel) rfl
theorem wd_296 : Cond.methodLink RX6 105 yX6_isUnder ∈ GW := wdg (i := 400) (by decide +kernel) rfl
theorem wd_297 : Cond.static yX6_isUnder ∈ GW := wdg (i := 401) (by decide +kernel) rfl
theorem wd_298 : Cond.code yX6_isUnder cX6_isUnder 4 (some .boolean) ∈ GW := wdg (i := 402) (by decide +kernel) rfl
theorem wd_299 : Cond.fieldLink RX6 295 "DirtPress" "ABOVE" "[I" ∈ GW := wdg (i := 403) (by decide +kernel) rfl
theorem wd_300 : Cond.methodLink RL 35 yX7_as ∈ GW := wdg (i := 976) (by decide +kernel) rfl
theorem wd_301 : Cond.instanceMethod yX7_as ∈ GW := wdg (i := 977) (by decide +kernel) rfl
theorem wd_302 : Cond.selects RX7 yX7_as yX7_as ∈ GW := wdg (i := 978) (by decide +kernel) rfl
theorem wd_303 : Cond.code yX7_as cX7_as 4 (some .int) ∈ GW := wdg (i := 979) (by decide +kernel) rfl
theorem wd_304 : Cond.methodLink RX7 175 yX7_above ∈ GW := wdg (i := 980) (by decide +kernel) rfl
theorem wd_305 : Cond.static yX7_above ∈ GW := wdg (i := 981) (by decide +kernel) rfl
theorem wd_306 : Cond.code yX7_above cX7_above 1 (some .int) ∈ GW := wdg (i := 982) (by decide +kernel) rfl
theorem wd_307 : Cond.methodLink RL 36 yX6_hold ∈ GW := wdg (i := 405) (by decide +kernel) rfl
theorem wd_308 : Cond.instanceMethod yX6_hold ∈ GW := wdg (i := 406) (by decide +kernel) rfl
theorem wd_309 : Cond.selects RX6 yX6_hold yX6_hold ∈ GW := wdg (i := 407) (by decide +kernel) rfl
theorem wd_310 : Cond.code yX6_hold cX6_hold 3 (some .int) ∈ GW := wdg (i := 408) (by decide +kernel) rfl
theorem wd_311 : Cond.methodLink RX6 108 yX6_notSort ∈ GW := wdg (i := 409) (by decide +kernel) rfl
theorem wd_312 : Cond.static yX6_notSort ∈ GW := wdg (i := 410) (by decide +kernel) rfl
theorem wd_313 : Cond.code yX6_notSort cX6_notSort 1 (some .boolean) ∈ GW := wdg (i := 411) (by decide +kernel) rfl
theorem wd_314 : Cond.methodLink RL 39 yX7_hold ∈ GW := wdg (i := 983) (by decide +kernel) rfl
theorem wd_315 : Cond.instanceMethod yX7_hold ∈ GW := wdg (i := 984) (by decide +kernel) rfl
theorem wd_316 : Cond.selects RX7 yX7_hold yX7_hold ∈ GW := wdg (i := 985) (by decide +kernel) rfl
theorem wd_317 : Cond.code yX7_hold cX7_hold 3 (some .int) ∈ GW := wdg (i := 986) (by decide +kernel) rfl
theorem wd_318 : Cond.methodLink RX7 178 yX7_isSort ∈ GW := wdg (i := 987) (by decide +kernel) rfl
theorem wd_319 : Cond.static yX7_isSort ∈ GW := wdg (i := 988) (by decide +kernel) rfl
theorem wd_320 : Cond.code yX7_isSort cX7_isSort 1 (some .boolean) ∈ GW := wdg (i := 989) (by decide +kernel) rfl
theorem wd_321 : Cond.methodLink RL 40 yX6_spoon ∈ GW := wdg (i := 412) (by decide +kernel) rfl
theorem wd_322 : Cond.instanceMethod yX6_spoon ∈ GW := wdg (i := 413) (by decide +kernel) rfl
theorem wd_323 : Cond.selects RX6 yX6_spoon yX6_spoon ∈ GW := wdg (i := 414) (by decide +kernel) rfl
theorem wd_324 : Cond.code yX6_spoon cX6_spoon 5 (some .int) ∈ GW := wdg (i := 415) (by decide +kernel) rfl
theorem wd_325 : Cond.methodLink RL 43 yX7_spoon ∈ GW := wdg (i := 990) (by decide +kernel) rfl
theorem wd_326 : Cond.instanceMethod yX7_spoon ∈ GW := wdg (i := 991) (by decide +kernel) rfl
theorem wd_327 : Cond.selects RX7 yX7_spoon yX7_spoon ∈ GW := wdg (i := 992) (by decide +kernel) rfl
theorem wd_328 : Cond.code yX7_spoon cX7_spoon 4 (some .int) ∈ GW := wdg (i := 993) (by decide +kernel) rfl
theorem wd_329 : Cond.methodLink RL 44 yX6_gain ∈ GW := wdg (i := 416) (by decide +kernel) rfl
theorem wd_330 : Cond.instanceMethod yX6_gain ∈ GW := wdg (i := 417) (by decide +kernel) rfl
theorem wd_331 : Cond.selects RX6 yX6_gain yX6_gain ∈ GW := wdg (i := 418) (by decide +kernel) rfl
theorem wd_332 : Cond.code yX6_gain cX6_gain 3 (some .int) ∈ GW := wdg (i := 419) (by decide +kernel) rfl
theorem wd_333 : Cond.fieldLink RX6 119 "DirtPress$World" "year" "I" ∈ GW := wdg (i := 126) (by decide +kernel) rfl
theorem wd_334 : Cond.methodLink RX6 122 yX5_gainOf ∈ GW := wdg (i := 420) (by decide +kernel) rfl
theorem wd_335 : Cond.instanceMethod yX5_gainOf ∈ GW := wdg (i := 421) (by decide +kernel) rfl
theorem wd_336 : Cond.selects RX5 yX5_gainOf yX5_gainOf ∈ GW := wdg (i := 422) (by decide +kernel) rfl
theorem wd_337 : Cond.code yX5_gainOf cX5_gainOf 5 (some .int) ∈ GW := wdg (i := 423) (by decide +kernel) rfl
theorem wd_338 : Cond.methodLink RX5 96 yX5_gets ∈ GW := wdg (i := 424) (by decide +kernel) rfl
theorem wd_339 : Cond.instanceMethod yX5_gets ∈ GW := wdg (i := 425) (by decide +kernel) rfl
theorem wd_340 : Cond.selects RX5 yX5_gets yX5_gets ∈ GW := wdg (i := 426) (by decide +kernel) rfl
theorem wd_341 : Cond.code yX5_gets cX5_gets 8 (some .int) ∈ GW := wdg (i := 427) (by decide +kernel) rfl
theorem wd_342 : Cond.methodLink RX5 90 yX5_numberOf ∈ GW := wdg (i := 428) (by decide +kernel) rfl
theorem wd_343 : Cond.methodLink RX5 93 yX5_kindOf ∈ GW := wdg (i := 429) (by decide +kernel) rfl
theorem wd_344 : Cond.methodLink RL 47 yX7_gain ∈ GW := wdg (i := 994) (by decide +kernel) rfl
theorem wd_345 : Cond.instanceMethod yX7_gain ∈ GW := wdg (i := 995) (by decide +kernel) rfl
theorem wd_346 : Cond.selects RX7 yX7_gain yX7_gain ∈ GW := wdg (i := 996) (by decide +kernel) rfl
theorem wd_347 : Cond.code yX7_gain cX7_gain 3 (some .int) ∈ GW := wdg (i := 997) (by decide +kernel) rfl
theorem wd_348 : Cond.methodLink RX7 139 yX7_gainOf ∈ GW := wdg (i := 998) (by decide +kernel) rfl
theorem wd_349 : Cond.instanceMethod yX7_gainOf ∈ GW := wdg (i := 1000) (by decide +kernel) rfl
theorem wd_350 : Cond.selects RX7 yX7_gainOf yX7_gainOf ∈ GW := wdg (i := 38) (by decide +kernel) rfl
theorem wd_351 : Cond.code yX7_gainOf cX7_gainOf 3 (some .int) ∈ GW := wdg (i := 1001) (by decide +kernel) rfl
theorem wd_352 : Cond.methodLink RX7 127 yX7_getsAs ∈ GW := wdg (i := 1002) (by decide +kernel) rfl
theorem wd_353 : Cond.instanceMethod yX7_getsAs ∈ GW := wdg (i := 1004) (by decide +kernel) rfl
theorem wd_354 : Cond.selects RX7 yX7_getsAs yX7_getsAs ∈ GW := wdg (i := 39) (by decide +kernel) rfl
theorem wd_355 : Cond.code yX7_getsAs cX7_getsAs 5 (some .int) ∈ GW := wdg (i := 1005) (by decide +kernel) rfl
theorem wd_356 : Cond.methodLink RX7 133 yX7_gainTold ∈ GW := wdg (i := 1006) (by decide +kernel) rfl
theorem wd_357 : Cond.instanceMethod yX7_gainTold ∈ GW := wdg (i := 1008) (by decide +kernel) rfl
theorem wd_358 : Cond.selects RX7 yX7_gainTold yX7_gainTold ∈ GW := wdg (i := 40) (by decide +kernel) rfl
theorem wd_359 : Cond.code yX7_gainTold cX7_gainTold 4 (some .int) ∈ GW := wdg (i := 1009) (by decide +kernel) rfl
theorem wd_360 : Cond.methodLink RL 48 yX6_lend ∈ GW := wdg (i := 430) (by decide +kernel) rfl
theorem wd_361 : Cond.instanceMethod yX6_lend ∈ GW := wdg (i := 431) (by decide +kernel) rfl
theorem wd_362 : Cond.selects RX6 yX6_lend yX6_lend ∈ GW := wdg (i := 432) (by decide +kernel) rfl
theorem wd_363 : Cond.code yX6_lend cX6_lend 6 (some .int) ∈ GW := wdg (i := 433) (by decide +kernel) rfl
theorem wd_364 : Cond.fieldLink RX6 133 "DirtPress$World" "owed" "[I" ∈ GW := wdg (i := 123) (by decide +kernel) rfl
theorem wd_365 : Cond.methodLink RX6 126 yX6_pair ∈ GW := wdg (i := 434) (by decide +kernel) rfl
theorem wd_366 : Cond.static yX6_pair ∈ GW := wdg (i := 435) (by decide +kernel) rfl
theorem wd_367 : Cond.code yX6_pair cX6_pair 2 (some .int) ∈ GW := wdg (i := 436) (by decide +kernel) rfl
theorem wd_368 : Cond.methodLink RX6 129 yX5_canGo ∈ GW := wdg (i := 437) (by decide +kernel) rfl
theorem wd_369 : Cond.instanceMethod yX5_canGo ∈ GW := wdg (i := 438) (by decide +kernel) rfl
theorem wd_370 : Cond.selects RX5 yX5_canGo yX5_canGo ∈ GW := wdg (i := 439) (by decide +kernel) rfl
theorem wd_371 : Cond.code yX5_canGo cX5_canGo 5 (some .boolean) ∈ GW := wdg (i := 440) (by decide +kernel) rfl
theorem wd_372 : Cond.methodLink RX6 136 yX5_go ∈ GW := wdg (i := 441) (by decide +kernel) rfl
theorem wd_373 : Cond.instanceMethod yX5_go ∈ GW := wdg (i := 442) (by decide +kernel) rfl
theorem wd_374 : Cond.selects RX5 yX5_go yX5_go ∈ GW := wdg (i := 443) (by decide +kernel) rfl
theorem wd_375 : Cond.code yX5_go cX5_go 5 none ∈ GW := wdg (i := 444) (by decide +kernel) rfl
theorem wd_376 : Cond.methodLink RL 52 yX7_lend ∈ GW := wdg (i := 1010) (by decide +kernel) rfl
theorem wd_377 : Cond.instanceMethod yX7_lend ∈ GW := wdg (i := 1011) (by decide +kernel) rfl
theorem wd_378 : Cond.selects RX7 yX7_lend yX7_lend ∈ GW := wdg (i := 1012) (by decide +kernel) rfl
theorem wd_379 : Cond.code yX7_lend cX7_lend 5 (some .int) ∈ GW := wdg (i := 1013) (by decide +kernel) rfl
theorem wd_380 : Cond.methodLink RX7 181 yX7_areGiven ∈ GW := wdg (i := 1014) (by decide +kernel) rfl
theorem wd_381 : Cond.instanceMethod yX7_areGiven ∈ GW := wdg (i := 1016) (by decide +kernel) rfl
theorem wd_382 : Cond.selects RX7 yX7_areGiven yX7_areGiven ∈ GW := wdg (i := 41) (by decide +kernel) rfl
theorem wd_383 : Cond.code yX7_areGiven cX7_areGiven 5 (some .boolean) ∈ GW := wdg (i := 1017) (by decide +kernel) rfl
theorem wd_384 : Cond.methodLink RX7 185 yX7_canGo ∈ GW := wdg (i := 1018) (by decide +kernel) rfl
theorem wd_385 : Cond.instanceMethod yX7_canGo ∈ GW := wdg (i := 1020) (by decide +kernel) rfl
theorem wd_386 : Cond.selects RX7 yX7_canGo yX7_canGo ∈ GW := wdg (i := 42) (by decide +kernel) rfl
theorem wd_387 : Cond.code yX7_canGo cX7_canGo 5 (some .boolean) ∈ GW := wdg (i := 1021) (by decide +kernel) rfl
theorem wd_388 : Cond.methodLink RX7 188 yX7_owed ∈ GW := wdg (i := 1022) (by decide +kernel) rfl
theorem wd_389 : Cond.instanceMethod yX7_owed ∈ GW := wdg (i := 1024) (by decide +kernel) rfl
theorem wd_390 : Cond.selects RX7 yX7_owed yX7_owed ∈ GW := wdg (i := 43) (by decide +kernel) rfl
theorem wd_391 : Cond.code yX7_owed cX7_owed 3 (some .int) ∈ GW := wdg (i := 1025) (by decide +kernel) rfl
theorem wd_392 : Cond.methodLink RX7 191 yX7_go ∈ GW := wdg (i := 1026) (by decide +kernel) rfl
theorem wd_393 : Cond.instanceMethod yX7_go ∈ GW := wdg (i := 1028) (by decide +kernel) rfl
theorem wd_394 : Cond.selects RX7 yX7_go yX7_go ∈ GW := wdg (i := 44) (by decide +kernel) rfl
theorem wd_395 : Cond.code yX7_go cX7_go 5 none ∈ GW := wdg (i := 1029) (by decide +kernel) rfl
theorem wd_396 : Cond.methodLink RX7 142 yX7_gets ∈ GW := wdg (i := 1030) (by decide +kernel) rfl
theorem wd_397 : Cond.instanceMethod yX7_gets ∈ GW := wdg (i := 1032) (by decide +kernel) rfl
theorem wd_398 : Cond.selects RX7 yX7_gets yX7_gets ∈ GW := wdg (i := 45) (by decide +kernel) rfl
theorem wd_399 : Cond.code yX7_gets cX7_gets 4 none ∈ GW := wdg (i := 1033) (by decide +kernel) rfl
theorem wd_400 : Cond.methodLink RL 53 yX6_repay ∈ GW := wdg (i := 445) (by decide +kernel) rfl
theorem wd_401 : Cond.instanceMethod yX6_repay ∈ GW := wdg (i := 446) (by decide +kernel) rfl
theorem wd_402 : Cond.selects RX6 yX6_repay yX6_repay ∈ GW := wdg (i := 447) (by decide +kernel) rfl
theorem wd_403 : Cond.code yX6_repay cX6_repay 6 (some .int) ∈ GW := wdg (i := 448) (by decide +kernel) rfl
theorem wd_404 : Cond.methodLink RL 56 yX7_repay ∈ GW := wdg (i := 1034) (by decide +kernel) rfl
theorem wd_405 : Cond.instanceMethod yX7_repay ∈ GW := wdg (i := 1035) (by decide +kernel) rfl
theorem wd_406 : Cond.selects RX7 yX7_repay yX7_repay ∈ GW := wdg (i := 1036) (by decide +kernel) rfl
theorem wd_407 : Cond.code yX7_repay cX7_repay 5 (some .int) ∈ GW := wdg (i := 1037) (by decide +kernel) rfl
theorem wd_408 : Cond.methodLink RL 57 yX6_owes ∈ GW := wdg (i := 449) (by decide +kernel) rfl
theorem wd_409 : Cond.instanceMethod yX6_owes ∈ GW := wdg (i := 450) (by decide +kernel) rfl
theorem wd_410 : Cond.selects RX6 yX6_owes yX6_owes ∈ GW := wdg (i := 451) (by decide +kernel) rfl
theorem wd_411 : Cond.code yX6_owes cX6_owes 3 (some .int) ∈ GW := wdg (i := 452) (by decide +kernel) rfl
theorem wd_412 : Cond.methodLink RL 60 yX7_owes ∈ GW := wdg (i := 1038) (by decide +kernel) rfl
theorem wd_413 : Cond.instanceMethod yX7_owes ∈ GW := wdg (i := 1039) (by decide +kernel) rfl
theorem wd_414 : Cond.selects RX7 yX7_owes yX7_owes ∈ GW := wdg (i := 1040) (by decide +kernel) rfl
theorem wd_415 : Cond.code yX7_owes cX7_owes 3 (some .int) ∈ GW := wdg (i := 1041) (by decide +kernel) rfl
theorem wd_416 : Cond.methodLink RL 63 yX6_feed ∈ GW := wdg (i := 453) (by decide +kernel) rfl
theorem wd_417 : Cond.instanceMethod yX6_feed ∈ GW := wdg (i := 454) (by decide +kernel) rfl
theorem wd_418 : Cond.selects RX6 yX6_feed yX6_feed ∈ GW := wdg (i := 455) (by decide +kernel) rfl
theorem wd_419 : Cond.code yX6_feed cX6_feed 5 (some .int) ∈ GW := wdg (i := 456) (by decide +kernel) rfl
theorem wd_420 : Cond.fieldLink RX6 140 "DirtPress$World" "bytes" "I" ∈ GW := wdg (i := 134) (by decide +kernel) rfl
theorem wd_421 : Cond.fieldLink RX6 143 "DirtPress$World" "tape" "[I" ∈ GW := wdg (i := 131) (by decide +kernel) rfl
theorem wd_422 : Cond.methodLink RL 67 yX7_feed ∈ GW := wdg (i := 838) (by decide +kernel) rfl
theorem wd_423 : Cond.instanceMethod yX7_feed ∈ GW := wdg (i := 839) (by decide +kernel) rfl
theorem wd_424 : Cond.selects RX7 yX7_feed yX7_feed ∈ GW := wdg (i := 840) (by decide +kernel) rfl
theorem wd_425 : Cond.code yX7_feed cX7_feed 5 (some .int) ∈ GW := wdg (i := 841) (by decide +kernel) rfl
theorem wd_426 : Cond.constantLong RX7 69 (255) ∈ GW := wdg (i := 850) (by decide +kernel) rfl
theorem wd_427 : Cond.methodLink RL 68 yX6_text ∈ GW := wdg (i := 457) (by decide +kernel) rfl
theorem wd_428 : Cond.instanceMethod yX6_text ∈ GW := wdg (i := 458) (by decide +kernel) rfl
theorem wd_429 : Cond.selects RX6 yX6_text yX6_text ∈ GW := wdg (i := 459) (by decide +kernel) rfl
theorem wd_430 : Cond.code yX6_text cX6_text 3 (some .int) ∈ GW := wdg (i := 460) (by decide +kernel) rfl
theorem wd_431 : Cond.fieldLink RX6 157 "DirtPress$Reader" "made" "LDirtPress$Text;" ∈ GW := wdg (i := 203) (by decide +kernel) rfl
theorem wd_432 : Cond.methodLink RX6 146 yX6_notUse ∈ GW := wdg (i := 461) (by decide +kernel) rfl
theorem wd_433 : Cond.static yX6_notUse ∈ GW := wdg (i := 462) (by decide +kernel) rfl
theorem wd_434 : Cond.code yX6_notUse cX6_notUse 1 (some .boolean) ∈ GW := wdg (i := 463) (by decide +kernel) rfl
theorem wd_435 : Cond.methodLink RX6 149 yX0_faultOf ∈ GW := wdg (i := 464) (by decide +kernel) rfl
theorem wd_436 : Cond.instanceMethod yX0_faultOf ∈ GW := wdg (i := 465) (by decide +kernel) rfl
theorem wd_437 : Cond.selects RX0 yX0_faultOf yX0_faultOf ∈ GW := wdg (i := 466) (by decide +kernel) rfl
theorem wd_438 : Cond.code yX0_faultOf cX0_faultOf 3 (some .int) ∈ GW := wdg (i := 467) (by decide +kernel) rfl
theorem wd_439 : Cond.fieldLink RX0 22 "DirtPress$World" "tape" "[I" ∈ GW := wdg (i := 130) (by decide +kernel) rfl
theorem wd_440 : Cond.methodLink RX0 25 arraycopyName ∈ GW := wdg (i := 468) (by decide +kernel) rfl
theorem wd_441 : Cond.native arraycopyName ∈ GW := wdg (i := 470) (by decide +kernel) rfl
theorem wd_442 : Cond.static arraycopyName ∈ GW := wdg (i := 469) (by decide +kernel) rfl
theorem wd_443 : Cond.initialized "java/lang/System" ∈ GW := wdg (i := 76) (by decide +kernel) rfl
theorem wd_444 : Cond.fieldLink RX0 31 "DirtPress$World" "bytes" "I" ∈ GW := wdg (i := 132) (by decide +kernel) rfl
theorem wd_445 : Cond.fieldLink RX0 35 "DirtPress$Reader" "bytes" "I" ∈ GW := wdg (i := 205) (by decide +kernel) rfl
theorem wd_446 : Cond.fieldLink RX0 36 "DirtPress$Reader" "use" "I" ∈ GW := wdg (i := 207) (by decide +kernel) rfl
theorem wd_447 : Cond.fieldLink RX0 39 "DirtPress$Reader" "place" "I" ∈ GW := wdg (i := 206) (by decide +kernel) rfl
theorem wd_448 : Cond.fieldLink RX0 42 "DirtPress$Reader" "failed" "Z" ∈ GW := wdg (i := 208) (by decide +kernel) rfl
theorem wd_449 : Cond.methodLink RX0 46 yX3_clear ∈ GW := wdg (i := 471) (by decide +kernel) rfl
theorem wd_450 : Cond.instanceMethod yX3_clear ∈ GW := wdg (i := 472) (by decide +kernel) rfl
theorem wd_451 : Cond.selects RX3 yX3_clear yX3_clear ∈ GW := wdg (i := 473) (by decide +kernel) rfl
theorem wd_452 : Cond.code yX3_clear cX3_clear 1 none ∈ GW := wdg (i := 474) (by decide +kernel) rfl
theorem wd_453 : Cond.methodLink RX0 49 yX0_readChain ∈ GW := wdg (i := 475) (by decide +kernel) rfl
theorem wd_454 : Cond.instanceMethod yX0_readChain ∈ GW := wdg (i := 477) (by decide +kernel) rfl
theorem wd_455 : Cond.selects RX0 yX0_readChain yX0_readChain ∈ GW := wdg (i := 3) (by decide +kernel) rfl
theorem wd_456 : Cond.code yX0_readChain cX0_readChain 4 none ∈ GW := wdg (i := 478) (by decide +kernel) rfl
theorem wd_457 : Cond.methodLink RX0 53 yX0_readUnit ∈ GW := wdg (i := 479) (by decide +kernel) rfl
theorem wd_458 : Cond.instanceMethod yX0_readUnit ∈ GW := wdg (i := 481) (by decide +kernel) rfl
theorem wd_459 : Cond.selects RX0 yX0_readUnit yX0_readUnit ∈ GW := wdg (i := 4) (by decide +kernel) rfl
theorem wd_460 : Cond.methodLink RX0 57 yX0_levelOf ∈ GW := wdg (i := 504) (by decide +kernel) rfl
theorem wd_461 : Cond.static yX0_levelOf ∈ GW := wdg (i := 505) (by decide +kernel) rfl
theorem wd_462 : Cond.code yX0_levelOf cX0_levelOf 1 (some .int) ∈ GW := wdg (i := 506) (by decide +kernel) rfl
theorem wd_463 : Cond.methodLink RX0 61 yX3_add ∈ GW := wdg (i := 496) (by decide +kernel) rfl
theorem wd_464 : Cond.instanceMethod yX3_add ∈ GW := wdg (i := 497) (by decide +kernel) rfl
theorem wd_465 : Cond.selects RX3 yX3_add yX3_add ∈ GW := wdg (i := 498) (by decide +kernel) rfl
theorem wd_466 : Cond.code yX3_add cX3_add 2 none ∈ GW := wdg (i := 499) (by decide +kernel) rfl
theorem wd_467 : Cond.code yX0_readUnit cX0_readUnit 4 none ∈ GW := wdg (i := 482) (by decide +kernel) rfl
theorem wd_468 : Cond.methodLink RX0 64 yX0_nameOf ∈ GW := wdg (i := 483) (by decide +kernel) rfl
theorem wd_469 : Cond.instanceMethod yX0_nameOf ∈ GW := wdg (i := 485) (by decide +kernel) rfl
theorem wd_470 : Cond.selects RX0 yX0_nameOf yX0_nameOf ∈ GW := wdg (i := 5) (by decide +kernel) rfl
theorem wd_471 : Cond.code yX0_nameOf cX0_nameOf 3 (some .int) ∈ GW := wdg (i := 486) (by decide +kernel) rfl
theorem wd_472 : Cond.methodLink RX0 67 yX0_isDigit ∈ GW := wdg (i := 489) (by decide +kernel) rfl
theorem wd_473 : Cond.static yX0_isDigit ∈ GW := wdg (i := 490) (by decide +kernel) rfl
theorem wd_474 : Cond.code yX0_isDigit cX0_isDigit 1 (some .boolean) ∈ GW := wdg (i := 491) (by decide +kernel) rfl
theorem wd_475 : Cond.methodLink RX0 71 yX0_readNumber ∈ GW := wdg (i := 492) (by decide +kernel) rfl
theorem wd_476 : Cond.instanceMethod yX0_readNumber ∈ GW := wdg (i := 494) (by decide +kernel) rfl
theorem wd_477 : Cond.selects RX0 yX0_readNumber yX0_readNumber ∈ GW := wdg (i := 6) (by decide +kernel) rfl
theorem wd_478 : Cond.code yX0_readNumber cX0_readNumber 3 none ∈ GW := wdg (i := 495) (by decide +kernel) rfl
theorem wd_479 : Cond.methodLink RX0 74 yX0_readClosing ∈ GW := wdg (i := 500) (by decide +kernel) rfl
theorem wd_480 : Cond.instanceMethod yX0_readClosing ∈ GW := wdg (i := 502) (by decide +kernel) rfl
theorem wd_481 : Cond.selects RX0 yX0_readClosing yX0_readClosing ∈ GW := wdg (i := 7) (by decide +kernel) rfl
theorem wd_482 : Cond.code yX0_readClosing cX0_readClosing 1 none ∈ GW := wdg (i := 503) (by decide +kernel) rfl
theorem wd_483 : Cond.methodLink RX6 153 yX5_textOf ∈ GW := wdg (i := 507) (by decide +kernel) rfl
theorem wd_484 : Cond.methodLink RX6 161 yX3_copyFrom ∈ GW := wdg (i := 508) (by decide +kernel) rfl
theorem wd_485 : Cond.instanceMethod yX3_copyFrom ∈ GW := wdg (i := 509) (by decide +kernel) rfl
theorem wd_486 : Cond.selects RX3 yX3_copyFrom yX3_copyFrom ∈ GW := wdg (i := 510) (by decide +kernel) rfl
theorem wd_487 : Cond.code yX3_copyFrom cX3_copyFrom 2 none ∈ GW := wdg (i := 511) (by decide +kernel) rfl
theorem wd_488 : Cond.methodLink RX3 22 arraycopyName ∈ GW := wdg (i := 512) (by decide +kernel) rfl
theorem wd_489 : Cond.methodLink RL 71 yX7_text ∈ GW := wdg (i := 851) (by decide +kernel) rfl
theorem wd_490 : Cond.instanceMethod yX7_text ∈ GW := wdg (i := 852) (by decide +kernel) rfl
theorem wd_491 : Cond.selects RX7 yX7_text yX7_text ∈ GW := wdg (i := 853) (by decide +kernel) rfl
theorem wd_492 : Cond.code yX7_text cX7_text 5 (some .int) ∈ GW := wdg (i := 854) (by decide +kernel) rfl
theorem wd_493 : Cond.fieldLink RX7 75 "DirtPressModel" "use" "I" ∈ GW := wdg (i := 779) (by decide +kernel) rfl
theorem wd_494 : Cond.fieldLink RX7 71 "DirtPressModel" "at" "I" ∈ GW := wdg (i := 776) (by decide +kernel) rfl
theorem wd_495 : Cond.fieldLink RX7 105 "DirtPressModel" "open" "I" ∈ GW := wdg (i := 777) (by decide +kernel) rfl
theorem wd_496 : Cond.fieldLink RX7 78 "DirtPressModel" "steps" "I" ∈ GW := wdg (i := 778) (by decide +kernel) rfl
theorem wd_497 : Cond.methodLink RX7 115 yX7_whole ∈ GW := wdg (i := 855) (by decide +kernel) rfl
theorem wd_498 : Cond.instanceMethod yX7_whole ∈ GW := wdg (i := 857) (by decide +kernel) rfl
theorem wd_499 : Cond.selects RX7 yX7_whole yX7_whole ∈ GW := wdg (i := 15) (by decide +kernel) rfl
theorem wd_500 : Cond.code yX7_whole cX7_whole 1 (some .boolean) ∈ GW := wdg (i := 858) (by decide +kernel) rfl
theorem wd_501 : Cond.methodLink RX7 81 yX7_both ∈ GW := wdg (i := 859) (by decide +kernel) rfl
theorem wd_502 : Cond.instanceMethod yX7_both ∈ GW := wdg (i := 861) (by decide +kernel) rfl
theorem wd_503 : Cond.selects RX7 yX7_both yX7_both ∈ GW := wdg (i := 16) (by decide +kernel) rfl
theorem wd_504 : Cond.methodLink RX7 85 yX7_look ∈ GW := wdg (i := 879) (by decide +kernel) rfl
theorem wd_505 : Cond.instanceMethod yX7_look ∈ GW := wdg (i := 881) (by decide +kernel) rfl
theorem wd_506 : Cond.selects RX7 yX7_look yX7_look ∈ GW := wdg (i := 21) (by decide +kernel) rfl
theorem wd_507 : Cond.code yX7_look cX7_look 1 (some .int) ∈ GW := wdg (i := 882) (by decide +kernel) rfl
theorem wd_508 : Cond.methodLink RX7 89 yX7_step1 ∈ GW := wdg (i := 887) (by decide +kernel) rfl
theorem wd_509 : Cond.instanceMethod yX7_step1 ∈ GW := wdg (i := 889) (by decide +kernel) rfl
theorem wd_510 : Cond.selects RX7 yX7_step1 yX7_step1 ∈ GW := wdg (i := 23) (by decide +kernel) rfl
theorem wd_511 : Cond.code yX7_step1 cX7_step1 3 none ∈ GW := wdg (i := 890) (by decide +kernel) rfl
theorem wd_512 : Cond.code yX7_both cX7_both 1 (some .boolean) ∈ GW := wdg (i := 862) (by decide +kernel) rfl
theorem wd_513 : Cond.methodLink RX7 93 yX7_compared ∈ GW := wdg (i := 863) (by decide +kernel) rfl
theorem wd_514 : Cond.instanceMethod yX7_compared ∈ GW := wdg (i := 865) (by decide +kernel) rfl
theorem wd_515 : Cond.selects RX7 yX7_compared yX7_compared ∈ GW := wdg (i := 17) (by decide +kernel) rfl
theorem wd_516 : Cond.code yX7_compared cX7_compared 2 (some .boolean) ∈ GW := wdg (i := 866) (by decide +kernel) rfl
theorem wd_517 : Cond.methodLink RX7 96 yX7_sum ∈ GW := wdg (i := 867) (by decide +kernel) rfl
theorem wd_518 : Cond.instanceMethod yX7_sum ∈ GW := wdg (i := 869) (by decide +kernel) rfl
theorem wd_519 : Cond.selects RX7 yX7_sum yX7_sum ∈ GW := wdg (i := 18) (by decide +kernel) rfl
theorem wd_520 : Cond.code yX7_one cX7_one 4 (some .boolean) ∈ GW := wdg (i := 878) (by decide +kernel) rfl
theorem wd_521 : Cond.methodLink RX7 108 yX7_isName ∈ GW := wdg (i := 883) (by decide +kernel) rfl
theorem wd_522 : Cond.instanceMethod yX7_isName ∈ GW := wdg (i := 885) (by decide +kernel) rfl
theorem wd_523 : Cond.selects RX7 yX7_isName yX7_isName ∈ GW := wdg (i := 22) (by decide +kernel) rfl
theorem wd_524 : Cond.code yX7_isName cX7_isName 2 (some .boolean) ∈ GW := wdg (i := 886) (by decide +kernel) rfl
theorem wd_525 : Cond.methodLink RX7 112 yX7_opens ∈ GW := wdg (i := 891) (by decide +kernel) rfl
theorem wd_526 : Cond.instanceMethod yX7_opens ∈ GW := wdg (i := 893) (by decide +kernel) rfl
theorem wd_527 : Cond.selects RX7 yX7_opens yX7_opens ∈ GW := wdg (i := 24) (by decide +kernel) rfl
theorem wd_528 : Cond.code yX7_opens cX7_opens 1 (some .boolean) ∈ GW := wdg (i := 894) (by decide +kernel) rfl
theorem wd_529 : Cond.methodLink RX7 102 yX7_one ∈ GW := wdg (i := 875) (by decide +kernel) rfl
theorem wd_530 : Cond.instanceMethod yX7_one ∈ GW := wdg (i := 877) (by decide +kernel) rfl
theorem wd_531 : Cond.selects RX7 yX7_one yX7_one ∈ GW := wdg (i := 20) (by decide +kernel) rfl
theorem wd_532 : Cond.code yX7_product cX7_product 2 (some .boolean) ∈ GW := wdg (i := 874) (by decide +kernel) rfl
theorem wd_533 : Cond.code yX7_sum cX7_sum 2 (some .boolean) ∈ GW := wdg (i := 870) (by decide +kernel) rfl
theorem wd_534 : Cond.methodLink RX7 99 yX7_product ∈ GW := wdg (i := 871) (by decide +kernel) rfl
theorem wd_535 : Cond.instanceMethod yX7_product ∈ GW := wdg (i := 873) (by decide +kernel) rfl
theorem wd_536 : Cond.selects RX7 yX7_product yX7_product ∈ GW := wdg (i := 19) (by decide +kernel) rfl
theorem wd_537 : Cond.methodLink RL 72 yX6_untell ∈ GW := wdg (i := 513) (by decide +kernel) rfl
theorem wd_538 : Cond.instanceMethod yX6_untell ∈ GW := wdg (i := 514) (by decide +kernel) rfl
theorem wd_539 : Cond.selects RX6 yX6_untell yX6_untell ∈ GW := wdg (i := 515) (by decide +kernel) rfl
theorem wd_540 : Cond.code yX6_untell cX6_untell 4 (some .int) ∈ GW := wdg (i := 516) (by decide +kernel) rfl
theorem wd_541 : Cond.methodLink RX6 167 yX3_stands ∈ GW := wdg (i := 517) (by decide +kernel) rfl
theorem wd_542 : Cond.methodLink RX6 171 yX6_truth ∈ GW := wdg (i := 518) (by decide +kernel) rfl
theorem wd_543 : Cond.methodLink RX6 175 yX3_clear ∈ GW := wdg (i := 519) (by decide +kernel) rfl
theorem wd_544 : Cond.methodLink RL 75 yX7_untell ∈ GW := wdg (i := 895) (by decide +kernel) rfl
theorem wd_545 : Cond.instanceMethod yX7_untell ∈ GW := wdg (i := 896) (by decide +kernel) rfl
theorem wd_546 : Cond.selects RX7 yX7_untell yX7_untell ∈ GW := wdg (i := 897) (by decide +kernel) rfl
theorem wd_547 : Cond.code yX7_untell cX7_untell 3 (some .int) ∈ GW := wdg (i := 898) (by decide +kernel) rfl
theorem wd_548 : Cond.methodLink RL 76 yX6_law ∈ GW := wdg (i := 520) (by decide +kernel) rfl
theorem wd_549 : Cond.instanceMethod yX6_law ∈ GW := wdg (i := 521) (by decide +kernel) rfl
theorem wd_550 : Cond.selects RX6 yX6_law yX6_law ∈ GW := wdg (i := 522) (by decide +kernel) rfl
theorem wd_551 : Cond.code yX6_law cX6_law 5 (some .int) ∈ GW := wdg (i := 523) (by decide +kernel) rfl
theorem wd_552 : Cond.methodLink RX6 178 yX5_given ∈ GW := wdg (i := 524) (by decide +kernel) rfl
theorem wd_553 : Cond.methodLink RL 79 yX7_law ∈ GW := wdg (i := 1042) (by decide +kernel) rfl
theorem wd_554 : Cond.instanceMethod yX7_law ∈ GW := wdg (i := 1043) (by decide +kernel) rfl
theorem wd_555 : Cond.selects RX7 yX7_law yX7_law ∈ GW := wdg (i := 1044) (by decide +kernel) rfl
theorem wd_556 : Cond.code yX7_law cX7_law 5 (some .int) ∈ GW := wdg (i := 1045) (by decide +kernel) rfl
theorem wd_557 : Cond.methodLink RL 80 yX6_years ∈ GW := wdg (i := 525) (by decide +kernel) rfl
theorem wd_558 : Cond.instanceMethod yX6_years ∈ GW := wdg (i := 526) (by decide +kernel) rfl
theorem wd_559 : Cond.selects RX6 yX6_years yX6_years ∈ GW := wdg (i := 527) (by decide +kernel) rfl
theorem wd_560 : Cond.code yX6_years cX6_years 3 (some .int) ∈ GW := wdg (i := 528) (by decide +kernel) rfl
theorem wd_561 : Cond.methodLink RX6 181 yX5_goBy ∈ GW := wdg (i := 529) (by decide +kernel) rfl
theorem wd_562 : Cond.instanceMethod yX5_goBy ∈ GW := wdg (i := 530) (by decide +kernel) rfl
theorem wd_563 : Cond.selects RX5 yX5_goBy yX5_goBy ∈ GW := wdg (i := 531) (by decide +kernel) rfl
theorem wd_564 : Cond.code yX5_goBy cX5_goBy 1 none ∈ GW := wdg (i := 532) (by decide +kernel) rfl
theorem wd_565 : Cond.fieldLink RX5 59 "DirtPress$World" "year" "I" ∈ GW := wdg (i := 125) (by decide +kernel) rfl
theorem wd_566 : Cond.methodLink RX5 109 yX5_grow ∈ GW := wdg (i := 533) (by decide +kernel) rfl
theorem wd_567 : Cond.instanceMethod yX5_grow ∈ GW := wdg (i := 534) (by decide +kernel) rfl
theorem wd_568 : Cond.selects RX5 yX5_grow yX5_grow ∈ GW := wdg (i := 535) (by decide +kernel) rfl
theorem wd_569 : Cond.code yX5_grow cX5_grow 7 none ∈ GW := wdg (i := 536) (by decide +kernel) rfl
theorem wd_570 : Cond.methodLink RX5 103 yX5_gainOf ∈ GW := wdg (i := 537) (by decide +kernel) rfl
theorem wd_571 : Cond.methodLink RL 83 yX7_years ∈ GW := wdg (i := 1046) (by decide +kernel) rfl
theorem wd_572 : Cond.instanceMethod yX7_years ∈ GW := wdg (i := 1047) (by decide +kernel) rfl
theorem wd_573 : Cond.selects RX7 yX7_years yX7_years ∈ GW := wdg (i := 1048) (by decide +kernel) rfl
theorem wd_574 : Cond.code yX7_years cX7_years 4 (some .int) ∈ GW := wdg (i := 1049) (by decide +kernel) rfl
theorem wd_575 : Cond.methodLink RX7 195 yX7_whyNot ∈ GW := wdg (i := 1050) (by decide +kernel) rfl
theorem wd_576 : Cond.instanceMethod yX7_whyNot ∈ GW := wdg (i := 1052) (by decide +kernel) rfl
theorem wd_577 : Cond.selects RX7 yX7_whyNot yX7_whyNot ∈ GW := wdg (i := 46) (by decide +kernel) rfl
theorem wd_578 : Cond.code yX7_whyNot cX7_whyNot 3 (some .int) ∈ GW := wdg (i := 1053) (by decide +kernel) rfl
theorem wd_579 : Cond.methodLink RX7 198 yX7_aYear ∈ GW := wdg (i := 1054) (by decide +kernel) rfl
theorem wd_580 : Cond.instanceMethod yX7_aYear ∈ GW := wdg (i := 1056) (by decide +kernel) rfl
theorem wd_581 : Cond.selects RX7 yX7_aYear yX7_aYear ∈ GW := wdg (i := 47) (by decide +kernel) rfl
theorem wd_582 : Cond.code yX7_aYear cX7_aYear 3 none ∈ GW := wdg (i := 1057) (by decide +kernel) rfl
theorem wd_583 : Cond.methodLink RL 84 yX6_loose ∈ GW := wdg (i := 538) (by decide +kernel) rfl
theorem wd_584 : Cond.instanceMethod yX6_loose ∈ GW := wdg (i := 539) (by decide +kernel) rfl
theorem wd_585 : Cond.selects RX6 yX6_loose yX6_loose ∈ GW := wdg (i := 540) (by decide +kernel) rfl
theorem wd_586 : Cond.code yX6_loose cX6_loose 4 (some .int) ∈ GW := wdg (i := 541) (by decide +kernel) rfl
theorem wd_587 : Cond.methodLink RX6 184 yX5_steal ∈ GW := wdg (i := 542) (by decide +kernel) rfl
theorem wd_588 : Cond.instanceMethod yX5_steal ∈ GW := wdg (i := 543) (by decide +kernel) rfl
theorem wd_589 : Cond.selects RX5 yX5_steal yX5_steal ∈ GW := wdg (i := 544) (by decide +kernel) rfl
theorem wd_590 : Cond.code yX5_steal cX5_steal 6 (some .int) ∈ GW := wdg (i := 545) (by decide +kernel) rfl
theorem wd_591 : Cond.methodLink RX5 118 Lib.Math.min.name ∈ GW := wdg (i := 551) (by decide +kernel) rfl
theorem wd_592 : Cond.methodLink RX5 114 yX5_draw ∈ GW := wdg (i := 546) (by decide +kernel) rfl
theorem wd_593 : Cond.instanceMethod yX5_draw ∈ GW := wdg (i := 547) (by decide +kernel) rfl
theorem wd_594 : Cond.selects RX5 yX5_draw yX5_draw ∈ GW := wdg (i := 548) (by decide +kernel) rfl
theorem wd_595 : Cond.code yX5_draw cX5_draw 1 (some .int) ∈ GW := wdg (i := 549) (by decide +kernel) rfl
theorem wd_596 : Cond.constant RX5 113 (1103515245) ∈ GW := wdg (i := 550) (by decide +kernel) rfl
theorem wd_597 : Cond.methodLink RX5 123 yX5_go ∈ GW := wdg (i := 552) (by decide +kernel) rfl
theorem wd_598 : Cond.methodLink RL 87 yX7_loose ∈ GW := wdg (i := 1058) (by decide +kernel) rfl
theorem wd_599 : Cond.instanceMethod yX7_loose ∈ GW := wdg (i := 1059) (by decide +kernel) rfl
theorem wd_600 : Cond.selects RX7 yX7_loose yX7_loose ∈ GW := wdg (i := 1060) (by decide +kernel) rfl
theorem wd_601 : Cond.code yX7_loose cX7_loose 5 (some .int) ∈ GW := wdg (i := 1061) (by decide +kernel) rfl
theorem wd_602 : Cond.methodLink RX7 204 yX7_steals ∈ GW := wdg (i := 1062) (by decide +kernel) rfl
theorem wd_603 : Cond.instanceMethod yX7_steals ∈ GW := wdg (i := 1064) (by decide +kernel) rfl
theorem wd_604 : Cond.selects RX7 yX7_steals yX7_steals ∈ GW := wdg (i := 48) (by decide +kernel) rfl
theorem wd_605 : Cond.code yX7_steals cX7_steals 6 (some .int) ∈ GW := wdg (i := 1065) (by decide +kernel) rfl
theorem wd_606 : Cond.methodLink RX7 201 yX7_draw ∈ GW := wdg (i := 1066) (by decide +kernel) rfl
theorem wd_607 : Cond.instanceMethod yX7_draw ∈ GW := wdg (i := 1068) (by decide +kernel) rfl
theorem wd_608 : Cond.selects RX7 yX7_draw yX7_draw ∈ GW := wdg (i := 49) (by decide +kernel) rfl
theorem wd_609 : Cond.code yX7_draw cX7_draw 1 (some .int) ∈ GW := wdg (i := 1069) (by decide +kernel) rfl
theorem wd_610 : Cond.constant RX7 146 (1103515245) ∈ GW := wdg (i := 1070) (by decide +kernel) rfl
theorem wd_611 : Cond.methodLink RL 88 yX6_year ∈ GW := wdg (i := 553) (by decide +kernel) rfl
theorem wd_612 : Cond.instanceMethod yX6_year ∈ GW := wdg (i := 554) (by decide +kernel) rfl
theorem wd_613 : Cond.selects RX6 yX6_year yX6_year ∈ GW := wdg (i := 555) (by decide +kernel) rfl
theorem wd_614 : Cond.code yX6_year cX6_year 3 (some .int) ∈ GW := wdg (i := 556) (by decide +kernel) rfl
theorem wd_615 : Cond.methodLink RL 91 yX7_year ∈ GW := wdg (i := 1071) (by decide +kernel) rfl
theorem wd_616 : Cond.instanceMethod yX7_year ∈ GW := wdg (i := 1072) (by decide +kernel) rfl
theorem wd_617 : Cond.selects RX7 yX7_year yX7_year ∈ GW := wdg (i := 1073) (by decide +kernel) rfl
theorem wd_618 : Cond.code yX7_year cX7_year 2 (some .int) ∈ GW := wdg (i := 1074) (by decide +kernel) rfl
theorem wd_619 : Cond.methodLink RL 92 yX6_seed ∈ GW := wdg (i := 557) (by decide +kernel) rfl
theorem wd_620 : Cond.instanceMethod yX6_seed ∈ GW := wdg (i := 558) (by decide +kernel) rfl
theorem wd_621 : Cond.selects RX6 yX6_seed yX6_seed ∈ GW := wdg (i := 559) (by decide +kernel) rfl
theorem wd_622 : Cond.code yX6_seed cX6_seed 3 (some .int) ∈ GW := wdg (i := 560) (by decide +kernel) rfl
theorem wd_623 : Cond.fieldLink RX6 188 "DirtPress$World" "z" "I" ∈ GW := wdg (i := 128) (by decide +kernel) rfl
theorem wd_624 : Cond.methodLink RL 95 yX7_seed ∈ GW := wdg (i := 1075) (by decide +kernel) rfl
theorem wd_625 : Cond.instanceMethod yX7_seed ∈ GW := wdg (i := 1076) (by decide +kernel) rfl
theorem wd_626 : Cond.selects RX7 yX7_seed yX7_seed ∈ GW := wdg (i := 1077) (by decide +kernel) rfl
theorem wd_627 : Cond.code yX7_seed cX7_seed 2 (some .int) ∈ GW := wdg (i := 1078) (by decide +kernel) rfl
theorem wd_628 : Cond.methodLink RL 96 yX6_then ∈ GW := wdg (i := 561) (by decide +kernel) rfl
theorem wd_629 : Cond.instanceMethod yX6_then ∈ GW := wdg (i := 562) (by decide +kernel) rfl
theorem wd_630 : Cond.selects RX6 yX6_then yX6_then ∈ GW := wdg (i := 563) (by decide +kernel) rfl
theorem wd_631 : Cond.code yX6_then cX6_then 4 (some .int) ∈ GW := wdg (i := 564) (by decide +kernel) rfl
theorem wd_632 : Cond.methodLink RX6 191 yX4_later ∈ GW := wdg (i := 565) (by decide +kernel) rfl
theorem wd_633 : Cond.instanceMethod yX4_later ∈ GW := wdg (i := 566) (by decide +kernel) rfl
theorem wd_634 : Cond.selects RX4 yX4_later yX4_later ∈ GW := wdg (i := 567) (by decide +kernel) rfl
theorem wd_635 : Cond.code yX4_later cX4_later 8 (some .int) ∈ GW := wdg (i := 568) (by decide +kernel) rfl
theorem wd_636 : Cond.fieldLink RX4 21 "DirtPress$World" "spoons" "[I" ∈ GW := wdg (i := 120) (by decide +kernel) rfl
theorem wd_637 : Cond.fieldLink RX4 30 "DirtPress$World" "year" "I" ∈ GW := wdg (i := 124) (by decide +kernel) rfl
theorem wd_638 : Cond.methodLink RX4 34 yX5_gainOf ∈ GW := wdg (i := 570) (by decide +kernel) rfl
theorem wd_639 : Cond.methodLink RL 99 yX7_then ∈ GW := wdg (i := 1079) (by decide +kernel) rfl
theorem wd_640 : Cond.instanceMethod yX7_then ∈ GW := wdg (i := 1080) (by decide +kernel) rfl
theorem wd_641 : Cond.selects RX7 yX7_then yX7_then ∈ GW := wdg (i := 1081) (by decide +kernel) rfl
theorem wd_642 : Cond.code yX7_then cX7_then 5 (some .int) ∈ GW := wdg (i := 1082) (by decide +kernel) rfl
theorem wd_643 : Cond.methodLink RX7 207 yX7_layDown ∈ GW := wdg (i := 1083) (by decide +kernel) rfl
theorem wd_644 : Cond.instanceMethod yX7_layDown ∈ GW := wdg (i := 1085) (by decide +kernel) rfl
theorem wd_645 : Cond.selects RX7 yX7_layDown yX7_layDown ∈ GW := wdg (i := 50) (by decide +kernel) rfl
theorem wd_646 : Cond.code yX7_layDown cX7_layDown 2 none ∈ GW := wdg (i := 1086) (by decide +kernel) rfl
theorem wd_647 : Cond.methodLink RX7 210 yX7_layBack ∈ GW := wdg (i := 1087) (by decide +kernel) rfl
theorem wd_648 : Cond.instanceMethod yX7_layBack ∈ GW := wdg (i := 1089) (by decide +kernel) rfl
theorem wd_649 : Cond.selects RX7 yX7_layBack yX7_layBack ∈ GW := wdg (i := 51) (by decide +kernel) rfl
theorem wd_650 : Cond.code yX7_layBack cX7_layBack 2 none ∈ GW := wdg (i := 1090) (by decide +kernel) rfl
theorem wd_651 : Cond.methodLink RL 100 yX6_clean ∈ GW := wdg (i := 572) (by decide +kernel) rfl
theorem wd_652 : Cond.instanceMethod yX6_clean ∈ GW := wdg (i := 573) (by decide +kernel) rfl
theorem wd_653 : Cond.selects RX6 yX6_clean yX6_clean ∈ GW := wdg (i := 574) (by decide +kernel) rfl
theorem wd_654 : Cond.code yX6_clean cX6_clean 4 (some .int) ∈ GW := wdg (i := 575) (by decide +kernel) rfl
theorem wd_655 : Cond.methodLink RX6 195 yX4_firstBelow ∈ GW := wdg (i := 576) (by decide +kernel) rfl
theorem wd_656 : Cond.instanceMethod yX4_firstBelow ∈ GW := wdg (i := 577) (by decide +kernel) rfl
theorem wd_657 : Cond.selects RX4 yX4_firstBelow yX4_firstBelow ∈ GW := wdg (i := 578) (by decide +kernel) rfl
theorem wd_658 : Cond.code yX4_firstBelow cX4_firstBelow 5 (some .int) ∈ GW := wdg (i := 579) (by decide +kernel) rfl
theorem wd_659 : Cond.methodLink RX4 42 arraycopyName ∈ GW := wdg (i := 580) (by decide +kernel) rfl
theorem wd_660 : Cond.fieldLink RX4 52 "DirtPress$World" "people" "I" ∈ GW := wdg (i := 110) (by decide +kernel) rfl
theorem wd_661 : Cond.methodLink RX4 48 yX5_grow ∈ GW := wdg (i := 581) (by decide +kernel) rfl
theorem wd_662 : Cond.methodLink RL 103 yX7_clean ∈ GW := wdg (i := 1091) (by decide +kernel) rfl
theorem wd_663 : Cond.instanceMethod yX7_clean ∈ GW := wdg (i := 1092) (by decide +kernel) rfl
theorem wd_664 : Cond.selects RX7 yX7_clean yX7_clean ∈ GW := wdg (i := 1093) (by decide +kernel) rfl
theorem wd_665 : Cond.code yX7_clean cX7_clean 5 (some .int) ∈ GW := wdg (i := 1094) (by decide +kernel) rfl
theorem wd_666 : Cond.methodLink RX7 213 yX7_whoIsClean ∈ GW := wdg (i := 1095) (by decide +kernel) rfl
theorem wd_667 : Cond.instanceMethod yX7_whoIsClean ∈ GW := wdg (i := 1097) (by decide +kernel) rfl
theorem wd_668 : Cond.selects RX7 yX7_whoIsClean yX7_whoIsClean ∈ GW := wdg (i := 52) (by decide +kernel) rfl
theorem wd_669 : Cond.code yX7_whoIsClean cX7_whoIsClean 4 (some .int) ∈ GW := wdg (i := 1098) (by decide +kernel) rfl
theorem wd_670 : Cond.methodLink RL 104 yX6_parents ∈ GW := wdg (i := 583) (by decide +kernel) rfl
theorem wd_671 : Cond.instanceMethod yX6_parents ∈ GW := wdg (i := 584) (by decide +kernel) rfl
theorem wd_672 : Cond.selects RX6 yX6_parents yX6_parents ∈ GW := wdg (i := 585) (by decide +kernel) rfl
theorem wd_673 : Cond.code yX6_parents cX6_parents 4 (some .int) ∈ GW := wdg (i := 586) (by decide +kernel) rfl
theorem wd_674 : Cond.methodLink RX6 198 yX4_pairsFor ∈ GW := wdg (i := 587) (by decide +kernel) rfl
theorem wd_675 : Cond.instanceMethod yX4_pairsFor ∈ GW := wdg (i := 588) (by decide +kernel) rfl
theorem wd_676 : Cond.selects RX4 yX4_pairsFor yX4_pairsFor ∈ GW := wdg (i := 589) (by decide +kernel) rfl
theorem wd_677 : Cond.code yX4_pairsFor cX4_pairsFor 6 (some .int) ∈ GW := wdg (i := 590) (by decide +kernel) rfl
theorem wd_678 : Cond.methodLink RX4 62 yX4_couldBear ∈ GW := wdg (i := 591) (by decide +kernel) rfl
theorem wd_679 : Cond.instanceMethod yX4_couldBear ∈ GW := wdg (i := 593) (by decide +kernel) rfl
theorem wd_680 : Cond.selects RX4 yX4_couldBear yX4_couldBear ∈ GW := wdg (i := 8) (by decide +kernel) rfl
theorem wd_681 : Cond.code yX4_couldBear cX4_couldBear 6 (some .boolean) ∈ GW := wdg (i := 594) (by decide +kernel) rfl
theorem wd_682 : Cond.methodLink RX4 59 yX5_poured ∈ GW := wdg (i := 595) (by decide +kernel) rfl
theorem wd_683 : Cond.methodLink RX6 201 yX4_firstPairFor ∈ GW := wdg (i := 597) (by decide +kernel) rfl
theorem wd_684 : Cond.instanceMethod yX4_firstPairFor ∈ GW := wdg (i := 598) (by decide +kernel) rfl
theorem wd_685 : Cond.selects RX4 yX4_firstPairFor yX4_firstPairFor ∈ GW := wdg (i := 599) (by decide +kernel) rfl
theorem wd_686 : Cond.code yX4_firstPairFor cX4_firstPairFor 5 (some .int) ∈ GW := wdg (i := 600) (by decide +kernel) rfl
theorem wd_687 : Cond.methodLink RL 107 yX7_parents ∈ GW := wdg (i := 1099) (by decide +kernel) rfl
theorem wd_688 : Cond.instanceMethod yX7_parents ∈ GW := wdg (i := 1100) (by decide +kernel) rfl
theorem wd_689 : Cond.selects RX7 yX7_parents yX7_parents ∈ GW := wdg (i := 1101) (by decide +kernel) rfl
theorem wd_690 : Cond.code yX7_parents cX7_parents 8 (some .int) ∈ GW := wdg (i := 1102) (by decide +kernel) rfl
theorem wd_691 : Cond.methodLink RX7 216 yX7_arePoured ∈ GW := wdg (i := 1103) (by decide +kernel) rfl
theorem wd_692 : Cond.instanceMethod yX7_arePoured ∈ GW := wdg (i := 1105) (by decide +kernel) rfl
theorem wd_693 : Cond.selects RX7 yX7_arePoured yX7_arePoured ∈ GW := wdg (i := 53) (by decide +kernel) rfl
theorem wd_694 : Cond.code yX7_arePoured cX7_arePoured 6 (some .boolean) ∈ GW := wdg (i := 1106) (by decide +kernel) rfl
theorem wd_695 : Cond.methodLink RL 108 yX6_falseSorts ∈ GW := wdg (i := 602) (by decide +kernel) rfl
theorem wd_696 : Cond.instanceMethod yX6_falseSorts ∈ GW := wdg (i := 603) (by decide +kernel) rfl
theorem wd_697 : Cond.selects RX6 yX6_falseSorts yX6_falseSorts ∈ GW := wdg (i := 604) (by decide +kernel) rfl
theorem wd_698 : Cond.code yX6_falseSorts cX6_falseSorts 7 (some .int) ∈ GW := wdg (i := 605) (by decide +kernel) rfl
theorem wd_699 : Cond.methodLink RL 111 yX7_falseSorts ∈ GW := wdg (i := 1107) (by decide +kernel) rfl
theorem wd_700 : Cond.instanceMethod yX7_falseSorts ∈ GW := wdg (i := 1108) (by decide +kernel) rfl
theorem wd_701 : Cond.selects RX7 yX7_falseSorts yX7_falseSorts ∈ GW := wdg (i := 1109) (by decide +kernel) rfl
theorem wd_702 : Cond.code yX7_falseSorts cX7_falseSorts 6 (some .int) ∈ GW := wdg (i := 1110) (by decide +kernel) rfl
theorem wd_703 : Cond.methodLink RL 112 yX6_kin ∈ GW := wdg (i := 606) (by decide +kernel) rfl
theorem wd_704 : Cond.instanceMethod yX6_kin ∈ GW := wdg (i := 607) (by decide +kernel) rfl
theorem wd_705 : Cond.selects RX6 yX6_kin yX6_kin ∈ GW := wdg (i := 608) (by decide +kernel) rfl
theorem wd_706 : Cond.code yX6_kin cX6_kin 3 (some .int) ∈ GW := wdg (i := 609) (by decide +kernel) rfl
theorem wd_707 : Cond.methodLink RX6 204 yX5_withForebears ∈ GW := wdg (i := 610) (by decide +kernel) rfl
theorem wd_708 : Cond.methodLink RL 115 yX7_kin ∈ GW := wdg (i := 1111) (by decide +kernel) rfl
theorem wd_709 : Cond.instanceMethod yX7_kin ∈ GW := wdg (i := 1112) (by decide +kernel) rfl
theorem wd_710 : Cond.selects RX7 yX7_kin yX7_kin ∈ GW := wdg (i := 1113) (by decide +kernel) rfl
theorem wd_711 : Cond.code yX7_kin cX7_kin 3 (some .int) ∈ GW := wdg (i := 1114) (by decide +kernel) rfl
theorem wd_712 : Cond.methodLink RL 116 yX6_nets ∈ GW := wdg (i := 611) (by decide +kernel) rfl
theorem wd_713 : Cond.instanceMethod yX6_nets ∈ GW := wdg (i := 612) (by decide +kernel) rfl
theorem wd_714 : Cond.selects RX6 yX6_nets yX6_nets ∈ GW := wdg (i := 613) (by decide +kernel) rfl
theorem wd_715 : Cond.code yX6_nets cX6_nets 4 (some .int) ∈ GW := wdg (i := 614) (by decide +kernel) rfl
theorem wd_716 : Cond.methodLink RX6 207 yX4_fewestPayments ∈ GW := wdg (i := 615) (by decide +kernel) rfl
theorem wd_717 : Cond.instanceMethod yX4_fewestPayments ∈ GW := wdg (i := 616) (by decide +kernel) rfl
theorem wd_718 : Cond.selects RX4 yX4_fewestPayments yX4_fewestPayments ∈ GW := wdg (i := 617) (by decide +kernel) rfl
theorem wd_719 : Cond.code yX4_fewestPayments cX4_fewestPayments 6 (some .int) ∈ GW := wdg (i := 618) (by decide +kernel) rfl
theorem wd_720 : Cond.methodLink RX4 80 Lib.Math.max.name ∈ GW := wdg (i := 624) (by decide +kernel) rfl
theorem wd_721 : Cond.methodLink RX4 76 yX5_balanceOf ∈ GW := wdg (i := 619) (by decide +kernel) rfl
theorem wd_722 : Cond.instanceMethod yX5_balanceOf ∈ GW := wdg (i := 620) (by decide +kernel) rfl
theorem wd_723 : Cond.selects RX5 yX5_balanceOf yX5_balanceOf ∈ GW := wdg (i := 621) (by decide +kernel) rfl
theorem wd_724 : Cond.code yX5_balanceOf cX5_balanceOf 4 (some .int) ∈ GW := wdg (i := 622) (by decide +kernel) rfl
theorem wd_725 : Cond.methodLink RX6 211 yX5_balanceOf ∈ GW := wdg (i := 625) (by decide +kernel) rfl
theorem wd_726 : Cond.methodLink RL 119 yX7_nets ∈ GW := wdg (i := 1115) (by decide +kernel) rfl
theorem wd_727 : Cond.instanceMethod yX7_nets ∈ GW := wdg (i := 1116) (by decide +kernel) rfl
theorem wd_728 : Cond.selects RX7 yX7_nets yX7_nets ∈ GW := wdg (i := 1117) (by decide +kernel) rfl
theorem wd_729 : Cond.code yX7_nets cX7_nets 4 (some .int) ∈ GW := wdg (i := 1118) (by decide +kernel) rfl
theorem wd_730 : Cond.methodLink RX7 222 yX7_fewestPayments ∈ GW := wdg (i := 1119) (by decide +kernel) rfl
theorem wd_731 : Cond.instanceMethod yX7_fewestPayments ∈ GW := wdg (i := 1121) (by decide +kernel) rfl
theorem wd_732 : Cond.selects RX7 yX7_fewestPayments yX7_fewestPayments ∈ GW := wdg (i := 54) (by decide +kernel) rfl
theorem wd_733 : Cond.code yX7_fewestPayments cX7_fewestPayments 8 (some .int) ∈ GW := wdg (i := 1122) (by decide +kernel) rfl
theorem wd_734 : Cond.methodLink RX7 219 yX7_balance ∈ GW := wdg (i := 1123) (by decide +kernel) rfl
theorem wd_735 : Cond.instanceMethod yX7_balance ∈ GW := wdg (i := 1125) (by decide +kernel) rfl
theorem wd_736 : Cond.selects RX7 yX7_balance yX7_balance ∈ GW := wdg (i := 55) (by decide +kernel) rfl
theorem wd_737 : Cond.code yX7_balance cX7_balance 4 (some .int) ∈ GW := wdg (i := 1126) (by decide +kernel) rfl
theorem wd_738 : Cond.methodLink RL 120 yX6_odds ∈ GW := wdg (i := 626) (by decide +kernel) rfl
theorem wd_739 : Cond.instanceMethod yX6_odds ∈ GW := wdg (i := 627) (by decide +kernel) rfl
theorem wd_740 : Cond.selects RX6 yX6_odds yX6_odds ∈ GW := wdg (i := 628) (by decide +kernel) rfl
theorem wd_741 : Cond.code yX6_odds cX6_odds 6 (some .int) ∈ GW := wdg (i := 629) (by decide +kernel) rfl
theorem wd_742 : Cond.methodLink RX6 219 yX4_pairsBelow ∈ GW := wdg (i := 630) (by decide +kernel) rfl
theorem wd_743 : Cond.instanceMethod yX4_pairsBelow ∈ GW := wdg (i := 631) (by decide +kernel) rfl
theorem wd_744 : Cond.selects RX4 yX4_pairsBelow yX4_pairsBelow ∈ GW := wdg (i := 632) (by decide +kernel) rfl
theorem wd_745 : Cond.code yX4_pairsBelow cX4_pairsBelow 6 (some .int) ∈ GW := wdg (i := 633) (by decide +kernel) rfl
theorem wd_746 : Cond.methodLink RX4 73 yX5_pouredTogether ∈ GW := wdg (i := 634) (by decide +kernel) rfl
theorem wd_747 : Cond.instanceMethod yX5_pouredTogether ∈ GW := wdg (i := 635) (by decide +kernel) rfl
theorem wd_748 : Cond.selects RX5 yX5_pouredTogether yX5_pouredTogether ∈ GW := wdg (i := 636) (by decide +kernel) rfl
theorem wd_749 : Cond.code yX5_pouredTogether cX5_pouredTogether 5 (some .int) ∈ GW := wdg (i := 637) (by decide +kernel) rfl
theorem wd_750 : Cond.methodLink RX6 222 yX6_commonDivisor ∈ GW := wdg (i := 638) (by decide +kernel) rfl
theorem wd_751 : Cond.static yX6_commonDivisor ∈ GW := wdg (i := 639) (by decide +kernel) rfl
theorem wd_752 : Cond.code yX6_commonDivisor cX6_commonDivisor 3 (some .int) ∈ GW := wdg (i := 640) (by decide +kernel) rfl
theorem wd_753 : Cond.methodLink RL 123 yX7_odds ∈ GW := wdg (i := 1127) (by decide +kernel) rfl
theorem wd_754 : Cond.instanceMethod yX7_odds ∈ GW := wdg (i := 1128) (by decide +kernel) rfl
theorem wd_755 : Cond.selects RX7 yX7_odds yX7_odds ∈ GW := wdg (i := 1129) (by decide +kernel) rfl
theorem wd_756 : Cond.code yX7_odds cX7_odds 7 (some .int) ∈ GW := wdg (i := 1130) (by decide +kernel) rfl
theorem wd_757 : Cond.methodLink RX7 225 yX7_pouredHeap ∈ GW := wdg (i := 1131) (by decide +kernel) rfl
theorem wd_758 : Cond.instanceMethod yX7_pouredHeap ∈ GW := wdg (i := 1133) (by decide +kernel) rfl
theorem wd_759 : Cond.selects RX7 yX7_pouredHeap yX7_pouredHeap ∈ GW := wdg (i := 56) (by decide +kernel) rfl
theorem wd_760 : Cond.code yX7_pouredHeap cX7_pouredHeap 5 (some .int) ∈ GW := wdg (i := 1134) (by decide +kernel) rfl
theorem wd_761 : Cond.methodLink RX7 228 yX7_divisor ∈ GW := wdg (i := 1135) (by decide +kernel) rfl
theorem wd_762 : Cond.static yX7_divisor ∈ GW := wdg (i := 1136) (by decide +kernel) rfl
theorem wd_763 : Cond.code yX7_divisor cX7_divisor 5 (some .int) ∈ GW := wdg (i := 1137) (by decide +kernel) rfl
theorem wd_764 : Cond.methodLink RL 124 yX6_fits ∈ GW := wdg (i := 641) (by decide +kernel) rfl
theorem wd_765 : Cond.instanceMethod yX6_fits ∈ GW := wdg (i := 642) (by decide +kernel) rfl
theorem wd_766 : Cond.selects RX6 yX6_fits yX6_fits ∈ GW := wdg (i := 643) (by decide +kernel) rfl
theorem wd_767 : Cond.code yX6_fits cX6_fits 5 (some .int) ∈ GW := wdg (i := 644) (by decide +kernel) rfl
theorem wd_768 : Cond.fieldLink RX6 231 "DirtPress$Sheet" "length" "I" ∈ GW := wdg (i := 186) (by decide +kernel) rfl
theorem wd_769 : Cond.methodLink RX6 225 yX6_notSheet ∈ GW := wdg (i := 645) (by decide +kernel) rfl
theorem wd_770 : Cond.static yX6_notSheet ∈ GW := wdg (i := 646) (by decide +kernel) rfl
theorem wd_771 : Cond.code yX6_notSheet cX6_notSheet 1 (some .boolean) ∈ GW := wdg (i := 647) (by decide +kernel) rfl
theorem wd_772 : Cond.methodLink RX6 228 yX1_missing ∈ GW := wdg (i := 648) (by decide +kernel) rfl
theorem wd_773 : Cond.instanceMethod yX1_missing ∈ GW := wdg (i := 649) (by decide +kernel) rfl
theorem wd_774 : Cond.selects RX1 yX1_missing yX1_missing ∈ GW := wdg (i := 650) (by decide +kernel) rfl
theorem wd_775 : Cond.code yX1_missing cX1_missing 1 (some .boolean) ∈ GW := wdg (i := 651) (by decide +kernel) rfl
theorem wd_776 : Cond.fieldLink RX1 15 "DirtPress$Sheet" "bits" "I" ∈ GW := wdg (i := 182) (by decide +kernel) rfl
theorem wd_777 : Cond.methodLink RX6 234 yX4_setsThatFit ∈ GW := wdg (i := 652) (by decide +kernel) rfl
theorem wd_778 : Cond.instanceMethod yX4_setsThatFit ∈ GW := wdg (i := 653) (by decide +kernel) rfl
theorem wd_779 : Cond.selects RX4 yX4_setsThatFit yX4_setsThatFit ∈ GW := wdg (i := 654) (by decide +kernel) rfl
theorem wd_780 : Cond.code yX4_setsThatFit cX4_setsThatFit 5 (some .int) ∈ GW := wdg (i := 655) (by decide +kernel) rfl
theorem wd_781 : Cond.methodLink RX4 93 yX4_fitsSet ∈ GW := wdg (i := 656) (by decide +kernel) rfl
theorem wd_782 : Cond.instanceMethod yX4_fitsSet ∈ GW := wdg (i := 658) (by decide +kernel) rfl
theorem wd_783 : Cond.selects RX4 yX4_fitsSet yX4_fitsSet ∈ GW := wdg (i := 9) (by decide +kernel) rfl
theorem wd_784 : Cond.code yX4_fitsSet cX4_fitsSet 7 (some .boolean) ∈ GW := wdg (i := 659) (by decide +kernel) rfl
theorem wd_785 : Cond.fieldLink RX4 85 "DirtPress$Sheet" "length" "I" ∈ GW := wdg (i := 185) (by decide +kernel) rfl
theorem wd_786 : Cond.fieldLink RX4 90 "DirtPress$Sheet" "numbers" "[I" ∈ GW := wdg (i := 180) (by decide +kernel) rfl
theorem wd_787 : Cond.methodLink RX6 238 yX4_leastThatFits ∈ GW := wdg (i := 660) (by decide +kernel) rfl
theorem wd_788 : Cond.instanceMethod yX4_leastThatFits ∈ GW := wdg (i := 661) (by decide +kernel) rfl
theorem wd_789 : Cond.selects RX4 yX4_leastThatFits yX4_leastThatFits ∈ GW := wdg (i := 662) (by decide +kernel) rfl
theorem wd_790 : Cond.code yX4_leastThatFits cX4_leastThatFits 4 (some .int) ∈ GW := wdg (i := 663) (by decide +kernel) rfl
theorem wd_791 : Cond.methodLink RL 127 yX7_fits ∈ GW := wdg (i := 1138) (by decide +kernel) rfl
theorem wd_792 : Cond.instanceMethod yX7_fits ∈ GW := wdg (i := 1139) (by decide +kernel) rfl
theorem wd_793 : Cond.selects RX7 yX7_fits yX7_fits ∈ GW := wdg (i := 1140) (by decide +kernel) rfl
theorem wd_794 : Cond.code yX7_fits cX7_fits 8 (some .int) ∈ GW := wdg (i := 1141) (by decide +kernel) rfl
theorem wd_795 : Cond.methodLink RX7 231 yX7_lacks ∈ GW := wdg (i := 1142) (by decide +kernel) rfl
theorem wd_796 : Cond.instanceMethod yX7_lacks ∈ GW := wdg (i := 1144) (by decide +kernel) rfl
theorem wd_797 : Cond.selects RX7 yX7_lacks yX7_lacks ∈ GW := wdg (i := 57) (by decide +kernel) rfl
theorem wd_798 : Cond.code yX7_lacks cX7_lacks 2 (some .int) ∈ GW := wdg (i := 1145) (by decide +kernel) rfl
theorem wd_799 : Cond.methodLink RX7 269 yX7_isSheet ∈ GW := wdg (i := 1146) (by decide +kernel) rfl
theorem wd_800 : Cond.static yX7_isSheet ∈ GW := wdg (i := 1147) (by decide +kernel) rfl
theorem wd_801 : Cond.code yX7_isSheet cX7_isSheet 1 (some .boolean) ∈ GW := wdg (i := 1148) (by decide +kernel) rfl
theorem wd_802 : Cond.methodLink RX7 234 yX7_haveSo ∈ GW := wdg (i := 1149) (by decide +kernel) rfl
theorem wd_803 : Cond.instanceMethod yX7_haveSo ∈ GW := wdg (i := 1151) (by decide +kernel) rfl
theorem wd_804 : Cond.selects RX7 yX7_haveSo yX7_haveSo ∈ GW := wdg (i := 58) (by decide +kernel) rfl
theorem wd_805 : Cond.code yX7_haveSo cX7_haveSo 7 (some .boolean) ∈ GW := wdg (i := 1152) (by decide +kernel) rfl
theorem wd_806 : Cond.methodLink RL 128 yX6_voice ∈ GW := wdg (i := 664) (by decide +kernel) rfl
theorem wd_807 : Cond.instanceMethod yX6_voice ∈ GW := wdg (i := 665) (by decide +kernel) rfl
theorem wd_808 : Cond.selects RX6 yX6_voice yX6_voice ∈ GW := wdg (i := 666) (by decide +kernel) rfl
theorem wd_809 : Cond.code yX6_voice cX6_voice 5 (some .int) ∈ GW := wdg (i := 667) (by decide +kernel) rfl
theorem wd_810 : Cond.fieldLink RX6 244 "DirtPress$Speech" "parted" "Z" ∈ GW := wdg (i := 249) (by decide +kernel) rfl
theorem wd_811 : Cond.methodLink RX6 241 yX2_speak ∈ GW := wdg (i := 668) (by decide +kernel) rfl
theorem wd_812 : Cond.instanceMethod yX2_speak ∈ GW := wdg (i := 669) (by decide +kernel) rfl
theorem wd_813 : Cond.selects RX2 yX2_speak yX2_speak ∈ GW := wdg (i := 670) (by decide +kernel) rfl
theorem wd_814 : Cond.code yX2_speak cX2_speak 5 (some .int) ∈ GW := wdg (i := 671) (by decide +kernel) rfl
theorem wd_815 : Cond.fieldLink RX2 15 "DirtPress$Speech" "k" "I" ∈ GW := wdg (i := 250) (by decide +kernel) rfl
theorem wd_816 : Cond.fieldLink RX2 25 "DirtPress$Speech" "m" "I" ∈ GW := wdg (i := 251) (by decide +kernel) rfl
theorem wd_817 : Cond.fieldLink RX2 31 "DirtPress$Speech" "own" "I" ∈ GW := wdg (i := 252) (by decide +kernel) rfl
theorem wd_818 : Cond.fieldLink RX2 34 "DirtPress$Speech" "begun" "I" ∈ GW := wdg (i := 246) (by decide +kernel) rfl
theorem wd_819 : Cond.fieldLink RX2 37 "DirtPress$Speech" "parted" "Z" ∈ GW := wdg (i := 248) (by decide +kernel) rfl
theorem wd_820 : Cond.methodLink RX2 19 yX5_numberOf ∈ GW := wdg (i := 672) (by decide +kernel) rfl
theorem wd_821 : Cond.methodLink RX2 28 yX5_kindOf ∈ GW := wdg (i := 673) (by decide +kernel) rfl
theorem wd_822 : Cond.methodLink RX2 41 yX2_say ∈ GW := wdg (i := 674) (by decide +kernel) rfl
theorem wd_823 : Cond.instanceMethod yX2_say ∈ GW := wdg (i := 676) (by decide +kernel) rfl
theorem wd_824 : Cond.selects RX2 yX2_say yX2_say ∈ GW := wdg (i := 10) (by decide +kernel) rfl
theorem wd_825 : Cond.code yX2_say cX2_say 7 (some .int) ∈ GW := wdg (i := 677) (by decide +kernel) rfl
theorem wd_826 : Cond.methodLink RX2 51 yX2_begin ∈ GW := wdg (i := 681) (by decide +kernel) rfl
theorem wd_827 : Cond.instanceMethod yX2_begin ∈ GW := wdg (i := 683) (by decide +kernel) rfl
theorem wd_828 : Cond.selects RX2 yX2_begin yX2_begin ∈ GW := wdg (i := 11) (by decide +kernel) rfl
theorem wd_829 : Cond.code yX2_begin cX2_begin 2 none ∈ GW := wdg (i := 684) (by decide +kernel) rfl
theorem wd_830 : Cond.methodLink RX2 55 yX2_worked ∈ GW := wdg (i := 685) (by decide +kernel) rfl
theorem wd_831 : Cond.instanceMethod yX2_worked ∈ GW := wdg (i := 687) (by decide +kernel) rfl
theorem wd_832 : Cond.selects RX2 yX2_worked yX2_worked ∈ GW := wdg (i := 12) (by decide +kernel) rfl
theorem wd_833 : Cond.code yX2_worked cX2_worked 5 (some .int) ∈ GW := wdg (i := 688) (by decide +kernel) rfl
theorem wd_834 : Cond.methodLink RX2 58 yX2_divided ∈ GW := wdg (i := 689) (by decide +kernel) rfl
theorem wd_835 : Cond.instanceMethod yX2_divided ∈ GW := wdg (i := 691) (by decide +kernel) rfl
theorem wd_836 : Cond.selects RX2 yX2_divided yX2_divided ∈ GW := wdg (i := 13) (by decide +kernel) rfl
theorem wd_837 : Cond.code yX2_divided cX2_divided 3 (some .int) ∈ GW := wdg (i := 692) (by decide +kernel) rfl
theorem wd_838 : Cond.methodLink RL 131 yX7_voice ∈ GW := wdg (i := 1153) (by decide +kernel) rfl
theorem wd_839 : Cond.instanceMethod yX7_voice ∈ GW := wdg (i := 1154) (by decide +kernel) rfl
theorem wd_840 : Cond.selects RX7 yX7_voice yX7_voice ∈ GW := wdg (i := 1155) (by decide +kernel) rfl
theorem wd_841 : Cond.code yX7_voice cX7_voice 6 (some .int) ∈ GW := wdg (i := 1156) (by decide +kernel) rfl
theorem wd_842 : Cond.fieldLink RX7 237 "DirtPressModel" "traced" "I" ∈ GW := wdg (i := 785) (by decide +kernel) rfl
theorem wd_843 : Cond.fieldLink RX7 240 "DirtPressModel" "speaks" "I" ∈ GW := wdg (i := 787) (by decide +kernel) rfl
theorem wd_844 : Cond.fieldLink RX7 262 "DirtPressModel" "isParted" "Z" ∈ GW := wdg (i := 788) (by decide +kernel) rfl
theorem wd_845 : Cond.methodLink RX7 250 yX7_kindNow ∈ GW := wdg (i := 1157) (by decide +kernel) rfl
theorem wd_846 : Cond.instanceMethod yX7_kindNow ∈ GW := wdg (i := 1159) (by decide +kernel) rfl
theorem wd_847 : Cond.selects RX7 yX7_kindNow yX7_kindNow ∈ GW := wdg (i := 59) (by decide +kernel) rfl
theorem wd_848 : Cond.code yX7_kindNow cX7_kindNow 1 (some .int) ∈ GW := wdg (i := 1160) (by decide +kernel) rfl
theorem wd_849 : Cond.methodLink RX7 247 yX7_washesAs ∈ GW := wdg (i := 1161) (by decide +kernel) rfl
theorem wd_850 : Cond.instanceMethod yX7_washesAs ∈ GW := wdg (i := 1163) (by decide +kernel) rfl
theorem wd_851 : Cond.selects RX7 yX7_washesAs yX7_washesAs ∈ GW := wdg (i := 60) (by decide +kernel) rfl
theorem wd_852 : Cond.code yX7_washesAs cX7_washesAs 3 (some .int) ∈ GW := wdg (i := 1164) (by decide +kernel) rfl
theorem wd_853 : Cond.methodLink RX7 243 yX7_starts ∈ GW := wdg (i := 1165) (by decide +kernel) rfl
theorem wd_854 : Cond.instanceMethod yX7_starts ∈ GW := wdg (i := 1167) (by decide +kernel) rfl
theorem wd_855 : Cond.selects RX7 yX7_starts yX7_starts ∈ GW := wdg (i := 61) (by decide +kernel) rfl
theorem wd_856 : Cond.code yX7_starts cX7_starts 2 none ∈ GW := wdg (i := 1168) (by decide +kernel) rfl
theorem wd_857 : Cond.methodLink RX7 253 yX7_wringsAs ∈ GW := wdg (i := 1169) (by decide +kernel) rfl
theorem wd_858 : Cond.instanceMethod yX7_wringsAs ∈ GW := wdg (i := 1171) (by decide +kernel) rfl
theorem wd_859 : Cond.selects RX7 yX7_wringsAs yX7_wringsAs ∈ GW := wdg (i := 62) (by decide +kernel) rfl
theorem wd_860 : Cond.code yX7_wringsAs cX7_wringsAs 3 (some .int) ∈ GW := wdg (i := 1172) (by decide +kernel) rfl
theorem wd_861 : Cond.methodLink RX7 256 yX7_mNow ∈ GW := wdg (i := 1173) (by decide +kernel) rfl
theorem wd_862 : Cond.instanceMethod yX7_mNow ∈ GW := wdg (i := 1175) (by decide +kernel) rfl
theorem wd_863 : Cond.selects RX7 yX7_mNow yX7_mNow ∈ GW := wdg (i := 63) (by decide +kernel) rfl
theorem wd_864 : Cond.code yX7_mNow cX7_mNow 1 (some .int) ∈ GW := wdg (i := 1176) (by decide +kernel) rfl
theorem wd_865 : Cond.methodLink RX7 259 yX7_airsAs ∈ GW := wdg (i := 1177) (by decide +kernel) rfl
theorem wd_866 : Cond.instanceMethod yX7_airsAs ∈ GW := wdg (i := 1179) (by decide +kernel) rfl
theorem wd_867 : Cond.selects RX7 yX7_airsAs yX7_airsAs ∈ GW := wdg (i := 64) (by decide +kernel) rfl
theorem wd_868 : Cond.code yX7_airsAs cX7_airsAs 3 (some .int) ∈ GW := wdg (i := 1180) (by decide +kernel) rfl
theorem wd_869 : Cond.methodLink RX7 266 yX7_partsAs ∈ GW := wdg (i := 1181) (by decide +kernel) rfl
theorem wd_870 : Cond.instanceMethod yX7_partsAs ∈ GW := wdg (i := 1183) (by decide +kernel) rfl
theorem wd_871 : Cond.selects RX7 yX7_partsAs yX7_partsAs ∈ GW := wdg (i := 65) (by decide +kernel) rfl
theorem wd_872 : Cond.code yX7_partsAs cX7_partsAs 5 (some .int) ∈ GW := wdg (i := 1184) (by decide +kernel) rfl
theorem wd_873 : Cond.methodLink RL 132 yX6_body ∈ GW := wdg (i := 693) (by decide +kernel) rfl
theorem wd_874 : Cond.instanceMethod yX6_body ∈ GW := wdg (i := 694) (by decide +kernel) rfl
theorem wd_875 : Cond.selects RX6 yX6_body yX6_body ∈ GW := wdg (i := 695) (by decide +kernel) rfl
theorem wd_876 : Cond.code yX6_body cX6_body 2 (some .int) ∈ GW := wdg (i := 696) (by decide +kernel) rfl
theorem wd_877 : Cond.fieldLink RX6 248 "DirtPress$Speech" "begun" "I" ∈ GW := wdg (i := 247) (by decide +kernel) rfl
theorem wd_878 : Cond.fieldLink RX6 251 "DirtPress$Speech" "bodies" "[I" ∈ GW := wdg (i := 245) (by decide +kernel) rfl
theorem wd_879 : Cond.methodLink RL 135 yX7_body ∈ GW := wdg (i := 1185) (by decide +kernel) rfl
theorem wd_880 : Cond.instanceMethod yX7_body ∈ GW := wdg (i := 1186) (by decide +kernel) rfl
theorem wd_881 : Cond.selects RX7 yX7_body yX7_body ∈ GW := wdg (i := 1187) (by decide +kernel) rfl
theorem wd_882 : Cond.code yX7_body cX7_body 2 (some .int) ∈ GW := wdg (i := 1188) (by decide +kernel) rfl
theorem wd_883 : Cond.methodLink RL 136 yX6_sheet ∈ GW := wdg (i := 697) (by decide +kernel) rfl
theorem wd_884 : Cond.instanceMethod yX6_sheet ∈ GW := wdg (i := 698) (by decide +kernel) rfl
theorem wd_885 : Cond.selects RX6 yX6_sheet yX6_sheet ∈ GW := wdg (i := 699) (by decide +kernel) rfl
theorem wd_886 : Cond.code yX6_sheet cX6_sheet 4 (some .int) ∈ GW := wdg (i := 700) (by decide +kernel) rfl
theorem wd_887 : Cond.methodLink RX6 254 yX1_lose ∈ GW := wdg (i := 701) (by decide +kernel) rfl
theorem wd_888 : Cond.instanceMethod yX1_lose ∈ GW := wdg (i := 702) (by decide +kernel) rfl
theorem wd_889 : Cond.selects RX1 yX1_lose yX1_lose ∈ GW := wdg (i := 703) (by decide +kernel) rfl
theorem wd_890 : Cond.code yX1_lose cX1_lose 1 none ∈ GW := wdg (i := 704) (by decide +kernel) rfl
theorem wd_891 : Cond.methodLink RX1 19 yX1_begin ∈ GW := wdg (i := 705) (by decide +kernel) rfl
theorem wd_892 : Cond.instanceMethod yX1_begin ∈ GW := wdg (i := 706) (by decide +kernel) rfl
theorem wd_893 : Cond.selects RX1 yX1_begin yX1_begin ∈ GW := wdg (i := 707) (by decide +kernel) rfl
theorem wd_894 : Cond.code yX1_begin cX1_begin 4 none ∈ GW := wdg (i := 708) (by decide +kernel) rfl
theorem wd_895 : Cond.fieldLink RX1 23 "DirtPress$Sheet" "length" "I" ∈ GW := wdg (i := 184) (by decide +kernel) rfl
theorem wd_896 : Cond.methodLink RX6 257 yX1_begin ∈ GW := wdg (i := 709) (by decide +kernel) rfl
theorem wd_897 : Cond.methodLink RL 139 yX7_sheet ∈ GW := wdg (i := 1189) (by decide +kernel) rfl
theorem wd_898 : Cond.instanceMethod yX7_sheet ∈ GW := wdg (i := 1190) (by decide +kernel) rfl
theorem wd_899 : Cond.selects RX7 yX7_sheet yX7_sheet ∈ GW := wdg (i := 1191) (by decide +kernel) rfl
theorem wd_900 : Cond.code yX7_sheet cX7_sheet 5 (some .int) ∈ GW := wdg (i := 1192) (by decide +kernel) rfl
theorem wd_901 : Cond.methodLink RL 140 yX6_put ∈ GW := wdg (i := 710) (by decide +kernel) rfl
theorem wd_902 : Cond.instanceMethod yX6_put ∈ GW := wdg (i := 711) (by decide +kernel) rfl
theorem wd_903 : Cond.selects RX6 yX6_put yX6_put ∈ GW := wdg (i := 712) (by decide +kernel) rfl
theorem wd_904 : Cond.code yX6_put cX6_put 5 (some .int) ∈ GW := wdg (i := 713) (by decide +kernel) rfl
theorem wd_905 : Cond.methodLink RX6 261 yX1_write ∈ GW := wdg (i := 714) (by decide +kernel) rfl
theorem wd_906 : Cond.instanceMethod yX1_write ∈ GW := wdg (i := 715) (by decide +kernel) rfl
theorem wd_907 : Cond.selects RX1 yX1_write yX1_write ∈ GW := wdg (i := 716) (by decide +kernel) rfl
theorem wd_908 : Cond.code yX1_write cX1_write 3 none ∈ GW := wdg (i := 717) (by decide +kernel) rfl
theorem wd_909 : Cond.methodLink RL 143 yX7_put ∈ GW := wdg (i := 1193) (by decide +kernel) rfl
theorem wd_910 : Cond.instanceMethod yX7_put ∈ GW := wdg (i := 1194) (by decide +kernel) rfl
theorem wd_911 : Cond.selects RX7 yX7_put yX7_put ∈ GW := wdg (i := 1195) (by decide +kernel) rfl
theorem wd_912 : Cond.code yX7_put cX7_put 5 (some .int) ∈ GW := wdg (i := 1196) (by decide +kernel) rfl
theorem wd_913 : Cond.methodLink RL 144 yX6_move ∈ GW := wdg (i := 718) (by decide +kernel) rfl
theorem wd_914 : Cond.instanceMethod yX6_move ∈ GW := wdg (i := 719) (by decide +kernel) rfl
theorem wd_915 : Cond.selects RX6 yX6_move yX6_move ∈ GW := wdg (i := 720) (by decide +kernel) rfl
theorem wd_916 : Cond.code yX6_move cX6_move 8 (some .int) ∈ GW := wdg (i := 721) (by decide +kernel) rfl
theorem wd_917 : Cond.fieldLink RX6 264 "DirtPress$Sheet" "bits" "I" ∈ GW := wdg (i := 183) (by decide +kernel) rfl
theorem wd_918 : Cond.fieldLink RX6 270 "DirtPress$Sheet" "numbers" "[I" ∈ GW := wdg (i := 181) (by decide +kernel) rfl
theorem wd_919 : Cond.methodLink RX6 273 arraycopyName ∈ GW := wdg (i := 726) (by decide +kernel) rfl
theorem wd_920 : Cond.methodLink RX6 267 yX1_lacks ∈ GW := wdg (i := 722) (by decide +kernel) rfl
theorem wd_921 : Cond.instanceMethod yX1_lacks ∈ GW := wdg (i := 723) (by decide +kernel) rfl
theorem wd_922 : Cond.selects RX1 yX1_lacks yX1_lacks ∈ GW := wdg (i := 724) (by decide +kernel) rfl
theorem wd_923 : Cond.code yX1_lacks cX1_lacks 3 (some .boolean) ∈ GW := wdg (i := 725) (by decide +kernel) rfl
theorem wd_924 : Cond.methodLink RL 148 yX7_move ∈ GW := wdg (i := 1197) (by decide +kernel) rfl
theorem wd_925 : Cond.instanceMethod yX7_move ∈ GW := wdg (i := 1198) (by decide +kernel) rfl
theorem wd_926 : Cond.selects RX7 yX7_move yX7_move ∈ GW := wdg (i := 1199) (by decide +kernel) rfl
theorem wd_927 : Cond.code yX7_move cX7_move 7 (some .int) ∈ GW := wdg (i := 1200) (by decide +kernel) rfl
theorem wd_928 : Cond.methodLink RL 149 yX6_spoons ∈ GW := wdg (i := 727) (by decide +kernel) rfl
theorem wd_929 : Cond.instanceMethod yX6_spoons ∈ GW := wdg (i := 728) (by decide +kernel) rfl
theorem wd_930 : Cond.selects RX6 yX6_spoons yX6_spoons ∈ GW := wdg (i := 729) (by decide +kernel) rfl
theorem wd_931 : Cond.code yX6_spoons cX6_spoons 6 (some .int) ∈ GW := wdg (i := 730) (by decide +kernel) rfl
theorem wd_932 : Cond.methodLink RL 152 yX7_spoons ∈ GW := wdg (i := 1201) (by decide +kernel) rfl
theorem wd_933 : Cond.instanceMethod yX7_spoons ∈ GW := wdg (i := 1202) (by decide +kernel) rfl
theorem wd_934 : Cond.selects RX7 yX7_spoons yX7_spoons ∈ GW := wdg (i := 1203) (by decide +kernel) rfl
theorem wd_935 : Cond.code yX7_spoons cX7_spoons 5 (some .int) ∈ GW := wdg (i := 1204) (by decide +kernel) rfl
theorem wd_936 : Cond.methodLink RL 153 yX6_judge ∈ GW := wdg (i := 731) (by decide +kernel) rfl
theorem wd_937 : Cond.instanceMethod yX6_judge ∈ GW := wdg (i := 732) (by decide +kernel) rfl
theorem wd_938 : Cond.selects RX6 yX6_judge yX6_judge ∈ GW := wdg (i := 733) (by decide +kernel) rfl
theorem wd_939 : Cond.code yX6_judge cX6_judge 5 (some .int) ∈ GW := wdg (i := 734) (by decide +kernel) rfl
theorem wd_940 : Cond.methodLink RL 156 yX7_judge ∈ GW := wdg (i := 1205) (by decide +kernel) rfl
theorem wd_941 : Cond.instanceMethod yX7_judge ∈ GW := wdg (i := 1206) (by decide +kernel) rfl
theorem wd_942 : Cond.selects RX7 yX7_judge yX7_judge ∈ GW := wdg (i := 1207) (by decide +kernel) rfl
theorem wd_943 : Cond.code yX7_judge cX7_judge 4 (some .int) ∈ GW := wdg (i := 1208) (by decide +kernel) rfl
theorem wd_944 : Cond.methodLink RL 157 yX6_image ∈ GW := wdg (i := 735) (by decide +kernel) rfl
theorem wd_945 : Cond.instanceMethod yX6_image ∈ GW := wdg (i := 736) (by decide +kernel) rfl
theorem wd_946 : Cond.selects RX6 yX6_image yX6_image ∈ GW := wdg (i := 737) (by decide +kernel) rfl
theorem wd_947 : Cond.code yX6_image cX6_image 1 (some .int) ∈ GW := wdg (i := 738) (by decide +kernel) rfl
theorem wd_948 : Cond.fieldLink RX6 285 "DirtPress" "images" "I" ∈ GW := wdg (i := 268) (by decide +kernel) rfl
theorem wd_949 : Cond.methodLink RX6 282 yX5_copyFrom ∈ GW := wdg (i := 739) (by decide +kernel) rfl
theorem wd_950 : Cond.instanceMethod yX5_copyFrom ∈ GW := wdg (i := 740) (by decide +kernel) rfl
theorem wd_951 : Cond.selects RX5 yX5_copyFrom yX5_copyFrom ∈ GW := wdg (i := 741) (by decide +kernel) rfl
theorem wd_952 : Cond.code yX5_copyFrom cX5_copyFrom 2 none ∈ GW := wdg (i := 742) (by decide +kernel) rfl
theorem wd_953 : Cond.methodLink RX5 53 arraycopyName ∈ GW := wdg (i := 743) (by decide +kernel) rfl
theorem wd_954 : Cond.fieldLink RX5 62 "DirtPress$World" "bytes" "I" ∈ GW := wdg (i := 133) (by decide +kernel) rfl
theorem wd_955 : Cond.fieldLink RX5 69 "DirtPress$World" "waits" "I" ∈ GW := wdg (i := 139) (by decide +kernel) rfl
theorem wd_956 : Cond.methodLink RX5 65 yX3_copyFrom ∈ GW := wdg (i := 744) (by decide +kernel) rfl
theorem wd_957 : Cond.methodLink RL 161 yX7_image ∈ GW := wdg (i := 1209) (by decide +kernel) rfl
theorem wd_958 : Cond.instanceMethod yX7_image ∈ GW := wdg (i := 1210) (by decide +kernel) rfl
theorem wd_959 : Cond.selects RX7 yX7_image yX7_image ∈ GW := wdg (i := 1211) (by decide +kernel) rfl
theorem wd_960 : Cond.code yX7_image cX7_image 1 (some .int) ∈ GW := wdg (i := 1212) (by decide +kernel) rfl
theorem wd_961 : Cond.fieldLink RX7 276 "DirtPressModel" "images" "I" ∈ GW := wdg (i := 774) (by decide +kernel) rfl
theorem wd_962 : Cond.methodLink RX7 272 yX7_copyAll ∈ GW := wdg (i := 1213) (by decide +kernel) rfl
theorem wd_963 : Cond.static yX7_copyAll ∈ GW := wdg (i := 1214) (by decide +kernel) rfl
theorem wd_964 : Cond.code yX7_copyAll cX7_copyAll 3 none ∈ GW := wdg (i := 1215) (by decide +kernel) rfl
theorem wd_965 : Cond.methodLink RL 162 yX6_restore ∈ GW := wdg (i := 745) (by decide +kernel) rfl
theorem wd_966 : Cond.instanceMethod yX6_restore ∈ GW := wdg (i := 746) (by decide +kernel) rfl
theorem wd_967 : Cond.selects RX6 yX6_restore yX6_restore ∈ GW := wdg (i := 747) (by decide +kernel) rfl
theorem wd_968 : Cond.code yX6_restore cX6_restore 1 (some .int) ∈ GW := wdg (i := 748) (by decide +kernel) rfl
theorem wd_969 : Cond.methodLink RL 165 yX7_restore ∈ GW := wdg (i := 1216) (by decide +kernel) rfl
theorem wd_970 : Cond.instanceMethod yX7_restore ∈ GW := wdg (i := 1217) (by decide +kernel) rfl
theorem wd_971 : Cond.selects RX7 yX7_restore yX7_restore ∈ GW := wdg (i := 1218) (by decide +kernel) rfl
theorem wd_972 : Cond.code yX7_restore cX7_restore 1 (some .int) ∈ GW := wdg (i := 1219) (by decide +kernel) rfl
theorem wd_973 : Cond.methodLink RL 166 yX6_tell ∈ GW := wdg (i := 749) (by decide +kernel) rfl
theorem wd_974 : Cond.instanceMethod yX6_tell ∈ GW := wdg (i := 750) (by decide +kernel) rfl
theorem wd_975 : Cond.selects RX6 yX6_tell yX6_tell ∈ GW := wdg (i := 751) (by decide +kernel) rfl
theorem wd_976 : Cond.code yX6_tell cX6_tell 2 (some .int) ∈ GW := wdg (i := 752) (by decide +kernel) rfl
theorem wd_977 : Cond.fieldLink RX6 288 "DirtPress$World" "waits" "I" ∈ GW := wdg (i := 140) (by decide +kernel) rfl
theorem wd_978 : Cond.fieldLink RX6 291 "DirtPress$World" "waiting" "[I" ∈ GW := wdg (i := 138) (by decide +kernel) rfl
theorem wd_979 : Cond.methodLink RL 169 yX7_tell ∈ GW := wdg (i := 1220) (by decide +kernel) rfl
theorem wd_980 : Cond.instanceMethod yX7_tell ∈ GW := wdg (i := 1221) (by decide +kernel) rfl
theorem wd_981 : Cond.selects RX7 yX7_tell yX7_tell ∈ GW := wdg (i := 1222) (by decide +kernel) rfl
theorem wd_982 : Cond.code yX7_tell cX7_tell 2 (some .int) ∈ GW := wdg (i := 1223) (by decide +kernel) rfl
theorem wd_983 : Cond.methodLink RL 170 yX6_check ∈ GW := wdg (i := 753) (by decide +kernel) rfl
theorem wd_984 : Cond.instanceMethod yX6_check ∈ GW := wdg (i := 754) (by decide +kernel) rfl
theorem wd_985 : Cond.selects RX6 yX6_check yX6_check ∈ GW := wdg (i := 755) (by decide +kernel) rfl
theorem wd_986 : Cond.code yX6_check cX6_check 3 (some .int) ∈ GW := wdg (i := 756) (by decide +kernel) rfl
theorem wd_987 : Cond.methodLink RL 173 yX7_check ∈ GW := wdg (i := 1224) (by decide +kernel) rfl
theorem wd_988 : Cond.instanceMethod yX7_check ∈ GW := wdg (i := 1225) (by decide +kernel) rfl
theorem wd_989 : Cond.selects RX7 yX7_check yX7_check ∈ GW := wdg (i := 1226) (by decide +kernel) rfl
theorem wd_990 : Cond.code yX7_check cX7_check 3 (some .int) ∈ GW := wdg (i := 1227) (by decide +kernel) rfl
theorem wd_991 : Cond.methodLink RL 174 yX6_count ∈ GW := wdg (i := 757) (by decide +kernel) rfl
theorem wd_992 : Cond.instanceMethod yX6_count ∈ GW := wdg (i := 758) (by decide +kernel) rfl
theorem wd_993 : Cond.selects RX6 yX6_count yX6_count ∈ GW := wdg (i := 759) (by decide +kernel) rfl
theorem wd_994 : Cond.code yX6_count cX6_count 2 (some .int) ∈ GW := wdg (i := 760) (by decide +kernel) rfl
theorem wd_995 : Cond.methodLink RL 177 yX7_count ∈ GW := wdg (i := 1228) (by decide +kernel) rfl
theorem wd_996 : Cond.instanceMethod yX7_count ∈ GW := wdg (i := 1229) (by decide +kernel) rfl
theorem wd_997 : Cond.selects RX7 yX7_count yX7_count ∈ GW := wdg (i := 1230) (by decide +kernel) rfl
theorem wd_998 : Cond.code yX7_count cX7_count 2 (some .int) ∈ GW := wdg (i := 1231) (by decide +kernel) rfl
theorem wd_999 : Cond.methodLink RL 178 yX6_told ∈ GW := wdg (i := 761) (by decide +kernel) rfl
theorem wd_1000 : Cond.instanceMethod yX6_told ∈ GW := wdg (i := 762) (by decide +kernel) rfl
theorem wd_1001 : Cond.selects RX6 yX6_told yX6_told ∈ GW := wdg (i := 763) (by decide +kernel) rfl
theorem wd_1002 : Cond.code yX6_told cX6_told 2 (some .int) ∈ GW := wdg (i := 764) (by decide +kernel) rfl
theorem wd_1003 : Cond.methodLink RL 181 yX7_told ∈ GW := wdg (i := 1232) (by decide +kernel) rfl
theorem wd_1004 : Cond.instanceMethod yX7_told ∈ GW := wdg (i := 1233) (by decide +kernel) rfl
theorem wd_1005 : Cond.selects RX7 yX7_told yX7_told ∈ GW := wdg (i := 1234) (by decide +kernel) rfl
theorem wd_1006 : Cond.code yX7_told cX7_told 2 (some .int) ∈ GW := wdg (i := 1235) (by decide +kernel) rfl
theorem wlX0_0 : u_lay RX0 TX0 0 ∈ GW := wdg (i := 209) (by decide +kernel) rfl
theorem wlX0_1 : u_lay RX0 TX0 1 ∈ GW := wdg (i := 211) (by decide +kernel) rfl
theorem wlX0_2 : u_lay RX0 TX0 2 ∈ GW := wdg (i := 213) (by decide +kernel) rfl
theorem wlX0_3 : u_lay RX0 TX0 3 ∈ GW := wdg (i := 215) (by decide +kernel) rfl
theorem wlX0_4 : u_lay RX0 TX0 4 ∈ GW := wdg (i := 217) (by decide +kernel) rfl
theorem wlX0_5 : u_lay RX0 TX0 5 ∈ GW := wdg (i := 219) (by decide +kernel) rfl
theorem inX0 : ∀ w ∈ wsX00, w ∈ GW := by
  intro w h
  obtain ⟨k, hk, rfl⟩ := List.mem_map.mp h
  have hk := List.mem_range.mp hk
  match k, hk with
    | 0, _ => exact wlX0_0
    | 1, _ => exact wlX0_1
    | 2, _ => exact wlX0_2
    | 3, _ => exact wlX0_3
    | 4, _ => exact wlX0_4
    | 5, _ => exact wlX0_5
    | k + 6, hk => exact absurd hk (by omega)
theorem wlX1_0 : u_lay RX1 TX1 0 ∈ GW := wdg (i := 187) (by decide +kernel) rfl
theorem wlX1_1 : u_lay RX1 TX1 1 ∈ GW := wdg (i := 189) (by decide +kernel) rfl
theorem wlX1_2 : u_lay RX1 TX1 2 ∈ GW := wdg (i := 191) (by decide +kernel) rfl
theorem inX1 : ∀ w ∈ wsX10, w ∈ GW := by
  intro w h
  obtain ⟨k, hk, rfl⟩ := List.mem_map.mp h
  have hk := List.mem_range.mp hk
  match k, hk with
    | 0, _ => exact wlX1_0
    | 1, _ => exact wlX1_1
    | 2, _ => exact wlX1_2
    | k + 3, hk => exact absurd hk (by omega)
theorem wlX2_0 : u_lay RX2 TX2 0 ∈ GW := wdg (i := 253) (by decide +kernel) rfl
theorem wlX2_1 : u_lay RX2 TX2 1 ∈ GW := wdg (i := 255) (by decide +kernel) rfl
theorem wlX2_2 : u_lay RX2 TX2 2 ∈ GW := wdg (i := 257) (by decide +kernel) rfl
theorem wlX2_3 : u_lay RX2 TX2 3 ∈ GW := wdg (i := 259) (by decide +kernel) rfl
theorem wlX2_4 : u_lay RX2 TX2 4 ∈ GW := wdg (i := 261) (by decide +kernel) rfl
theorem wlX2_5 : u_lay RX2 TX2 5 ∈ GW := wdg (i := 263) (by decide +kernel) rfl
theorem inX2 : ∀ w ∈ wsX20, w ∈ GW := by
  intro w h
  obtain ⟨k, hk, rfl⟩ := List.mem_map.mp h
  have hk := List.mem_range.mp hk
  match k, hk with
    | 0, _ => exact wlX2_0
    | 1, _ => exact wlX2_1
    | 2, _ => exact wlX2_2
    | 3, _ => exact wlX2_3
    | 4, _ => exact wlX2_4
    | 5, _ => exact wlX2_5
    | k + 6, hk => exact absurd hk (by omega)
theorem wlX3_0 : u_lay RX3 TX3 0 ∈ GW := wdg (i := 100) (by decide +kernel) rfl
theorem wlX3_1 : u_lay RX3 TX3 1 ∈ GW := wdg (i := 102) (by decide +kernel) rfl
theorem wlX3_2 : u_lay RX3 TX3 2 ∈ GW := wdg (i := 104) (by decide +kernel) rfl
theorem inX3 : ∀ w ∈ wsX30, w ∈ GW := by
  intro w h
  obtain ⟨k, hk, rfl⟩ := List.mem_map.mp h
  have hk := List.mem_range.mp hk
  match k, hk with
    | 0, _ => exact wlX3_0
    | 1, _ => exact wlX3_1
    | 2, _ => exact wlX3_2
    | k + 3, hk => exact absurd hk (by omega)
theorem wlX4_0 : u_lay RX4 TX4 0 ∈ GW := wdg (i := 231) (by decide +kernel) rfl
theorem wlX4_1 : u_lay RX4 TX4 1 ∈ GW := wdg (i := 233) (by decide +kernel) rfl
theorem wlX4_2 : u_lay RX4 TX4 2 ∈ GW := wdg (i := 235) (by decide +kernel) rfl
theorem inX4 : ∀ w ∈ wsX40, w ∈ GW := by
  intro w h
  obtain ⟨k, hk, rfl⟩ := List.mem_map.mp h
  have hk := List.mem_range.mp hk
  match k, hk with
    | 0, _ => exact wlX4_0
    | 1, _ => exact wlX4_1
    | 2, _ => exact wlX4_2
    | k + 3, hk => exact absurd hk (by omega)
theorem wlX5_0 : u_lay RX5 TX5 0 ∈ GW := wdg (i := 141) (by decide +kernel) rfl
theorem wlX5_1 : u_lay RX5 TX5 1 ∈ GW := wdg (i := 143) (by decide +kernel) rfl
theorem wlX5_2 : u_lay RX5 TX5 2 ∈ GW := wdg (i := 145) (by decide +kernel) rfl
theorem wlX5_3 : u_lay RX5 TX5 3 ∈ GW := wdg (i := 147) (by decide +kernel) rfl
theorem wlX5_4 : u_lay RX5 TX5 4 ∈ GW := wdg (i := 149) (by decide +kernel) rfl
theorem wlX5_5 : u_lay RX5 TX5 5 ∈ GW := wdg (i := 151) (by decide +kernel) rfl
theorem wlX5_6 : u_lay RX5 TX5 6 ∈ GW := wdg (i := 153) (by decide +kernel) rfl
theorem wlX5_7 : u_lay RX5 TX5 7 ∈ GW := wdg (i := 155) (by decide +kernel) rfl
theorem wlX5_8 : u_lay RX5 TX5 8 ∈ GW := wdg (i := 157) (by decide +kernel) rfl
theorem wlX5_9 : u_lay RX5 TX5 9 ∈ GW := wdg (i := 159) (by decide +kernel) rfl
theorem wlX5_10 : u_lay RX5 TX5 10 ∈ GW := wdg (i := 161) (by decide +kernel) rfl
theorem wlX5_11 : u_lay RX5 TX5 11 ∈ GW := wdg (i := 163) (by decide +kernel) rfl
theorem wlX5_12 : u_lay RX5 TX5 12 ∈ GW := wdg (i := 165) (by decide +kernel) rfl
theorem wlX5_13 : u_lay RX5 TX5 13 ∈ GW := wdg (i := 167) (by decide +kernel) rfl
theorem wlX5_14 : u_lay RX5 TX5 14 ∈ GW := wdg (i := 169) (by decide +kernel) rfl
theorem inX5 : ∀ w ∈ wsX50, w ∈ GW := by
  intro w h
  obtain ⟨k, hk, rfl⟩ := List.mem_map.mp h
  have hk := List.mem_range.mp hk
  match k, hk with
    | 0, _ => exact wlX5_0
    | 1, _ => exact wlX5_1
    | 2, _ => exact wlX5_2
    | 3, _ => exact wlX5_3
    | 4, _ => exact wlX5_4
    | 5, _ => exact wlX5_5
    | 6, _ => exact wlX5_6
    | 7, _ => exact wlX5_7
    | 8, _ => exact wlX5_8
    | 9, _ => exact wlX5_9
    | 10, _ => exact wlX5_10
    | 11, _ => exact wlX5_11
    | 12, _ => exact wlX5_12
    | 13, _ => exact wlX5_13
    | 14, _ => exact wlX5_14
    | k + 15, hk => exact absurd hk (by omega)
theorem wlX6_0 : u_lay RX6 TX6 0 ∈ GW := wdg (i := 274) (by decide +kernel) rfl
theorem wlX6_1 : u_lay RX6 TX6 1 ∈ GW := wdg (i := 276) (by decide +kernel) rfl
theorem wlX6_2 : u_lay RX6 TX6 2 ∈ GW := wdg (i := 278) (by decide +kernel) rfl
theorem wlX6_3 : u_lay RX6 TX6 3 ∈ GW := wdg (i := 280) (by decide +kernel) rfl
theorem wlX6_4 : u_lay RX6 TX6 4 ∈ GW := wdg (i := 282) (by decide +kernel) rfl
theorem wlX6_5 : u_lay RX6 TX6 5 ∈ GW := wdg (i := 284) (by decide +kernel) rfl
theorem wlX6_6 : u_lay RX6 TX6 6 ∈ GW := wdg (i := 286) (by decide +kernel) rfl
theorem wlX6_7 : u_lay RX6 TX6 7 ∈ GW := wdg (i := 288) (by decide +kernel) rfl
theorem inX6 : ∀ w ∈ wsX60, w ∈ GW := by
  intro w h
  obtain ⟨k, hk, rfl⟩ := List.mem_map.mp h
  have hk := List.mem_range.mp hk
  match k, hk with
    | 0, _ => exact wlX6_0
    | 1, _ => exact wlX6_1
    | 2, _ => exact wlX6_2
    | 3, _ => exact wlX6_3
    | 4, _ => exact wlX6_4
    | 5, _ => exact wlX6_5
    | 6, _ => exact wlX6_6
    | 7, _ => exact wlX6_7
    | k + 8, hk => exact absurd hk (by omega)
theorem wlX7_0 : u_lay RX7 TX7 0 ∈ GW := wdg (i := 793) (by decide +kernel) rfl
theorem wlX7_1 : u_lay RX7 TX7 1 ∈ GW := wdg (i := 795) (by decide +kernel) rfl
theorem wlX7_2 : u_lay RX7 TX7 2 ∈ GW := wdg (i := 797) (by decide +kernel) rfl
theorem wlX7_3 : u_lay RX7 TX7 3 ∈ GW := wdg (i := 799) (by decide +kernel) rfl
theorem wlX7_4 : u_lay RX7 TX7 4 ∈ GW := wdg (i := 801) (by decide +kernel) rfl
theorem wlX7_5 : u_lay RX7 TX7 5 ∈ GW := wdg (i := 803) (by decide +kernel) rfl
theorem wlX7_6 : u_lay RX7 TX7 6 ∈ GW := wdg (i := 805) (by decide +kernel) rfl
theorem wlX7_7 : u_lay RX7 TX7 7 ∈ GW := wdg (i := 807) (by decide +kernel) rfl
theorem wlX7_8 : u_lay RX7 TX7 8 ∈ GW := wdg (i := 809) (by decide +kernel) rfl
theorem wlX7_9 : u_lay RX7 TX7 9 ∈ GW := wdg (i := 811) (by decide +kernel) rfl
theorem wlX7_10 : u_lay RX7 TX7 10 ∈ GW := wdg (i := 813) (by decide +kernel) rfl
theorem wlX7_11 : u_lay RX7 TX7 11 ∈ GW := wdg (i := 815) (by decide +kernel) rfl
theorem wlX7_12 : u_lay RX7 TX7 12 ∈ GW := wdg (i := 817) (by decide +kernel) rfl
theorem wlX7_13 : u_lay RX7 TX7 13 ∈ GW := wdg (i := 819) (by decide +kernel) rfl
theorem wlX7_14 : u_lay RX7 TX7 14 ∈ GW := wdg (i := 821) (by decide +kernel) rfl
theorem wlX7_15 : u_lay RX7 TX7 15 ∈ GW := wdg (i := 823) (by decide +kernel) rfl
theorem wlX7_16 : u_lay RX7 TX7 16 ∈ GW := wdg (i := 825) (by decide +kernel) rfl
theorem wlX7_17 : u_lay RX7 TX7 17 ∈ GW := wdg (i := 827) (by decide +kernel) rfl
theorem wlX7_18 : u_lay RX7 TX7 18 ∈ GW := wdg (i := 829) (by decide +kernel) rfl
theorem wlX7_19 : u_lay RX7 TX7 19 ∈ GW := wdg (i := 831) (by decide +kernel) rfl
theorem wlX7_20 : u_lay RX7 TX7 20 ∈ GW := wdg (i := 833) (by decide +kernel) rfl
theorem wlX7_21 : u_lay RX7 TX7 21 ∈ GW := wdg (i := 835) (by decide +kernel) rfl
theorem inX7 : ∀ w ∈ wsX70, w ∈ GW := by
  intro w h
  obtain ⟨k, hk, rfl⟩ := List.mem_map.mp h
  have hk := List.mem_range.mp hk
  match k, hk with
    | 0, _ => exact wlX7_0
    | 1, _ => exact wlX7_1
    | 2, _ => exact wlX7_2
    | 3, _ => exact wlX7_3
    | 4, _ => exact wlX7_4
    | 5, _ => exact wlX7_5
    | 6, _ => exact wlX7_6
    | 7, _ => exact wlX7_7
    | 8, _ => exact wlX7_8
    | 9, _ => exact wlX7_9
    | 10, _ => exact wlX7_10
    | 11, _ => exact wlX7_11
    | 12, _ => exact wlX7_12
    | 13, _ => exact wlX7_13
    | 14, _ => exact wlX7_14
    | 15, _ => exact wlX7_15
    | 16, _ => exact wlX7_16
    | 17, _ => exact wlX7_17
    | 18, _ => exact wlX7_18
    | 19, _ => exact wlX7_19
    | 20, _ => exact wlX7_20
    | 21, _ => exact wlX7_21
    | k + 22, hk => exact absurd hk (by omega)
end
section
/-! MY OWN LAYER: an abstract state judgement over the kit's W. Γ holds what is fixed in a method's run; ST says: from any heap that holds the cells ws, with the locals L and the stack S at pc, the run comes to Γ's end. -/
def XT : Type := (ClassId × ClassId) × (Nat × Nat × Nat)
def XT.cI (x : XT) : ClassId := x.1.1
def XT.cS (x : XT) : ClassId := x.1.2
def XT.tA (x : XT) : Nat := x.2.1
def XT.tN (x : XT) : Nat := x.2.2.1
def XT.tB (x : XT) : Nat := x.2.2.2
def GT : Type := (Program × Launch × Env × Room × State × MethodId) × (Array Value × List Frame × Method × Code × (State → Prop) × (Nat → Prop)) × (va_G × XT × Nat)
def GT.p (g : GT) : Program := g.1.1
def GT.l (g : GT) : Launch := g.1.2.1
def GT.e (g : GT) : Env := g.1.2.2.1
def GT.R (g : GT) : Room := g.1.2.2.2.1
def GT.s (g : GT) : State := g.1.2.2.2.2.1
def GT.m (g : GT) : MethodId := g.1.2.2.2.2.2
def GT.args (g : GT) : Array Value := g.2.1.1
def GT.below (g : GT) : List Frame := g.2.1.2.1
def GT.meth (g : GT) : Method := g.2.1.2.2.1
def GT.c (g : GT) : Code := g.2.1.2.2.2.1
def GT.Q (g : GT) : State → Prop := g.2.1.2.2.2.2.1
def GT.A (g : GT) : Nat → Prop := g.2.1.2.2.2.2.2
def GT.D (g : GT) : va_G := g.2.2.1
def GT.X (g : GT) : XT := g.2.2.2.1
def GT.nL (g : GT) : Nat := g.2.2.2.2
def TY (x : XT) : List (ClassId × FieldType) := [(x.cI, .int), (x.cS, .object "DirtPress$Sheet")]
def fAb : Nat → Value := fun k => .int (([-1, 0, 0, 0, 1, 2, 0] : List Int32).getD k 0)
def fNa : Nat → Value := fun k => .int (([119, 115, 121, 118, 115, 110] : List Int32).getD k 0)
def fBo : Nat → Value := fun k => .int (([10, 11, 12, 13, 20, 0, 0, 21, 0, 30, 0, 0, 0, 0, 40, 0, 50, 0, 51, 0, 0, 60, 0, 0, 70, 71, 0, 0] : List Int32).getD k 0)
/-- the three static arrays, that nobody writes -/
def SE (x : XT) (A : Nat → Prop) (U : State) (H : Heap) : Prop :=
  (va_Z "DirtPress" "ABOVE" "[I" (.ref x.tA) A U H ∧ va_T .int x.tA 7 fAb A U H) ∧
  (va_Z "DirtPress" "NAMES" "[C" (.ref x.tN) A U H ∧ va_T .char x.tN 6 fNa A U H) ∧
  (va_Z "DirtPress" "BODIES" "[I" (.ref x.tB) A U H ∧ va_T .int x.tB 28 fBo A U H)
theorem SE.moved {x : XT} {A : Nat → Prop} {u U : State} {H : Heap} (hvm : u.vm.Alike U.vm) (h : SE x A u H) : SE x A U H :=
  ⟨⟨h.1.1.moved hvm, h.1.2.moved hvm⟩, ⟨h.2.1.1.moved hvm, h.2.1.2.moved hvm⟩, ⟨h.2.2.1.moved hvm, h.2.2.2.moved hvm⟩⟩
theorem SE.kept {x : XT} {A : Nat → Prop} {U : State} {H H1 : Heap} (h : SE x A U H) (hq : ∀ a : Nat, a < H.size → ¬ A a → H1[a]? = H[a]?) : SE x A U H1 :=
  ⟨⟨h.1.1.kept hq, h.1.2.kept hq⟩, ⟨h.2.1.1.kept hq, h.2.1.2.kept hq⟩, ⟨h.2.2.1.kept hq, h.2.2.2.kept hq⟩⟩
theorem SE.narrow {x : XT} {A B : Nat → Prop} {U : State} {H : Heap} (h : SE x A U H) (hAB : ∀ q, B q → A q) : SE x B U H :=
  ⟨⟨h.1.1.narrow hAB, h.1.2.narrow hAB⟩, ⟨h.2.1.1.narrow hAB, h.2.1.2.narrow hAB⟩, ⟨h.2.2.1.narrow hAB, h.2.2.2.narrow hAB⟩⟩
/-- the links between nest mates -/
def NWs : List (String × Nat × MethodName × String) := [("DirtPress", 11, yX5_init, "DirtPress"), ("DirtPress$World", 39, yX3_init, "DirtPress"), ("DirtPress", 29, yX1_init, "DirtPress"), ("DirtPress", 32, yX0_init, "DirtPress"), ("DirtPress$Reader", 11, yX3_init, "DirtPress"), ("DirtPress", 39, yX4_init, "DirtPress"), ("DirtPress", 46, yX2_init, "DirtPress"), ("DirtPress$World", 79, yX6_cell, "DirtPress"), ("DirtPress$Text", 32, yX6_truth, "DirtPress"), ("DirtPress$World", 106, yX6_held, "DirtPress"), ("DirtPress$Thought", 26, yX6_cell, "DirtPress"), ("DirtPress$Thought", 38, yX6_held, "DirtPress"), ("DirtPress$Thought", 55, yX6_together, "DirtPress"), ("DirtPress$Thought", 66, yX6_truth, "DirtPress"), ("DirtPress$Thought", 70, yX6_pair, "DirtPress"), ("DirtPress$World", 87, yX6_pair, "DirtPress")]
def NFs : List (String × Nat × String × String × String) := [("DirtPress$Reader", 77, "DirtPress", "NAMES", "[C"), ("DirtPress$Speech", 45, "DirtPress", "BODIES", "[I"), ("DirtPress$Speech", 48, "DirtPress", "ABOVE", "[I")]
def hNW (U : State) : Prop := (∀ q ∈ NWs, va_Nw (.methodLinkNest q.1 q.2.1 q.2.2.1 q.2.2.2) U) ∧ ∀ q ∈ NFs, va_Nw (.fieldLinkNest q.1 q.2.1 q.2.2.1 q.2.2.2.1 q.2.2.2.2 "DirtPress") U
theorem hNW.warm {s U : State} (hW : s.WarmedH U.vm) (h : hNW s) : hNW U := ⟨fun q hq => va_Nw.warmM hW (h.1 q hq), fun q hq => va_Nw.warmF hW (h.2 q hq)⟩
theorem hNW.same {s U : State} (e : s.vm = U.vm) (h : hNW s) : hNW U := ⟨fun q hq => va_Nw.same rfl e (h.1 q hq), fun q hq => va_Nw.same rfl e (h.2 q hq)⟩
def ST (g : GT) (kc ks pc : Nat) (L : List (Nat × Value)) (S : List Value) (ws : va_W) : Prop :=
  ∀ (H : Heap) (locs : List Loc) (ls : Array Slot), va_P g.D vwCl ws H → va_D g.A ws → va_S g.A g.s.heap H locs → lv_has ls g.nL L → W g.p g.l g.e g.R g.s g.m g.args g.below g.meth g.c H locs kc ks g.Q (F0 g.m pc ls S)
def GOOD (g : GT) (own : String) (cc : ByteArray) (nL : Nat) (rm : Room) : Prop :=
  (g.p.tables.exec = Jvm.exec ∧ g.c.code = cc ∧ g.c.maxLocals = nL ∧ g.nL = nL ∧ g.s.vm.findClass own = some g.m.cls) ∧
  (∀ w ∈ GW, w.before g.args g.s = true) ∧ va_K g.D vwCl (TY g.X) g.s ∧ (∀ q, g.s.heap.size ≤ q → g.A q) ∧ hNW g.s ∧ SE g.X g.A g.s g.s.heap ∧ g.R = rm ∧ g.meth.locks = false
section GD
variable {g : GT} {own : String} {cc : ByteArray} {nL : Nat} {rm : Room}
theorem GOOD.hx (G : GOOD g own cc nL rm) : g.p.tables.exec = Jvm.exec := G.1.1
theorem GOOD.hb (G : GOOD g own cc nL rm) : g.c.code = cc := G.1.2.1
theorem GOOD.hml (G : GOOD g own cc nL rm) : g.c.maxLocals = nL := G.1.2.2.1
theorem GOOD.hnL (G : GOOD g own cc nL rm) : g.nL = nL := G.1.2.2.2.1
theorem GOOD.hown (G : GOOD g own cc nL rm) : g.s.vm.findClass own = some g.m.cls := G.1.2.2.2.2
theorem GOOD.hts (G : GOOD g own cc nL rm) : ∀ w ∈ GW, w.before g.args g.s = true := G.2.1
theorem GOOD.hK (G : GOOD g own cc nL rm) : va_K g.D vwCl (TY g.X) g.s := G.2.2.1
theorem GOOD.hA (G : GOOD g own cc nL rm) : ∀ q, g.s.heap.size ≤ q → g.A q := G.2.2.2.1
theorem GOOD.hN (G : GOOD g own cc nL rm) : hNW g.s := G.2.2.2.2.1
theorem GOOD.hSE (G : GOOD g own cc nL rm) : SE g.X g.A g.s g.s.heap := G.2.2.2.2.2.1
theorem GOOD.hR (G : GOOD g own cc nL rm) : g.R = rm := G.2.2.2.2.2.2.1
theorem GOOD.hlk (G : GOOD g own cc nL rm) : g.meth.locks = false := G.2.2.2.2.2.2.2
end GD
section ROWS
variable {g : GT} {own : String} {cc : ByteArray} {nL : Nat} {rm : Room} {kc ks pc : Nat} {L L' : List (Nat × Value)} {S : List Value} {ws ws' : va_W}
theorem st_ws (e : ws = ws') (k : ST g kc ks pc L S ws') : ST g kc ks pc L S ws := e ▸ k
theorem st_S {S' : List Value} (e : S = S') (k : ST g kc ks pc L S' ws) : ST g kc ks pc L S ws := e ▸ k
theorem st_L (is : List Nat) (e : lv_pick L is = L') (k : ST g kc ks pc L' S ws) : ST g kc ks pc L S ws :=
  fun H locs ls hP hD hS hl => k H locs ls hP hD hS (lv_sub hl is e)
theorem st_perm (is : List Nat) (hn : va_nd is = true) (e : is.map (fun i => ws[i]?) = ws'.map some) (k : ST g kc ks pc L S ws') : ST g kc ks pc L S ws :=
  fun H locs ls hP hD hS hl => k H locs ls (hP.sub is (by
    have h1 : is.filterMap (fun i => ws[i]?) = (is.map (fun i => ws[i]?)).filterMap id := by rw [List.filterMap_map]; rfl
    rw [h1, e, List.filterMap_map]; simp)) (hD.sub is hn e) hS hl
theorem st_widen {kc' ks' : Nat} (h1 : kc ≤ kc') (h2 : ks ≤ ks') (k : ST g kc' ks' pc L S ws) : ST g kc ks pc L S ws :=
  fun H locs ls hP hD hS hl => W.widen h1 h2 (k H locs ls hP hD hS hl)
theorem st_topi {x : Int32} (k : ∀ y : Int32, y = x → ST g kc ks pc L (.int y :: S) ws) : ST g kc ks pc L (.int x :: S) ws := k x rfl
theorem st_topl {x : Int64} (k : ∀ y : Int64, y = x → ST g kc ks pc L (.long y :: S) ws) : ST g kc ks pc L (.long x :: S) ws := k x rfl
theorem st_iload_n (G : GOOD g own cc nL rm) (pc' : Nat) (hp : pc + 1 = pc') {j : Fin 4} {i : Nat} {x : Int32} (k : Nat) (hk : L[k]? = some (i, .int x)) (hd : decode cc pc = .ok (.iload_n j, 1)) (hi : (j : Nat) = i) (n : ST g kc ks pc' L (.int x :: S) ws) : ST g kc ks pc L S ws := by
  subst hp; exact fun H locs ls hP hD hS hl => lv_iload_n G.hx G.hb hd hi (lv_at hl k hk) (n H locs ls hP hD hS hl)
theorem st_iload (G : GOOD g own cc nL rm) (pc' : Nat) (hp : pc + 2 = pc') {i : Nat} {x : Int32} (k : Nat) (hk : L[k]? = some (i, .int x)) (hd : decode cc pc = .ok (.iload i, 2)) (n : ST g kc ks pc' L (.int x :: S) ws) : ST g kc ks pc L S ws := by
  subst hp; exact fun H locs ls hP hD hS hl => lv_iload G.hx G.hb hd (lv_at hl k hk) (n H locs ls hP hD hS hl)
theorem st_lload_n (G : GOOD g own cc nL rm) (pc' : Nat) (hp : pc + 1 = pc') {j : Fin 4} {i : Nat} {x : Int64} (k : Nat) (hk : L[k]? = some (i, .long x)) (hd : decode cc pc = .ok (.lload_n j, 1)) (hi : (j : Nat) = i) (n : ST g kc ks pc' L (.long x :: S) ws) : ST g kc ks pc L S ws := by
  subst hp; exact fun H locs ls hP hD hS hl => lv_lload_n G.hx G.hb hd hi (lv_at hl k hk) (n H locs ls hP hD hS hl)
theorem st_aload_n (G : GOOD g own cc nL rm) (pc' : Nat) (hp : pc + 1 = pc') {j : Fin 4} {i x : Nat} (k : Nat) (hk : L[k]? = some (i, .ref x)) (hd : decode cc pc = .ok (.aload_n j, 1)) (hi : (j : Nat) = i) (n : ST g kc ks pc' L (.ref x :: S) ws) : ST g kc ks pc L S ws := by
  subst hp; exact fun H locs ls hP hD hS hl => lv_aload_n G.hx G.hb hd hi (lv_at hl k hk) (n H locs ls hP hD hS hl)
theorem st_aload (G : GOOD g own cc nL rm) (pc' : Nat) (hp : pc + 2 = pc') {i x : Nat} (k : Nat) (hk : L[k]? = some (i, .ref x)) (hd : decode cc pc = .ok (.aload i, 2)) (n : ST g kc ks pc' L (.ref x :: S) ws) : ST g kc ks pc L S ws := by
  subst hp; exact fun H locs ls hP hD hS hl => lv_aload G.hx G.hb hd (lv_at hl k hk) (n H locs ls hP hD hS hl)
theorem st_iconst (G : GOOD g own cc nL rm) (pc' : Nat) (hp : pc + 1 = pc') {n : Int} (v : Int32) (hv : Int32.ofInt n = v) (hd : decode cc pc = .ok (.iconst n, 1)) (k : ST g kc ks pc' L (.int v :: S) ws) : ST g kc ks pc L S ws := by
  subst hp; exact fun H locs ls hP hD hS hl => lv_iconst G.hx G.hb hd hv (k H locs ls hP hD hS hl)
theorem st_bipush (G : GOOD g own cc nL rm) (pc' : Nat) (hp : pc + 2 = pc') {n : Int} (v : Int32) (hv : (Int8.ofInt n).toInt32 = v) (hd : decode cc pc = .ok (.bipush n, 2)) (k : ST g kc ks pc' L (.int v :: S) ws) : ST g kc ks pc L S ws := by
  subst hp; exact fun H locs ls hP hD hS hl => lv_bipush G.hx G.hb hd hv (k H locs ls hP hD hS hl)
theorem st_sipush (G : GOOD g own cc nL rm) (pc' : Nat) (hp : pc + 3 = pc') {n : Int} (v : Int32) (hv : (Int16.ofInt n).toInt32 = v) (hd : decode cc pc = .ok (.sipush n, 3)) (k : ST g kc ks pc' L (.int v :: S) ws) : ST g kc ks pc L S ws := by
  subst hp; exact fun H locs ls hP hD hS hl => lv_sipush G.hx G.hb hd hv (k H locs ls hP hD hS hl)
theorem st_ldc (G : GOOD g own cc nL rm) (pc' : Nat) (hp : pc + 2 = pc') {i : Nat} {v : Int32} (hw : Cond.constant own i v ∈ GW) (hd : decode cc pc = .ok (.ldc i, 2)) (k : ST g kc ks pc' L (.int v :: S) ws) : ST g kc ks pc L S ws := by
  subst hp; exact fun H locs ls hP hD hS hl => lv_ldc G.hx G.hb G.hown (G.hts _ hw) hd (k H locs ls hP hD hS hl)
theorem st_ldcw (G : GOOD g own cc nL rm) (pc' : Nat) (hp : pc + 3 = pc') {i : Nat} {v : Int32} (hw : Cond.constant own i v ∈ GW) (hd : decode cc pc = .ok (.ldc_w i, 3)) (k : ST g kc ks pc' L (.int v :: S) ws) : ST g kc ks pc L S ws := by
  subst hp; exact fun H locs ls hP hD hS hl => lv_ldcw G.hx G.hb G.hown (G.hts _ hw) hd (k H locs ls hP hD hS hl)
theorem st_ldc2 (G : GOOD g own cc nL rm) (pc' : Nat) (hp : pc + 3 = pc') {i : Nat} {v : Int64} (hw : Cond.constantLong own i v ∈ GW) (hd : decode cc pc = .ok (.ldc2_w i, 3)) (k : ST g kc ks pc' L (.long v :: S) ws) : ST g kc ks pc L S ws := by
  subst hp; exact fun H locs ls hP hD hS hl => lv_ldc2 G.hx G.hb G.hown (G.hts _ hw) hd (k H locs ls hP hD hS hl)
theorem st_istore_n (G : GOOD g own cc nL rm) (pc' : Nat) (hp : pc + 1 = pc') (L' : List (Nat × Value)) {j : Fin 4} {i : Nat} {x : Int32} (hd : decode cc pc = .ok (.istore_n j, 1)) (hi : (j : Nat) = i) (hn : i < nL) (hL : (i, Value.int x) :: L.filter (fun q => !(q.1 == i) && !(q.1 + 1 == i && q.2.category == 2)) = L') (n : ST g kc ks pc' L' S ws) : ST g kc ks pc L (.int x :: S) ws := by
  subst hp; exact fun H locs ls hP hD hS hl => lv_istore_n G.hx G.hb hd hi hl (by rw [G.hnL]; exact hn) hL (fun ls' hl' => n H locs ls' hP hD hS hl')
theorem st_istore (G : GOOD g own cc nL rm) (pc' : Nat) (hp : pc + 2 = pc') (L' : List (Nat × Value)) {i : Nat} {x : Int32} (hd : decode cc pc = .ok (.istore i, 2)) (hn : i < nL) (hL : (i, Value.int x) :: L.filter (fun q => !(q.1 == i) && !(q.1 + 1 == i && q.2.category == 2)) = L') (n : ST g kc ks pc' L' S ws) : ST g kc ks pc L (.int x :: S) ws := by
  subst hp; exact fun H locs ls hP hD hS hl => lv_istore G.hx G.hb hd hl (by rw [G.hnL]; exact hn) hL (fun ls' hl' => n H locs ls' hP hD hS hl')
theorem st_astore_n (G : GOOD g own cc nL rm) (pc' : Nat) (hp : pc + 1 = pc') (L' : List (Nat × Value)) {j : Fin 4} {i x : Nat} (hd : decode cc pc = .ok (.astore_n j, 1)) (hi : (j : Nat) = i) (hn : i < nL) (hL : (i, Value.ref x) :: L.filter (fun q => !(q.1 == i) && !(q.1 + 1 == i && q.2.category == 2)) = L') (n : ST g kc ks pc' L' S ws) : ST g kc ks pc L (.ref x :: S) ws := by
  subst hp; exact fun H locs ls hP hD hS hl => lv_astore_n G.hx G.hb hd hi hl (by rw [G.hnL]; exact hn) hL (fun ls' hl' => n H locs ls' hP hD hS hl')
theorem st_astore (G : GOOD g own cc nL rm) (pc' : Nat) (hp : pc + 2 = pc') (L' : List (Nat × Value)) {i x : Nat} (hd : decode cc pc = .ok (.astore i, 2)) (hn : i < nL) (hL : (i, Value.ref x) :: L.filter (fun q => !(q.1 == i) && !(q.1 + 1 == i && q.2.category == 2)) = L') (n : ST g kc ks pc' L' S ws) : ST g kc ks pc L (.ref x :: S) ws := by
  subst hp; exact fun H locs ls hP hD hS hl => lv_astore G.hx G.hb hd hl (by rw [G.hnL]; exact hn) hL (fun ls' hl' => n H locs ls' hP hD hS hl')
theorem st_iinc (G : GOOD g own cc nL rm) (pc' : Nat) (hp : pc + 3 = pc') (L' : List (Nat × Value)) {i : Nat} {n : Int} {x : Int32} (v : Int32) (k : Nat) (hk : L[k]? = some (i, .int x)) (hv : x + Int32.ofInt n = v) (hd : decode cc pc = .ok (.iinc i n, 3)) (hn : i < nL) (hL : (i, Value.int v) :: L.filter (fun q => !(q.1 == i) && !(q.1 + 1 == i && q.2.category == 2)) = L') (kk : ST g kc ks pc' L' S ws) : ST g kc ks pc L S ws := by
  subst hp; exact fun H locs ls hP hD hS hl => lv_iinc G.hx G.hb hd hl hk hv (by rw [G.hnL]; exact hn) hL (fun ls' hl' => kk H locs ls' hP hD hS hl')
theorem st_iadd (G : GOOD g own cc nL rm) (pc' : Nat) (hp : pc + 1 = pc') {x y : Int32} (hd : decode cc pc = .ok (.iadd, 1)) (k : ST g kc ks pc' L (.int (x + y) :: S) ws) : ST g kc ks pc L (.int y :: .int x :: S) ws := by
  subst hp; exact fun H locs ls hP hD hS hl => lv_iadd G.hx G.hb hd (k H locs ls hP hD hS hl)
theorem st_isub (G : GOOD g own cc nL rm) (pc' : Nat) (hp : pc + 1 = pc') {x y : Int32} (hd : decode cc pc = .ok (.isub, 1)) (k : ST g kc ks pc' L (.int (x - y) :: S) ws) : ST g kc ks pc L (.int y :: .int x :: S) ws := by
  subst hp; exact fun H locs ls hP hD hS hl => lv_isub G.hx G.hb hd (k H locs ls hP hD hS hl)
theorem st_imul (G : GOOD g own cc nL rm) (pc' : Nat) (hp : pc + 1 = pc') {x y : Int32} (hd : decode cc pc = .ok (.imul, 1)) (k : ST g kc ks pc' L (.int (x * y) :: S) ws) : ST g kc ks pc L (.int y :: .int x :: S) ws := by
  subst hp; exact fun H locs ls hP hD hS hl => lv_imul G.hx G.hb hd (k H locs ls hP hD hS hl)
theorem st_iand (G : GOOD g own cc nL rm) (pc' : Nat) (hp : pc + 1 = pc') {x y : Int32} (hd : decode cc pc = .ok (.iand, 1)) (k : ST g kc ks pc' L (.int (x &&& y) :: S) ws) : ST g kc ks pc L (.int y :: .int x :: S) ws := by
  subst hp; exact fun H locs ls hP hD hS hl => lv_iand G.hx G.hb hd (k H locs ls hP hD hS hl)
theorem st_ior (G : GOOD g own cc nL rm) (pc' : Nat) (hp : pc + 1 = pc') {x y : Int32} (hd : decode cc pc = .ok (.ior, 1)) (k : ST g kc ks pc' L (.int (x ||| y) :: S) ws) : ST g kc ks pc L (.int y :: .int x :: S) ws := by
  subst hp; exact fun H locs ls hP hD hS hl => lv_ior G.hx G.hb hd (k H locs ls hP hD hS hl)
theorem st_ixor (G : GOOD g own cc nL rm) (pc' : Nat) (hp : pc + 1 = pc') {x y : Int32} (hd : decode cc pc = .ok (.ixor, 1)) (k : ST g kc ks pc' L (.int (x ^^^ y) :: S) ws) : ST g kc ks pc L (.int y :: .int x :: S) ws := by
  subst hp; exact fun H locs ls hP hD hS hl => lv_ixor G.hx G.hb hd (k H locs ls hP hD hS hl)
theorem st_ishl (G : GOOD g own cc nL rm) (pc' : Nat) (hp : pc + 1 = pc') {x y : Int32} (hd : decode cc pc = .ok (.ishl, 1)) (k : ST g kc ks pc' L (.int (x <<< (y &&& 31)) :: S) ws) : ST g kc ks pc L (.int y :: .int x :: S) ws := by
  subst hp; exact fun H locs ls hP hD hS hl => lv_ishl G.hx G.hb hd (k H locs ls hP hD hS hl)
theorem st_ishr (G : GOOD g own cc nL rm) (pc' : Nat) (hp : pc + 1 = pc') {x y : Int32} (hd : decode cc pc = .ok (.ishr, 1)) (k : ST g kc ks pc' L (.int (x >>> (y &&& 31)) :: S) ws) : ST g kc ks pc L (.int y :: .int x :: S) ws := by
  subst hp; exact fun H locs ls hP hD hS hl => lv_ishr G.hx G.hb hd (k H locs ls hP hD hS hl)
theorem st_idiv (G : GOOD g own cc nL rm) (pc' : Nat) (hp : pc + 1 = pc') {x y : Int32} (hne : ¬ y = 0) (hd : decode cc pc = .ok (.idiv, 1)) (k : ST g kc ks pc' L (.int (x / y) :: S) ws) : ST g kc ks pc L (.int y :: .int x :: S) ws := by
  subst hp; exact fun H locs ls hP hD hS hl => lv_idiv G.hx G.hb hd hne (k H locs ls hP hD hS hl)
theorem st_irem (G : GOOD g own cc nL rm) (pc' : Nat) (hp : pc + 1 = pc') {x y : Int32} (hne : ¬ y = 0) (hd : decode cc pc = .ok (.irem, 1)) (k : ST g kc ks pc' L (.int (x - x / y * y) :: S) ws) : ST g kc ks pc L (.int y :: .int x :: S) ws := by
  subst hp; exact fun H locs ls hP hD hS hl => lv_irem G.hx G.hb hd hne (k H locs ls hP hD hS hl)
theorem st_iushr (G : GOOD g own cc nL rm) (pc' : Nat) (hp : pc + 1 = pc') {x y : Int32} (hd : decode cc pc = .ok (.iushr, 1)) (k : ST g kc ks pc' L (.int ((x.toUInt32 >>> (y.toUInt32 &&& Int32.toUInt32 31)).toInt32) :: S) ws) : ST g kc ks pc L (.int y :: .int x :: S) ws := by
  subst hp; exact fun H locs ls hP hD hS hl => lv_iushr G.hx G.hb hd rfl (k H locs ls hP hD hS hl)
theorem st_land (G : GOOD g own cc nL rm) (pc' : Nat) (hp : pc + 1 = pc') {x y : Int64} (hd : decode cc pc = .ok (.land, 1)) (k : ST g kc ks pc' L (.long (x &&& y) :: S) ws) : ST g kc ks pc L (.long y :: .long x :: S) ws := by
  subst hp; exact fun H locs ls hP hD hS hl => lv_land G.hx G.hb hd (k H locs ls hP hD hS hl)
theorem st_lor (G : GOOD g own cc nL rm) (pc' : Nat) (hp : pc + 1 = pc') {x y : Int64} (hd : decode cc pc = .ok (.lor, 1)) (k : ST g kc ks pc' L (.long (x ||| y) :: S) ws) : ST g kc ks pc L (.long y :: .long x :: S) ws := by
  subst hp; exact fun H locs ls hP hD hS hl => lv_lor G.hx G.hb hd (k H locs ls hP hD hS hl)
theorem st_lshl (G : GOOD g own cc nL rm) (pc' : Nat) (hp : pc + 1 = pc') {x : Int64} {y : Int32} (hd : decode cc pc = .ok (.lshl, 1)) (k : ST g kc ks pc' L (.long (x <<< (y.toInt64 &&& 63)) :: S) ws) : ST g kc ks pc L (.int y :: .long x :: S) ws := by
  subst hp; exact fun H locs ls hP hD hS hl => lv_lshl G.hx G.hb hd rfl (k H locs ls hP hD hS hl)
theorem st_lshr (G : GOOD g own cc nL rm) (pc' : Nat) (hp : pc + 1 = pc') {x : Int64} {y : Int32} (hd : decode cc pc = .ok (.lshr, 1)) (k : ST g kc ks pc' L (.long (x >>> (y.toInt64 &&& 63)) :: S) ws) : ST g kc ks pc L (.int y :: .long x :: S) ws := by
  subst hp; exact fun H locs ls hP hD hS hl => lv_lshr G.hx G.hb hd rfl (k H locs ls hP hD hS hl)
theorem st_lushr (G : GOOD g own cc nL rm) (pc' : Nat) (hp : pc + 1 = pc') {x : Int64} {y : Int32} (hd : decode cc pc = .ok (.lushr, 1)) (k : ST g kc ks pc' L (.long ((x.toUInt64 >>> (y.toInt64.toUInt64 &&& Int64.toUInt64 63)).toInt64) :: S) ws) : ST g kc ks pc L (.int y :: .long x :: S) ws := by
  subst hp; exact fun H locs ls hP hD hS hl => lv_lushr G.hx G.hb hd rfl (k H locs ls hP hD hS hl)
theorem st_ineg (G : GOOD g own cc nL rm) (pc' : Nat) (hp : pc + 1 = pc') {x : Int32} (hd : decode cc pc = .ok (.ineg, 1)) (k : ST g kc ks pc' L (.int (-x) :: S) ws) : ST g kc ks pc L (.int x :: S) ws := by
  subst hp; exact fun H locs ls hP hD hS hl => lv_ineg G.hx G.hb hd (k H locs ls hP hD hS hl)
theorem st_i2b (G : GOOD g own cc nL rm) (pc' : Nat) (hp : pc + 1 = pc') {x : Int32} (hd : decode cc pc = .ok (.i2b, 1)) (k : ST g kc ks pc' L (.int (x.toInt8.toInt32) :: S) ws) : ST g kc ks pc L (.int x :: S) ws := by
  subst hp; exact fun H locs ls hP hD hS hl => lv_i2b G.hx G.hb hd rfl (k H locs ls hP hD hS hl)
theorem st_i2s (G : GOOD g own cc nL rm) (pc' : Nat) (hp : pc + 1 = pc') {x : Int32} (hd : decode cc pc = .ok (.i2s, 1)) (k : ST g kc ks pc' L (.int (x.toInt16.toInt32) :: S) ws) : ST g kc ks pc L (.int x :: S) ws := by
  subst hp; exact fun H locs ls hP hD hS hl => lv_i2s G.hx G.hb hd rfl (k H locs ls hP hD hS hl)
theorem st_i2l (G : GOOD g own cc nL rm) (pc' : Nat) (hp : pc + 1 = pc') {x : Int32} (hd : decode cc pc = .ok (.i2l, 1)) (k : ST g kc ks pc' L (.long (x.toInt64) :: S) ws) : ST g kc ks pc L (.int x :: S) ws := by
  subst hp; exact fun H locs ls hP hD hS hl => lv_i2l G.hx G.hb hd rfl (k H locs ls hP hD hS hl)
theorem st_l2i (G : GOOD g own cc nL rm) (pc' : Nat) (hp : pc + 1 = pc') {x : Int64} (hd : decode cc pc = .ok (.l2i, 1)) (k : ST g kc ks pc' L (.int (x.toInt32) :: S) ws) : ST g kc ks pc L (.long x :: S) ws := by
  subst hp; exact fun H locs ls hP hD hS hl => lv_l2i G.hx G.hb hd rfl (k H locs ls hP hD hS hl)
theorem st_if_eq (G : GOOD g own cc nL rm) (tgt : Nat) (pc' : Nat) (hp : pc + 3 = pc') {x : Int32} {off : Int} (hd : decode cc pc = .ok (.ifCond .eq off, 3)) (ht : (pc : Int) + off = (tgt : Int)) (kt : x = 0 → ST g kc ks tgt L S ws) (kf : ¬ x = 0 → ST g kc ks pc' L S ws) : ST g kc ks pc L (.int x :: S) ws := by
  subst hp; exact fun H locs ls hP hD hS hl => lv_if_eq G.hx G.hb hd ht (fun c => kt c H locs ls hP hD hS hl) (fun c => kf c H locs ls hP hD hS hl)
theorem st_icmp_eq (G : GOOD g own cc nL rm) (tgt : Nat) (pc' : Nat) (hp : pc + 3 = pc') {x y : Int32} {off : Int} (hd : decode cc pc = .ok (.if_icmp .eq off, 3)) (ht : (pc : Int) + off = (tgt : Int)) (kt : x = y → ST g kc ks tgt L S ws) (kf : ¬ x = y → ST g kc ks pc' L S ws) : ST g kc ks pc L (.int y :: .int x :: S) ws := by
  subst hp; exact fun H locs ls hP hD hS hl => lv_icmp_eq G.hx G.hb hd ht (fun c => kt c H locs ls hP hD hS hl) (fun c => kf c H locs ls hP hD hS hl)
theorem st_if_ne (G : GOOD g own cc nL rm) (tgt : Nat) (pc' : Nat) (hp : pc + 3 = pc') {x : Int32} {off : Int} (hd : decode cc pc = .ok (.ifCond .ne off, 3)) (ht : (pc : Int) + off = (tgt : Int)) (kt : ¬ x = 0 → ST g kc ks tgt L S ws) (kf : x = 0 → ST g kc ks pc' L S ws) : ST g kc ks pc L (.int x :: S) ws := by
  subst hp; exact fun H locs ls hP hD hS hl => lv_if_ne G.hx G.hb hd ht (fun c => kt c H locs ls hP hD hS hl) (fun c => kf c H locs ls hP hD hS hl)
theorem st_icmp_ne (G : GOOD g own cc nL rm) (tgt : Nat) (pc' : Nat) (hp : pc + 3 = pc') {x y : Int32} {off : Int} (hd : decode cc pc = .ok (.if_icmp .ne off, 3)) (ht : (pc : Int) + off = (tgt : Int)) (kt : ¬ x = y → ST g kc ks tgt L S ws) (kf : x = y → ST g kc ks pc' L S ws) : ST g kc ks pc L (.int y :: .int x :: S) ws := by
  subst hp; exact fun H locs ls hP hD hS hl => lv_icmp_ne G.hx G.hb hd ht (fun c => kt c H locs ls hP hD hS hl) (fun c => kf c H locs ls hP hD hS hl)
theorem st_if_lt (G : GOOD g own cc nL rm) (tgt : Nat) (pc' : Nat) (hp : pc + 3 = pc') {x : Int32} {off : Int} (hd : decode cc pc = .ok (.ifCond .lt off, 3)) (ht : (pc : Int) + off = (tgt : Int)) (kt : x < 0 → ST g kc ks tgt L S ws) (kf : ¬ x < 0 → ST g kc ks pc' L S ws) : ST g kc ks pc L (.int x :: S) ws := by
  subst hp; exact fun H locs ls hP hD hS hl => lv_if_lt G.hx G.hb hd ht (fun c => kt c H locs ls hP hD hS hl) (fun c => kf c H locs ls hP hD hS hl)
theorem st_icmp_lt (G : GOOD g own cc nL rm) (tgt : Nat) (pc' : Nat) (hp : pc + 3 = pc') {x y : Int32} {off : Int} (hd : decode cc pc = .ok (.if_icmp .lt off, 3)) (ht : (pc : Int) + off = (tgt : Int)) (kt : x < y → ST g kc ks tgt L S ws) (kf : ¬ x < y → ST g kc ks pc' L S ws) : ST g kc ks pc L (.int y :: .int x :: S) ws := by
  subst hp; exact fun H locs ls hP hD hS hl => lv_icmp_lt G.hx G.hb hd ht (fun c => kt c H locs ls hP hD hS hl) (fun c => kf c H locs ls hP hD hS hl)
theorem st_if_ge (G : GOOD g own cc nL rm) (tgt : Nat) (pc' : Nat) (hp : pc + 3 = pc') {x : Int32} {off : Int} (hd : decode cc pc = .ok (.ifCond .ge off, 3)) (ht : (pc : Int) + off = (tgt : Int)) (kt : 0 ≤ x → ST g kc ks tgt L S ws) (kf : ¬ 0 ≤ x → ST g kc ks pc' L S ws) : ST g kc ks pc L (.int x :: S) ws := by
  subst hp; exact fun H locs ls hP hD hS hl => lv_if_ge G.hx G.hb hd ht (fun c => kt c H locs ls hP hD hS hl) (fun c => kf c H locs ls hP hD hS hl)
theorem st_icmp_ge (G : GOOD g own cc nL rm) (tgt : Nat) (pc' : Nat) (hp : pc + 3 = pc') {x y : Int32} {off : Int} (hd : decode cc pc = .ok (.if_icmp .ge off, 3)) (ht : (pc : Int) + off = (tgt : Int)) (kt : y ≤ x → ST g kc ks tgt L S ws) (kf : ¬ y ≤ x → ST g kc ks pc' L S ws) : ST g kc ks pc L (.int y :: .int x :: S) ws := by
  subst hp; exact fun H locs ls hP hD hS hl => lv_icmp_ge G.hx G.hb hd ht (fun c => kt c H locs ls hP hD hS hl) (fun c => kf c H locs ls hP hD hS hl)
theorem st_if_gt (G : GOOD g own cc nL rm) (tgt : Nat) (pc' : Nat) (hp : pc + 3 = pc') {x : Int32} {off : Int} (hd : decode cc pc = .ok (.ifCond .gt off, 3)) (ht : (pc : Int) + off = (tgt : Int)) (kt : 0 < x → ST g kc ks tgt L S ws) (kf : ¬ 0 < x → ST g kc ks pc' L S ws) : ST g kc ks pc L (.int x :: S) ws := by
  subst hp; exact fun H locs ls hP hD hS hl => lv_if_gt G.hx G.hb hd ht (fun c => kt c H locs ls hP hD hS hl) (fun c => kf c H locs ls hP hD hS hl)
theorem st_icmp_gt (G : GOOD g own cc nL rm) (tgt : Nat) (pc' : Nat) (hp : pc + 3 = pc') {x y : Int32} {off : Int} (hd : decode cc pc = .ok (.if_icmp .gt off, 3)) (ht : (pc : Int) + off = (tgt : Int)) (kt : y < x → ST g kc ks tgt L S ws) (kf : ¬ y < x → ST g kc ks pc' L S ws) : ST g kc ks pc L (.int y :: .int x :: S) ws := by
  subst hp; exact fun H locs ls hP hD hS hl => lv_icmp_gt G.hx G.hb hd ht (fun c => kt c H locs ls hP hD hS hl) (fun c => kf c H locs ls hP hD hS hl)
theorem st_if_le (G : GOOD g own cc nL rm) (tgt : Nat) (pc' : Nat) (hp : pc + 3 = pc') {x : Int32} {off : Int} (hd : decode cc pc = .ok (.ifCond .le off, 3)) (ht : (pc : Int) + off = (tgt : Int)) (kt : x ≤ 0 → ST g kc ks tgt L S ws) (kf : ¬ x ≤ 0 → ST g kc ks pc' L S ws) : ST g kc ks pc L (.int x :: S) ws := by
  subst hp; exact fun H locs ls hP hD hS hl => lv_if_le G.hx G.hb hd ht (fun c => kt c H locs ls hP hD hS hl) (fun c => kf c H locs ls hP hD hS hl)
theorem st_icmp_le (G : GOOD g own cc nL rm) (tgt : Nat) (pc' : Nat) (hp : pc + 3 = pc') {x y : Int32} {off : Int} (hd : decode cc pc = .ok (.if_icmp .le off, 3)) (ht : (pc : Int) + off = (tgt : Int)) (kt : x ≤ y → ST g kc ks tgt L S ws) (kf : ¬ x ≤ y → ST g kc ks pc' L S ws) : ST g kc ks pc L (.int y :: .int x :: S) ws := by
  subst hp; exact fun H locs ls hP hD hS hl => lv_icmp_le G.hx G.hb hd ht (fun c => kt c H locs ls hP hD hS hl) (fun c => kf c H locs ls hP hD hS hl)
theorem st_goto (G : GOOD g own cc nL rm) (tgt : Nat) {off : Int} (hd : decode cc pc = .ok (.goto off, 3)) (ht : (pc : Int) + off = (tgt : Int)) (n : ST g kc ks tgt L S ws) : ST g kc ks pc L S ws :=
  fun H locs ls hP hD hS hl => lv_goto G.hx G.hb hd ht (n H locs ls hP hD hS hl)
theorem st_tableIn (G : GOOD g own cc nL rm) (tgt : Nat) {dflt lo hi : Int} {offs : Array Int} {len : Nat} {x : Int32} {off : Int} (hd : decode cc pc = .ok (.tableswitch dflt lo hi offs, len)) (h1 : ¬ x.toInt < lo) (h2 : ¬ hi < x.toInt) (ho : offs[(x.toInt - lo).toNat]? = some off) (ht : (pc : Int) + off = (tgt : Int)) (n : ST g kc ks tgt L S ws) : ST g kc ks pc L (.int x :: S) ws :=
  fun H locs ls hP hD hS hl => lv_tableIn G.hx G.hb hd h1 h2 ho ht (n H locs ls hP hD hS hl)
theorem st_tableOut (G : GOOD g own cc nL rm) (tgt : Nat) {dflt lo hi : Int} {offs : Array Int} {len : Nat} {x : Int32} (hd : decode cc pc = .ok (.tableswitch dflt lo hi offs, len)) (h : x.toInt < lo ∨ hi < x.toInt) (ht : (pc : Int) + dflt = (tgt : Int)) (n : ST g kc ks tgt L S ws) : ST g kc ks pc L (.int x :: S) ws :=
  fun H locs ls hP hD hS hl => lv_tableOut G.hx G.hb hd h ht (n H locs ls hP hD hS hl)
theorem st_lookup (G : GOOD g own cc nL rm) (tgt : Nat) {dflt : Int} {ps : Array (Int × Int)} {len : Nat} {x : Int32} {off : Int} (hd : decode cc pc = .ok (.lookupswitch dflt ps, len)) (hp : (ps.toList.zip (ps.toList.drop 1)).all (fun (a, next) => a.1 < next.1) = true) (ho : Op.lookupswitch.offset ps.toList dflt x.toInt = off) (ht : (pc : Int) + off = (tgt : Int)) (n : ST g kc ks tgt L S ws) : ST g kc ks pc L (.int x :: S) ws :=
  fun H locs ls hP hD hS hl => lv_lookup G.hx G.hb hd hp ho ht (n H locs ls hP hD hS hl)
theorem st_dup (G : GOOD g own cc nL rm) (pc' : Nat) (hp : pc + 1 = pc') {v : Value} (hd : decode cc pc = .ok (.dup, 1)) (hc : v.category = 1) (n : ST g kc ks pc' L (v :: v :: S) ws) : ST g kc ks pc L (v :: S) ws := by
  subst hp; exact fun H locs ls hP hD hS hl => lv_dup G.hx G.hb hd hc (n H locs ls hP hD hS hl)
theorem st_dup2 (G : GOOD g own cc nL rm) (pc' : Nat) (hp : pc + 1 = pc') {v u : Value} (hd : decode cc pc = .ok (.dup2, 1)) (hc : v.category = 1) (hc2 : u.category = 1) (n : ST g kc ks pc' L (v :: u :: v :: u :: S) ws) : ST g kc ks pc L (v :: u :: S) ws := by
  subst hp; exact fun H locs ls hP hD hS hl => lv_dup2_11 G.hx G.hb hd hc hc2 (n H locs ls hP hD hS hl)
/-- a field: hin, hw by its class -/
theorem st_get {C : String} {T : u_T} {N ci idx : Nat} (G : GOOD g own cc nL rm) (hin : ∀ w ∈ u_ws C T N, w ∈ GW) (hc : vwCl[ci]? = some (C, T, N)) (k : Nat) (hk : k < N) (hw : Cond.fieldLink own idx (T k).1 (T k).2.1 (T k).2.2.1 ∈ GW) (pc' : Nat) (hp : pc + 3 = pc') (q0 : Nat) {a : Nat} {fs : List Value} (he : ws[q0]? = some (a, .inr (ci, fs))) {v : Value} (hv : fs[k]? = some v) (hd : decode cc pc = .ok (.getfield idx, 3)) (n : ST g kc ks pc' L (v :: S) ws) : ST g kc ks pc L (.ref a :: S) ws := by
  subst hp; exact fun H locs ls hP hD hS hl => va_get (D := g.D) (cl := vwCl) G.hx G.hb G.hts hin G.hown G.hK hP q0 he hc k hk (G.hts _ hw) (fun _ h => h) hv hd (n H locs ls hP hD hS hl)
theorem st_put {C : String} {T : u_T} {N ci idx : Nat} (G : GOOD g own cc nL rm) (hin : ∀ w ∈ u_ws C T N, w ∈ GW) (ty0 : Nat → FieldType) (hty : ∀ k, k < N → parseFieldDescriptor (T k).2.2.1 = some (ty0 k)) (hnm : ∀ a, a < N → ∀ b, b < N → a ≠ b → (T a).2.1 ≠ (T b).2.1) (hc : vwCl[ci]? = some (C, T, N)) (k : Nat) (hk : k < N) (hw : Cond.fieldLink own idx (T k).1 (T k).2.1 (T k).2.2.1 ∈ GW) (hfin : (T k).2.2.2 = false) (ws' : va_W) (pc' : Nat) (hp : pc + 3 = pc') (q0 : Nat) {a : Nat} {fs : List Value} (he : ws[q0]? = some (a, .inr (ci, fs))) {v : Value} (hn : narrow (ty0 k) v = v) (hfit : fits (ty0 k) v = true) (hl0 : k < fs.length) (hws : ws.set q0 (a, .inr (ci, fs.set k v)) = ws') (hd : decode cc pc = .ok (.putfield idx, 3)) (n : ST g kc ks pc' L S ws') : ST g kc ks pc L (v :: .ref a :: S) ws := by
  subst hp; subst hws; exact fun H locs ls hP hD hS hl => va_put (D := g.D) (cl := vwCl) G.hx G.hb G.hts hin ty0 hty hnm G.hown G.hK hP hD hS q0 he hc k hk (G.hts _ hw) (fun _ h => h) hfin (hty k hk) hn hfit hl0 hd (fun H1 locs1 hP1 hD1 hS1 => n H1 locs1 ls hP1 hD1 hS1 hl)
/-- a final field in its constructor -/
theorem st_putF {C : String} {T : u_T} {N ci idx : Nat} (G : GOOD g own cc nL rm) (hini : g.meth.name = "<init>") (hin : ∀ w ∈ u_ws C T N, w ∈ GW) (ty0 : Nat → FieldType) (hty : ∀ k, k < N → parseFieldDescriptor (T k).2.2.1 = some (ty0 k)) (hnm : ∀ a, a < N → ∀ b, b < N → a ≠ b → (T a).2.1 ≠ (T b).2.1) (hc : vwCl[ci]? = some (C, T, N)) (k : Nat) (hk : k < N) (hw : Cond.fieldLink own idx (T k).1 (T k).2.1 (T k).2.2.1 ∈ GW) (hfin : (T k).2.2.2 = true) (hdecl : (T k).1 = own) (ws' : va_W) (pc' : Nat) (hp : pc + 3 = pc') (q0 : Nat) {a : Nat} {fs : List Value} (he : ws[q0]? = some (a, .inr (ci, fs))) {v : Value} (hn : narrow (ty0 k) v = v) (hfit : fits (ty0 k) v = true) (hl0 : k < fs.length) (hws : ws.set q0 (a, .inr (ci, fs.set k v)) = ws') (hd : decode cc pc = .ok (.putfield idx, 3)) (n : ST g kc ks pc' L S ws') : ST g kc ks pc L (v :: .ref a :: S) ws := by
  subst hp; subst hws; exact fun H locs ls hP hD hS hl => va_putF (D := g.D) (cl := vwCl) G.hx G.hb G.hts hin ty0 hty hnm G.hown G.hK hP hD hS q0 he hc k hk (G.hts _ hw) (fun _ h => h) hfin hini hdecl (hty k hk) hn hfit hl0 hd (fun H1 locs1 hP1 hD1 hS1 => n H1 locs1 ls hP1 hD1 hS1 hl)
theorem st_iald (G : GOOD g own cc nL rm) (pc' : Nat) (hp : pc + 1 = pc') (q0 : Nat) {a n : Nat} {f : Nat → Int32} (ha : ws[q0]? = some (a, .inl (g.X.cI, n, .inl f))) {i : Int32} (hin : vp_in i n) (hd : decode cc pc = .ok (.iaload, 1)) (k : ST g kc ks pc' L (.int (f i.toNatClampNeg) :: S) ws) : ST g kc ks pc L (.int i :: .ref a :: S) ws := by
  subst hp; exact fun H locs ls hP hD hS hl => va_iald (D := g.D) (cl := vwCl) G.hx G.hb G.hK hP q0 0 ha rfl hin hd (k H locs ls hP hD hS hl)
theorem st_iast (G : GOOD g own cc nL rm) (ws' : va_W) (pc' : Nat) (hp : pc + 1 = pc') (q0 : Nat) {a n : Nat} {f : Nat → Int32} (ha : ws[q0]? = some (a, .inl (g.X.cI, n, .inl f))) {i x : Int32} (hin : vp_in i n) (hws : ws.set q0 (a, .inl (g.X.cI, n, .inl (upd f i.toNatClampNeg x))) = ws') (hd : decode cc pc = .ok (.iastore, 1)) (k : ST g kc ks pc' L S ws') : ST g kc ks pc L (.int x :: .int i :: .ref a :: S) ws := by
  subst hp; subst hws; exact fun H locs ls hP hD hS hl => va_iast (D := g.D) (cl := vwCl) G.hx G.hb G.hK hP hD hS q0 0 ha rfl hin hd (fun H1 locs1 hP1 hD1 hS1 => k H1 locs1 ls hP1 hD1 hS1 hl)
theorem st_aald (G : GOOD g own cc nL rm) (pc' : Nat) (hp : pc + 1 = pc') (q0 : Nat) {a n : Nat} {f : Nat → Option Nat} (ha : ws[q0]? = some (a, .inl (g.X.cS, n, .inr (.inr (.inr (.inr f)))))) {i : Int32} (hin : vp_in i n) {v : Value} (hv : va_rf (f i.toNatClampNeg) = v) (hd : decode cc pc = .ok (.aaload, 1)) (k : ST g kc ks pc' L (v :: S) ws) : ST g kc ks pc L (.int i :: .ref a :: S) ws := by
  subst hp; subst hv; exact fun H locs ls hP hD hS hl => va_aldq (D := g.D) (cl := vwCl) (C := "DirtPress$Sheet") G.hx G.hb G.hK hP q0 1 ha rfl hin hd (k H locs ls hP hD hS hl)
theorem st_aast (G : GOOD g own cc nL rm) (ws' : va_W) (pc' : Nat) (hp : pc + 1 = pc') (q0 qk : Nat) {a n v : Nat} {vs : List Value} {f : Nat → Option Nat} (ha : ws[q0]? = some (a, .inl (g.X.cS, n, .inr (.inr (.inr (.inr f)))))) (hv : ws[qk]? = some (v, .inr (1, vs))) {i : Int32} (hin : vp_in i n) (hws : ws.set q0 (a, .inl (g.X.cS, n, .inr (.inr (.inr (.inr (va_up f i.toNatClampNeg (some v))))))) = ws') (hd : decode cc pc = .ok (.aastore, 1)) (k : ST g kc ks pc' L S ws') : ST g kc ks pc L (.ref v :: .int i :: .ref a :: S) ws := by
  subst hp; subst hws; exact fun H locs ls hP hD hS hl => va_astq (D := g.D) (cl := vwCl) (r := (RX1, TX1, 3)) G.hx G.hb G.hK hP hD hS q0 1 qk 1 ha rfl hv rfl hin hd (fun H1 locs1 hP1 hD1 hS1 => k H1 locs1 ls hP1 hD1 hS1 hl)
theorem st_alen (G : GOOD g own cc nL rm) (pc' : Nat) (hp : pc + 1 = pc') (q0 : Nat) {a n : Nat} {f : Nat → Int32} (ha : ws[q0]? = some (a, .inl (g.X.cI, n, .inl f))) (v : Int32) (hv : Int32.ofNat n = v) (hd : decode cc pc = .ok (.arraylength, 1)) (k : ST g kc ks pc' L (.int v :: S) ws) : ST g kc ks pc L (.ref a :: S) ws := by
  subst hp; exact fun H locs ls hP hD hS hl => va_alen (D := g.D) (cl := vwCl) G.hx G.hb G.hK hP q0 0 ha rfl hv hd (k H locs ls hP hD hS hl)
/-- the static arrays -/
theorem st_getA (G : GOOD g own cc nL rm) {idx : Nat} (hw : Cond.fieldLink own idx "DirtPress" "ABOVE" "[I" ∈ GW) (pc' : Nat) (hp : pc + 3 = pc') (hd : decode cc pc = .ok (.getstatic idx, 3)) (k : ST g kc ks pc' L (.ref g.X.tA :: S) ws) : ST g kc ks pc L S ws := by
  subst hp; exact fun H locs ls hP hD hS hl => va_gets G.hx G.hb G.hSE.1.1 hS G.hown (G.hts _ hw) (fun _ h => h) hd (k H locs ls hP hD hS hl)
theorem st_getAN (G : GOOD g own cc nL rm) {idx : Nat} (hw : (own, idx, "DirtPress", "ABOVE", "[I") ∈ NFs) (pc' : Nat) (hp : pc + 3 = pc') (hd : decode cc pc = .ok (.getstatic idx, 3)) (k : ST g kc ks pc' L (.ref g.X.tA :: S) ws) : ST g kc ks pc L S ws := by
  subst hp; exact fun H locs ls hP hD hS hl => va_getsN G.hx G.hb G.hSE.1.1 hS G.hown (va_Nw.use rfl (G.hN.2 _ hw)) (fun _ h => h) hd (k H locs ls hP hD hS hl)
theorem st_getNaN (G : GOOD g own cc nL rm) {idx : Nat} (hw : (own, idx, "DirtPress", "NAMES", "[C") ∈ NFs) (pc' : Nat) (hp : pc + 3 = pc') (hd : decode cc pc = .ok (.getstatic idx, 3)) (k : ST g kc ks pc' L (.ref g.X.tN :: S) ws) : ST g kc ks pc L S ws := by
  subst hp; exact fun H locs ls hP hD hS hl => va_getsN G.hx G.hb G.hSE.2.1.1 hS G.hown (va_Nw.use rfl (G.hN.2 _ hw)) (fun _ h => h) hd (k H locs ls hP hD hS hl)
theorem st_getBN (G : GOOD g own cc nL rm) {idx : Nat} (hw : (own, idx, "DirtPress", "BODIES", "[I") ∈ NFs) (pc' : Nat) (hp : pc + 3 = pc') (hd : decode cc pc = .ok (.getstatic idx, 3)) (k : ST g kc ks pc' L (.ref g.X.tB :: S) ws) : ST g kc ks pc L S ws := by
  subst hp; exact fun H locs ls hP hD hS hl => va_getsN G.hx G.hb G.hSE.2.2.1 hS G.hown (va_Nw.use rfl (G.hN.2 _ hw)) (fun _ h => h) hd (k H locs ls hP hD hS hl)
def cAb (i : Int32) : Int32 := ([-1, 0, 0, 0, 1, 2, 0] : List Int32).getD i.toNatClampNeg 0
def cNa (i : Int32) : Int32 := ([119, 115, 121, 118, 115, 110] : List Int32).getD i.toNatClampNeg 0
def cBo (i : Int32) : Int32 := ([10, 11, 12, 13, 20, 0, 0, 21, 0, 30, 0, 0, 0, 0, 40, 0, 50, 0, 51, 0, 0, 60, 0, 0, 70, 71, 0, 0] : List Int32).getD i.toNatClampNeg 0
theorem st_aldA (G : GOOD g own cc nL rm) (pc' : Nat) (hp : pc + 1 = pc') {i : Int32} (hin : vp_in i 7) (hd : decode cc pc = .ok (.iaload, 1)) (k : ST g kc ks pc' L (.int (cAb i) :: S) ws) : ST g kc ks pc L (.int i :: .ref g.X.tA :: S) ws := by
  subst hp; exact fun H locs ls hP hD hS hl => va_ti G.hx G.hb G.hSE.1.2 hS hin rfl hd (k H locs ls hP hD hS hl)
theorem st_aldN (G : GOOD g own cc nL rm) (pc' : Nat) (hp : pc + 1 = pc') {i : Int32} (hin : vp_in i 6) (hd : decode cc pc = .ok (.caload, 1)) (k : ST g kc ks pc' L (.int (cNa i) :: S) ws) : ST g kc ks pc L (.int i :: .ref g.X.tN :: S) ws := by
  subst hp; exact fun H locs ls hP hD hS hl => va_tc G.hx G.hb G.hSE.2.1.2 hS hin rfl hd (k H locs ls hP hD hS hl)
theorem st_aldB (G : GOOD g own cc nL rm) (pc' : Nat) (hp : pc + 1 = pc') {i : Int32} (hin : vp_in i 28) (hd : decode cc pc = .ok (.iaload, 1)) (k : ST g kc ks pc' L (.int (cBo i) :: S) ws) : ST g kc ks pc L (.int i :: .ref g.X.tB :: S) ws := by
  subst hp; exact fun H locs ls hP hD hS hl => va_ti G.hx G.hb G.hSE.2.2.2 hS hin rfl hd (k H locs ls hP hD hS hl)
end ROWS
/-! cells put back behind a call: at the places is the new ones, further new ones at the end -/
def wput : va_W → List Nat → va_W → va_W
  | ws, [], w => ws ++ w
  | ws, i :: is, c :: w => wput (ws.set i c) is w
  | ws, _ :: _, [] => ws
theorem wput_mem : ∀ (is : List Nat) (ws w : va_W) (k : Nat) (q : Nat × va_E), (wput ws is w)[k]? = some q → is.length ≤ w.length →
    (∃ j, w[j]? = some q ∧ (is[j]? = some k ∨ (is.length ≤ j ∧ k = ws.length + (j - is.length)))) ∨ (k ∉ is ∧ ws[k]? = some q)
  | [], ws, w, k, q, h, _ => by
    rw [wput] at h
    by_cases hk : k < ws.length
    · rw [List.getElem?_append_left hk] at h
      exact Or.inr ⟨List.not_mem_nil, h⟩
    · have hk : ws.length ≤ k := Nat.le_of_not_lt hk
      rw [List.getElem?_append_right hk] at h
      exact Or.inl ⟨k - ws.length, h, Or.inr ⟨Nat.zero_le _, by simp; omega⟩⟩
  | i :: is, ws, [], k, q, _, hl => by simp at hl
  | i :: is, ws, c :: w, k, q, h, hl => by
    rw [wput] at h
    rcases wput_mem is (ws.set i c) w k q h (by simpa using hl) with ⟨j, h1, h2⟩ | ⟨h1, h2⟩
    · refine Or.inl ⟨j + 1, by simpa using h1, ?_⟩
      rcases h2 with h2 | ⟨h2, h3⟩
      · exact Or.inl (by simpa using h2)
      · refine Or.inr ⟨by simpa using h2, ?_⟩
        rw [List.length_set] at h3
        simp only [List.length_cons]
        omega
    · by_cases hk : i = k
      · subst hk
        by_cases hi : i < ws.length
        · rw [List.getElem?_set_self hi] at h2
          exact Or.inl ⟨0, by simpa using h2, Or.inl (by simp)⟩
        · rw [List.getElem?_eq_none (by rw [List.length_set]; omega)] at h2
          cases h2
      · rw [List.getElem?_set_ne hk] at h2
        exact Or.inr ⟨by simp only [List.mem_cons, not_or]; exact ⟨fun e => hk e.symm, h1⟩, h2⟩
theorem wput_P {A0 : Nat → Prop} {D : va_G} {cl : List vw_C} {ws wc w1 : va_W} {H H1 : Heap} (hP : va_P D cl ws H) (hD : va_D A0 ws) (is : List Nat) (hC : is.map (fun i => ws[i]?) = wc.map some) (hle : wc.length ≤ w1.length)
    (hk : ∀ q : Nat, q < H.size → ¬ va_A wc H.size q → H1[q]? = H[q]?) (hF : ∀ q, va_A wc H.size q → A0 q) (hP1 : va_P D cl w1 H1) (hD1 : va_D (va_A wc H.size) w1) : va_P D cl (wput ws is w1) H1 ∧ va_D A0 (wput ws is w1) := by
  have hlen : is.length = wc.length := by have h := congrArg List.length hC; simpa using h
  have apart : ∀ (k : Nat) (q : Nat × va_E), k ∉ is → ws[k]? = some q → q.1 < H.size ∧ ¬ va_A wc H.size q.1 := by
    intro k q hn hq
    have hl := (hP k q hq).lt
    refine ⟨hl, fun h => ?_⟩
    rcases h with ⟨k2, e, h⟩ | h
    · have h1 : (is.map (fun i => ws[i]?))[k2]? = some (some (q.1, e)) := by rw [hC, List.getElem?_map, h]; rfl
      rw [List.getElem?_map] at h1
      cases hi : is[k2]? with
      | none => rw [hi] at h1; cases h1
      | some i =>
        rw [hi] at h1
        have h4 : ws[i]? = some (q.1, e) := Option.some.inj h1
        have hij := hD.1 k i q (q.1, e) hq h4 rfl
        subst hij
        exact hn (List.mem_of_getElem? hi)
    · omega
  refine ⟨fun k q hq => ?_, fun i j x y hx hy hxy => ?_, fun k q hq => ?_⟩
  · rcases wput_mem is ws w1 k q hq (by omega) with ⟨j, h1, -⟩ | ⟨h1, h2⟩
    · exact hP1 j q h1
    · obtain ⟨g1, g2⟩ := apart k q h1 h2
      exact (hP k q h2).kept (hk q.1 g1 g2)
  · rcases wput_mem is ws w1 i x hx (by omega) with ⟨a, h1, h2⟩ | ⟨h1, h2⟩ <;> rcases wput_mem is ws w1 j y hy (by omega) with ⟨b, h3, h4⟩ | ⟨h3, h4⟩
    · have hab := hD1.1 a b x y h1 h3 hxy
      subst hab
      rcases h2 with h2 | ⟨h2, h2'⟩ <;> rcases h4 with h4 | ⟨h4, h4'⟩
      · rw [h2] at h4; exact Option.some.inj h4
      · rw [List.getElem?_eq_none h4] at h2; cases h2
      · rw [List.getElem?_eq_none h2] at h4; cases h4
      · omega
    · exact absurd (by rw [← hxy]; exact hD1.2 a x h1) (apart j y h3 h4).2
    · exact absurd (by rw [hxy]; exact hD1.2 b y h3) (apart i x h1 h2).2
    · exact hD.1 i j x y h2 h4 hxy
  · rcases wput_mem is ws w1 k q hq (by omega) with ⟨j, h1, -⟩ | ⟨-, h2⟩
    · exact hF _ (hD1.2 j q h1)
    · exact hD.2 k q h2
theorem sub_of {D : va_G} {cl : List vw_C} {ws wc : va_W} {H : Heap} (hP : va_P D cl ws H) (is : List Nat) (e : is.map (fun i => ws[i]?) = wc.map some) : va_P D cl wc H :=
  hP.sub is (by
    have h1 : is.filterMap (fun i => ws[i]?) = (is.map (fun i => ws[i]?)).filterMap id := by rw [List.filterMap_map]; rfl
    rw [h1, e, List.filterMap_map]; simp)
/-! contracts -/
def PreW (D : va_G) (X : XT) (ws : va_W) (sz : Nat) (U : State) : Prop := U.heap.size = sz ∧ va_P D vwCl ws U.heap ∧ va_K D vwCl (TY X) U ∧ va_D (fun _ => True) ws ∧ hNW U ∧ SE X (va_A ws sz) U U.heap
def PostW (D : va_G) (ws : va_W) (sz : Nat) (w : va_W) (t : State) : Prop := va_P D vwCl w t.heap ∧ va_D (va_A ws sz) w ∧ ws.length ≤ w.length
def CTi (l : Launch) (D : va_G) (X : XT) (y : MethodName) (cc : ByteArray) (nL : Nat) (rt : FieldType) (rm : Room) (av : List Value) (ws : va_W) (post : Int32 → va_W → Prop) : Prop :=
  ∀ sz, Met l y (.code y cc nL (some rt) :: GW) rm (va_Pc av (PreW D X ws sz)) (va_Qi post (PostW D ws sz) (va_A ws sz)) 0 0 (va_A ws sz)
def CTv (l : Launch) (D : va_G) (X : XT) (y : MethodName) (cc : ByteArray) (nL : Nat) (rm : Room) (mc ms : Nat) (av : List Value) (ws : va_W) (post : va_W → Prop) : Prop :=
  ∀ sz, Met l y (.code y cc nL none :: GW) rm (va_Pc av (PreW D X ws sz)) (va_Qv post (PostW D ws sz) (va_A ws sz)) mc ms (va_A ws sz)
def CTa (l : Launch) (D : va_G) (X : XT) (y : MethodName) (cc : ByteArray) (nL : Nat) (rt : FieldType) (rm : Room) (av : List Value) (ws : va_W) (ad : Nat → Nat) (post : Nat → va_W → Prop) : Prop :=
  ∀ sz, Met l y (.code y cc nL (some rt) :: GW) rm (va_Pc av (PreW D X ws sz)) (va_Qr (fun u : Nat × va_W => post u.1 u.2) (fun u a t => a = ad u.1 ∧ PostW D ws sz u.2 t) (va_A ws sz)) 0 0 (va_A ws sz)
def RETi (g : GT) (cc : ByteArray) (n0 : Nat) (post : Int32 → va_W → Prop) : Prop := ∀ (pc : Nat) (L : List (Nat × Value)) (v : Int32) (w : va_W), decode cc pc = .ok (.ireturn, 1) → n0 ≤ w.length → post v w → ST g 0 0 pc L [.int v] w
def RETz (g : GT) (cc : ByteArray) (n0 : Nat) (post : Int32 → va_W → Prop) : Prop := ∀ (pc : Nat) (L : List (Nat × Value)) (v : Int32) (w : va_W), decode cc pc = .ok (.ireturn, 1) → n0 ≤ w.length → narrow .boolean (.int v) = .int v → post v w → ST g 0 0 pc L [.int v] w
def RETv (g : GT) (cc : ByteArray) (mc ms n0 : Nat) (post : va_W → Prop) : Prop := ∀ (pc : Nat) (L : List (Nat × Value)) (w : va_W), decode cc pc = .ok (.return_, 1) → n0 ≤ w.length → post w → ST g mc ms pc L [] w
def RETa (g : GT) (cc : ByteArray) (n0 : Nat) (ad : Nat → Nat) (post : Nat → va_W → Prop) : Prop := ∀ (pc : Nat) (L : List (Nat × Value)) (k : Nat) (w : va_W), decode cc pc = .ok (.areturn, 1) → n0 ≤ w.length → post k w → ST g 0 0 pc L [.ref (ad k)] w
section CTS
variable {l : Launch} {D : va_G} {X : XT} {y : MethodName} {cc : ByteArray} {nL mc ms : Nat} {rm : Room} {av : List Value} {ws : va_W}
theorem ct_i {post : Int32 → va_W → Prop} (hy : plainName y.cls = true) (hlen : (lg_sl av).length ≤ nL) (body : ∀ g : GT, g.l = l → g.D = D → g.X = X → GOOD g y.cls cc nL rm → RETi g cc ws.length post → ST g 0 0 0 (lv_args 0 av) [] ws) : CTi l D X y cc nL .int rm av ws post := by
  intro sz
  refine Met.ofW (cc := cc) (maxL := nL) (ret := some .int) hy rfl ?_
  intro p e s m args below meth c s₁ B hml hv
  obtain ⟨rfl, hsz, hP, hK, hD, hN, hSE⟩ := hv
  subst hsz
  have hts := atoms_spec (ws := .code y cc nL (some .int) :: GW) B.pre
  have hl := lv_entry av hlen
  rw [lg_entry_eq]
  refine body ((p, l, e, rm, s, m), (av.toArray, below, meth, c, MQ below (va_Qi post (PostW D ws s.heap.size) (va_A ws s.heap.size)) av.toArray s 0 0 (va_A ws s.heap.size), va_A ws s.heap.size), (D, X, nL)) rfl rfl rfl ⟨⟨B.exec, B.bytes, hml, rfl, findClass_of_methodNamed B.named⟩, fun w hw => hts w (List.mem_cons_of_mem _ hw), hK, fun q h => Or.inr h, hN, hSE, rfl, B.notSynchronized⟩ ?_ s.heap [] _ hP hD.self va_S.rf hl
  intro pc L v w hd hlen hq H locs ls hP hD hS hl
  exact W.iret B.exec B.bytes B.returns (fun t ht hW => ⟨⟨v, w, rfl, hq, by rw [ht]; exact hP, hD, hlen⟩, va_S.F hS ht⟩) hS.2.2 hd B.notSynchronized
theorem ct_z {post : Int32 → va_W → Prop} (hy : plainName y.cls = true) (hlen : (lg_sl av).length ≤ nL) (body : ∀ g : GT, g.l = l → g.D = D → g.X = X → GOOD g y.cls cc nL rm → RETz g cc ws.length post → ST g 0 0 0 (lv_args 0 av) [] ws) : CTi l D X y cc nL .boolean rm av ws post := by
  intro sz
  refine Met.ofW (cc := cc) (maxL := nL) (ret := some .boolean) hy rfl ?_
  intro p e s m args below meth c s₁ B hml hv
  obtain ⟨rfl, hsz, hP, hK, hD, hN, hSE⟩ := hv
  subst hsz
  have hts := atoms_spec (ws := .code y cc nL (some .boolean) :: GW) B.pre
  have hl := lv_entry av hlen
  rw [lg_entry_eq]
  refine body ((p, l, e, rm, s, m), (av.toArray, below, meth, c, MQ below (va_Qi post (PostW D ws s.heap.size) (va_A ws s.heap.size)) av.toArray s 0 0 (va_A ws s.heap.size), va_A ws s.heap.size), (D, X, nL)) rfl rfl rfl ⟨⟨B.exec, B.bytes, hml, rfl, findClass_of_methodNamed B.named⟩, fun w hw => hts w (List.mem_cons_of_mem _ hw), hK, fun q h => Or.inr h, hN, hSE, rfl, B.notSynchronized⟩ ?_ s.heap [] _ hP hD.self va_S.rf hl
  intro pc L v w hd hlen hn hq H locs ls hP hD hS hl
  exact W.zret B.exec B.bytes B.returns hn (fun t ht hW => ⟨⟨v, w, rfl, hq, by rw [ht]; exact hP, hD, hlen⟩, va_S.F hS ht⟩) hS.2.2 hd B.notSynchronized
theorem ct_v {post : va_W → Prop} (hy : plainName y.cls = true) (hlen : (lg_sl av).length ≤ nL) (body : ∀ g : GT, g.l = l → g.D = D → g.X = X → GOOD g y.cls cc nL rm → g.meth.name = y.name → RETv g cc mc ms ws.length post → ST g 0 0 0 (lv_args 0 av) [] ws) : CTv l D X y cc nL rm mc ms av ws post := by
  intro sz
  refine Met.ofW (cc := cc) (maxL := nL) (ret := none) hy rfl ?_
  intro p e s m args below meth c s₁ B hml hv
  obtain ⟨rfl, hsz, hP, hK, hD, hN, hSE⟩ := hv
  subst hsz
  have hts := atoms_spec (ws := .code y cc nL none :: GW) B.pre
  have hl := lv_entry av hlen
  rw [lg_entry_eq]
  refine body ((p, l, e, rm, s, m), (av.toArray, below, meth, c, MQ below (va_Qv post (PostW D ws s.heap.size) (va_A ws s.heap.size)) av.toArray s mc ms (va_A ws s.heap.size), va_A ws s.heap.size), (D, X, nL)) rfl rfl rfl ⟨⟨B.exec, B.bytes, hml, rfl, findClass_of_methodNamed B.named⟩, fun w hw => hts w (List.mem_cons_of_mem _ hw), hK, fun q h => Or.inr h, hN, hSE, rfl, B.notSynchronized⟩ (name_of_methodNamed B.named B.method).1 ?_ s.heap [] _ hP hD.self va_S.rf hl
  intro pc L w hd hlen hq H locs ls hP hD hS hl
  exact W.vret B.exec B.bytes B.returns (fun t ht hW => ⟨⟨w, rfl, hq, by rw [ht]; exact hP, hD, hlen⟩, va_S.F hS ht⟩) hS.2.2 hd B.notSynchronized
theorem ct_a {C : String} {ad : Nat → Nat} {post : Nat → va_W → Prop} (hy : plainName y.cls = true) (hlen : (lg_sl av).length ≤ nL) (body : ∀ g : GT, g.l = l → g.D = D → g.X = X → GOOD g y.cls cc nL rm → RETa g cc ws.length ad post → ST g 0 0 0 (lv_args 0 av) [] ws) : CTa l D X y cc nL (.object C) rm av ws ad post := by
  intro sz
  refine Met.ofW (cc := cc) (maxL := nL) (ret := some (.object C)) hy rfl ?_
  intro p e s m args below meth c s₁ B hml hv
  obtain ⟨rfl, hsz, hP, hK, hD, hN, hSE⟩ := hv
  subst hsz
  have hts := atoms_spec (ws := .code y cc nL (some (.object C)) :: GW) B.pre
  have hl := lv_entry av hlen
  rw [lg_entry_eq]
  refine body ((p, l, e, rm, s, m), (av.toArray, below, meth, c, MQ below (va_Qr (fun u : Nat × va_W => post u.1 u.2) (fun u a t => a = ad u.1 ∧ PostW D ws s.heap.size u.2 t) (va_A ws s.heap.size)) av.toArray s 0 0 (va_A ws s.heap.size), va_A ws s.heap.size), (D, X, nL)) rfl rfl rfl ⟨⟨B.exec, B.bytes, hml, rfl, findClass_of_methodNamed B.named⟩, fun w hw => hts w (List.mem_cons_of_mem _ hw), hK, fun q h => Or.inr h, hN, hSE, rfl, B.notSynchronized⟩ ?_ s.heap [] _ hP hD.self va_S.rf hl
  intro pc L k w hd hlen hq H locs ls hP hD hS hl
  exact W.aret B.exec B.bytes B.returns (Or.inl ⟨C, rfl⟩) (Or.inr ⟨_, rfl⟩) (fun t ht hW => ⟨⟨(k, w), ad k, rfl, hq, rfl, by rw [ht]; exact hP, hD, hlen⟩, va_S.F hS ht⟩) hS.2.2 hd B.notSynchronized
end CTS
/-! calls -/
theorem gd_of {ws : List Cond} (h : ∀ w ∈ ws, w ∈ GW) : GoodIn GW ws := fun w hw => gdS w (h w hw)
def LkV (own : String) (idx : Nat) (C : String) (y : MethodName) (bytes : ByteArray) (maxL : Nat) (ret : Option FieldType) (n : Nat) : Prop :=
  (y.cls = C ∧ y.cls ≠ "java/lang/invoke/MethodHandle" ∧ y.cls ≠ "java/lang/invoke/VarHandle" ∧ (parseMethodDescriptor y.desc).map (fun d => d.parameters.length) = some n) ∧
  Cond.methodLink own idx y ∈ GW ∧ Cond.instanceMethod y ∈ GW ∧ Cond.selects C y y ∈ GW ∧ Cond.initialized C ∈ GW ∧ Cond.code y bytes maxL ret ∈ GW
def LkS (own : String) (idx : Nat) (y : MethodName) (bytes : ByteArray) (maxL : Nat) (ret : Option FieldType) (n : Nat) : Prop :=
  (y.cls ≠ "java/lang/invoke/MethodHandle" ∧ y.cls ≠ "java/lang/invoke/VarHandle" ∧ (parseMethodDescriptor y.desc).map (fun d => d.parameters.length) = some n) ∧
  Cond.methodLink own idx y ∈ GW ∧ Cond.static y ∈ GW ∧ Cond.initialized y.cls ∈ GW ∧ Cond.code y bytes maxL ret ∈ GW
def LkN (own : String) (idx : Nat) (y : MethodName) (bytes : ByteArray) (maxL : Nat) (ret : Option FieldType) (n : Nat) : Prop :=
  (y.cls ≠ "java/lang/invoke/MethodHandle" ∧ y.cls ≠ "java/lang/invoke/VarHandle" ∧ (parseMethodDescriptor y.desc).map (fun d => d.parameters.length) = some n) ∧
  (own, idx, y, "DirtPress") ∈ NWs ∧ Cond.static y ∈ GW ∧ Cond.initialized y.cls ∈ GW ∧ Cond.code y bytes maxL ret ∈ GW
def LkI (own : String) (idx : Nat) (y : MethodName) (bytes : ByteArray) (maxL : Nat) (n : Nat) : Prop :=
  (y.name = "<init>" ∧ y.cls ≠ "java/lang/invoke/MethodHandle" ∧ y.cls ≠ "java/lang/invoke/VarHandle" ∧ (parseMethodDescriptor y.desc).map (fun d => d.parameters.length) = some n) ∧
  Cond.methodLink own idx y ∈ GW ∧ Cond.instanceMethod y ∈ GW ∧ Cond.initialized y.cls ∈ GW ∧ Cond.code y bytes maxL none ∈ GW
def LkIN (own : String) (idx : Nat) (y : MethodName) (bytes : ByteArray) (maxL : Nat) (n : Nat) : Prop :=
  (y.name = "<init>" ∧ y.cls ≠ "java/lang/invoke/MethodHandle" ∧ y.cls ≠ "java/lang/invoke/VarHandle" ∧ (parseMethodDescriptor y.desc).map (fun d => d.parameters.length) = some n) ∧
  (own, idx, y, "DirtPress") ∈ NWs ∧ Cond.instanceMethod y ∈ GW ∧ Cond.initialized y.cls ∈ GW ∧ Cond.code y bytes maxL none ∈ GW
theorem LkV.good {own C : String} {idx maxL n : Nat} {y : MethodName} {bytes : ByteArray} {ret : Option FieldType} (h : LkV own idx C y bytes maxL ret n) : GoodIn GW (wsV own idx C y (.code y bytes maxL ret :: GW)) := gd_of (by
  obtain ⟨-, h1, h2, h3, h4, h5⟩ := h
  intro w hw
  simp only [wsV, List.mem_append, List.mem_cons, List.not_mem_nil, or_false] at hw
  rcases hw with (rfl | rfl | rfl | rfl) | rfl | hw <;> assumption)
theorem LkS.good {own : String} {idx maxL n : Nat} {y : MethodName} {bytes : ByteArray} {ret : Option FieldType} (h : LkS own idx y bytes maxL ret n) : GoodIn GW (va_wsS own idx y (.code y bytes maxL ret :: GW)) := gd_of (by
  obtain ⟨-, h1, h2, h3, h4⟩ := h
  intro w hw
  simp only [va_wsS, List.mem_append, List.mem_cons, List.not_mem_nil, or_false] at hw
  rcases hw with (rfl | rfl | rfl) | rfl | hw <;> assumption)
theorem gd_code {y : MethodName} {bytes : ByteArray} {maxL : Nat} {ret : Option FieldType} (h : Cond.code y bytes maxL ret ∈ GW) : GoodIn GW (.code y bytes maxL ret :: GW) := gd_of (by
  intro w hw
  rcases List.mem_cons.mp hw with rfl | hw <;> assumption)
def RMok (rm rmc : Room) (maxL mc ms kc ks : Nat) : Prop := rmc.cells = mc ∧ rmc.slots = ms ∧ (rmc.frames + 1 ≤ rm.frames ∧ 8 + (maxL + 11) + rmc.locals ≤ rm.locals) ∧ kc + mc ≤ rm.cells ∧ ks + ms ≤ rm.slots
theorem wput_self : ∀ (is : List Nat) (ws wc : va_W), is.map (fun i => ws[i]?) = wc.map some → wput ws is wc = ws
  | [], ws, wc, h => by
    have : wc = [] := by cases wc with
      | nil => rfl
      | cons a l => simp at h
    subst this
    simp [wput]
  | i :: is, ws, [], h => by simp at h
  | i :: is, ws, c :: wc, h => by
    simp only [List.map_cons, List.cons.injEq] at h
    have hs : ws.set i c = ws := by
      apply List.ext_getElem?
      intro k
      by_cases hk : i = k
      · subst hk
        have hl := (List.getElem?_eq_some_iff.mp h.1).1
        rw [List.getElem?_set_self hl, h.1]
      · rw [List.getElem?_set_ne hk]
    rw [wput, hs]
    exact wput_self is ws wc h.2
def bz (v : Int32) : Prop := narrow .boolean (.int v) = .int v
theorem bz_0 : bz 0 := rfl
theorem bz_1 : bz 1 := rfl
def shf (a b c d : Nat) : Nat → Option Nat := va_up (va_up (va_up (va_up (fun _ => none) 0 (some a)) 1 (some b)) 2 (some c)) 3 (some d)
theorem ne_toInt {x : Int32} {n : Int} (h : ¬ x = Int32.ofInt n) : x.toInt ≠ n := fun e => h (by rw [← e]; exact (Int32.ofInt_toInt x).symm)
section CALLS
variable {g : GT} {own : String} {cc : ByteArray} {nL : Nat} {rm rmc : Room} {kc ks pc : Nat} {L : List (Nat × Value)} {S S0 : List Value} {ws wc : va_W} {C : String} {y : MethodName} {bytes : ByteArray} {maxL n idx mc ms : Nat} {rt : FieldType} {As : List Value} {b : Nat}
theorem pre_call (G : GOOD g own cc nL rm) {H : Heap} {locs : List Loc} (hP : va_P g.D vwCl ws H) (hD : va_D g.A ws) (hS : va_S g.A g.s.heap H locs) (is : List Nat) (hC : is.map (fun i => ws[i]?) = wc.map some) (hnd : va_nd is = true) (U : State) (hU : U.heap = H) (hW : g.s.WarmedH U.vm) : PreW g.D g.X wc H.size U := by
  refine ⟨by rw [hU], by rw [hU]; exact sub_of hP is hC, va_K.moved hW.alike G.hK, (hD.sub is hnd hC).weaken (fun _ _ _ _ => trivial), G.hN.warm hW, ?_⟩
  rw [hU]
  exact ((G.hSE.kept hS.2.1).narrow (va_free hD hS G.hA is hC)).moved hW.alike
theorem blind {av : List Value} {D : va_G} {X : XT} {sz : Nat} : FrameBlind (va_Pc av (PreW D X wc sz)) := fun a U g mk q => by
  obtain ⟨q0, q1, q2, q3, q4, q5, q6⟩ := q
  exact ⟨q0, q1, q2, va_K.moved (u := U) (U := U.calling g mk a) (Vm.Alike.refl U.vm) q3, q4, hNW.same rfl q5, SE.moved (u := U) (U := U.calling g mk a) (Vm.Alike.refl U.vm) q6⟩
theorem st_cVi (G : GOOD g own cc nL rm) (lk : LkV own idx C y bytes maxL (some rt) n) {post : Int32 → va_W → Prop} (hC : CTi g.l g.D g.X y bytes maxL rt rmc (.ref b :: As) wc post) (hrm : RMok rm rmc maxL 0 0 kc ks) (pc' : Nat) (hp : pc + 3 = pc') (is : List Nat) (hsub : is.map (fun i => ws[i]?) = wc.map some) (hnd : va_nd is = true) (q0 ci : Nat) {fs : List Value} {T : u_T} {N : Nat} (he : wc[q0]? = some (b, .inr (ci, fs))) (hc : vwCl[ci]? = some (C, T, N)) (hn : As.length = n) (hcat : (S.map fun v => v.category).sum ≤ 8) (hS0 : S0 = As.reverse ++ .ref b :: S) (hd : decode cc pc = .ok (.invokevirtual idx, 3))
    (k : ∀ (r : Int32) (w : va_W), post r w → ST g kc ks pc' L (.int r :: S) (wput ws is w)) : ST g kc ks pc L S0 ws := by
  subst hp; subst hS0
  intro H locs ls hP hD hS hl
  have hFc := va_free hD hS G.hA is hsub
  obtain ⟨r1, r2, r3, r4, r5⟩ := hrm
  refine va_calli (va_runV (As := As) (rest := S) ⟨G.hx, G.hb, G.hml, G.hown, G.hts⟩ (hC H.size) (cwV n G.hts lk.good rfl r1 r2 lk.1 (by rw [G.hR]; exact r3)) ⟨blind, va_recv G.hK (sub_of hP is hsub) hc he, fun U hU hW => ⟨rfl, pre_call G hP hD hS is hsub hnd U hU hW⟩⟩ rfl hn (hl.1.trans G.hnL) rfl (lv_room hcat) hd (by rw [G.hR]; exact ⟨r4, r5⟩)) hS (fun q _ h => hFc q h) hFc (fun r w t H1 locs1 ht hvm hw hB hz1 hk1 hS1 => ?_)
  obtain ⟨hP1, hD1, hle⟩ := hB
  rw [ht] at hP1
  obtain ⟨hP', hD'⟩ := wput_P hP hD is hsub hle hk1 hFc hP1 hD1
  exact k r w hw H1 locs1 ls hP' hD' hS1 hl
theorem st_cVv (G : GOOD g own cc nL rm) (lk : LkV own idx C y bytes maxL none n) {post : va_W → Prop} (hC : CTv g.l g.D g.X y bytes maxL rmc 0 0 (.ref b :: As) wc post) (hrm : RMok rm rmc maxL 0 0 kc ks) (pc' : Nat) (hp : pc + 3 = pc') (is : List Nat) (hsub : is.map (fun i => ws[i]?) = wc.map some) (hnd : va_nd is = true) (q0 ci : Nat) {fs : List Value} {T : u_T} {N : Nat} (he : wc[q0]? = some (b, .inr (ci, fs))) (hc : vwCl[ci]? = some (C, T, N)) (hn : As.length = n) (hcat : (S.map fun v => v.category).sum ≤ 8) (hS0 : S0 = As.reverse ++ .ref b :: S) (hd : decode cc pc = .ok (.invokevirtual idx, 3))
    (k : ∀ (w : va_W), post w → ST g kc ks pc' L S (wput ws is w)) : ST g kc ks pc L S0 ws := by
  subst hp; subst hS0
  intro H locs ls hP hD hS hl
  have hFc := va_free hD hS G.hA is hsub
  obtain ⟨r1, r2, r3, r4, r5⟩ := hrm
  refine va_callv (va_runV (As := As) (rest := S) ⟨G.hx, G.hb, G.hml, G.hown, G.hts⟩ (hC H.size) (cwV n G.hts lk.good rfl r1 r2 lk.1 (by rw [G.hR]; exact r3)) ⟨blind, va_recv G.hK (sub_of hP is hsub) hc he, fun U hU hW => ⟨rfl, pre_call G hP hD hS is hsub hnd U hU hW⟩⟩ rfl hn (hl.1.trans G.hnL) rfl (lv_room hcat) hd (by rw [G.hR]; exact ⟨r4, r5⟩)) hS (fun q _ h => hFc q h) hFc (fun w t H1 locs1 ht hvm hw hB hz1 hk1 hS1 => ?_)
  obtain ⟨hP1, hD1, hle⟩ := hB
  rw [ht] at hP1
  obtain ⟨hP', hD'⟩ := wput_P hP hD is hsub hle hk1 hFc hP1 hD1
  exact k w hw H1 locs1 ls hP' hD' hS1 hl
theorem st_cVa (G : GOOD g own cc nL rm) (lk : LkV own idx C y bytes maxL (some rt) n) {ad : Nat → Nat} {post : Nat → va_W → Prop} (hC : CTa g.l g.D g.X y bytes maxL rt rmc (.ref b :: As) wc ad post) (hrm : RMok rm rmc maxL 0 0 kc ks) (pc' : Nat) (hp : pc + 3 = pc') (is : List Nat) (hsub : is.map (fun i => ws[i]?) = wc.map some) (hnd : va_nd is = true) (q0 ci : Nat) {fs : List Value} {T : u_T} {N : Nat} (he : wc[q0]? = some (b, .inr (ci, fs))) (hc : vwCl[ci]? = some (C, T, N)) (hn : As.length = n) (hcat : (S.map fun v => v.category).sum ≤ 8) (hS0 : S0 = As.reverse ++ .ref b :: S) (hd : decode cc pc = .ok (.invokevirtual idx, 3))
    (k : ∀ (r : Nat) (w : va_W), post r w → ST g kc ks pc' L (.ref (ad r) :: S) (wput ws is w)) : ST g kc ks pc L S0 ws := by
  subst hp; subst hS0
  intro H locs ls hP hD hS hl
  have hFc := va_free hD hS G.hA is hsub
  obtain ⟨r1, r2, r3, r4, r5⟩ := hrm
  refine va_callr (va_runV (As := As) (rest := S) ⟨G.hx, G.hb, G.hml, G.hown, G.hts⟩ (hC H.size) (cwV n G.hts lk.good rfl r1 r2 lk.1 (by rw [G.hR]; exact r3)) ⟨blind, va_recv G.hK (sub_of hP is hsub) hc he, fun U hU hW => ⟨rfl, pre_call G hP hD hS is hsub hnd U hU hW⟩⟩ rfl hn (hl.1.trans G.hnL) rfl (lv_room hcat) hd (by rw [G.hR]; exact ⟨r4, r5⟩)) hS (fun q _ h => hFc q h) hFc (fun u ra t H1 locs1 ht hvm hw hB hz1 hk1 hS1 => ?_)
  obtain ⟨rfl, hP1, hD1, hle⟩ := hB
  rw [ht] at hP1
  obtain ⟨hP', hD'⟩ := wput_P hP hD is hsub hle hk1 hFc hP1 hD1
  exact k u.1 u.2 hw H1 locs1 ls hP' hD' hS1 hl
theorem st_cSi (G : GOOD g own cc nL rm) (lk : LkS own idx y bytes maxL (some rt) n) {post : Int32 → va_W → Prop} (hC : CTi g.l g.D g.X y bytes maxL rt rmc As wc post) (hrm : RMok rm rmc maxL 0 0 kc ks) (pc' : Nat) (hp : pc + 3 = pc') (is : List Nat) (hsub : is.map (fun i => ws[i]?) = wc.map some) (hnd : va_nd is = true) (hn : As.length = n) (hcat : (S.map fun v => v.category).sum ≤ 8) (hS0 : S0 = As.reverse ++ S) (hd : decode cc pc = .ok (.invokestatic idx, 3))
    (k : ∀ (r : Int32) (w : va_W), post r w → ST g kc ks pc' L (.int r :: S) (wput ws is w)) : ST g kc ks pc L S0 ws := by
  subst hp; subst hS0
  intro H locs ls hP hD hS hl
  have hFc := va_free hD hS G.hA is hsub
  obtain ⟨r1, r2, r3, r4, r5⟩ := hrm
  refine va_calli (va_runS (As := As) (rest := S) ⟨G.hx, G.hb, G.hml, G.hown, G.hts⟩ (hC H.size) (va_cwS n G.hts lk.good rfl r1 r2 lk.1 (by rw [G.hR]; exact r3)) ⟨blind, fun U hU hW => ⟨rfl, pre_call G hP hD hS is hsub hnd U hU hW⟩⟩ rfl hn (hl.1.trans G.hnL) rfl (lv_room hcat) hd (by rw [G.hR]; exact ⟨r4, r5⟩)) hS (fun q _ h => hFc q h) hFc (fun r w t H1 locs1 ht hvm hw hB hz1 hk1 hS1 => ?_)
  obtain ⟨hP1, hD1, hle⟩ := hB
  rw [ht] at hP1
  obtain ⟨hP', hD'⟩ := wput_P hP hD is hsub hle hk1 hFc hP1 hD1
  exact k r w hw H1 locs1 ls hP' hD' hS1 hl
theorem st_cSv (G : GOOD g own cc nL rm) (lk : LkS own idx y bytes maxL none n) {post : va_W → Prop} (hC : CTv g.l g.D g.X y bytes maxL rmc 0 0 As wc post) (hrm : RMok rm rmc maxL 0 0 kc ks) (pc' : Nat) (hp : pc + 3 = pc') (is : List Nat) (hsub : is.map (fun i => ws[i]?) = wc.map some) (hnd : va_nd is = true) (hn : As.length = n) (hcat : (S.map fun v => v.category).sum ≤ 8) (hS0 : S0 = As.reverse ++ S) (hd : decode cc pc = .ok (.invokestatic idx, 3))
    (k : ∀ (w : va_W), post w → ST g kc ks pc' L S (wput ws is w)) : ST g kc ks pc L S0 ws := by
  subst hp; subst hS0
  intro H locs ls hP hD hS hl
  have hFc := va_free hD hS G.hA is hsub
  obtain ⟨r1, r2, r3, r4, r5⟩ := hrm
  refine va_callv (va_runS (As := As) (rest := S) ⟨G.hx, G.hb, G.hml, G.hown, G.hts⟩ (hC H.size) (va_cwS n G.hts lk.good rfl r1 r2 lk.1 (by rw [G.hR]; exact r3)) ⟨blind, fun U hU hW => ⟨rfl, pre_call G hP hD hS is hsub hnd U hU hW⟩⟩ rfl hn (hl.1.trans G.hnL) rfl (lv_room hcat) hd (by rw [G.hR]; exact ⟨r4, r5⟩)) hS (fun q _ h => hFc q h) hFc (fun w t H1 locs1 ht hvm hw hB hz1 hk1 hS1 => ?_)
  obtain ⟨hP1, hD1, hle⟩ := hB
  rw [ht] at hP1
  obtain ⟨hP', hD'⟩ := wput_P hP hD is hsub hle hk1 hFc hP1 hD1
  exact k w hw H1 locs1 ls hP' hD' hS1 hl
theorem st_cNi (G : GOOD g own cc nL rm) (lk : LkN own idx y bytes maxL (some rt) n) {post : Int32 → va_W → Prop} (hC : CTi g.l g.D g.X y bytes maxL rt rmc As wc post) (hrm : RMok rm rmc maxL 0 0 kc ks) (pc' : Nat) (hp : pc + 3 = pc') (is : List Nat) (hsub : is.map (fun i => ws[i]?) = wc.map some) (hnd : va_nd is = true) (hn : As.length = n) (hcat : (S.map fun v => v.category).sum ≤ 8) (hS0 : S0 = As.reverse ++ S) (hd : decode cc pc = .ok (.invokestatic idx, 3))
    (k : ∀ (r : Int32) (w : va_W), post r w → ST g kc ks pc' L (.int r :: S) (wput ws is w)) : ST g kc ks pc L S0 ws := by
  subst hp; subst hS0
  intro H locs ls hP hD hS hl
  have hFc := va_free hD hS G.hA is hsub
  obtain ⟨r1, r2, r3, r4, r5⟩ := hrm
  obtain ⟨l1, l2, l3, l4, l5⟩ := lk
  refine va_calli (va_runSN (host := "DirtPress") (As := As) (rest := S) ⟨G.hx, G.hb, G.hml, G.hown, G.hts⟩ (hC H.size) ⟨va_cnB n G.hts (gd_code l5) rfl r1 r2 (G.hN.1 _ l2) (G.hts _ l4) l1 (by rw [G.hR]; exact r3), G.hts _ l3, trivial⟩ ⟨blind, fun U hU hW => ⟨rfl, pre_call G hP hD hS is hsub hnd U hU hW⟩⟩ rfl hn (hl.1.trans G.hnL) rfl (lv_room hcat) hd (by rw [G.hR]; exact ⟨r4, r5⟩)) hS (fun q _ h => hFc q h) hFc (fun r w t H1 locs1 ht hvm hw hB hz1 hk1 hS1 => ?_)
  obtain ⟨hP1, hD1, hle⟩ := hB
  rw [ht] at hP1
  obtain ⟨hP', hD'⟩ := wput_P hP hD is hsub hle hk1 hFc hP1 hD1
  exact k r w hw H1 locs1 ls hP' hD' hS1 hl
theorem st_cI (G : GOOD g own cc nL rm) (lk : LkI own idx y bytes maxL n) {post : va_W → Prop} (hC : CTv g.l g.D g.X y bytes maxL rmc mc ms (.ref b :: As) wc post) (hrm : RMok rm rmc maxL mc ms kc ks) (pc' : Nat) (hp : pc + 3 = pc') (is : List Nat) (hsub : is.map (fun i => ws[i]?) = wc.map some) (hnd : va_nd is = true) (hn : As.length = n) (hcat : (S.map fun v => v.category).sum ≤ 8) (hS0 : S0 = As.reverse ++ .ref b :: S) (hd : decode cc pc = .ok (.invokespecial idx, 3))
    (k : ∀ (w : va_W), post w → ST g (kc + mc) (ks + ms) pc' L S (wput ws is w)) : ST g kc ks pc L S0 ws := by
  subst hp; subst hS0
  intro H locs ls hP hD hS hl
  have hFc := va_free hD hS G.hA is hsub
  obtain ⟨r1, r2, r3, r4, r5⟩ := hrm
  obtain ⟨l1, l2, l3, l4, l5⟩ := lk
  refine va_callv (va_runI (As := As) (rest := S) ⟨G.hx, G.hb, G.hml, G.hown, G.hts⟩ (hC H.size) (cwI n G.hts (gd_code l5) rfl r1 r2 (G.hts _ l4) (G.hts _ l2) (G.hts _ l3) l1.1 l1.2 (by rw [G.hR]; exact r3)) ⟨blind, fun U hU hW => ⟨rfl, pre_call G hP hD hS is hsub hnd U hU hW⟩⟩ rfl hn (hl.1.trans G.hnL) rfl (lv_room hcat) hd (by rw [G.hR]; exact ⟨r4, r5⟩)) hS (fun q _ h => hFc q h) hFc (fun w t H1 locs1 ht hvm hw hB hz1 hk1 hS1 => ?_)
  obtain ⟨hP1, hD1, hle⟩ := hB
  rw [ht] at hP1
  obtain ⟨hP', hD'⟩ := wput_P hP hD is hsub hle hk1 hFc hP1 hD1
  exact k w hw H1 locs1 ls hP' hD' hS1 hl
theorem st_cIN (G : GOOD g own cc nL rm) (lk : LkIN own idx y bytes maxL n) {post : va_W → Prop} (hC : CTv g.l g.D g.X y bytes maxL rmc mc ms (.ref b :: As) wc post) (hrm : RMok rm rmc maxL mc ms kc ks) (pc' : Nat) (hp : pc + 3 = pc') (is : List Nat) (hsub : is.map (fun i => ws[i]?) = wc.map some) (hnd : va_nd is = true) (hn : As.length = n) (hcat : (S.map fun v => v.category).sum ≤ 8) (hS0 : S0 = As.reverse ++ .ref b :: S) (hd : decode cc pc = .ok (.invokespecial idx, 3))
    (k : ∀ (w : va_W), post w → ST g (kc + mc) (ks + ms) pc' L S (wput ws is w)) : ST g kc ks pc L S0 ws := by
  subst hp; subst hS0
  intro H locs ls hP hD hS hl
  have hFc := va_free hD hS G.hA is hsub
  obtain ⟨r1, r2, r3, r4, r5⟩ := hrm
  obtain ⟨l1, l2, l3, l4, l5⟩ := lk
  refine va_callv (va_runIN (host := "DirtPress") (As := As) (rest := S) ⟨G.hx, G.hb, G.hml, G.hown, G.hts⟩ (hC H.size) ⟨va_cnB n G.hts (gd_code l5) rfl r1 r2 (G.hN.1 _ l2) (G.hts _ l4) l1.2 (by rw [G.hR]; exact r3), l1.1, G.hts _ l3⟩ ⟨blind, fun U hU hW => ⟨rfl, pre_call G hP hD hS is hsub hnd U hU hW⟩⟩ rfl hn (hl.1.trans G.hnL) rfl (lv_room hcat) hd (by rw [G.hR]; exact ⟨r4, r5⟩)) hS (fun q _ h => hFc q h) hFc (fun w t H1 locs1 ht hvm hw hB hz1 hk1 hS1 => ?_)
  obtain ⟨hP1, hD1, hle⟩ := hB
  rw [ht] at hP1
  obtain ⟨hP', hD'⟩ := wput_P hP hD is hsub hle hk1 hFc hP1 hD1
  exact k w hw H1 locs1 ls hP' hD' hS1 hl
theorem st_objInit (G : GOOD g own cc nL rm) (hw : Cond.methodLink own idx objectInit ∈ GW) (hi : Cond.instanceMethod objectInit ∈ GW) (hco : Cond.code objectInit ⟨#[0xb1]⟩ 1 none ∈ GW) (pc' : Nat) (hp : pc + 3 = pc') (hf : 1 ≤ rm.frames) (hlo : (S.map fun v => v.category).sum + 12 ≤ rm.locals) (hd : decode cc pc = .ok (.invokespecial idx, 3)) (k : ST g kc ks pc' L S ws) : ST g kc ks pc L (.ref b :: S) ws := by
  subst hp
  intro H locs ls hP hD hS hl
  refine W.objInit G.hx G.hb G.hown (G.hts _ hw) (G.hts _ hi) (G.hts _ hco) rfl (by rw [G.hml, ← G.hnL]; exact hl.1) rfl hd (by rw [G.hR]; exact hf) ?_ ?_
  · rw [G.hR]
    have : (2 * (F0 g.m pc ls (.ref b :: S)).monitorRoom) = 0 := rfl
    rw [this]; simpa using hlo
  · exact k H locs ls hP hD hS hl
theorem st_mmax (G : GOOD g own cc nL rm) (hw : Cond.methodLink own idx Lib.Math.max.name ∈ GW) (hs : Cond.static Lib.Math.max.name ∈ GW) (hi : Cond.initialized "java/lang/Math" ∈ GW) (hco : Cond.code Lib.Math.max.name Lib.Math.max.code 2 (some .int) ∈ GW) (hrm : 1 ≤ rm.frames ∧ (S.map fun v => v.category).sum + 13 ≤ rm.locals ∧ kc ≤ rm.cells ∧ ks ≤ rm.slots) (pc' : Nat) (hp : pc + 3 = pc') {x y : Int32} (hd : decode cc pc = .ok (.invokestatic idx, 3)) (k : ST g kc ks pc' L (.int (if x < y then y else x) :: S) ws) : ST g kc ks pc L (.int y :: .int x :: S) ws := by
  subst hp
  intro H locs ls hP hD hS hl
  obtain ⟨r1, r2, r3, r4⟩ := hrm
  exact va_mmax G.hx G.hb (by rw [G.hml, ← G.hnL]; exact hl.1.symm) G.hown (G.hts _ hw) (G.hts _ hs) (G.hts _ hi) (G.hts _ hco) (by rw [G.hR]; exact r1) (by rw [G.hR]; exact r2) (by rw [G.hR]; exact r3) (by rw [G.hR]; exact r4) hd (k H locs ls hP hD hS hl)
theorem st_mmin (G : GOOD g own cc nL rm) (hw : Cond.methodLink own idx Lib.Math.min.name ∈ GW) (hs : Cond.static Lib.Math.min.name ∈ GW) (hi : Cond.initialized "java/lang/Math" ∈ GW) (hco : Cond.code Lib.Math.min.name Lib.Math.min.code 2 (some .int) ∈ GW) (hrm : 1 ≤ rm.frames ∧ (S.map fun v => v.category).sum + 13 ≤ rm.locals ∧ kc ≤ rm.cells ∧ ks ≤ rm.slots) (pc' : Nat) (hp : pc + 3 = pc') {x y : Int32} (hd : decode cc pc = .ok (.invokestatic idx, 3)) (k : ST g kc ks pc' L (.int (if y < x then y else x) :: S) ws) : ST g kc ks pc L (.int y :: .int x :: S) ws := by
  subst hp
  intro H locs ls hP hD hS hl
  obtain ⟨r1, r2, r3, r4⟩ := hrm
  exact va_mmin G.hx G.hb (by rw [G.hml, ← G.hnL]; exact hl.1.symm) G.hown (G.hts _ hw) (G.hts _ hs) (G.hts _ hi) (G.hts _ hco) (by rw [G.hR]; exact r1) (by rw [G.hR]; exact r2) (by rw [G.hR]; exact r3) (by rw [G.hR]; exact r4) hd (k H locs ls hP hD hS hl)
/-- System.arraycopy of int rows -/
theorem st_copy (G : GOOD g own cc nL rm) (hw : Cond.methodLink own idx arraycopyName ∈ GW) (hna : Cond.native arraycopyName ∈ GW) (hs : Cond.static arraycopyName ∈ GW) (hi : Cond.initialized "java/lang/System" ∈ GW) (hrm : 1 ≤ rm.frames ∧ (S.map fun v => v.category).sum + (nativeFrameWords "java/lang/System" "arraycopy" 5 + 11) ≤ rm.locals) (ws' : va_W) (pc' : Nat) (hp : pc + 3 = pc') (q0 q1 : Nat) {a0 a1 n0 n1 : Nat} {f f1 : Nat → Int32} (ha0 : ws[q0]? = some (a0, .inl (g.X.cI, n0, .inl f))) (ha1 : ws[q1]? = some (a1, .inl (g.X.cI, n1, .inl f1))) {sp dp nn : Int32} (h1 : ¬ sp < 0) (h2 : ¬ dp < 0) (h3 : ¬ nn < 0) (h4 : sp.toNatClampNeg + nn.toNatClampNeg ≤ n0) (h5 : dp.toNatClampNeg + nn.toNatClampNeg ≤ n1) (hws : ws.set q1 (a1, .inl (g.X.cI, n1, .inl (va_cpy f f1 sp.toNatClampNeg dp.toNatClampNeg nn.toNatClampNeg))) = ws') (hd : decode cc pc = .ok (.invokestatic idx, 3)) (k : ST g kc ks pc' L S ws') : ST g kc ks pc L (.int nn :: .int dp :: .ref a1 :: .int sp :: .ref a0 :: S) ws := by
  subst hp; subst hws
  intro H locs ls hP hD hS hl
  obtain ⟨r1, r2⟩ := hrm
  exact va_copyi (ty := .int) (D := g.D) (cl := vwCl) G.hx G.hb (by rw [G.hml, ← G.hnL]; exact hl.1.symm) G.hown (G.hts _ hw) (G.hts _ hna) (G.hts _ hs) (G.hts _ hi) G.hK hP hD hS q0 q1 0 0 ha0 ha1 rfl rfl rfl h1 h2 h3 h4 h5 (fun _ _ => rfl) (by rw [G.hR]; exact r1) (by rw [G.hR]; exact r2) hd (fun H1 locs1 hP1 hD1 hS1 => k H1 locs1 ls hP1 hD1 hS1 hl)
/-- a new row of ints, of the class that the tables name -/
theorem st_newa (G : GOOD g own cc nL rm) (harr : Cond.arrayClass .int ∈ GW) (pc' : Nat) (hp : pc + 2 = pc') {nn : Int32} (N : Nat) (hn : ¬ nn < 0) (hN : nn.toNatClampNeg = N) (hb : N * componentBytes .int ≤ 536870912) (hf : kc + 1 ≤ rm.cells ∧ ks + N ≤ rm.slots) (hd : decode cc pc = .ok (.newarray .int, 2)) (k : ∀ q : Nat, ST g (kc + 1) (ks + N) pc' L (.ref q :: S) (ws ++ [(q, .inl (g.X.cI, N, .inl (fun _ => 0)))])) : ST g kc ks pc L (.int nn :: S) ws := by
  subst hp
  intro H locs ls hP hD hS hl
  refine va_newa (atype := .int) (D := g.D) (cl := vwCl) (a0 := (N, .inl (fun _ => 0))) G.hx G.hb (G.hts _ harr) rfl G.hK hP hD hS G.hA (fun cA => rfl) hn hN hb (by rw [G.hR]; exact hf.1) (by rw [G.hR]; exact hf.2) hd (fun q cA H1 hK1 hP1 hD1 hS1 => ?_)
  have e : cA = g.X.cI := by
    have h1 := (hK1.2 2 _ rfl).2
    have h2 := (G.hK.2 0 _ rfl).2
    have h3 := h1.symm.trans h2
    exact Option.some.inj h3
  subst e
  exact k q H1 locs ls hP1 hD1 hS1 hl
theorem st_new {T : u_T} {N ci : Nat} (G : GOOD g own cc nL rm) (hin : ∀ w ∈ u_ws C T N, w ∈ GW) (ty : Nat → FieldType) (hty : ∀ k, k < N → parseFieldDescriptor (T k).2.2.1 = some (ty k)) (hcl : Cond.classLink own idx C ∈ GW) (hinst : Cond.instantiable C N ∈ GW) (hini : Cond.initialized C ∈ GW) (hc : vwCl[ci]? = some (C, T, N)) (fs : List Value) (hfs : ∀ j, j < N → defaultValue (ty j) = vp_V fs j) (pc' : Nat) (hp : pc + 3 = pc') (hf : kc + 1 ≤ rm.cells ∧ ks + N ≤ rm.slots) (hd : decode cc pc = .ok (.new idx, 3)) (k : ∀ q : Nat, ST g (kc + 1) (ks + N) pc' L (.ref q :: S) (ws ++ [(q, .inr (ci, fs))])) : ST g kc ks pc L S ws := by
  subst hp
  intro H locs ls hP hD hS hl
  exact va_new (D := g.D) (cl := vwCl) G.hx G.hb G.hts hin ty hty G.hown (G.hts _ hcl) (G.hts _ hinst) (G.hts _ hini) G.hK hP hD hS G.hA hc hfs (by rw [G.hR]; exact hf.1) (by rw [G.hR]; exact hf.2) hd (fun q H1 hP1 hD1 hS1 => k q H1 locs ls hP1 hD1 hS1 hl)
theorem st_cVio (G : GOOD g own cc nL rm) (lk : LkV own idx C y bytes maxL (some rt) n) {post : Int32 → Prop} (hC : CTi g.l g.D g.X y bytes maxL rt rmc (.ref b :: As) wc (fun r w => post r ∧ w = wc)) (hrm : RMok rm rmc maxL 0 0 kc ks) (pc' : Nat) (hp : pc + 3 = pc') (is : List Nat) (hsub : is.map (fun i => ws[i]?) = wc.map some) (hnd : va_nd is = true) (q0 ci : Nat) {fs : List Value} {T : u_T} {N : Nat} (he : wc[q0]? = some (b, .inr (ci, fs))) (hc : vwCl[ci]? = some (C, T, N)) (hn : As.length = n) (hcat : (S.map fun v => v.category).sum ≤ 8) (hS0 : S0 = As.reverse ++ .ref b :: S) (hd : decode cc pc = .ok (.invokevirtual idx, 3))
    (k : ∀ (r : Int32), post r → ST g kc ks pc' L (.int r :: S) ws) : ST g kc ks pc L S0 ws :=
  st_cVi G lk hC hrm pc' hp is hsub hnd q0 ci he hc hn hcat hS0 hd (fun r w hq => by obtain ⟨h1, rfl⟩ := hq; rw [wput_self is ws _ hsub]; exact k r h1)
theorem st_cSio (G : GOOD g own cc nL rm) (lk : LkS own idx y bytes maxL (some rt) n) {post : Int32 → Prop} (hC : CTi g.l g.D g.X y bytes maxL rt rmc As wc (fun r w => post r ∧ w = wc)) (hrm : RMok rm rmc maxL 0 0 kc ks) (pc' : Nat) (hp : pc + 3 = pc') (is : List Nat) (hsub : is.map (fun i => ws[i]?) = wc.map some) (hnd : va_nd is = true) (hn : As.length = n) (hcat : (S.map fun v => v.category).sum ≤ 8) (hS0 : S0 = As.reverse ++ S) (hd : decode cc pc = .ok (.invokestatic idx, 3))
    (k : ∀ (r : Int32), post r → ST g kc ks pc' L (.int r :: S) ws) : ST g kc ks pc L S0 ws :=
  st_cSi G lk hC hrm pc' hp is hsub hnd hn hcat hS0 hd (fun r w hq => by obtain ⟨h1, rfl⟩ := hq; rw [wput_self is ws _ hsub]; exact k r h1)
theorem st_cNio (G : GOOD g own cc nL rm) (lk : LkN own idx y bytes maxL (some rt) n) {post : Int32 → Prop} (hC : CTi g.l g.D g.X y bytes maxL rt rmc As wc (fun r w => post r ∧ w = wc)) (hrm : RMok rm rmc maxL 0 0 kc ks) (pc' : Nat) (hp : pc + 3 = pc') (is : List Nat) (hsub : is.map (fun i => ws[i]?) = wc.map some) (hnd : va_nd is = true) (hn : As.length = n) (hcat : (S.map fun v => v.category).sum ≤ 8) (hS0 : S0 = As.reverse ++ S) (hd : decode cc pc = .ok (.invokestatic idx, 3))
    (k : ∀ (r : Int32), post r → ST g kc ks pc' L (.int r :: S) ws) : ST g kc ks pc L S0 ws :=
  st_cNi G lk hC hrm pc' hp is hsub hnd hn hcat hS0 hd (fun r w hq => by obtain ⟨h1, rfl⟩ := hq; rw [wput_self is ws _ hsub]; exact k r h1)
theorem st_cVao (G : GOOD g own cc nL rm) (lk : LkV own idx C y bytes maxL (some rt) n) {ad : Nat → Nat} {post : Nat → Prop} (hC : CTa g.l g.D g.X y bytes maxL rt rmc (.ref b :: As) wc ad (fun r w => post r ∧ w = wc)) (hrm : RMok rm rmc maxL 0 0 kc ks) (pc' : Nat) (hp : pc + 3 = pc') (is : List Nat) (hsub : is.map (fun i => ws[i]?) = wc.map some) (hnd : va_nd is = true) (q0 ci : Nat) {fs : List Value} {T : u_T} {N : Nat} (he : wc[q0]? = some (b, .inr (ci, fs))) (hc : vwCl[ci]? = some (C, T, N)) (hn : As.length = n) (hcat : (S.map fun v => v.category).sum ≤ 8) (hS0 : S0 = As.reverse ++ .ref b :: S) (hd : decode cc pc = .ok (.invokevirtual idx, 3))
    (k : ∀ (r : Nat), post r → ST g kc ks pc' L (.ref (ad r) :: S) ws) : ST g kc ks pc L S0 ws :=
  st_cVa G lk hC hrm pc' hp is hsub hnd q0 ci he hc hn hcat hS0 hd (fun r w hq => by obtain ⟨h1, rfl⟩ := hq; rw [wput_self is ws _ hsub]; exact k r h1)
end CALLS
end
