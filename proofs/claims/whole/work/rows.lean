section
-- ===== PART A: goes FIRST, ahead of the names: the tables' words, and 'selects' of the private methods out of them =====
/-- a private method of a class that the tables say can be made, by its rows of tables_1 -/
def lw_okq (q : MethodName × Nat) : Prop := (q.1.cls ≠ "java/lang/invoke/MethodHandle" ∧ q.1.cls ≠ "java/lang/invoke/VarHandle") ∧ Cond.instantiable q.1.cls q.2 ∈ tables_1 ∧ Cond.privateMethod q.1 ∈ tables_1 ∧ Cond.instanceMethod q.1 ∈ tables_1
theorem lw_p0 : lw_okq (⟨"BeardHire", "finding", "(I)I"⟩, 7) := ⟨⟨by decide +kernel, by decide +kernel⟩, List.mem_of_getElem? (i := 19) (by decide +kernel), List.mem_of_getElem? (i := 223) (by decide +kernel), List.mem_of_getElem? (i := 224) (by decide +kernel)⟩
theorem lw_p1 : lw_okq (⟨"BeardHire", "isBeard", "(I)Z"⟩, 7) := ⟨⟨by decide +kernel, by decide +kernel⟩, List.mem_of_getElem? (i := 19) (by decide +kernel), List.mem_of_getElem? (i := 232) (by decide +kernel), List.mem_of_getElem? (i := 233) (by decide +kernel)⟩
theorem lw_p2 : lw_okq (⟨"BeardHire", "isWearer", "(I)Z"⟩, 7) := ⟨⟨by decide +kernel, by decide +kernel⟩, List.mem_of_getElem? (i := 19) (by decide +kernel), List.mem_of_getElem? (i := 425) (by decide +kernel), List.mem_of_getElem? (i := 426) (by decide +kernel)⟩
theorem lw_p3 : lw_okq (⟨"BeardHire$Trade", "spendNight", "(II)V"⟩, 13) := ⟨⟨by decide +kernel, by decide +kernel⟩, List.mem_of_getElem? (i := 70) (by decide +kernel), List.mem_of_getElem? (i := 463) (by decide +kernel), List.mem_of_getElem? (i := 464) (by decide +kernel)⟩
theorem lw_p4 : lw_okq (⟨"BeardHire$Trade", "combOut", "()V"⟩, 13) := ⟨⟨by decide +kernel, by decide +kernel⟩, List.mem_of_getElem? (i := 70) (by decide +kernel), List.mem_of_getElem? (i := 477) (by decide +kernel), List.mem_of_getElem? (i := 478) (by decide +kernel)⟩
theorem lw_p5 : lw_okq (⟨"BeardHire$Text", "advance", "()V"⟩, 8) := ⟨⟨by decide +kernel, by decide +kernel⟩, List.mem_of_getElem? (i := 138) (by decide +kernel), List.mem_of_getElem? (i := 557) (by decide +kernel), List.mem_of_getElem? (i := 558) (by decide +kernel)⟩
theorem lw_p6 : lw_okq (⟨"BeardHire$Text", "tellItem", "()Z"⟩, 8) := ⟨⟨by decide +kernel, by decide +kernel⟩, List.mem_of_getElem? (i := 138) (by decide +kernel), List.mem_of_getElem? (i := 568) (by decide +kernel), List.mem_of_getElem? (i := 569) (by decide +kernel)⟩
theorem lw_p7 : lw_okq (⟨"BeardHire$Text", "isWord", "(Ljava/lang/String;)Z"⟩, 8) := ⟨⟨by decide +kernel, by decide +kernel⟩, List.mem_of_getElem? (i := 138) (by decide +kernel), List.mem_of_getElem? (i := 598) (by decide +kernel), List.mem_of_getElem? (i := 599) (by decide +kernel)⟩
theorem lw_p8 : lw_okq (⟨"BeardHire$Text", "tellBeard", "(I)Z"⟩, 8) := ⟨⟨by decide +kernel, by decide +kernel⟩, List.mem_of_getElem? (i := 138) (by decide +kernel), List.mem_of_getElem? (i := 650) (by decide +kernel), List.mem_of_getElem? (i := 651) (by decide +kernel)⟩
theorem lw_p9 : lw_okq (⟨"BeardHire$Text", "isNumber", "(I)Z"⟩, 8) := ⟨⟨by decide +kernel, by decide +kernel⟩, List.mem_of_getElem? (i := 138) (by decide +kernel), List.mem_of_getElem? (i := 656) (by decide +kernel), List.mem_of_getElem? (i := 657) (by decide +kernel)⟩
theorem lw_p10 : lw_okq (⟨"BeardHire$Text", "takeNumber", "()I"⟩, 8) := ⟨⟨by decide +kernel, by decide +kernel⟩, List.mem_of_getElem? (i := 138) (by decide +kernel), List.mem_of_getElem? (i := 660) (by decide +kernel), List.mem_of_getElem? (i := 661) (by decide +kernel)⟩
theorem lw_p11 : lw_okq (⟨"BeardHire$Text", "tellWearer", "()Z"⟩, 8) := ⟨⟨by decide +kernel, by decide +kernel⟩, List.mem_of_getElem? (i := 138) (by decide +kernel), List.mem_of_getElem? (i := 666) (by decide +kernel), List.mem_of_getElem? (i := 667) (by decide +kernel)⟩
theorem lw_p12 : lw_okq (⟨"BeardHire$Text", "tellHouse", "()Z"⟩, 8) := ⟨⟨by decide +kernel, by decide +kernel⟩, List.mem_of_getElem? (i := 138) (by decide +kernel), List.mem_of_getElem? (i := 673) (by decide +kernel), List.mem_of_getElem? (i := 674) (by decide +kernel)⟩
theorem lw_p13 : lw_okq (⟨"BeardHire$Text", "tellHire", "()Z"⟩, 8) := ⟨⟨by decide +kernel, by decide +kernel⟩, List.mem_of_getElem? (i := 138) (by decide +kernel), List.mem_of_getElem? (i := 680) (by decide +kernel), List.mem_of_getElem? (i := 681) (by decide +kernel)⟩
theorem lw_p14 : lw_okq (⟨"BeardHire", "trialFollows", "(LBeardHire$Sheet;I)Z"⟩, 7) := ⟨⟨by decide +kernel, by decide +kernel⟩, List.mem_of_getElem? (i := 19) (by decide +kernel), List.mem_of_getElem? (i := 731) (by decide +kernel), List.mem_of_getElem? (i := 732) (by decide +kernel)⟩
theorem lw_p15 : lw_okq (⟨"BeardHireModel", "becomes", "(II)I"⟩, 16) := ⟨⟨by decide +kernel, by decide +kernel⟩, List.mem_of_getElem? (i := 759) (by decide +kernel), List.mem_of_getElem? (i := 830) (by decide +kernel), List.mem_of_getElem? (i := 831) (by decide +kernel)⟩
def lw_privs_1 : List (MethodName × Nat) := [(⟨"BeardHire", "finding", "(I)I"⟩, 7), (⟨"BeardHire", "isBeard", "(I)Z"⟩, 7), (⟨"BeardHire", "isWearer", "(I)Z"⟩, 7), (⟨"BeardHire$Trade", "spendNight", "(II)V"⟩, 13), (⟨"BeardHire$Trade", "combOut", "()V"⟩, 13), (⟨"BeardHire$Text", "advance", "()V"⟩, 8), (⟨"BeardHire$Text", "tellItem", "()Z"⟩, 8), (⟨"BeardHire$Text", "isWord", "(Ljava/lang/String;)Z"⟩, 8), (⟨"BeardHire$Text", "tellBeard", "(I)Z"⟩, 8), (⟨"BeardHire$Text", "isNumber", "(I)Z"⟩, 8), (⟨"BeardHire$Text", "takeNumber", "()I"⟩, 8), (⟨"BeardHire$Text", "tellWearer", "()Z"⟩, 8), (⟨"BeardHire$Text", "tellHouse", "()Z"⟩, 8), (⟨"BeardHire$Text", "tellHire", "()Z"⟩, 8), (⟨"BeardHire", "trialFollows", "(LBeardHire$Sheet;I)Z"⟩, 7), (⟨"BeardHireModel", "becomes", "(II)I"⟩, 16)]
theorem lw_r1 : ∀ q ∈ lw_privs_1, lw_okq q := List.forall_mem_cons.mpr ⟨lw_p0, List.forall_mem_cons.mpr ⟨lw_p1, List.forall_mem_cons.mpr ⟨lw_p2, List.forall_mem_cons.mpr ⟨lw_p3, List.forall_mem_cons.mpr ⟨lw_p4, List.forall_mem_cons.mpr ⟨lw_p5, List.forall_mem_cons.mpr ⟨lw_p6, List.forall_mem_cons.mpr ⟨lw_p7, List.forall_mem_cons.mpr ⟨lw_p8, List.forall_mem_cons.mpr ⟨lw_p9, List.forall_mem_cons.mpr ⟨lw_p10, List.forall_mem_cons.mpr ⟨lw_p11, List.forall_mem_cons.mpr ⟨lw_p12, List.forall_mem_cons.mpr ⟨lw_p13, List.forall_mem_cons.mpr ⟨lw_p14, List.forall_mem_cons.mpr ⟨lw_p15, fun _ h => absurd h List.not_mem_nil⟩⟩⟩⟩⟩⟩⟩⟩⟩⟩⟩⟩⟩⟩⟩⟩
theorem lw_p16 : lw_okq (⟨"BeardHireModel", "finds", "(I)I"⟩, 16) := ⟨⟨by decide +kernel, by decide +kernel⟩, List.mem_of_getElem? (i := 759) (by decide +kernel), List.mem_of_getElem? (i := 835) (by decide +kernel), List.mem_of_getElem? (i := 836) (by decide +kernel)⟩
theorem lw_p17 : lw_okq (⟨"BeardHireModel", "isBeard", "(I)Z"⟩, 16) := ⟨⟨by decide +kernel, by decide +kernel⟩, List.mem_of_getElem? (i := 759) (by decide +kernel), List.mem_of_getElem? (i := 843) (by decide +kernel), List.mem_of_getElem? (i := 844) (by decide +kernel)⟩
theorem lw_p18 : lw_okq (⟨"BeardHireModel", "house", "(II)I"⟩, 16) := ⟨⟨by decide +kernel, by decide +kernel⟩, List.mem_of_getElem? (i := 759) (by decide +kernel), List.mem_of_getElem? (i := 852) (by decide +kernel), List.mem_of_getElem? (i := 853) (by decide +kernel)⟩
theorem lw_p19 : lw_okq (⟨"BeardHireModel", "goers", "(I)I"⟩, 16) := ⟨⟨by decide +kernel, by decide +kernel⟩, List.mem_of_getElem? (i := 759) (by decide +kernel), List.mem_of_getElem? (i := 856) (by decide +kernel), List.mem_of_getElem? (i := 857) (by decide +kernel)⟩
theorem lw_p20 : lw_okq (⟨"BeardHireModel", "placeOf", "(I)I"⟩, 16) := ⟨⟨by decide +kernel, by decide +kernel⟩, List.mem_of_getElem? (i := 759) (by decide +kernel), List.mem_of_getElem? (i := 860) (by decide +kernel), List.mem_of_getElem? (i := 861) (by decide +kernel)⟩
theorem lw_p21 : lw_okq (⟨"BeardHireModel", "theirs", "(II)I"⟩, 16) := ⟨⟨by decide +kernel, by decide +kernel⟩, List.mem_of_getElem? (i := 759) (by decide +kernel), List.mem_of_getElem? (i := 864) (by decide +kernel), List.mem_of_getElem? (i := 865) (by decide +kernel)⟩
theorem lw_p22 : lw_okq (⟨"BeardHireModel", "isMonday", "()Z"⟩, 16) := ⟨⟨by decide +kernel, by decide +kernel⟩, List.mem_of_getElem? (i := 759) (by decide +kernel), List.mem_of_getElem? (i := 875) (by decide +kernel), List.mem_of_getElem? (i := 876) (by decide +kernel)⟩
theorem lw_p23 : lw_okq (⟨"BeardHireModel", "inShop", "()I"⟩, 16) := ⟨⟨by decide +kernel, by decide +kernel⟩, List.mem_of_getElem? (i := 759) (by decide +kernel), List.mem_of_getElem? (i := 879) (by decide +kernel), List.mem_of_getElem? (i := 880) (by decide +kernel)⟩
theorem lw_p24 : lw_okq (⟨"BeardHireModel", "its", "(II)I"⟩, 16) := ⟨⟨by decide +kernel, by decide +kernel⟩, List.mem_of_getElem? (i := 759) (by decide +kernel), List.mem_of_getElem? (i := 883) (by decide +kernel), List.mem_of_getElem? (i := 884) (by decide +kernel)⟩
theorem lw_p25 : lw_okq (⟨"BeardHireModel", "bearded", "()I"⟩, 16) := ⟨⟨by decide +kernel, by decide +kernel⟩, List.mem_of_getElem? (i := 759) (by decide +kernel), List.mem_of_getElem? (i := 890) (by decide +kernel), List.mem_of_getElem? (i := 891) (by decide +kernel)⟩
theorem lw_p26 : lw_okq (⟨"BeardHireModel", "purses", "()I"⟩, 16) := ⟨⟨by decide +kernel, by decide +kernel⟩, List.mem_of_getElem? (i := 759) (by decide +kernel), List.mem_of_getElem? (i := 894) (by decide +kernel), List.mem_of_getElem? (i := 895) (by decide +kernel)⟩
theorem lw_p27 : lw_okq (⟨"BeardHireModel", "addsBeard", "(I)I"⟩, 16) := ⟨⟨by decide +kernel, by decide +kernel⟩, List.mem_of_getElem? (i := 759) (by decide +kernel), List.mem_of_getElem? (i := 906) (by decide +kernel), List.mem_of_getElem? (i := 907) (by decide +kernel)⟩
theorem lw_p28 : lw_okq (⟨"BeardHireModel", "costsOf", "(I)I"⟩, 16) := ⟨⟨by decide +kernel, by decide +kernel⟩, List.mem_of_getElem? (i := 759) (by decide +kernel), List.mem_of_getElem? (i := 914) (by decide +kernel), List.mem_of_getElem? (i := 915) (by decide +kernel)⟩
theorem lw_p29 : lw_okq (⟨"BeardHireModel", "gainsOf", "(I)I"⟩, 16) := ⟨⟨by decide +kernel, by decide +kernel⟩, List.mem_of_getElem? (i := 759) (by decide +kernel), List.mem_of_getElem? (i := 918) (by decide +kernel), List.mem_of_getElem? (i := 919) (by decide +kernel)⟩
theorem lw_p30 : lw_okq (⟨"BeardHireModel", "meetsOf", "(II)I"⟩, 16) := ⟨⟨by decide +kernel, by decide +kernel⟩, List.mem_of_getElem? (i := 759) (by decide +kernel), List.mem_of_getElem? (i := 926) (by decide +kernel), List.mem_of_getElem? (i := 927) (by decide +kernel)⟩
theorem lw_p31 : lw_okq (⟨"BeardHireModel", "leavesOf", "(I)I"⟩, 16) := ⟨⟨by decide +kernel, by decide +kernel⟩, List.mem_of_getElem? (i := 759) (by decide +kernel), List.mem_of_getElem? (i := 930) (by decide +kernel), List.mem_of_getElem? (i := 931) (by decide +kernel)⟩
def lw_privs_2 : List (MethodName × Nat) := [(⟨"BeardHireModel", "finds", "(I)I"⟩, 16), (⟨"BeardHireModel", "isBeard", "(I)Z"⟩, 16), (⟨"BeardHireModel", "house", "(II)I"⟩, 16), (⟨"BeardHireModel", "goers", "(I)I"⟩, 16), (⟨"BeardHireModel", "placeOf", "(I)I"⟩, 16), (⟨"BeardHireModel", "theirs", "(II)I"⟩, 16), (⟨"BeardHireModel", "isMonday", "()Z"⟩, 16), (⟨"BeardHireModel", "inShop", "()I"⟩, 16), (⟨"BeardHireModel", "its", "(II)I"⟩, 16), (⟨"BeardHireModel", "bearded", "()I"⟩, 16), (⟨"BeardHireModel", "purses", "()I"⟩, 16), (⟨"BeardHireModel", "addsBeard", "(I)I"⟩, 16), (⟨"BeardHireModel", "costsOf", "(I)I"⟩, 16), (⟨"BeardHireModel", "gainsOf", "(I)I"⟩, 16), (⟨"BeardHireModel", "meetsOf", "(II)I"⟩, 16), (⟨"BeardHireModel", "leavesOf", "(I)I"⟩, 16)]
theorem lw_r2 : ∀ q ∈ lw_privs_2, lw_okq q := List.forall_mem_cons.mpr ⟨lw_p16, List.forall_mem_cons.mpr ⟨lw_p17, List.forall_mem_cons.mpr ⟨lw_p18, List.forall_mem_cons.mpr ⟨lw_p19, List.forall_mem_cons.mpr ⟨lw_p20, List.forall_mem_cons.mpr ⟨lw_p21, List.forall_mem_cons.mpr ⟨lw_p22, List.forall_mem_cons.mpr ⟨lw_p23, List.forall_mem_cons.mpr ⟨lw_p24, List.forall_mem_cons.mpr ⟨lw_p25, List.forall_mem_cons.mpr ⟨lw_p26, List.forall_mem_cons.mpr ⟨lw_p27, List.forall_mem_cons.mpr ⟨lw_p28, List.forall_mem_cons.mpr ⟨lw_p29, List.forall_mem_cons.mpr ⟨lw_p30, List.forall_mem_cons.mpr ⟨lw_p31, fun _ h => absurd h List.not_mem_nil⟩⟩⟩⟩⟩⟩⟩⟩⟩⟩⟩⟩⟩⟩⟩⟩
theorem lw_p32 : lw_okq (⟨"BeardHireModel", "addsWearer", "(I)I"⟩, 16) := ⟨⟨by decide +kernel, by decide +kernel⟩, List.mem_of_getElem? (i := 759) (by decide +kernel), List.mem_of_getElem? (i := 957) (by decide +kernel), List.mem_of_getElem? (i := 958) (by decide +kernel)⟩
theorem lw_p33 : lw_okq (⟨"BeardHireModel", "isWearer", "(I)Z"⟩, 16) := ⟨⟨by decide +kernel, by decide +kernel⟩, List.mem_of_getElem? (i := 759) (by decide +kernel), List.mem_of_getElem? (i := 965) (by decide +kernel), List.mem_of_getElem? (i := 966) (by decide +kernel)⟩
theorem lw_p34 : lw_okq (⟨"BeardHireModel", "wornBy", "(I)I"⟩, 16) := ⟨⟨by decide +kernel, by decide +kernel⟩, List.mem_of_getElem? (i := 759) (by decide +kernel), List.mem_of_getElem? (i := 970) (by decide +kernel), List.mem_of_getElem? (i := 971) (by decide +kernel)⟩
theorem lw_p35 : lw_okq (⟨"BeardHireModel", "nightsGo", "(I)V"⟩, 16) := ⟨⟨by decide +kernel, by decide +kernel⟩, List.mem_of_getElem? (i := 759) (by decide +kernel), List.mem_of_getElem? (i := 993) (by decide +kernel), List.mem_of_getElem? (i := 994) (by decide +kernel)⟩
theorem lw_p36 : lw_okq (⟨"BeardHireModel", "night", "()V"⟩, 16) := ⟨⟨by decide +kernel, by decide +kernel⟩, List.mem_of_getElem? (i := 759) (by decide +kernel), List.mem_of_getElem? (i := 997) (by decide +kernel), List.mem_of_getElem? (i := 998) (by decide +kernel)⟩
theorem lw_p37 : lw_okq (⟨"BeardHireModel", "wears", "(II)V"⟩, 16) := ⟨⟨by decide +kernel, by decide +kernel⟩, List.mem_of_getElem? (i := 759) (by decide +kernel), List.mem_of_getElem? (i := 1001) (by decide +kernel), List.mem_of_getElem? (i := 1002) (by decide +kernel)⟩
theorem lw_p38 : lw_okq (⟨"BeardHireModel", "goesOut", "(II)V"⟩, 16) := ⟨⟨by decide +kernel, by decide +kernel⟩, List.mem_of_getElem? (i := 759) (by decide +kernel), List.mem_of_getElem? (i := 1005) (by decide +kernel), List.mem_of_getElem? (i := 1006) (by decide +kernel)⟩
theorem lw_p39 : lw_okq (⟨"BeardHireModel", "behind", "(II)I"⟩, 16) := ⟨⟨by decide +kernel, by decide +kernel⟩, List.mem_of_getElem? (i := 759) (by decide +kernel), List.mem_of_getElem? (i := 1020) (by decide +kernel), List.mem_of_getElem? (i := 1021) (by decide +kernel)⟩
theorem lw_p40 : lw_okq (⟨"BeardHireModel", "laysAside", "()V"⟩, 16) := ⟨⟨by decide +kernel, by decide +kernel⟩, List.mem_of_getElem? (i := 759) (by decide +kernel), List.mem_of_getElem? (i := 1024) (by decide +kernel), List.mem_of_getElem? (i := 1025) (by decide +kernel)⟩
theorem lw_p41 : lw_okq (⟨"BeardHireModel", "takesBack", "(I)I"⟩, 16) := ⟨⟨by decide +kernel, by decide +kernel⟩, List.mem_of_getElem? (i := 759) (by decide +kernel), List.mem_of_getElem? (i := 1028) (by decide +kernel), List.mem_of_getElem? (i := 1029) (by decide +kernel)⟩
theorem lw_p42 : lw_okq (⟨"BeardHireModel", "wornBehind", "(II)I"⟩, 16) := ⟨⟨by decide +kernel, by decide +kernel⟩, List.mem_of_getElem? (i := 759) (by decide +kernel), List.mem_of_getElem? (i := 1032) (by decide +kernel), List.mem_of_getElem? (i := 1033) (by decide +kernel)⟩
theorem lw_p43 : lw_okq (⟨"BeardHireModel", "firstDown", "(II)I"⟩, 16) := ⟨⟨by decide +kernel, by decide +kernel⟩, List.mem_of_getElem? (i := 759) (by decide +kernel), List.mem_of_getElem? (i := 1048) (by decide +kernel), List.mem_of_getElem? (i := 1049) (by decide +kernel)⟩
theorem lw_p44 : lw_okq (⟨"BeardHireModel", "mostBy", "(IIII)I"⟩, 16) := ⟨⟨by decide +kernel, by decide +kernel⟩, List.mem_of_getElem? (i := 759) (by decide +kernel), List.mem_of_getElem? (i := 1069) (by decide +kernel), List.mem_of_getElem? (i := 1070) (by decide +kernel)⟩
theorem lw_p45 : lw_okq (⟨"BeardHireModel", "pursesBehind", "(I)I"⟩, 16) := ⟨⟨by decide +kernel, by decide +kernel⟩, List.mem_of_getElem? (i := 759) (by decide +kernel), List.mem_of_getElem? (i := 1073) (by decide +kernel), List.mem_of_getElem? (i := 1074) (by decide +kernel)⟩
theorem lw_p46 : lw_okq (⟨"BeardHireModel", "saves", "()V"⟩, 16) := ⟨⟨by decide +kernel, by decide +kernel⟩, List.mem_of_getElem? (i := 759) (by decide +kernel), List.mem_of_getElem? (i := 1106) (by decide +kernel), List.mem_of_getElem? (i := 1107) (by decide +kernel)⟩
theorem lw_p47 : lw_okq (⟨"BeardHireModel", "token", "()V"⟩, 16) := ⟨⟨by decide +kernel, by decide +kernel⟩, List.mem_of_getElem? (i := 759) (by decide +kernel), List.mem_of_getElem? (i := 1110) (by decide +kernel), List.mem_of_getElem? (i := 1111) (by decide +kernel)⟩
def lw_privs_3 : List (MethodName × Nat) := [(⟨"BeardHireModel", "addsWearer", "(I)I"⟩, 16), (⟨"BeardHireModel", "isWearer", "(I)Z"⟩, 16), (⟨"BeardHireModel", "wornBy", "(I)I"⟩, 16), (⟨"BeardHireModel", "nightsGo", "(I)V"⟩, 16), (⟨"BeardHireModel", "night", "()V"⟩, 16), (⟨"BeardHireModel", "wears", "(II)V"⟩, 16), (⟨"BeardHireModel", "goesOut", "(II)V"⟩, 16), (⟨"BeardHireModel", "behind", "(II)I"⟩, 16), (⟨"BeardHireModel", "laysAside", "()V"⟩, 16), (⟨"BeardHireModel", "takesBack", "(I)I"⟩, 16), (⟨"BeardHireModel", "wornBehind", "(II)I"⟩, 16), (⟨"BeardHireModel", "firstDown", "(II)I"⟩, 16), (⟨"BeardHireModel", "mostBy", "(IIII)I"⟩, 16), (⟨"BeardHireModel", "pursesBehind", "(I)I"⟩, 16), (⟨"BeardHireModel", "saves", "()V"⟩, 16), (⟨"BeardHireModel", "token", "()V"⟩, 16)]
theorem lw_r3 : ∀ q ∈ lw_privs_3, lw_okq q := List.forall_mem_cons.mpr ⟨lw_p32, List.forall_mem_cons.mpr ⟨lw_p33, List.forall_mem_cons.mpr ⟨lw_p34, List.forall_mem_cons.mpr ⟨lw_p35, List.forall_mem_cons.mpr ⟨lw_p36, List.forall_mem_cons.mpr ⟨lw_p37, List.forall_mem_cons.mpr ⟨lw_p38, List.forall_mem_cons.mpr ⟨lw_p39, List.forall_mem_cons.mpr ⟨lw_p40, List.forall_mem_cons.mpr ⟨lw_p41, List.forall_mem_cons.mpr ⟨lw_p42, List.forall_mem_cons.mpr ⟨lw_p43, List.forall_mem_cons.mpr ⟨lw_p44, List.forall_mem_cons.mpr ⟨lw_p45, List.forall_mem_cons.mpr ⟨lw_p46, List.forall_mem_cons.mpr ⟨lw_p47, fun _ h => absurd h List.not_mem_nil⟩⟩⟩⟩⟩⟩⟩⟩⟩⟩⟩⟩⟩⟩⟩⟩
theorem lw_p48 : lw_okq (⟨"BeardHireModel", "byteAt", "(I)I"⟩, 16) := ⟨⟨by decide +kernel, by decide +kernel⟩, List.mem_of_getElem? (i := 759) (by decide +kernel), List.mem_of_getElem? (i := 1114) (by decide +kernel), List.mem_of_getElem? (i := 1115) (by decide +kernel)⟩
theorem lw_p49 : lw_okq (⟨"BeardHireModel", "item", "()V"⟩, 16) := ⟨⟨by decide +kernel, by decide +kernel⟩, List.mem_of_getElem? (i := 759) (by decide +kernel), List.mem_of_getElem? (i := 1128) (by decide +kernel), List.mem_of_getElem? (i := 1129) (by decide +kernel)⟩
theorem lw_p50 : lw_okq (⟨"BeardHireModel", "kindHere", "()I"⟩, 16) := ⟨⟨by decide +kernel, by decide +kernel⟩, List.mem_of_getElem? (i := 759) (by decide +kernel), List.mem_of_getElem? (i := 1132) (by decide +kernel), List.mem_of_getElem? (i := 1133) (by decide +kernel)⟩
theorem lw_p51 : lw_okq (⟨"BeardHireModel", "word", "()J"⟩, 16) := ⟨⟨by decide +kernel, by decide +kernel⟩, List.mem_of_getElem? (i := 759) (by decide +kernel), List.mem_of_getElem? (i := 1136) (by decide +kernel), List.mem_of_getElem? (i := 1137) (by decide +kernel)⟩
theorem lw_p52 : lw_okq (⟨"BeardHireModel", "beardItem", "(I)V"⟩, 16) := ⟨⟨by decide +kernel, by decide +kernel⟩, List.mem_of_getElem? (i := 759) (by decide +kernel), List.mem_of_getElem? (i := 1148) (by decide +kernel), List.mem_of_getElem? (i := 1149) (by decide +kernel)⟩
theorem lw_p53 : lw_okq (⟨"BeardHireModel", "must", "(Z)V"⟩, 16) := ⟨⟨by decide +kernel, by decide +kernel⟩, List.mem_of_getElem? (i := 759) (by decide +kernel), List.mem_of_getElem? (i := 1152) (by decide +kernel), List.mem_of_getElem? (i := 1153) (by decide +kernel)⟩
theorem lw_p54 : lw_okq (⟨"BeardHireModel", "partItem", "(JII)V"⟩, 16) := ⟨⟨by decide +kernel, by decide +kernel⟩, List.mem_of_getElem? (i := 759) (by decide +kernel), List.mem_of_getElem? (i := 1157) (by decide +kernel), List.mem_of_getElem? (i := 1158) (by decide +kernel)⟩
theorem lw_p55 : lw_okq (⟨"BeardHireModel", "number", "(II)V"⟩, 16) := ⟨⟨by decide +kernel, by decide +kernel⟩, List.mem_of_getElem? (i := 759) (by decide +kernel), List.mem_of_getElem? (i := 1161) (by decide +kernel), List.mem_of_getElem? (i := 1162) (by decide +kernel)⟩
theorem lw_p56 : lw_okq (⟨"BeardHireModel", "wearerItem", "()V"⟩, 16) := ⟨⟨by decide +kernel, by decide +kernel⟩, List.mem_of_getElem? (i := 759) (by decide +kernel), List.mem_of_getElem? (i := 1167) (by decide +kernel), List.mem_of_getElem? (i := 1168) (by decide +kernel)⟩
theorem lw_p57 : lw_okq (⟨"BeardHireModel", "houseItem", "()V"⟩, 16) := ⟨⟨by decide +kernel, by decide +kernel⟩, List.mem_of_getElem? (i := 759) (by decide +kernel), List.mem_of_getElem? (i := 1173) (by decide +kernel), List.mem_of_getElem? (i := 1174) (by decide +kernel)⟩
theorem lw_p58 : lw_okq (⟨"BeardHireModel", "hireItem", "()V"⟩, 16) := ⟨⟨by decide +kernel, by decide +kernel⟩, List.mem_of_getElem? (i := 759) (by decide +kernel), List.mem_of_getElem? (i := 1180) (by decide +kernel), List.mem_of_getElem? (i := 1181) (by decide +kernel)⟩
theorem lw_p59 : lw_okq (⟨"BeardHireModel", "numberHere", "()I"⟩, 16) := ⟨⟨by decide +kernel, by decide +kernel⟩, List.mem_of_getElem? (i := 759) (by decide +kernel), List.mem_of_getElem? (i := 1184) (by decide +kernel), List.mem_of_getElem? (i := 1185) (by decide +kernel)⟩
theorem lw_p60 : lw_okq (⟨"BeardHireModel", "putsBack", "()V"⟩, 16) := ⟨⟨by decide +kernel, by decide +kernel⟩, List.mem_of_getElem? (i := 759) (by decide +kernel), List.mem_of_getElem? (i := 1188) (by decide +kernel), List.mem_of_getElem? (i := 1189) (by decide +kernel)⟩
theorem lw_p61 : lw_okq (⟨"BeardHireModel", "wrongSheet", "(I)I"⟩, 16) := ⟨⟨by decide +kernel, by decide +kernel⟩, List.mem_of_getElem? (i := 759) (by decide +kernel), List.mem_of_getElem? (i := 1204) (by decide +kernel), List.mem_of_getElem? (i := 1205) (by decide +kernel)⟩
theorem lw_p62 : lw_okq (⟨"BeardHireModel", "isBook", "(II)Z"⟩, 16) := ⟨⟨by decide +kernel, by decide +kernel⟩, List.mem_of_getElem? (i := 759) (by decide +kernel), List.mem_of_getElem? (i := 1228) (by decide +kernel), List.mem_of_getElem? (i := 1229) (by decide +kernel)⟩
theorem lw_p63 : lw_okq (⟨"BeardHireModel", "hoards", "()I"⟩, 16) := ⟨⟨by decide +kernel, by decide +kernel⟩, List.mem_of_getElem? (i := 759) (by decide +kernel), List.mem_of_getElem? (i := 1248) (by decide +kernel), List.mem_of_getElem? (i := 1249) (by decide +kernel)⟩
def lw_privs_4 : List (MethodName × Nat) := [(⟨"BeardHireModel", "byteAt", "(I)I"⟩, 16), (⟨"BeardHireModel", "item", "()V"⟩, 16), (⟨"BeardHireModel", "kindHere", "()I"⟩, 16), (⟨"BeardHireModel", "word", "()J"⟩, 16), (⟨"BeardHireModel", "beardItem", "(I)V"⟩, 16), (⟨"BeardHireModel", "must", "(Z)V"⟩, 16), (⟨"BeardHireModel", "partItem", "(JII)V"⟩, 16), (⟨"BeardHireModel", "number", "(II)V"⟩, 16), (⟨"BeardHireModel", "wearerItem", "()V"⟩, 16), (⟨"BeardHireModel", "houseItem", "()V"⟩, 16), (⟨"BeardHireModel", "hireItem", "()V"⟩, 16), (⟨"BeardHireModel", "numberHere", "()I"⟩, 16), (⟨"BeardHireModel", "putsBack", "()V"⟩, 16), (⟨"BeardHireModel", "wrongSheet", "(I)I"⟩, 16), (⟨"BeardHireModel", "isBook", "(II)Z"⟩, 16), (⟨"BeardHireModel", "hoards", "()I"⟩, 16)]
theorem lw_r4 : ∀ q ∈ lw_privs_4, lw_okq q := List.forall_mem_cons.mpr ⟨lw_p48, List.forall_mem_cons.mpr ⟨lw_p49, List.forall_mem_cons.mpr ⟨lw_p50, List.forall_mem_cons.mpr ⟨lw_p51, List.forall_mem_cons.mpr ⟨lw_p52, List.forall_mem_cons.mpr ⟨lw_p53, List.forall_mem_cons.mpr ⟨lw_p54, List.forall_mem_cons.mpr ⟨lw_p55, List.forall_mem_cons.mpr ⟨lw_p56, List.forall_mem_cons.mpr ⟨lw_p57, List.forall_mem_cons.mpr ⟨lw_p58, List.forall_mem_cons.mpr ⟨lw_p59, List.forall_mem_cons.mpr ⟨lw_p60, List.forall_mem_cons.mpr ⟨lw_p61, List.forall_mem_cons.mpr ⟨lw_p62, List.forall_mem_cons.mpr ⟨lw_p63, fun _ h => absurd h List.not_mem_nil⟩⟩⟩⟩⟩⟩⟩⟩⟩⟩⟩⟩⟩⟩⟩⟩
def lw_privs : List (MethodName × Nat) := lw_privs_1 ++ (lw_privs_2 ++ (lw_privs_3 ++ (lw_privs_4)))
def lw_tbl : List Cond := k2_sels lw_privs ++ tables_1
theorem lw_privs_ok : ∀ q ∈ lw_privs, lw_okq q := by
  show ∀ q ∈ lw_privs_1 ++ (lw_privs_2 ++ (lw_privs_3 ++ (lw_privs_4))), lw_okq q
  exact List.forall_mem_append.mpr ⟨lw_r1, List.forall_mem_append.mpr ⟨lw_r2, List.forall_mem_append.mpr ⟨lw_r3, lw_r4⟩⟩⟩
-- ===== end of PART A; then your names; then what follows =====
end
section
theorem goodIn_r {big : List Cond} (ws : List Cond) (ps : List Nat) (hp : ws = ps.filterMap (fun i => big[i]?)) (h : ws.all goodWord = true) : GoodIn big ws := by
  intro w hw
  have h1 := List.all_eq_true.mp h w hw
  rw [hp] at hw
  obtain ⟨i, -, hi⟩ := List.mem_filterMap.mp hw
  have hm : w ∈ big := by first | exact List.mem_of_getElem? hi | exact List.getElem?_mem hi
  exact ⟨hm, good_of_word h1⟩
theorem goodIn_app {big a b : List Cond} (ha : GoodIn big a) (hb : GoodIn big b) : GoodIn big (a ++ b) := fun w h => (List.mem_append.mp h).elim (ha w) (hb w)
theorem goodIn_ca {big a b : List Cond} {c : Cond} (ha : GoodIn big (c :: a)) (hb : GoodIn big b) : GoodIn big (c :: (a ++ b)) := fun w h => (List.mem_cons.mp h).elim (fun e => ha w (List.mem_cons.mpr (Or.inl e))) (fun h => (List.mem_append.mp h).elim (fun h => ha w (List.mem_cons.mpr (Or.inr h))) (hb w))
theorem goodIn_sub {big ws : List Cond} (hm : ∀ w ∈ ws, w ∈ big) (h : ws.all goodWord = true) : GoodIn big ws := fun w hw => ⟨hm w hw, good_of_word (List.all_eq_true.mp h w hw)⟩
def RX0 : String := "BeardHire$Ginger"
def TX0 : u_T := fun k => match k with
  | _ => ("", "", "", false)
def tyX0 : Nat → FieldType := fun k => match k with
  | _ => .int
abbrev wsX00 : List Cond := u_ws RX0 TX0 0
theorem nmX0 : ∀ a, a < 0 → ∀ b, b < 0 → a ≠ b → (TX0 a).2.1 ≠ (TX0 b).2.1 := by decide +kernel
theorem tyX0_ok : ∀ k, k < 0 → parseFieldDescriptor (TX0 k).2.2.1 = some (tyX0 k) := by decide +kernel
abbrev cX0_init : ByteArray := prog_2_method_1_code
def yX0_init : MethodName := ⟨RX0, "<init>", "()V"⟩
abbrev cX0_title : ByteArray := prog_2_method_2_code
def yX0_title : MethodName := ⟨RX0, "title", "()Ljava/lang/String;"⟩
abbrev cX0_costs : ByteArray := prog_2_method_3_code
def yX0_costs : MethodName := ⟨RX0, "costs", "(II)I"⟩
abbrev cX0_meets : ByteArray := prog_2_method_4_code
def yX0_meets : MethodName := ⟨RX0, "meets", "(IZI)I"⟩
abbrev cX0_leaves : ByteArray := prog_2_method_5_code
def yX0_leaves : MethodName := ⟨RX0, "leaves", "(I)I"⟩
abbrev cX0_gains : ByteArray := prog_2_method_6_code
def yX0_gains : MethodName := ⟨RX0, "gains", "(Z)I"⟩
def RX1 : String := "BeardHire$Imperial"
def TX1 : u_T := fun k => match k with
  | _ => ("", "", "", false)
def tyX1 : Nat → FieldType := fun k => match k with
  | _ => .int
abbrev wsX10 : List Cond := u_ws RX1 TX1 0
theorem nmX1 : ∀ a, a < 0 → ∀ b, b < 0 → a ≠ b → (TX1 a).2.1 ≠ (TX1 b).2.1 := by decide +kernel
theorem tyX1_ok : ∀ k, k < 0 → parseFieldDescriptor (TX1 k).2.2.1 = some (tyX1 k) := by decide +kernel
abbrev cX1_init : ByteArray := prog_3_method_1_code
def yX1_init : MethodName := ⟨RX1, "<init>", "()V"⟩
abbrev cX1_title : ByteArray := prog_3_method_2_code
def yX1_title : MethodName := ⟨RX1, "title", "()Ljava/lang/String;"⟩
abbrev cX1_costs : ByteArray := prog_3_method_3_code
def yX1_costs : MethodName := ⟨RX1, "costs", "(II)I"⟩
abbrev cX1_meets : ByteArray := prog_3_method_4_code
def yX1_meets : MethodName := ⟨RX1, "meets", "(IZI)I"⟩
abbrev cX1_leaves : ByteArray := prog_3_method_5_code
def yX1_leaves : MethodName := ⟨RX1, "leaves", "(I)I"⟩
abbrev cX1_gains : ByteArray := prog_3_method_6_code
def yX1_gains : MethodName := ⟨RX1, "gains", "(Z)I"⟩
def RX2 : String := "BeardHire$Kind"
def TX2 : u_T := fun k => match k with
  | _ => ("", "", "", false)
def tyX2 : Nat → FieldType := fun k => match k with
  | _ => .int
abbrev wsX20 : List Cond := u_ws RX2 TX2 0
theorem nmX2 : ∀ a, a < 0 → ∀ b, b < 0 → a ≠ b → (TX2 a).2.1 ≠ (TX2 b).2.1 := by decide +kernel
theorem tyX2_ok : ∀ k, k < 0 → parseFieldDescriptor (TX2 k).2.2.1 = some (tyX2 k) := by decide +kernel
abbrev cX2_init : ByteArray := prog_4_method_1_code
def yX2_init : MethodName := ⟨RX2, "<init>", "()V"⟩
abbrev cX2_title : ByteArray := prog_4_method_2_code
def yX2_title : MethodName := ⟨RX2, "title", "()Ljava/lang/String;"⟩
abbrev cX2_costs : ByteArray := prog_4_method_3_code
def yX2_costs : MethodName := ⟨RX2, "costs", "(II)I"⟩
abbrev cX2_meets : ByteArray := prog_4_method_4_code
def yX2_meets : MethodName := ⟨RX2, "meets", "(IZI)I"⟩
abbrev cX2_leaves : ByteArray := prog_4_method_5_code
def yX2_leaves : MethodName := ⟨RX2, "leaves", "(I)I"⟩
abbrev cX2_gains : ByteArray := prog_4_method_6_code
def yX2_gains : MethodName := ⟨RX2, "gains", "(Z)I"⟩
def RX3 : String := "BeardHire$Moustache"
def TX3 : u_T := fun k => match k with
  | _ => ("", "", "", false)
def tyX3 : Nat → FieldType := fun k => match k with
  | _ => .int
abbrev wsX30 : List Cond := u_ws RX3 TX3 0
theorem nmX3 : ∀ a, a < 0 → ∀ b, b < 0 → a ≠ b → (TX3 a).2.1 ≠ (TX3 b).2.1 := by decide +kernel
theorem tyX3_ok : ∀ k, k < 0 → parseFieldDescriptor (TX3 k).2.2.1 = some (tyX3 k) := by decide +kernel
abbrev cX3_init : ByteArray := prog_5_method_1_code
def yX3_init : MethodName := ⟨RX3, "<init>", "()V"⟩
abbrev cX3_title : ByteArray := prog_5_method_2_code
def yX3_title : MethodName := ⟨RX3, "title", "()Ljava/lang/String;"⟩
abbrev cX3_costs : ByteArray := prog_5_method_3_code
def yX3_costs : MethodName := ⟨RX3, "costs", "(II)I"⟩
abbrev cX3_meets : ByteArray := prog_5_method_4_code
def yX3_meets : MethodName := ⟨RX3, "meets", "(IZI)I"⟩
abbrev cX3_leaves : ByteArray := prog_5_method_5_code
def yX3_leaves : MethodName := ⟨RX3, "leaves", "(I)I"⟩
abbrev cX3_gains : ByteArray := prog_5_method_6_code
def yX3_gains : MethodName := ⟨RX3, "gains", "(Z)I"⟩
def RX4 : String := "BeardHire$Patriarch"
def TX4 : u_T := fun k => match k with
  | _ => ("", "", "", false)
def tyX4 : Nat → FieldType := fun k => match k with
  | _ => .int
abbrev wsX40 : List Cond := u_ws RX4 TX4 0
theorem nmX4 : ∀ a, a < 0 → ∀ b, b < 0 → a ≠ b → (TX4 a).2.1 ≠ (TX4 b).2.1 := by decide +kernel
theorem tyX4_ok : ∀ k, k < 0 → parseFieldDescriptor (TX4 k).2.2.1 = some (tyX4 k) := by decide +kernel
abbrev cX4_init : ByteArray := prog_6_method_1_code
def yX4_init : MethodName := ⟨RX4, "<init>", "()V"⟩
abbrev cX4_title : ByteArray := prog_6_method_2_code
def yX4_title : MethodName := ⟨RX4, "title", "()Ljava/lang/String;"⟩
abbrev cX4_costs : ByteArray := prog_6_method_3_code
def yX4_costs : MethodName := ⟨RX4, "costs", "(II)I"⟩
abbrev cX4_meets : ByteArray := prog_6_method_4_code
def yX4_meets : MethodName := ⟨RX4, "meets", "(IZI)I"⟩
abbrev cX4_gains : ByteArray := prog_6_method_5_code
def yX4_gains : MethodName := ⟨RX4, "gains", "(Z)I"⟩
def RX5 : String := "BeardHire$Sheet"
def TX5 : u_T := fun k => match k with
  | 0 => ("BeardHire$Sheet", "numbers", "[J", true)
  | 1 => ("BeardHire$Sheet", "bits", "I", false)
  | _ => ("BeardHire$Sheet", "length", "I", false)
def tyX5 : Nat → FieldType := fun k => match k with
  | 0 => .array .long
  | 1 => .int
  | _ => .int
abbrev wsX50 : List Cond := u_ws RX5 TX5 3
theorem nmX5 : ∀ a, a < 3 → ∀ b, b < 3 → a ≠ b → (TX5 a).2.1 ≠ (TX5 b).2.1 := by decide +kernel
theorem tyX5_ok : ∀ k, k < 3 → parseFieldDescriptor (TX5 k).2.2.1 = some (tyX5 k) := by decide +kernel
abbrev cX5_init : ByteArray := prog_7_method_1_code
def yX5_init : MethodName := ⟨RX5, "<init>", "()V"⟩
abbrev cX5_layOut : ByteArray := prog_7_method_2_code
def yX5_layOut : MethodName := ⟨RX5, "layOut", "(II)V"⟩
abbrev cX5_isMissing : ByteArray := prog_7_method_3_code
def yX5_isMissing : MethodName := ⟨RX5, "isMissing", "()Z"⟩
abbrev cX5_put : ByteArray := prog_7_method_4_code
def yX5_put : MethodName := ⟨RX5, "put", "(IJ)V"⟩
abbrev cX5_hasSpan : ByteArray := prog_7_method_5_code
def yX5_hasSpan : MethodName := ⟨RX5, "hasSpan", "(II)Z"⟩
def RX6 : String := "BeardHire$Text"
def TX6 : u_T := fun k => match k with
  | 0 => ("BeardHire$Text", "manners", "[LBeardHire$Kind;", true)
  | 1 => ("BeardHire$Text", "tape", "[I", true)
  | 2 => ("BeardHire$Text", "length", "I", false)
  | 3 => ("BeardHire$Text", "draft", "LBeardHire$Trade;", true)
  | 4 => ("BeardHire$Text", "token", "I", false)
  | 5 => ("BeardHire$Text", "first", "I", false)
  | 6 => ("BeardHire$Text", "next", "I", false)
  | _ => ("BeardHire$Text", "value", "I", false)
def tyX6 : Nat → FieldType := fun k => match k with
  | 0 => .array (.object "BeardHire$Kind")
  | 1 => .array .int
  | 2 => .int
  | 3 => .object "BeardHire$Trade"
  | 4 => .int
  | 5 => .int
  | 6 => .int
  | _ => .int
abbrev wsX60 : List Cond := u_ws RX6 TX6 8
theorem nmX6 : ∀ a, a < 8 → ∀ b, b < 8 → a ≠ b → (TX6 a).2.1 ≠ (TX6 b).2.1 := by decide +kernel
theorem tyX6_ok : ∀ k, k < 8 → parseFieldDescriptor (TX6 k).2.2.1 = some (tyX6 k) := by decide +kernel
abbrev cX6_init : ByteArray := prog_8_method_1_code
def yX6_init : MethodName := ⟨RX6, "<init>", "([LBeardHire$Kind;LBeardHire$Trade;)V"⟩
abbrev cX6_append : ByteArray := prog_8_method_2_code
def yX6_append : MethodName := ⟨RX6, "append", "(I)V"⟩
abbrev cX6_tellAll : ByteArray := prog_8_method_3_code
def yX6_tellAll : MethodName := ⟨RX6, "tellAll", "()I"⟩
abbrev cX6_tellItem : ByteArray := prog_8_method_4_code
def yX6_tellItem : MethodName := ⟨RX6, "tellItem", "()Z"⟩
abbrev cX6_tellBeard : ByteArray := prog_8_method_5_code
def yX6_tellBeard : MethodName := ⟨RX6, "tellBeard", "(I)Z"⟩
abbrev cX6_tellWearer : ByteArray := prog_8_method_6_code
def yX6_tellWearer : MethodName := ⟨RX6, "tellWearer", "()Z"⟩
abbrev cX6_tellHouse : ByteArray := prog_8_method_7_code
def yX6_tellHouse : MethodName := ⟨RX6, "tellHouse", "()Z"⟩
abbrev cX6_tellHire : ByteArray := prog_8_method_8_code
def yX6_tellHire : MethodName := ⟨RX6, "tellHire", "()Z"⟩
abbrev cX6_isWord : ByteArray := prog_8_method_9_code
def yX6_isWord : MethodName := ⟨RX6, "isWord", "(Ljava/lang/String;)Z"⟩
abbrev cX6_isNumber : ByteArray := prog_8_method_10_code
def yX6_isNumber : MethodName := ⟨RX6, "isNumber", "(I)Z"⟩
abbrev cX6_takeNumber : ByteArray := prog_8_method_11_code
def yX6_takeNumber : MethodName := ⟨RX6, "takeNumber", "()I"⟩
abbrev cX6_advance : ByteArray := prog_8_method_12_code
def yX6_advance : MethodName := ⟨RX6, "advance", "()V"⟩
abbrev cX6_isLetter : ByteArray := prog_8_method_13_code
def yX6_isLetter : MethodName := ⟨RX6, "isLetter", "(I)Z"⟩
abbrev cX6_isDigit : ByteArray := prog_8_method_14_code
def yX6_isDigit : MethodName := ⟨RX6, "isDigit", "(I)Z"⟩
def RX7 : String := "BeardHire$Trade"
def TX7 : u_T := fun k => match k with
  | 0 => ("BeardHire$Trade", "manners", "[LBeardHire$Kind;", true)
  | 1 => ("BeardHire$Trade", "night", "I", false)
  | 2 => ("BeardHire$Trade", "beards", "I", false)
  | 3 => ("BeardHire$Trade", "wearers", "I", false)
  | 4 => ("BeardHire$Trade", "kinds", "[I", true)
  | 5 => ("BeardHire$Trade", "fames", "[I", true)
  | 6 => ("BeardHire$Trade", "hoards", "[I", true)
  | 7 => ("BeardHire$Trade", "wornBy", "[I", true)
  | 8 => ("BeardHire$Trade", "purses", "[I", true)
  | 9 => ("BeardHire$Trade", "rounds", "[I", true)
  | 10 => ("BeardHire$Trade", "wears", "[I", true)
  | 11 => ("BeardHire$Trade", "moods", "[I", true)
  | _ => ("BeardHire$Trade", "remembered", "[I", true)
def tyX7 : Nat → FieldType := fun k => match k with
  | 0 => .array (.object "BeardHire$Kind")
  | 1 => .int
  | 2 => .int
  | 3 => .int
  | 4 => .array .int
  | 5 => .array .int
  | 6 => .array .int
  | 7 => .array .int
  | 8 => .array .int
  | 9 => .array .int
  | 10 => .array .int
  | 11 => .array .int
  | _ => .array .int
abbrev wsX70 : List Cond := u_ws RX7 TX7 13
theorem nmX7 : ∀ a, a < 13 → ∀ b, b < 13 → a ≠ b → (TX7 a).2.1 ≠ (TX7 b).2.1 := by decide +kernel
theorem tyX7_ok : ∀ k, k < 13 → parseFieldDescriptor (TX7 k).2.2.1 = some (tyX7 k) := by decide +kernel
abbrev cX7_init : ByteArray := prog_9_method_1_code
def yX7_init : MethodName := ⟨RX7, "<init>", "([LBeardHire$Kind;)V"⟩
abbrev cX7_become : ByteArray := prog_9_method_2_code
def yX7_become : MethodName := ⟨RX7, "become", "(LBeardHire$Trade;)V"⟩
abbrev cX7_addBeard : ByteArray := prog_9_method_3_code
def yX7_addBeard : MethodName := ⟨RX7, "addBeard", "(I)I"⟩
abbrev cX7_addWearer : ByteArray := prog_9_method_4_code
def yX7_addWearer : MethodName := ⟨RX7, "addWearer", "(I)I"⟩
abbrev cX7_putOn : ByteArray := prog_9_method_5_code
def yX7_putOn : MethodName := ⟨RX7, "putOn", "(II)V"⟩
abbrev cX7_takeOff : ByteArray := prog_9_method_6_code
def yX7_takeOff : MethodName := ⟨RX7, "takeOff", "(II)V"⟩
abbrev cX7_isMonday : ByteArray := prog_9_method_7_code
def yX7_isMonday : MethodName := ⟨RX7, "isMonday", "()Z"⟩
abbrev cX7_houseTonight : ByteArray := prog_9_method_8_code
def yX7_houseTonight : MethodName := ⟨RX7, "houseTonight", "(I)I"⟩
abbrev cX7_costOf : ByteArray := prog_9_method_9_code
def yX7_costOf : MethodName := ⟨RX7, "costOf", "(I)I"⟩
abbrev cX7_meetingAt : ByteArray := prog_9_method_10_code
def yX7_meetingAt : MethodName := ⟨RX7, "meetingAt", "(II)I"⟩
abbrev cX7_leavingOf : ByteArray := prog_9_method_11_code
def yX7_leavingOf : MethodName := ⟨RX7, "leavingOf", "(I)I"⟩
abbrev cX7_gainOf : ByteArray := prog_9_method_12_code
def yX7_gainOf : MethodName := ⟨RX7, "gainOf", "(I)I"⟩
abbrev cX7_passNights : ByteArray := prog_9_method_13_code
def yX7_passNights : MethodName := ⟨RX7, "passNights", "(I)V"⟩
abbrev cX7_passNightsOfWearer : ByteArray := prog_9_method_14_code
def yX7_passNightsOfWearer : MethodName := ⟨RX7, "passNightsOfWearer", "(II)V"⟩
abbrev cX7_passNight : ByteArray := prog_9_method_15_code
def yX7_passNight : MethodName := ⟨RX7, "passNight", "()V"⟩
abbrev cX7_spendNight : ByteArray := prog_9_method_16_code
def yX7_spendNight : MethodName := ⟨RX7, "spendNight", "(II)V"⟩
abbrev cX7_combOut : ByteArray := prog_9_method_17_code
def yX7_combOut : MethodName := ⟨RX7, "combOut", "()V"⟩
abbrev cX7_held : ByteArray := prog_9_method_18_code
def yX7_held : MethodName := ⟨RX7, "held", "(III)I"⟩
abbrev cX7_guestsAt : ByteArray := prog_9_method_19_code
def yX7_guestsAt : MethodName := ⟨RX7, "guestsAt", "(I)I"⟩
abbrev cX7_beardsInShop : ByteArray := prog_9_method_20_code
def yX7_beardsInShop : MethodName := ⟨RX7, "beardsInShop", "()I"⟩
abbrev cX7_wearersInBeards : ByteArray := prog_9_method_21_code
def yX7_wearersInBeards : MethodName := ⟨RX7, "wearersInBeards", "()I"⟩
abbrev cX7_allPurses : ByteArray := prog_9_method_22_code
def yX7_allPurses : MethodName := ⟨RX7, "allPurses", "()I"⟩
abbrev cX7_allHoards : ByteArray := prog_9_method_23_code
def yX7_allHoards : MethodName := ⟨RX7, "allHoards", "()I"⟩
def RX8 : String := "BeardHire$White"
def TX8 : u_T := fun k => match k with
  | _ => ("", "", "", false)
def tyX8 : Nat → FieldType := fun k => match k with
  | _ => .int
abbrev wsX80 : List Cond := u_ws RX8 TX8 0
theorem nmX8 : ∀ a, a < 0 → ∀ b, b < 0 → a ≠ b → (TX8 a).2.1 ≠ (TX8 b).2.1 := by decide +kernel
theorem tyX8_ok : ∀ k, k < 0 → parseFieldDescriptor (TX8 k).2.2.1 = some (tyX8 k) := by decide +kernel
abbrev cX8_init : ByteArray := prog_10_method_1_code
def yX8_init : MethodName := ⟨RX8, "<init>", "()V"⟩
abbrev cX8_title : ByteArray := prog_10_method_2_code
def yX8_title : MethodName := ⟨RX8, "title", "()Ljava/lang/String;"⟩
abbrev cX8_costs : ByteArray := prog_10_method_3_code
def yX8_costs : MethodName := ⟨RX8, "costs", "(II)I"⟩
abbrev cX8_meets : ByteArray := prog_10_method_4_code
def yX8_meets : MethodName := ⟨RX8, "meets", "(IZI)I"⟩
abbrev cX8_leaves : ByteArray := prog_10_method_5_code
def yX8_leaves : MethodName := ⟨RX8, "leaves", "(I)I"⟩
def RX9 : String := "BeardHire"
def TX9 : u_T := fun k => match k with
  | 0 => ("BeardHire", "live", "LBeardHire$Trade;", true)
  | 1 => ("BeardHire", "trial", "LBeardHire$Trade;", true)
  | 2 => ("BeardHire", "kept", "LBeardHire$Trade;", true)
  | 3 => ("BeardHire", "isKept", "Z", false)
  | 4 => ("BeardHire", "text", "LBeardHire$Text;", true)
  | 5 => ("BeardHire", "sheets", "[LBeardHire$Sheet;", true)
  | _ => ("BeardHire", "findings", "[I", true)
def tyX9 : Nat → FieldType := fun k => match k with
  | 0 => .object "BeardHire$Trade"
  | 1 => .object "BeardHire$Trade"
  | 2 => .object "BeardHire$Trade"
  | 3 => .boolean
  | 4 => .object "BeardHire$Text"
  | 5 => .array (.object "BeardHire$Sheet")
  | _ => .array .int
abbrev wsX90 : List Cond := u_ws RX9 TX9 7
theorem nmX9 : ∀ a, a < 7 → ∀ b, b < 7 → a ≠ b → (TX9 a).2.1 ≠ (TX9 b).2.1 := by decide +kernel
theorem tyX9_ok : ∀ k, k < 7 → parseFieldDescriptor (TX9 k).2.2.1 = some (tyX9 k) := by decide +kernel
abbrev cX9_init : ByteArray := prog_1_method_1_code
def yX9_init : MethodName := ⟨RX9, "<init>", "()V"⟩
abbrev cX9_mood : ByteArray := prog_1_method_2_code
def yX9_mood : MethodName := ⟨RX9, "mood", "(II)I"⟩
abbrev cX9_recall : ByteArray := prog_1_method_3_code
def yX9_recall : MethodName := ⟨RX9, "recall", "(II)I"⟩
abbrev cX9_houseOf : ByteArray := prog_1_method_4_code
def yX9_houseOf : MethodName := ⟨RX9, "houseOf", "(II)I"⟩
abbrev cX9_now : ByteArray := prog_1_method_5_code
def yX9_now : MethodName := ⟨RX9, "now", "(I)I"⟩
abbrev cX9_beard : ByteArray := prog_1_method_6_code
def yX9_beard : MethodName := ⟨RX9, "beard", "(I)I"⟩
abbrev cX9_of : ByteArray := prog_1_method_7_code
def yX9_of : MethodName := ⟨RX9, "of", "(II)I"⟩
abbrev cX9_can : ByteArray := prog_1_method_8_code
def yX9_can : MethodName := ⟨RX9, "can", "(III)I"⟩
abbrev cX9_set : ByteArray := prog_1_method_9_code
def yX9_set : MethodName := ⟨RX9, "set", "(III)I"⟩
abbrev cX9_turn : ByteArray := prog_1_method_10_code
def yX9_turn : MethodName := ⟨RX9, "turn", "(II)I"⟩
abbrev cX9_as : ByteArray := prog_1_method_11_code
def yX9_as : MethodName := ⟨RX9, "as", "(II)I"⟩
abbrev cX9_wearer : ByteArray := prog_1_method_12_code
def yX9_wearer : MethodName := ⟨RX9, "wearer", "(I)I"⟩
abbrev cX9_wearerOf : ByteArray := prog_1_method_13_code
def yX9_wearerOf : MethodName := ⟨RX9, "wearerOf", "(II)I"⟩
abbrev cX9_give : ByteArray := prog_1_method_14_code
def yX9_give : MethodName := ⟨RX9, "give", "(III)I"⟩
abbrev cX9_hire : ByteArray := prog_1_method_15_code
def yX9_hire : MethodName := ⟨RX9, "hire", "(II)I"⟩
abbrev cX9_back : ByteArray := prog_1_method_16_code
def yX9_back : MethodName := ⟨RX9, "back", "(I)I"⟩
abbrev cX9_nights : ByteArray := prog_1_method_17_code
def yX9_nights : MethodName := ⟨RX9, "nights", "(I)I"⟩
abbrev cX9_on : ByteArray := prog_1_method_18_code
def yX9_on : MethodName := ⟨RX9, "on", "(III)I"⟩
abbrev cX9_then : ByteArray := prog_1_method_19_code
def yX9_then : MethodName := ⟨RX9, "then", "(III)I"⟩
abbrev cX9_fond : ByteArray := prog_1_method_20_code
def yX9_fond : MethodName := ⟨RX9, "fond", "(II)I"⟩
abbrev cX9_home : ByteArray := prog_1_method_21_code
def yX9_home : MethodName := ⟨RX9, "home", "(I)I"⟩
abbrev cX9_falls : ByteArray := prog_1_method_22_code
def yX9_falls : MethodName := ⟨RX9, "falls", "(II)I"⟩
abbrev cX9_best : ByteArray := prog_1_method_23_code
def yX9_best : MethodName := ⟨RX9, "best", "(II)I"⟩
abbrev cX9_round : ByteArray := prog_1_method_24_code
def yX9_round : MethodName := ⟨RX9, "round", "(II)I"⟩
abbrev cX9_kind : ByteArray := prog_1_method_25_code
def yX9_kind : MethodName := ⟨RX9, "kind", "(II)I"⟩
abbrev cX9_enough : ByteArray := prog_1_method_26_code
def yX9_enough : MethodName := ⟨RX9, "enough", "(II)I"⟩
abbrev cX9_please : ByteArray := prog_1_method_27_code
def yX9_please : MethodName := ⟨RX9, "please", "(IIII)I"⟩
abbrev cX9_richest : ByteArray := prog_1_method_28_code
def yX9_richest : MethodName := ⟨RX9, "richest", "(I)I"⟩
abbrev cX9_feed : ByteArray := prog_1_method_29_code
def yX9_feed : MethodName := ⟨RX9, "feed", "(II)I"⟩
abbrev cX9_wipe : ByteArray := prog_1_method_30_code
def yX9_wipe : MethodName := ⟨RX9, "wipe", "()I"⟩
abbrev cX9_shop : ByteArray := prog_1_method_31_code
def yX9_shop : MethodName := ⟨RX9, "shop", "()I"⟩
abbrev cX9_sheet : ByteArray := prog_1_method_32_code
def yX9_sheet : MethodName := ⟨RX9, "sheet", "(III)I"⟩
abbrev cX9_write : ByteArray := prog_1_method_33_code
def yX9_write : MethodName := ⟨RX9, "write", "(IIJ)J"⟩
abbrev cX9_copy : ByteArray := prog_1_method_34_code
def yX9_copy : MethodName := ⟨RX9, "copy", "(IIIII)I"⟩
abbrev cX9_lays : ByteArray := prog_1_method_35_code
def yX9_lays : MethodName := ⟨RX9, "lays", "(I)I"⟩
abbrev cX9_book : ByteArray := prog_1_method_36_code
def yX9_book : MethodName := ⟨RX9, "book", "(II)I"⟩
abbrev cX9_read : ByteArray := prog_1_method_37_code
def yX9_read : MethodName := ⟨RX9, "read", "(III)I"⟩
abbrev cX9_image : ByteArray := prog_1_method_38_code
def yX9_image : MethodName := ⟨RX9, "image", "()I"⟩
abbrev cX9_undo : ByteArray := prog_1_method_39_code
def yX9_undo : MethodName := ⟨RX9, "undo", "()I"⟩
abbrev cX9_tear : ByteArray := prog_1_method_40_code
def yX9_tear : MethodName := ⟨RX9, "tear", "()I"⟩
abbrev cX9_count : ByteArray := prog_1_method_41_code
def yX9_count : MethodName := ⟨RX9, "count", "(I)I"⟩
abbrev cX9_status : ByteArray := prog_1_method_42_code
def yX9_status : MethodName := ⟨RX9, "status", "(I)I"⟩
abbrev cX9_finding : ByteArray := prog_1_method_43_code
def yX9_finding : MethodName := ⟨RX9, "finding", "(I)I"⟩
abbrev cX9_isBeard : ByteArray := prog_1_method_44_code
def yX9_isBeard : MethodName := ⟨RX9, "isBeard", "(I)Z"⟩
abbrev cX9_isWearer : ByteArray := prog_1_method_45_code
def yX9_isWearer : MethodName := ⟨RX9, "isWearer", "(I)Z"⟩
abbrev cX9_isHouse : ByteArray := prog_1_method_46_code
def yX9_isHouse : MethodName := ⟨RX9, "isHouse", "(I)Z"⟩
abbrev cX9_isKind : ByteArray := prog_1_method_47_code
def yX9_isKind : MethodName := ⟨RX9, "isKind", "(I)Z"⟩
abbrev cX9_isSheet : ByteArray := prog_1_method_48_code
def yX9_isSheet : MethodName := ⟨RX9, "isSheet", "(I)Z"⟩
abbrev cX9_isWithin : ByteArray := prog_1_method_49_code
def yX9_isWithin : MethodName := ⟨RX9, "isWithin", "(III)Z"⟩
abbrev cX9_isUnder : ByteArray := prog_1_method_50_code
def yX9_isUnder : MethodName := ⟨RX9, "isUnder", "(II)Z"⟩
abbrev cX9_trialFollows : ByteArray := prog_1_method_51_code
def yX9_trialFollows : MethodName := ⟨RX9, "trialFollows", "(LBeardHire$Sheet;I)Z"⟩
def RX10 : String := "BeardHireModel"
def TX10 : u_T := fun k => match k with
  | 0 => ("BeardHireModel", "s", "[I", true)
  | 1 => ("BeardHireModel", "keptS", "[I", true)
  | 2 => ("BeardHireModel", "other", "[I", true)
  | 3 => ("BeardHireModel", "aside", "[I", true)
  | 4 => ("BeardHireModel", "statuses", "[I", true)
  | 5 => ("BeardHireModel", "isKept", "Z", false)
  | 6 => ("BeardHireModel", "tape", "[I", true)
  | 7 => ("BeardHireModel", "taped", "I", false)
  | 8 => ("BeardHireModel", "from", "I", false)
  | 9 => ("BeardHireModel", "to", "I", false)
  | 10 => ("BeardHireModel", "value", "I", false)
  | 11 => ("BeardHireModel", "isWrong", "Z", false)
  | 12 => ("BeardHireModel", "bitsOf", "[I", true)
  | 13 => ("BeardHireModel", "sizeOf", "[I", true)
  | 14 => ("BeardHireModel", "numbers", "[J", true)
  | _ => ("BeardHireModel", "moved", "[J", true)
def tyX10 : Nat → FieldType := fun k => match k with
  | 0 => .array .int
  | 1 => .array .int
  | 2 => .array .int
  | 3 => .array .int
  | 4 => .array .int
  | 5 => .boolean
  | 6 => .array .int
  | 7 => .int
  | 8 => .int
  | 9 => .int
  | 10 => .int
  | 11 => .boolean
  | 12 => .array .int
  | 13 => .array .int
  | 14 => .array .long
  | _ => .array .long
abbrev wsX100 : List Cond := u_ws RX10 TX10 16
theorem nmX10 : ∀ a, a < 16 → ∀ b, b < 16 → a ≠ b → (TX10 a).2.1 ≠ (TX10 b).2.1 := by decide +kernel
theorem tyX10_ok : ∀ k, k < 16 → parseFieldDescriptor (TX10 k).2.2.1 = some (tyX10 k) := by decide +kernel
abbrev cX10_init : ByteArray := prog_12_method_1_code
def yX10_init : MethodName := ⟨RX10, "<init>", "()V"⟩
abbrev cX10_in : ByteArray := prog_12_method_2_code
def yX10_in : MethodName := ⟨RX10, "in", "(JJJ)Z"⟩
abbrev cX10_finds : ByteArray := prog_12_method_3_code
def yX10_finds : MethodName := ⟨RX10, "finds", "(I)I"⟩
abbrev cX10_saves : ByteArray := prog_12_method_4_code
def yX10_saves : MethodName := ⟨RX10, "saves", "()V"⟩
abbrev cX10_putsBack : ByteArray := prog_12_method_5_code
def yX10_putsBack : MethodName := ⟨RX10, "putsBack", "()V"⟩
abbrev cX10_laysAside : ByteArray := prog_12_method_6_code
def yX10_laysAside : MethodName := ⟨RX10, "laysAside", "()V"⟩
abbrev cX10_takesBack : ByteArray := prog_12_method_7_code
def yX10_takesBack : MethodName := ⟨RX10, "takesBack", "(I)I"⟩
abbrev cX10_becomes : ByteArray := prog_12_method_8_code
def yX10_becomes : MethodName := ⟨RX10, "becomes", "(II)I"⟩
abbrev cX10_houseSpot : ByteArray := prog_12_method_9_code
def yX10_houseSpot : MethodName := ⟨RX10, "houseSpot", "(II)I"⟩
abbrev cX10_beardSpot : ByteArray := prog_12_method_10_code
def yX10_beardSpot : MethodName := ⟨RX10, "beardSpot", "(II)I"⟩
abbrev cX10_wearerSpot : ByteArray := prog_12_method_11_code
def yX10_wearerSpot : MethodName := ⟨RX10, "wearerSpot", "(II)I"⟩
abbrev cX10_house : ByteArray := prog_12_method_12_code
def yX10_house : MethodName := ⟨RX10, "house", "(II)I"⟩
abbrev cX10_its : ByteArray := prog_12_method_13_code
def yX10_its : MethodName := ⟨RX10, "its", "(II)I"⟩
abbrev cX10_theirs : ByteArray := prog_12_method_14_code
def yX10_theirs : MethodName := ⟨RX10, "theirs", "(II)I"⟩
abbrev cX10_isHouse : ByteArray := prog_12_method_15_code
def yX10_isHouse : MethodName := ⟨RX10, "isHouse", "(I)Z"⟩
abbrev cX10_isBeard : ByteArray := prog_12_method_16_code
def yX10_isBeard : MethodName := ⟨RX10, "isBeard", "(I)Z"⟩
abbrev cX10_isWearer : ByteArray := prog_12_method_17_code
def yX10_isWearer : MethodName := ⟨RX10, "isWearer", "(I)Z"⟩
abbrev cX10_isKind : ByteArray := prog_12_method_18_code
def yX10_isKind : MethodName := ⟨RX10, "isKind", "(I)Z"⟩
abbrev cX10_held : ByteArray := prog_12_method_19_code
def yX10_held : MethodName := ⟨RX10, "held", "(III)I"⟩
abbrev cX10_isMonday : ByteArray := prog_12_method_20_code
def yX10_isMonday : MethodName := ⟨RX10, "isMonday", "()Z"⟩
abbrev cX10_placeOf : ByteArray := prog_12_method_21_code
def yX10_placeOf : MethodName := ⟨RX10, "placeOf", "(I)I"⟩
abbrev cX10_wornBy : ByteArray := prog_12_method_22_code
def yX10_wornBy : MethodName := ⟨RX10, "wornBy", "(I)I"⟩
abbrev cX10_mood : ByteArray := prog_12_method_23_code
def yX10_mood : MethodName := ⟨RX10, "mood", "(II)I"⟩
abbrev cX10_recall : ByteArray := prog_12_method_24_code
def yX10_recall : MethodName := ⟨RX10, "recall", "(II)I"⟩
abbrev cX10_goers : ByteArray := prog_12_method_25_code
def yX10_goers : MethodName := ⟨RX10, "goers", "(I)I"⟩
abbrev cX10_houseOf : ByteArray := prog_12_method_26_code
def yX10_houseOf : MethodName := ⟨RX10, "houseOf", "(II)I"⟩
abbrev cX10_inShop : ByteArray := prog_12_method_27_code
def yX10_inShop : MethodName := ⟨RX10, "inShop", "()I"⟩
abbrev cX10_bearded : ByteArray := prog_12_method_28_code
def yX10_bearded : MethodName := ⟨RX10, "bearded", "()I"⟩
abbrev cX10_purses : ByteArray := prog_12_method_29_code
def yX10_purses : MethodName := ⟨RX10, "purses", "()I"⟩
abbrev cX10_hoards : ByteArray := prog_12_method_30_code
def yX10_hoards : MethodName := ⟨RX10, "hoards", "()I"⟩
abbrev cX10_now : ByteArray := prog_12_method_31_code
def yX10_now : MethodName := ⟨RX10, "now", "(I)I"⟩
abbrev cX10_costsOf : ByteArray := prog_12_method_32_code
def yX10_costsOf : MethodName := ⟨RX10, "costsOf", "(I)I"⟩
abbrev cX10_meetsOf : ByteArray := prog_12_method_33_code
def yX10_meetsOf : MethodName := ⟨RX10, "meetsOf", "(II)I"⟩
abbrev cX10_leavesOf : ByteArray := prog_12_method_34_code
def yX10_leavesOf : MethodName := ⟨RX10, "leavesOf", "(I)I"⟩
abbrev cX10_gainsOf : ByteArray := prog_12_method_35_code
def yX10_gainsOf : MethodName := ⟨RX10, "gainsOf", "(I)I"⟩
abbrev cX10_addsBeard : ByteArray := prog_12_method_36_code
def yX10_addsBeard : MethodName := ⟨RX10, "addsBeard", "(I)I"⟩
abbrev cX10_beard : ByteArray := prog_12_method_37_code
def yX10_beard : MethodName := ⟨RX10, "beard", "(I)I"⟩
abbrev cX10_of : ByteArray := prog_12_method_38_code
def yX10_of : MethodName := ⟨RX10, "of", "(II)I"⟩
abbrev cX10_can : ByteArray := prog_12_method_39_code
def yX10_can : MethodName := ⟨RX10, "can", "(III)I"⟩
abbrev cX10_set : ByteArray := prog_12_method_40_code
def yX10_set : MethodName := ⟨RX10, "set", "(III)I"⟩
abbrev cX10_turn : ByteArray := prog_12_method_41_code
def yX10_turn : MethodName := ⟨RX10, "turn", "(II)I"⟩
abbrev cX10_isUnder : ByteArray := prog_12_method_42_code
def yX10_isUnder : MethodName := ⟨RX10, "isUnder", "(II)Z"⟩
abbrev cX10_as : ByteArray := prog_12_method_43_code
def yX10_as : MethodName := ⟨RX10, "as", "(II)I"⟩
abbrev cX10_addsWearer : ByteArray := prog_12_method_44_code
def yX10_addsWearer : MethodName := ⟨RX10, "addsWearer", "(I)I"⟩
abbrev cX10_wearer : ByteArray := prog_12_method_45_code
def yX10_wearer : MethodName := ⟨RX10, "wearer", "(I)I"⟩
abbrev cX10_wearerOf : ByteArray := prog_12_method_46_code
def yX10_wearerOf : MethodName := ⟨RX10, "wearerOf", "(II)I"⟩
abbrev cX10_give : ByteArray := prog_12_method_47_code
def yX10_give : MethodName := ⟨RX10, "give", "(III)I"⟩
abbrev cX10_hire : ByteArray := prog_12_method_48_code
def yX10_hire : MethodName := ⟨RX10, "hire", "(II)I"⟩
abbrev cX10_back : ByteArray := prog_12_method_49_code
def yX10_back : MethodName := ⟨RX10, "back", "(I)I"⟩
abbrev cX10_goesOut : ByteArray := prog_12_method_50_code
def yX10_goesOut : MethodName := ⟨RX10, "goesOut", "(II)V"⟩
abbrev cX10_wears : ByteArray := prog_12_method_51_code
def yX10_wears : MethodName := ⟨RX10, "wears", "(II)V"⟩
abbrev cX10_night : ByteArray := prog_12_method_52_code
def yX10_night : MethodName := ⟨RX10, "night", "()V"⟩
abbrev cX10_nightsGo : ByteArray := prog_12_method_53_code
def yX10_nightsGo : MethodName := ⟨RX10, "nightsGo", "(I)V"⟩
abbrev cX10_nights : ByteArray := prog_12_method_54_code
def yX10_nights : MethodName := ⟨RX10, "nights", "(I)I"⟩
abbrev cX10_isAhead : ByteArray := prog_12_method_55_code
def yX10_isAhead : MethodName := ⟨RX10, "isAhead", "(I)Z"⟩
abbrev cX10_behind : ByteArray := prog_12_method_56_code
def yX10_behind : MethodName := ⟨RX10, "behind", "(II)I"⟩
abbrev cX10_wornBehind : ByteArray := prog_12_method_57_code
def yX10_wornBehind : MethodName := ⟨RX10, "wornBehind", "(II)I"⟩
abbrev cX10_pursesBehind : ByteArray := prog_12_method_58_code
def yX10_pursesBehind : MethodName := ⟨RX10, "pursesBehind", "(I)I"⟩
abbrev cX10_on : ByteArray := prog_12_method_59_code
def yX10_on : MethodName := ⟨RX10, "on", "(III)I"⟩
abbrev cX10_then : ByteArray := prog_12_method_60_code
def yX10_then : MethodName := ⟨RX10, "then", "(III)I"⟩
abbrev cX10_fond : ByteArray := prog_12_method_61_code
def yX10_fond : MethodName := ⟨RX10, "fond", "(II)I"⟩
abbrev cX10_firstDown : ByteArray := prog_12_method_62_code
def yX10_firstDown : MethodName := ⟨RX10, "firstDown", "(II)I"⟩
abbrev cX10_home : ByteArray := prog_12_method_63_code
def yX10_home : MethodName := ⟨RX10, "home", "(I)I"⟩
abbrev cX10_falls : ByteArray := prog_12_method_64_code
def yX10_falls : MethodName := ⟨RX10, "falls", "(II)I"⟩
abbrev cX10_isSoon : ByteArray := prog_12_method_65_code
def yX10_isSoon : MethodName := ⟨RX10, "isSoon", "(I)Z"⟩
abbrev cX10_best : ByteArray := prog_12_method_66_code
def yX10_best : MethodName := ⟨RX10, "best", "(II)I"⟩
abbrev cX10_mostBy : ByteArray := prog_12_method_67_code
def yX10_mostBy : MethodName := ⟨RX10, "mostBy", "(IIII)I"⟩
abbrev cX10_round : ByteArray := prog_12_method_68_code
def yX10_round : MethodName := ⟨RX10, "round", "(II)I"⟩
abbrev cX10_kind : ByteArray := prog_12_method_69_code
def yX10_kind : MethodName := ⟨RX10, "kind", "(II)I"⟩
abbrev cX10_enough : ByteArray := prog_12_method_70_code
def yX10_enough : MethodName := ⟨RX10, "enough", "(II)I"⟩
abbrev cX10_please : ByteArray := prog_12_method_71_code
def yX10_please : MethodName := ⟨RX10, "please", "(IIII)I"⟩
abbrev cX10_richest : ByteArray := prog_12_method_72_code
def yX10_richest : MethodName := ⟨RX10, "richest", "(I)I"⟩
abbrev cX10_feed : ByteArray := prog_12_method_73_code
def yX10_feed : MethodName := ⟨RX10, "feed", "(II)I"⟩
abbrev cX10_wipe : ByteArray := prog_12_method_74_code
def yX10_wipe : MethodName := ⟨RX10, "wipe", "()I"⟩
abbrev cX10_byteAt : ByteArray := prog_12_method_75_code
def yX10_byteAt : MethodName := ⟨RX10, "byteAt", "(I)I"⟩
abbrev cX10_isLetter : ByteArray := prog_12_method_76_code
def yX10_isLetter : MethodName := ⟨RX10, "isLetter", "(I)Z"⟩
abbrev cX10_isDigit : ByteArray := prog_12_method_77_code
def yX10_isDigit : MethodName := ⟨RX10, "isDigit", "(I)Z"⟩
abbrev cX10_token : ByteArray := prog_12_method_78_code
def yX10_token : MethodName := ⟨RX10, "token", "()V"⟩
abbrev cX10_must : ByteArray := prog_12_method_79_code
def yX10_must : MethodName := ⟨RX10, "must", "(Z)V"⟩
abbrev cX10_word : ByteArray := prog_12_method_80_code
def yX10_word : MethodName := ⟨RX10, "word", "()J"⟩
abbrev cX10_number : ByteArray := prog_12_method_81_code
def yX10_number : MethodName := ⟨RX10, "number", "(II)V"⟩
abbrev cX10_kindHere : ByteArray := prog_12_method_82_code
def yX10_kindHere : MethodName := ⟨RX10, "kindHere", "()I"⟩
abbrev cX10_partItem : ByteArray := prog_12_method_83_code
def yX10_partItem : MethodName := ⟨RX10, "partItem", "(JII)V"⟩
abbrev cX10_beardItem : ByteArray := prog_12_method_84_code
def yX10_beardItem : MethodName := ⟨RX10, "beardItem", "(I)V"⟩
abbrev cX10_wearerItem : ByteArray := prog_12_method_85_code
def yX10_wearerItem : MethodName := ⟨RX10, "wearerItem", "()V"⟩
abbrev cX10_houseItem : ByteArray := prog_12_method_86_code
def yX10_houseItem : MethodName := ⟨RX10, "houseItem", "()V"⟩
abbrev cX10_numberHere : ByteArray := prog_12_method_87_code
def yX10_numberHere : MethodName := ⟨RX10, "numberHere", "()I"⟩
abbrev cX10_hireItem : ByteArray := prog_12_method_88_code
def yX10_hireItem : MethodName := ⟨RX10, "hireItem", "()V"⟩
abbrev cX10_item : ByteArray := prog_12_method_89_code
def yX10_item : MethodName := ⟨RX10, "item", "()V"⟩
abbrev cX10_shop : ByteArray := prog_12_method_90_code
def yX10_shop : MethodName := ⟨RX10, "shop", "()I"⟩
abbrev cX10_isOne : ByteArray := prog_12_method_91_code
def yX10_isOne : MethodName := ⟨RX10, "isOne", "(I)Z"⟩
abbrev cX10_sheet : ByteArray := prog_12_method_92_code
def yX10_sheet : MethodName := ⟨RX10, "sheet", "(III)I"⟩
abbrev cX10_narrowed : ByteArray := prog_12_method_93_code
def yX10_narrowed : MethodName := ⟨RX10, "narrowed", "(IJ)J"⟩
abbrev cX10_wrongSheet : ByteArray := prog_12_method_94_code
def yX10_wrongSheet : MethodName := ⟨RX10, "wrongSheet", "(I)I"⟩
abbrev cX10_write : ByteArray := prog_12_method_95_code
def yX10_write : MethodName := ⟨RX10, "write", "(IIJ)J"⟩
abbrev cX10_copy : ByteArray := prog_12_method_96_code
def yX10_copy : MethodName := ⟨RX10, "copy", "(IIIII)I"⟩
abbrev cX10_lays : ByteArray := prog_12_method_97_code
def yX10_lays : MethodName := ⟨RX10, "lays", "(I)I"⟩
abbrev cX10_book : ByteArray := prog_12_method_98_code
def yX10_book : MethodName := ⟨RX10, "book", "(II)I"⟩
abbrev cX10_isBook : ByteArray := prog_12_method_99_code
def yX10_isBook : MethodName := ⟨RX10, "isBook", "(II)Z"⟩
abbrev cX10_read : ByteArray := prog_12_method_100_code
def yX10_read : MethodName := ⟨RX10, "read", "(III)I"⟩
abbrev cX10_image : ByteArray := prog_12_method_101_code
def yX10_image : MethodName := ⟨RX10, "image", "()I"⟩
abbrev cX10_undo : ByteArray := prog_12_method_102_code
def yX10_undo : MethodName := ⟨RX10, "undo", "()I"⟩
abbrev cX10_tear : ByteArray := prog_12_method_103_code
def yX10_tear : MethodName := ⟨RX10, "tear", "()I"⟩
abbrev cX10_count : ByteArray := prog_12_method_104_code
def yX10_count : MethodName := ⟨RX10, "count", "(I)I"⟩
abbrev cX10_status : ByteArray := prog_12_method_105_code
def yX10_status : MethodName := ⟨RX10, "status", "(I)I"⟩
def RJ9 : String := "java/lang/Math"
def TJ9 : u_T := fun k => match k with
  | _ => ("", "", "", false)
def tyJ9 : Nat → FieldType := fun k => match k with
  | _ => .int
abbrev wsJ90 : List Cond := u_ws RJ9 TJ9 0
theorem nmJ9 : ∀ a, a < 0 → ∀ b, b < 0 → a ≠ b → (TJ9 a).2.1 ≠ (TJ9 b).2.1 := by decide +kernel
theorem tyJ9_ok : ∀ k, k < 0 → parseFieldDescriptor (TJ9 k).2.2.1 = some (tyJ9 k) := by decide +kernel
abbrev cJ9_max_7cf53 : ByteArray := prog_13_method_65_code
def yJ9_max_7cf53 : MethodName := ⟨RJ9, "max", "(II)I"⟩
abbrev cJ9_min_7cf53 : ByteArray := prog_13_method_69_code
def yJ9_min_7cf53 : MethodName := ⟨RJ9, "min", "(II)I"⟩
def RJ0 : String := "java/lang/String"
def TJ0 : u_T := fun k => match k with
  | _ => ("", "", "", false)
def tyJ0 : Nat → FieldType := fun k => match k with
  | _ => .int
abbrev wsJ00 : List Cond := u_ws RJ0 TJ0 0
theorem nmJ0 : ∀ a, a < 0 → ∀ b, b < 0 → a ≠ b → (TJ0 a).2.1 ≠ (TJ0 b).2.1 := by decide +kernel
theorem tyJ0_ok : ∀ k, k < 0 → parseFieldDescriptor (TJ0 k).2.2.1 = some (tyJ0 k) := by decide +kernel
abbrev cJ0_length_8abf5 : ByteArray := prog_14_method_54_code
def yJ0_length_8abf5 : MethodName := ⟨RJ0, "length", "()I"⟩
abbrev cJ0_charAt_5068e : ByteArray := prog_14_method_56_code
def yJ0_charAt_5068e : MethodName := ⟨RJ0, "charAt", "(I)C"⟩
abbrev cJ0_coder_7d493 : ByteArray := prog_14_method_152_code
def yJ0_coder_7d493 : MethodName := ⟨RJ0, "coder", "()B"⟩
abbrev cJ0_isLatin1_aae02 : ByteArray := prog_14_method_154_code
def yJ0_isLatin1_aae02 : MethodName := ⟨RJ0, "isLatin1", "()Z"⟩
abbrev cJ0_checkIndex_df160 : ByteArray := prog_14_method_155_code
def yJ0_checkIndex_df160 : MethodName := ⟨RJ0, "checkIndex", "(II)V"⟩
def RJ1 : String := "java/lang/StringLatin1"
def TJ1 : u_T := fun k => match k with
  | _ => ("", "", "", false)
def tyJ1 : Nat → FieldType := fun k => match k with
  | _ => .int
abbrev wsJ10 : List Cond := u_ws RJ1 TJ1 0
theorem nmJ1 : ∀ a, a < 0 → ∀ b, b < 0 → a ≠ b → (TJ1 a).2.1 ≠ (TJ1 b).2.1 := by decide +kernel
theorem tyJ1_ok : ∀ k, k < 0 → parseFieldDescriptor (TJ1 k).2.2.1 = some (tyJ1 k) := by decide +kernel
abbrev cJ1_charAt_3b067 : ByteArray := prog_15_method_2_code
def yJ1_charAt_3b067 : MethodName := ⟨RJ1, "charAt", "([BI)C"⟩
def RJ2 : String := "java/lang/StringUTF16"
def TJ2 : u_T := fun k => match k with
  | _ => ("", "", "", false)
def tyJ2 : Nat → FieldType := fun k => match k with
  | _ => .int
abbrev wsJ20 : List Cond := u_ws RJ2 TJ2 0
theorem nmJ2 : ∀ a, a < 0 → ∀ b, b < 0 → a ≠ b → (TJ2 a).2.1 ≠ (TJ2 b).2.1 := by decide +kernel
theorem tyJ2_ok : ∀ k, k < 0 → parseFieldDescriptor (TJ2 k).2.2.1 = some (tyJ2 k) := by decide +kernel
abbrev cJ2_getChar_3b067 : ByteArray := prog_16_method_5_code
def yJ2_getChar_3b067 : MethodName := ⟨RJ2, "getChar", "([BI)C"⟩
abbrev cJ2_length_9d52b : ByteArray := prog_16_method_6_code
def yJ2_length_9d52b : MethodName := ⟨RJ2, "length", "([B)I"⟩
abbrev cJ2_charAt_3b067 : ByteArray := prog_16_method_83_code
def yJ2_charAt_3b067 : MethodName := ⟨RJ2, "charAt", "([BI)C"⟩
abbrev cJ2_checkIndex_2214a : ByteArray := prog_16_method_91_code
def yJ2_checkIndex_2214a : MethodName := ⟨RJ2, "checkIndex", "(I[B)V"⟩
def RJ10 : String := "java/lang/System"
def TJ10 : u_T := fun k => match k with
  | _ => ("", "", "", false)
def tyJ10 : Nat → FieldType := fun k => match k with
  | _ => .int
abbrev wsJ100 : List Cond := u_ws RJ10 TJ10 0
theorem nmJ10 : ∀ a, a < 0 → ∀ b, b < 0 → a ≠ b → (TJ10 a).2.1 ≠ (TJ10 b).2.1 := by decide +kernel
theorem tyJ10_ok : ∀ k, k < 0 → parseFieldDescriptor (TJ10 k).2.2.1 = some (tyJ10 k) := by decide +kernel
def RJ3 : String := "jdk/internal/util/Preconditions"
def TJ3 : u_T := fun k => match k with
  | _ => ("", "", "", false)
def tyJ3 : Nat → FieldType := fun k => match k with
  | _ => .int
abbrev wsJ30 : List Cond := u_ws RJ3 TJ3 0
theorem nmJ3 : ∀ a, a < 0 → ∀ b, b < 0 → a ≠ b → (TJ3 a).2.1 ≠ (TJ3 b).2.1 := by decide +kernel
theorem tyJ3_ok : ∀ k, k < 0 → parseFieldDescriptor (TJ3 k).2.2.1 = some (tyJ3 k) := by decide +kernel
abbrev cJ3_checkIndex_8e157 : ByteArray := prog_18_method_11_code
def yJ3_checkIndex_8e157 : MethodName := ⟨RJ3, "checkIndex", "(IILjava/util/function/BiFunction;)I"⟩
def RL : String := "BeardHireLaw"
abbrev cL_law : ByteArray := code
def yL_law : MethodName := ⟨RL, "law", "([I)Z"⟩
abbrev vwCl : List vw_C := [(RX0, TX0, 0), (RX1, TX1, 0), (RX2, TX2, 0), (RX3, TX3, 0), (RX4, TX4, 0), (RX5, TX5, 3), (RX6, TX6, 8), (RX7, TX7, 13), (RX8, TX8, 0), (RX9, TX9, 7), (RX10, TX10, 16)]
end
section
/-- the words that every method of the claim has: the good ones of the tables -/
def zU : List Cond := lw_tbl.filter goodWord
theorem z_mem {w : Cond} (h : w ∈ lw_tbl) (hg : goodWord w = true) : w ∈ zU := List.mem_filter.mpr ⟨h, hg⟩
theorem z_in {w : Cond} (h : w ∈ zU) : w ∈ lw_tbl := (List.mem_filter.mp h).1
theorem z_ok {w : Cond} (h : w ∈ zU) : (w.onTables && w.keeps) = true ∨ ∃ ty, w = .arrayClass ty := good_of_word (List.mem_filter.mp h).2
theorem z_t {w : Cond} (i : Nat) (h : tables_1[i]? = some w) (hg : goodWord w = true) : w ∈ zU := z_mem (List.mem_append_right _ (List.mem_of_getElem? h)) hg
theorem z_s {w : Cond} (i : Nat) (h : (k2_sels lw_privs)[i]? = some w) (hg : goodWord w = true) : w ∈ zU := z_mem (List.mem_append_left _ (List.mem_of_getElem? h)) hg
theorem z_goodIn {x y : Cond} (hy : y ∈ zU) : GoodIn (x :: zU) (y :: zU) := by
  intro w hw
  have h : w ∈ zU := by
    rcases List.mem_cons.mp hw with e | e
    · rw [e]; exact hy
    · exact e
  exact ⟨List.mem_cons_of_mem _ h, z_ok h⟩
theorem z_goodU {y : Cond} (hy : y ∈ zU) : GoodIn zU (y :: zU) := by
  intro w hw
  have h : w ∈ zU := by
    rcases List.mem_cons.mp hw with e | e
    · rw [e]; exact hy
    · exact e
  exact ⟨h, z_ok h⟩
theorem u0 : Cond.initialized RL ∈ zU := z_t 0 (by decide +kernel) (by decide +kernel)
theorem u1 : Cond.initialized RX9 ∈ zU := z_t 1 (by decide +kernel) (by decide +kernel)
theorem u2 : Cond.initialized RX2 ∈ zU := z_t 2 (by decide +kernel) (by decide +kernel)
theorem u3 : Cond.initialized RX0 ∈ zU := z_t 3 (by decide +kernel) (by decide +kernel)
theorem u4 : Cond.initialized RX8 ∈ zU := z_t 4 (by decide +kernel) (by decide +kernel)
theorem u5 : Cond.initialized RX3 ∈ zU := z_t 5 (by decide +kernel) (by decide +kernel)
theorem u6 : Cond.initialized RX1 ∈ zU := z_t 6 (by decide +kernel) (by decide +kernel)
theorem u7 : Cond.initialized RX4 ∈ zU := z_t 7 (by decide +kernel) (by decide +kernel)
theorem u8 : Cond.initialized RX7 ∈ zU := z_t 8 (by decide +kernel) (by decide +kernel)
theorem u9 : Cond.initialized RX6 ∈ zU := z_t 9 (by decide +kernel) (by decide +kernel)
theorem u10 : Cond.initialized RX5 ∈ zU := z_t 10 (by decide +kernel) (by decide +kernel)
theorem u11 : Cond.initialized RX10 ∈ zU := z_t 11 (by decide +kernel) (by decide +kernel)
theorem u12 : Cond.initialized RJ9 ∈ zU := z_t 12 (by decide +kernel) (by decide +kernel)
theorem u13 : Cond.initialized RJ10 ∈ zU := z_t 13 (by decide +kernel) (by decide +kernel)
theorem u14 : Cond.initialized RJ0 ∈ zU := z_t 14 (by decide +kernel) (by decide +kernel)
theorem u15 : Cond.initialized RJ1 ∈ zU := z_t 15 (by decide +kernel) (by decide +kernel)
theorem u16 : Cond.initialized RJ3 ∈ zU := z_t 16 (by decide +kernel) (by decide +kernel)
theorem u17 : Cond.initialized RJ2 ∈ zU := z_t 17 (by decide +kernel) (by decide +kernel)
theorem u18 : Cond.classLink RL 7 RX9 ∈ zU := z_t 18 (by decide +kernel) (by decide +kernel)
theorem u19 : Cond.instantiable RX9 7 ∈ zU := z_t 19 (by decide +kernel) (by decide +kernel)
theorem u20 : Cond.methodLink RL 9 yX9_init ∈ zU := z_t 20 (by decide +kernel) (by decide +kernel)
theorem u21 : Cond.instanceMethod yX9_init ∈ zU := z_t 21 (by decide +kernel) (by decide +kernel)
theorem u22 : Cond.code yX9_init cX9_init 3 none ∈ zU := z_t 22 (by decide +kernel) (by decide +kernel)
theorem u23 : Cond.methodLink RX9 1 objectInit ∈ zU := z_t 23 (by decide +kernel) (by decide +kernel)
theorem u24 : Cond.instanceMethod objectInit ∈ zU := z_t 24 (by decide +kernel) (by decide +kernel)
theorem u25 : Cond.code objectInit ⟨#[0xb1]⟩ 1 none ∈ zU := z_t 25 (by decide +kernel) (by decide +kernel)
theorem u26 : Cond.classLink RX9 7 RX2 ∈ zU := z_t 26 (by decide +kernel) (by decide +kernel)
theorem u28 : Cond.instantiable RX2 0 ∈ zU := z_t 28 (by decide +kernel) (by decide +kernel)
theorem u30 : Cond.instanceMethod yX2_init ∈ zU := z_t 30 (by decide +kernel) (by decide +kernel)
theorem u31 : Cond.code yX2_init cX2_init 1 none ∈ zU := z_t 31 (by decide +kernel) (by decide +kernel)
theorem u32 : Cond.methodLink RX2 1 objectInit ∈ zU := z_t 32 (by decide +kernel) (by decide +kernel)
theorem u33 : Cond.superclass RX2 "java/lang/Object" ∈ zU := z_t 33 (by decide +kernel) (by decide +kernel)
theorem u34 : Cond.classLink RX9 10 RX0 ∈ zU := z_t 34 (by decide +kernel) (by decide +kernel)
theorem u35 : Cond.instantiable RX0 0 ∈ zU := z_t 35 (by decide +kernel) (by decide +kernel)
theorem u37 : Cond.instanceMethod yX0_init ∈ zU := z_t 37 (by decide +kernel) (by decide +kernel)
theorem u38 : Cond.code yX0_init cX0_init 1 none ∈ zU := z_t 38 (by decide +kernel) (by decide +kernel)
theorem u40 : Cond.superclass RX0 RX2 ∈ zU := z_t 40 (by decide +kernel) (by decide +kernel)
theorem u41 : Cond.classLink RX9 13 RX8 ∈ zU := z_t 41 (by decide +kernel) (by decide +kernel)
theorem u42 : Cond.instantiable RX8 0 ∈ zU := z_t 42 (by decide +kernel) (by decide +kernel)
theorem u44 : Cond.instanceMethod yX8_init ∈ zU := z_t 44 (by decide +kernel) (by decide +kernel)
theorem u45 : Cond.code yX8_init cX8_init 1 none ∈ zU := z_t 45 (by decide +kernel) (by decide +kernel)
theorem u47 : Cond.superclass RX8 RX2 ∈ zU := z_t 47 (by decide +kernel) (by decide +kernel)
theorem u48 : Cond.classLink RX9 16 RX3 ∈ zU := z_t 48 (by decide +kernel) (by decide +kernel)
theorem u49 : Cond.instantiable RX3 0 ∈ zU := z_t 49 (by decide +kernel) (by decide +kernel)
theorem u51 : Cond.instanceMethod yX3_init ∈ zU := z_t 51 (by decide +kernel) (by decide +kernel)
theorem u52 : Cond.code yX3_init cX3_init 1 none ∈ zU := z_t 52 (by decide +kernel) (by decide +kernel)
theorem u54 : Cond.superclass RX3 RX2 ∈ zU := z_t 54 (by decide +kernel) (by decide +kernel)
theorem u55 : Cond.classLink RX9 19 RX1 ∈ zU := z_t 55 (by decide +kernel) (by decide +kernel)
theorem u56 : Cond.instantiable RX1 0 ∈ zU := z_t 56 (by decide +kernel) (by decide +kernel)
theorem u58 : Cond.instanceMethod yX1_init ∈ zU := z_t 58 (by decide +kernel) (by decide +kernel)
theorem u59 : Cond.code yX1_init cX1_init 1 none ∈ zU := z_t 59 (by decide +kernel) (by decide +kernel)
theorem u61 : Cond.superclass RX1 RX0 ∈ zU := z_t 61 (by decide +kernel) (by decide +kernel)
theorem u62 : Cond.classLink RX9 22 RX4 ∈ zU := z_t 62 (by decide +kernel) (by decide +kernel)
theorem u63 : Cond.instantiable RX4 0 ∈ zU := z_t 63 (by decide +kernel) (by decide +kernel)
theorem u65 : Cond.instanceMethod yX4_init ∈ zU := z_t 65 (by decide +kernel) (by decide +kernel)
theorem u66 : Cond.code yX4_init cX4_init 1 none ∈ zU := z_t 66 (by decide +kernel) (by decide +kernel)
theorem u68 : Cond.superclass RX4 RX8 ∈ zU := z_t 68 (by decide +kernel) (by decide +kernel)
theorem u69 : Cond.classLink RX9 25 RX7 ∈ zU := z_t 69 (by decide +kernel) (by decide +kernel)
theorem u70 : Cond.instantiable RX7 13 ∈ zU := z_t 70 (by decide +kernel) (by decide +kernel)
theorem u71 : Cond.methodLink RX9 27 yX7_init ∈ zU := z_t 71 (by decide +kernel) (by decide +kernel)
theorem u72 : Cond.instanceMethod yX7_init ∈ zU := z_t 72 (by decide +kernel) (by decide +kernel)
theorem u73 : Cond.code yX7_init cX7_init 3 none ∈ zU := z_t 73 (by decide +kernel) (by decide +kernel)
theorem u74 : Cond.methodLink RX7 3 objectInit ∈ zU := z_t 74 (by decide +kernel) (by decide +kernel)
theorem u75 : Cond.fieldLink RX7 39 "BeardHire$Trade" "manners" "[LBeardHire$Kind;" ∈ zU := z_t 75 (by decide +kernel) (by decide +kernel)
theorem u76 : Cond.fieldLink RX7 43 "BeardHire$Trade" "night" "I" ∈ zU := z_t 76 (by decide +kernel) (by decide +kernel)
theorem u77 : Cond.fieldLink RX9 90 "BeardHire$Trade" "night" "I" ∈ zU := z_t 77 (by decide +kernel) (by decide +kernel)
theorem u78 : Cond.fieldLink RX7 47 "BeardHire$Trade" "beards" "I" ∈ zU := z_t 78 (by decide +kernel) (by decide +kernel)
theorem u79 : Cond.fieldLink RX6 122 "BeardHire$Trade" "beards" "I" ∈ zU := z_t 79 (by decide +kernel) (by decide +kernel)
theorem u80 : Cond.fieldLink RX9 183 "BeardHire$Trade" "beards" "I" ∈ zU := z_t 80 (by decide +kernel) (by decide +kernel)
theorem u81 : Cond.fieldLink RX7 50 "BeardHire$Trade" "wearers" "I" ∈ zU := z_t 81 (by decide +kernel) (by decide +kernel)
theorem u82 : Cond.fieldLink RX6 113 "BeardHire$Trade" "wearers" "I" ∈ zU := z_t 82 (by decide +kernel) (by decide +kernel)
theorem u83 : Cond.fieldLink RX9 225 "BeardHire$Trade" "wearers" "I" ∈ zU := z_t 83 (by decide +kernel) (by decide +kernel)
theorem u84 : Cond.fieldLink RX7 9 "BeardHire$Trade" "kinds" "[I" ∈ zU := z_t 84 (by decide +kernel) (by decide +kernel)
theorem u85 : Cond.fieldLink RX9 114 "BeardHire$Trade" "kinds" "[I" ∈ zU := z_t 85 (by decide +kernel) (by decide +kernel)
theorem u86 : Cond.fieldLink RX7 15 "BeardHire$Trade" "fames" "[I" ∈ zU := z_t 86 (by decide +kernel) (by decide +kernel)
theorem u87 : Cond.fieldLink RX6 83 "BeardHire$Trade" "fames" "[I" ∈ zU := z_t 87 (by decide +kernel) (by decide +kernel)
theorem u88 : Cond.fieldLink RX9 117 "BeardHire$Trade" "fames" "[I" ∈ zU := z_t 88 (by decide +kernel) (by decide +kernel)
theorem u89 : Cond.fieldLink RX7 18 "BeardHire$Trade" "hoards" "[I" ∈ zU := z_t 89 (by decide +kernel) (by decide +kernel)
theorem u90 : Cond.fieldLink RX6 92 "BeardHire$Trade" "hoards" "[I" ∈ zU := z_t 90 (by decide +kernel) (by decide +kernel)
theorem u91 : Cond.fieldLink RX9 120 "BeardHire$Trade" "hoards" "[I" ∈ zU := z_t 91 (by decide +kernel) (by decide +kernel)
theorem u92 : Cond.fieldLink RX7 21 "BeardHire$Trade" "wornBy" "[I" ∈ zU := z_t 92 (by decide +kernel) (by decide +kernel)
theorem u93 : Cond.fieldLink RX9 123 "BeardHire$Trade" "wornBy" "[I" ∈ zU := z_t 93 (by decide +kernel) (by decide +kernel)
theorem u94 : Cond.fieldLink RX6 125 "BeardHire$Trade" "wornBy" "[I" ∈ zU := z_t 94 (by decide +kernel) (by decide +kernel)
theorem u95 : Cond.fieldLink RX7 24 "BeardHire$Trade" "purses" "[I" ∈ zU := z_t 95 (by decide +kernel) (by decide +kernel)
theorem u96 : Cond.fieldLink RX6 98 "BeardHire$Trade" "purses" "[I" ∈ zU := z_t 96 (by decide +kernel) (by decide +kernel)
theorem u97 : Cond.fieldLink RX9 149 "BeardHire$Trade" "purses" "[I" ∈ zU := z_t 97 (by decide +kernel) (by decide +kernel)
theorem u98 : Cond.fieldLink RX7 27 "BeardHire$Trade" "rounds" "[I" ∈ zU := z_t 98 (by decide +kernel) (by decide +kernel)
theorem u99 : Cond.fieldLink RX6 103 "BeardHire$Trade" "rounds" "[I" ∈ zU := z_t 99 (by decide +kernel) (by decide +kernel)
theorem u100 : Cond.fieldLink RX9 152 "BeardHire$Trade" "rounds" "[I" ∈ zU := z_t 100 (by decide +kernel) (by decide +kernel)
theorem u101 : Cond.fieldLink RX7 30 "BeardHire$Trade" "wears" "[I" ∈ zU := z_t 101 (by decide +kernel) (by decide +kernel)
theorem u102 : Cond.fieldLink RX6 116 "BeardHire$Trade" "wears" "[I" ∈ zU := z_t 102 (by decide +kernel) (by decide +kernel)
theorem u103 : Cond.fieldLink RX9 155 "BeardHire$Trade" "wears" "[I" ∈ zU := z_t 103 (by decide +kernel) (by decide +kernel)
theorem u104 : Cond.fieldLink RX7 33 "BeardHire$Trade" "moods" "[I" ∈ zU := z_t 104 (by decide +kernel) (by decide +kernel)
theorem u105 : Cond.fieldLink RX9 78 "BeardHire$Trade" "moods" "[I" ∈ zU := z_t 105 (by decide +kernel) (by decide +kernel)
theorem u106 : Cond.fieldLink RX6 110 "BeardHire$Trade" "moods" "[I" ∈ zU := z_t 106 (by decide +kernel) (by decide +kernel)
theorem u107 : Cond.fieldLink RX7 36 "BeardHire$Trade" "remembered" "[I" ∈ zU := z_t 107 (by decide +kernel) (by decide +kernel)
theorem u108 : Cond.fieldLink RX9 84 "BeardHire$Trade" "remembered" "[I" ∈ zU := z_t 108 (by decide +kernel) (by decide +kernel)
theorem u109 : Cond.laysFinal "BeardHire$Trade" "BeardHire$Trade" "manners" "[LBeardHire$Kind;" ∈ zU := z_t 109 (by decide +kernel) (by decide +kernel)
theorem u111 : Cond.lays "BeardHire$Trade" "BeardHire$Trade" "night" "I" ∈ zU := z_t 111 (by decide +kernel) (by decide +kernel)
theorem u113 : Cond.lays "BeardHire$Trade" "BeardHire$Trade" "beards" "I" ∈ zU := z_t 113 (by decide +kernel) (by decide +kernel)
theorem u115 : Cond.lays "BeardHire$Trade" "BeardHire$Trade" "wearers" "I" ∈ zU := z_t 115 (by decide +kernel) (by decide +kernel)
theorem u117 : Cond.laysFinal "BeardHire$Trade" "BeardHire$Trade" "kinds" "[I" ∈ zU := z_t 117 (by decide +kernel) (by decide +kernel)
theorem u119 : Cond.laysFinal "BeardHire$Trade" "BeardHire$Trade" "fames" "[I" ∈ zU := z_t 119 (by decide +kernel) (by decide +kernel)
theorem u121 : Cond.laysFinal "BeardHire$Trade" "BeardHire$Trade" "hoards" "[I" ∈ zU := z_t 121 (by decide +kernel) (by decide +kernel)
theorem u123 : Cond.laysFinal "BeardHire$Trade" "BeardHire$Trade" "wornBy" "[I" ∈ zU := z_t 123 (by decide +kernel) (by decide +kernel)
theorem u125 : Cond.laysFinal "BeardHire$Trade" "BeardHire$Trade" "purses" "[I" ∈ zU := z_t 125 (by decide +kernel) (by decide +kernel)
theorem u127 : Cond.laysFinal "BeardHire$Trade" "BeardHire$Trade" "rounds" "[I" ∈ zU := z_t 127 (by decide +kernel) (by decide +kernel)
theorem u129 : Cond.laysFinal "BeardHire$Trade" "BeardHire$Trade" "wears" "[I" ∈ zU := z_t 129 (by decide +kernel) (by decide +kernel)
theorem u131 : Cond.laysFinal "BeardHire$Trade" "BeardHire$Trade" "moods" "[I" ∈ zU := z_t 131 (by decide +kernel) (by decide +kernel)
theorem u133 : Cond.laysFinal "BeardHire$Trade" "BeardHire$Trade" "remembered" "[I" ∈ zU := z_t 133 (by decide +kernel) (by decide +kernel)
theorem u135 : Cond.superclass RX7 "java/lang/Object" ∈ zU := z_t 135 (by decide +kernel) (by decide +kernel)
theorem u136 : Cond.arrayClass .int ∈ zU := z_t 136 (by decide +kernel) (by decide +kernel)
theorem u137 : Cond.classLink RX9 46 RX6 ∈ zU := z_t 137 (by decide +kernel) (by decide +kernel)
theorem u138 : Cond.instantiable RX6 8 ∈ zU := z_t 138 (by decide +kernel) (by decide +kernel)
theorem u139 : Cond.methodLink RX9 48 yX6_init ∈ zU := z_t 139 (by decide +kernel) (by decide +kernel)
theorem u140 : Cond.instanceMethod yX6_init ∈ zU := z_t 140 (by decide +kernel) (by decide +kernel)
theorem u141 : Cond.code yX6_init cX6_init 3 none ∈ zU := z_t 141 (by decide +kernel) (by decide +kernel)
theorem u142 : Cond.methodLink RX6 3 objectInit ∈ zU := z_t 142 (by decide +kernel) (by decide +kernel)
theorem u143 : Cond.fieldLink RX6 15 "BeardHire$Text" "manners" "[LBeardHire$Kind;" ∈ zU := z_t 143 (by decide +kernel) (by decide +kernel)
theorem u144 : Cond.fieldLink RX6 9 "BeardHire$Text" "tape" "[I" ∈ zU := z_t 144 (by decide +kernel) (by decide +kernel)
theorem u145 : Cond.fieldLink RX6 23 "BeardHire$Text" "length" "I" ∈ zU := z_t 145 (by decide +kernel) (by decide +kernel)
theorem u146 : Cond.fieldLink RX9 186 "BeardHire$Text" "length" "I" ∈ zU := z_t 146 (by decide +kernel) (by decide +kernel)
theorem u147 : Cond.fieldLink RX6 19 "BeardHire$Text" "draft" "LBeardHire$Trade;" ∈ zU := z_t 147 (by decide +kernel) (by decide +kernel)
theorem u148 : Cond.fieldLink RX6 37 "BeardHire$Text" "token" "I" ∈ zU := z_t 148 (by decide +kernel) (by decide +kernel)
theorem u149 : Cond.fieldLink RX6 40 "BeardHire$Text" "first" "I" ∈ zU := z_t 149 (by decide +kernel) (by decide +kernel)
theorem u150 : Cond.fieldLink RX6 27 "BeardHire$Text" "next" "I" ∈ zU := z_t 150 (by decide +kernel) (by decide +kernel)
theorem u151 : Cond.fieldLink RX6 119 "BeardHire$Text" "value" "I" ∈ zU := z_t 151 (by decide +kernel) (by decide +kernel)
theorem u152 : Cond.laysFinal "BeardHire$Text" "BeardHire$Text" "manners" "[LBeardHire$Kind;" ∈ zU := z_t 152 (by decide +kernel) (by decide +kernel)
theorem u154 : Cond.laysFinal "BeardHire$Text" "BeardHire$Text" "tape" "[I" ∈ zU := z_t 154 (by decide +kernel) (by decide +kernel)
theorem u156 : Cond.lays "BeardHire$Text" "BeardHire$Text" "length" "I" ∈ zU := z_t 156 (by decide +kernel) (by decide +kernel)
theorem u158 : Cond.laysFinal "BeardHire$Text" "BeardHire$Text" "draft" "LBeardHire$Trade;" ∈ zU := z_t 158 (by decide +kernel) (by decide +kernel)
theorem u160 : Cond.lays "BeardHire$Text" "BeardHire$Text" "token" "I" ∈ zU := z_t 160 (by decide +kernel) (by decide +kernel)
theorem u162 : Cond.lays "BeardHire$Text" "BeardHire$Text" "first" "I" ∈ zU := z_t 162 (by decide +kernel) (by decide +kernel)
theorem u164 : Cond.lays "BeardHire$Text" "BeardHire$Text" "next" "I" ∈ zU := z_t 164 (by decide +kernel) (by decide +kernel)
theorem u166 : Cond.lays "BeardHire$Text" "BeardHire$Text" "value" "I" ∈ zU := z_t 166 (by decide +kernel) (by decide +kernel)
theorem u168 : Cond.superclass RX6 "java/lang/Object" ∈ zU := z_t 168 (by decide +kernel) (by decide +kernel)
theorem u169 : Cond.classLink RX9 55 RX5 ∈ zU := z_t 169 (by decide +kernel) (by decide +kernel)
theorem u171 : Cond.instantiable RX5 3 ∈ zU := z_t 171 (by decide +kernel) (by decide +kernel)
theorem u173 : Cond.instanceMethod yX5_init ∈ zU := z_t 173 (by decide +kernel) (by decide +kernel)
theorem u174 : Cond.code yX5_init cX5_init 1 none ∈ zU := z_t 174 (by decide +kernel) (by decide +kernel)
theorem u175 : Cond.methodLink RX5 3 objectInit ∈ zU := z_t 175 (by decide +kernel) (by decide +kernel)
theorem u176 : Cond.fieldLink RX5 9 "BeardHire$Sheet" "numbers" "[J" ∈ zU := z_t 176 (by decide +kernel) (by decide +kernel)
theorem u177 : Cond.fieldLink RX9 205 "BeardHire$Sheet" "numbers" "[J" ∈ zU := z_t 177 (by decide +kernel) (by decide +kernel)
theorem u178 : Cond.fieldLink RX5 15 "BeardHire$Sheet" "bits" "I" ∈ zU := z_t 178 (by decide +kernel) (by decide +kernel)
theorem u179 : Cond.fieldLink RX9 213 "BeardHire$Sheet" "bits" "I" ∈ zU := z_t 179 (by decide +kernel) (by decide +kernel)
theorem u180 : Cond.fieldLink RX5 19 "BeardHire$Sheet" "length" "I" ∈ zU := z_t 180 (by decide +kernel) (by decide +kernel)
theorem u181 : Cond.fieldLink RX9 201 "BeardHire$Sheet" "length" "I" ∈ zU := z_t 181 (by decide +kernel) (by decide +kernel)
theorem u182 : Cond.laysFinal "BeardHire$Sheet" "BeardHire$Sheet" "numbers" "[J" ∈ zU := z_t 182 (by decide +kernel) (by decide +kernel)
theorem u184 : Cond.lays "BeardHire$Sheet" "BeardHire$Sheet" "bits" "I" ∈ zU := z_t 184 (by decide +kernel) (by decide +kernel)
theorem u186 : Cond.lays "BeardHire$Sheet" "BeardHire$Sheet" "length" "I" ∈ zU := z_t 186 (by decide +kernel) (by decide +kernel)
theorem u188 : Cond.superclass RX5 "java/lang/Object" ∈ zU := z_t 188 (by decide +kernel) (by decide +kernel)
theorem u189 : Cond.arrayClass .long ∈ zU := z_t 189 (by decide +kernel) (by decide +kernel)
theorem u190 : Cond.fieldLink RX9 30 "BeardHire" "live" "LBeardHire$Trade;" ∈ zU := z_t 190 (by decide +kernel) (by decide +kernel)
theorem u191 : Cond.fieldLink RX9 36 "BeardHire" "trial" "LBeardHire$Trade;" ∈ zU := z_t 191 (by decide +kernel) (by decide +kernel)
theorem u192 : Cond.fieldLink RX9 39 "BeardHire" "kept" "LBeardHire$Trade;" ∈ zU := z_t 192 (by decide +kernel) (by decide +kernel)
theorem u193 : Cond.fieldLink RX9 42 "BeardHire" "isKept" "Z" ∈ zU := z_t 193 (by decide +kernel) (by decide +kernel)
theorem u194 : Cond.fieldLink RX9 51 "BeardHire" "text" "LBeardHire$Text;" ∈ zU := z_t 194 (by decide +kernel) (by decide +kernel)
theorem u195 : Cond.fieldLink RX9 57 "BeardHire" "sheets" "[LBeardHire$Sheet;" ∈ zU := z_t 195 (by decide +kernel) (by decide +kernel)
theorem u196 : Cond.fieldLink RX9 62 "BeardHire" "findings" "[I" ∈ zU := z_t 196 (by decide +kernel) (by decide +kernel)
theorem u197 : Cond.laysFinal "BeardHire" "BeardHire" "live" "LBeardHire$Trade;" ∈ zU := z_t 197 (by decide +kernel) (by decide +kernel)
theorem u199 : Cond.laysFinal "BeardHire" "BeardHire" "trial" "LBeardHire$Trade;" ∈ zU := z_t 199 (by decide +kernel) (by decide +kernel)
theorem u201 : Cond.laysFinal "BeardHire" "BeardHire" "kept" "LBeardHire$Trade;" ∈ zU := z_t 201 (by decide +kernel) (by decide +kernel)
theorem u203 : Cond.lays "BeardHire" "BeardHire" "isKept" "Z" ∈ zU := z_t 203 (by decide +kernel) (by decide +kernel)
theorem u205 : Cond.laysFinal "BeardHire" "BeardHire" "text" "LBeardHire$Text;" ∈ zU := z_t 205 (by decide +kernel) (by decide +kernel)
theorem u207 : Cond.laysFinal "BeardHire" "BeardHire" "sheets" "[LBeardHire$Sheet;" ∈ zU := z_t 207 (by decide +kernel) (by decide +kernel)
theorem u209 : Cond.laysFinal "BeardHire" "BeardHire" "findings" "[I" ∈ zU := z_t 209 (by decide +kernel) (by decide +kernel)
theorem u211 : Cond.superclass RX9 "java/lang/Object" ∈ zU := z_t 211 (by decide +kernel) (by decide +kernel)
theorem u212 : Cond.methodLink RL 13 yX9_mood ∈ zU := z_t 212 (by decide +kernel) (by decide +kernel)
theorem u213 : Cond.instanceMethod yX9_mood ∈ zU := z_t 213 (by decide +kernel) (by decide +kernel)
theorem u214 : Cond.selects RX9 yX9_mood yX9_mood ∈ zU := z_t 214 (by decide +kernel) (by decide +kernel)
theorem u215 : Cond.code yX9_mood cX9_mood 4 (some .int) ∈ zU := z_t 215 (by decide +kernel) (by decide +kernel)
theorem u216 : Cond.methodLink RX9 66 yX9_isHouse ∈ zU := z_t 216 (by decide +kernel) (by decide +kernel)
theorem u217 : Cond.static yX9_isHouse ∈ zU := z_t 217 (by decide +kernel) (by decide +kernel)
theorem u218 : Cond.code yX9_isHouse cX9_isHouse 1 (some .boolean) ∈ zU := z_t 218 (by decide +kernel) (by decide +kernel)
theorem u219 : Cond.methodLink RX9 70 yX9_isWithin ∈ zU := z_t 219 (by decide +kernel) (by decide +kernel)
theorem u220 : Cond.static yX9_isWithin ∈ zU := z_t 220 (by decide +kernel) (by decide +kernel)
theorem u221 : Cond.code yX9_isWithin cX9_isWithin 3 (some .boolean) ∈ zU := z_t 221 (by decide +kernel) (by decide +kernel)
theorem u222 : Cond.methodLink RX9 74 yX9_finding ∈ zU := z_t 222 (by decide +kernel) (by decide +kernel)
theorem u224 : Cond.instanceMethod yX9_finding ∈ zU := z_t 224 (by decide +kernel) (by decide +kernel)
theorem u225 : Cond.code yX9_finding cX9_finding 2 (some .int) ∈ zU := z_t 225 (by decide +kernel) (by decide +kernel)
theorem u226 : Cond.constant RX9 237 (-1000000001) ∈ zU := z_t 226 (by decide +kernel) (by decide +kernel)
theorem u227 : Cond.methodLink RL 18 yX9_recall ∈ zU := z_t 227 (by decide +kernel) (by decide +kernel)
theorem u228 : Cond.instanceMethod yX9_recall ∈ zU := z_t 228 (by decide +kernel) (by decide +kernel)
theorem u229 : Cond.selects RX9 yX9_recall yX9_recall ∈ zU := z_t 229 (by decide +kernel) (by decide +kernel)
theorem u230 : Cond.code yX9_recall cX9_recall 4 (some .int) ∈ zU := z_t 230 (by decide +kernel) (by decide +kernel)
theorem u231 : Cond.methodLink RX9 81 yX9_isBeard ∈ zU := z_t 231 (by decide +kernel) (by decide +kernel)
theorem u233 : Cond.instanceMethod yX9_isBeard ∈ zU := z_t 233 (by decide +kernel) (by decide +kernel)
theorem u234 : Cond.code yX9_isBeard cX9_isBeard 2 (some .boolean) ∈ zU := z_t 234 (by decide +kernel) (by decide +kernel)
theorem u235 : Cond.methodLink RL 22 yX9_houseOf ∈ zU := z_t 235 (by decide +kernel) (by decide +kernel)
theorem u236 : Cond.instanceMethod yX9_houseOf ∈ zU := z_t 236 (by decide +kernel) (by decide +kernel)
theorem u237 : Cond.selects RX9 yX9_houseOf yX9_houseOf ∈ zU := z_t 237 (by decide +kernel) (by decide +kernel)
theorem u238 : Cond.code yX9_houseOf cX9_houseOf 3 (some .int) ∈ zU := z_t 238 (by decide +kernel) (by decide +kernel)
theorem u239 : Cond.methodLink RX9 87 yX7_guestsAt ∈ zU := z_t 239 (by decide +kernel) (by decide +kernel)
theorem u240 : Cond.instanceMethod yX7_guestsAt ∈ zU := z_t 240 (by decide +kernel) (by decide +kernel)
theorem u241 : Cond.selects RX7 yX7_guestsAt yX7_guestsAt ∈ zU := z_t 241 (by decide +kernel) (by decide +kernel)
theorem u242 : Cond.code yX7_guestsAt cX7_guestsAt 4 (some .int) ∈ zU := z_t 242 (by decide +kernel) (by decide +kernel)
theorem u243 : Cond.methodLink RX7 94 yX7_houseTonight ∈ zU := z_t 243 (by decide +kernel) (by decide +kernel)
theorem u244 : Cond.instanceMethod yX7_houseTonight ∈ zU := z_t 244 (by decide +kernel) (by decide +kernel)
theorem u245 : Cond.selects RX7 yX7_houseTonight yX7_houseTonight ∈ zU := z_t 245 (by decide +kernel) (by decide +kernel)
theorem u246 : Cond.code yX7_houseTonight cX7_houseTonight 2 (some .int) ∈ zU := z_t 246 (by decide +kernel) (by decide +kernel)
theorem u247 : Cond.methodLink RL 26 yX9_now ∈ zU := z_t 247 (by decide +kernel) (by decide +kernel)
theorem u248 : Cond.instanceMethod yX9_now ∈ zU := z_t 248 (by decide +kernel) (by decide +kernel)
theorem u249 : Cond.selects RX9 yX9_now yX9_now ∈ zU := z_t 249 (by decide +kernel) (by decide +kernel)
theorem u250 : Cond.code yX9_now cX9_now 2 (some .int) ∈ zU := z_t 250 (by decide +kernel) (by decide +kernel)
theorem u251 : Cond.methodLink RX9 94 yX7_isMonday ∈ zU := z_t 251 (by decide +kernel) (by decide +kernel)
theorem u252 : Cond.instanceMethod yX7_isMonday ∈ zU := z_t 252 (by decide +kernel) (by decide +kernel)
theorem u253 : Cond.selects RX7 yX7_isMonday yX7_isMonday ∈ zU := z_t 253 (by decide +kernel) (by decide +kernel)
theorem u254 : Cond.code yX7_isMonday cX7_isMonday 1 (some .boolean) ∈ zU := z_t 254 (by decide +kernel) (by decide +kernel)
theorem u255 : Cond.methodLink RX9 98 yX7_beardsInShop ∈ zU := z_t 255 (by decide +kernel) (by decide +kernel)
theorem u256 : Cond.instanceMethod yX7_beardsInShop ∈ zU := z_t 256 (by decide +kernel) (by decide +kernel)
theorem u257 : Cond.selects RX7 yX7_beardsInShop yX7_beardsInShop ∈ zU := z_t 257 (by decide +kernel) (by decide +kernel)
theorem u258 : Cond.code yX7_beardsInShop cX7_beardsInShop 3 (some .int) ∈ zU := z_t 258 (by decide +kernel) (by decide +kernel)
theorem u259 : Cond.methodLink RX9 102 yX7_wearersInBeards ∈ zU := z_t 259 (by decide +kernel) (by decide +kernel)
theorem u260 : Cond.instanceMethod yX7_wearersInBeards ∈ zU := z_t 260 (by decide +kernel) (by decide +kernel)
theorem u261 : Cond.selects RX7 yX7_wearersInBeards yX7_wearersInBeards ∈ zU := z_t 261 (by decide +kernel) (by decide +kernel)
theorem u262 : Cond.code yX7_wearersInBeards cX7_wearersInBeards 3 (some .int) ∈ zU := z_t 262 (by decide +kernel) (by decide +kernel)
theorem u263 : Cond.methodLink RX9 105 yX7_allPurses ∈ zU := z_t 263 (by decide +kernel) (by decide +kernel)
theorem u264 : Cond.instanceMethod yX7_allPurses ∈ zU := z_t 264 (by decide +kernel) (by decide +kernel)
theorem u265 : Cond.selects RX7 yX7_allPurses yX7_allPurses ∈ zU := z_t 265 (by decide +kernel) (by decide +kernel)
theorem u266 : Cond.code yX7_allPurses cX7_allPurses 3 (some .int) ∈ zU := z_t 266 (by decide +kernel) (by decide +kernel)
theorem u267 : Cond.methodLink RL 31 yX9_beard ∈ zU := z_t 267 (by decide +kernel) (by decide +kernel)
theorem u268 : Cond.instanceMethod yX9_beard ∈ zU := z_t 268 (by decide +kernel) (by decide +kernel)
theorem u269 : Cond.selects RX9 yX9_beard yX9_beard ∈ zU := z_t 269 (by decide +kernel) (by decide +kernel)
theorem u270 : Cond.code yX9_beard cX9_beard 3 (some .int) ∈ zU := z_t 270 (by decide +kernel) (by decide +kernel)
theorem u271 : Cond.methodLink RX9 108 yX9_isKind ∈ zU := z_t 271 (by decide +kernel) (by decide +kernel)
theorem u272 : Cond.static yX9_isKind ∈ zU := z_t 272 (by decide +kernel) (by decide +kernel)
theorem u273 : Cond.code yX9_isKind cX9_isKind 1 (some .boolean) ∈ zU := z_t 273 (by decide +kernel) (by decide +kernel)
theorem u274 : Cond.methodLink RX9 111 yX7_addBeard ∈ zU := z_t 274 (by decide +kernel) (by decide +kernel)
theorem u275 : Cond.instanceMethod yX7_addBeard ∈ zU := z_t 275 (by decide +kernel) (by decide +kernel)
theorem u276 : Cond.selects RX7 yX7_addBeard yX7_addBeard ∈ zU := z_t 276 (by decide +kernel) (by decide +kernel)
theorem u277 : Cond.code yX7_addBeard cX7_addBeard 3 (some .int) ∈ zU := z_t 277 (by decide +kernel) (by decide +kernel)
theorem u278 : Cond.methodLink RL 35 yX9_of ∈ zU := z_t 278 (by decide +kernel) (by decide +kernel)
theorem u279 : Cond.instanceMethod yX9_of ∈ zU := z_t 279 (by decide +kernel) (by decide +kernel)
theorem u280 : Cond.selects RX9 yX9_of yX9_of ∈ zU := z_t 280 (by decide +kernel) (by decide +kernel)
theorem u281 : Cond.code yX9_of cX9_of 3 (some .int) ∈ zU := z_t 281 (by decide +kernel) (by decide +kernel)
theorem u282 : Cond.methodLink RX9 126 yX7_costOf ∈ zU := z_t 282 (by decide +kernel) (by decide +kernel)
theorem u283 : Cond.instanceMethod yX7_costOf ∈ zU := z_t 283 (by decide +kernel) (by decide +kernel)
theorem u284 : Cond.selects RX7 yX7_costOf yX7_costOf ∈ zU := z_t 284 (by decide +kernel) (by decide +kernel)
theorem u285 : Cond.code yX7_costOf cX7_costOf 2 (some .int) ∈ zU := z_t 285 (by decide +kernel) (by decide +kernel)
theorem u286 : Cond.methodLink RX7 59 yX2_costs ∈ zU := z_t 286 (by decide +kernel) (by decide +kernel)
theorem u287 : Cond.instanceMethod yX2_costs ∈ zU := z_t 287 (by decide +kernel) (by decide +kernel)
theorem u288 : Cond.selects RX2 yX2_costs yX2_costs ∈ zU := z_t 288 (by decide +kernel) (by decide +kernel)
theorem u289 : Cond.sameMethod "BeardHire$Kind" "BeardHire$Kind" "costs" "(II)I" ∈ zU := z_t 289 (by decide +kernel) (by decide +kernel)
theorem u290 : Cond.selects RX0 yX2_costs yX0_costs ∈ zU := z_t 290 (by decide +kernel) (by decide +kernel)
theorem u291 : Cond.instanceMethod yX0_costs ∈ zU := z_t 291 (by decide +kernel) (by decide +kernel)
theorem u292 : Cond.code yX0_costs cX0_costs 3 (some .int) ∈ zU := z_t 292 (by decide +kernel) (by decide +kernel)
theorem u293 : Cond.methodLink RX0 9 yX2_costs ∈ zU := z_t 293 (by decide +kernel) (by decide +kernel)
theorem u294 : Cond.selects RX1 yX2_costs yX1_costs ∈ zU := z_t 294 (by decide +kernel) (by decide +kernel)
theorem u295 : Cond.instanceMethod yX1_costs ∈ zU := z_t 295 (by decide +kernel) (by decide +kernel)
theorem u296 : Cond.code yX1_costs cX1_costs 3 (some .int) ∈ zU := z_t 296 (by decide +kernel) (by decide +kernel)
theorem u297 : Cond.methodLink RX1 9 yX0_costs ∈ zU := z_t 297 (by decide +kernel) (by decide +kernel)
theorem u298 : Cond.selects RX3 yX2_costs yX3_costs ∈ zU := z_t 298 (by decide +kernel) (by decide +kernel)
theorem u299 : Cond.instanceMethod yX3_costs ∈ zU := z_t 299 (by decide +kernel) (by decide +kernel)
theorem u300 : Cond.code yX3_costs cX3_costs 3 (some .int) ∈ zU := z_t 300 (by decide +kernel) (by decide +kernel)
theorem u301 : Cond.selects RX4 yX2_costs yX4_costs ∈ zU := z_t 301 (by decide +kernel) (by decide +kernel)
theorem u302 : Cond.instanceMethod yX4_costs ∈ zU := z_t 302 (by decide +kernel) (by decide +kernel)
theorem u303 : Cond.code yX4_costs cX4_costs 3 (some .int) ∈ zU := z_t 303 (by decide +kernel) (by decide +kernel)
theorem u304 : Cond.methodLink RX4 9 yX8_costs ∈ zU := z_t 304 (by decide +kernel) (by decide +kernel)
theorem u305 : Cond.instanceMethod yX8_costs ∈ zU := z_t 305 (by decide +kernel) (by decide +kernel)
theorem u306 : Cond.code yX8_costs cX8_costs 3 (some .int) ∈ zU := z_t 306 (by decide +kernel) (by decide +kernel)
theorem u307 : Cond.selects RX8 yX2_costs yX8_costs ∈ zU := z_t 307 (by decide +kernel) (by decide +kernel)
theorem u308 : Cond.code yX2_costs cX2_costs 3 (some .int) ∈ zU := z_t 308 (by decide +kernel) (by decide +kernel)
theorem u309 : Cond.methodLink RX9 129 yX7_gainOf ∈ zU := z_t 309 (by decide +kernel) (by decide +kernel)
theorem u310 : Cond.instanceMethod yX7_gainOf ∈ zU := z_t 310 (by decide +kernel) (by decide +kernel)
theorem u311 : Cond.selects RX7 yX7_gainOf yX7_gainOf ∈ zU := z_t 311 (by decide +kernel) (by decide +kernel)
theorem u312 : Cond.code yX7_gainOf cX7_gainOf 2 (some .int) ∈ zU := z_t 312 (by decide +kernel) (by decide +kernel)
theorem u313 : Cond.methodLink RX7 73 yX7_isMonday ∈ zU := z_t 313 (by decide +kernel) (by decide +kernel)
theorem u314 : Cond.methodLink RX7 77 yX2_gains ∈ zU := z_t 314 (by decide +kernel) (by decide +kernel)
theorem u315 : Cond.instanceMethod yX2_gains ∈ zU := z_t 315 (by decide +kernel) (by decide +kernel)
theorem u316 : Cond.selects RX2 yX2_gains yX2_gains ∈ zU := z_t 316 (by decide +kernel) (by decide +kernel)
theorem u317 : Cond.sameMethod "BeardHire$Kind" "BeardHire$Kind" "gains" "(Z)I" ∈ zU := z_t 317 (by decide +kernel) (by decide +kernel)
theorem u318 : Cond.selects RX0 yX2_gains yX0_gains ∈ zU := z_t 318 (by decide +kernel) (by decide +kernel)
theorem u319 : Cond.instanceMethod yX0_gains ∈ zU := z_t 319 (by decide +kernel) (by decide +kernel)
theorem u320 : Cond.code yX0_gains cX0_gains 2 (some .int) ∈ zU := z_t 320 (by decide +kernel) (by decide +kernel)
theorem u321 : Cond.methodLink RX0 21 yX2_gains ∈ zU := z_t 321 (by decide +kernel) (by decide +kernel)
theorem u322 : Cond.selects RX1 yX2_gains yX1_gains ∈ zU := z_t 322 (by decide +kernel) (by decide +kernel)
theorem u323 : Cond.instanceMethod yX1_gains ∈ zU := z_t 323 (by decide +kernel) (by decide +kernel)
theorem u324 : Cond.code yX1_gains cX1_gains 2 (some .int) ∈ zU := z_t 324 (by decide +kernel) (by decide +kernel)
theorem u325 : Cond.methodLink RX1 21 yX0_gains ∈ zU := z_t 325 (by decide +kernel) (by decide +kernel)
theorem u326 : Cond.selects RX3 yX2_gains yX3_gains ∈ zU := z_t 326 (by decide +kernel) (by decide +kernel)
theorem u327 : Cond.instanceMethod yX3_gains ∈ zU := z_t 327 (by decide +kernel) (by decide +kernel)
theorem u328 : Cond.code yX3_gains cX3_gains 2 (some .int) ∈ zU := z_t 328 (by decide +kernel) (by decide +kernel)
theorem u329 : Cond.selects RX4 yX2_gains yX4_gains ∈ zU := z_t 329 (by decide +kernel) (by decide +kernel)
theorem u330 : Cond.instanceMethod yX4_gains ∈ zU := z_t 330 (by decide +kernel) (by decide +kernel)
theorem u331 : Cond.code yX4_gains cX4_gains 2 (some .int) ∈ zU := z_t 331 (by decide +kernel) (by decide +kernel)
theorem u332 : Cond.methodLink RX4 17 ⟨"BeardHire$White", "gains", "(Z)I"⟩ ∈ zU := z_t 332 (by decide +kernel) (by decide +kernel)
theorem u333 : Cond.sameMethod "BeardHire$White" "BeardHire$Kind" "gains" "(Z)I" ∈ zU := z_t 333 (by decide +kernel) (by decide +kernel)
theorem u335 : Cond.selects RX8 yX2_gains yX2_gains ∈ zU := z_t 335 (by decide +kernel) (by decide +kernel)
theorem u336 : Cond.code yX2_gains cX2_gains 2 (some .int) ∈ zU := z_t 336 (by decide +kernel) (by decide +kernel)
theorem u337 : Cond.methodLink RL 39 yX9_can ∈ zU := z_t 337 (by decide +kernel) (by decide +kernel)
theorem u338 : Cond.instanceMethod yX9_can ∈ zU := z_t 338 (by decide +kernel) (by decide +kernel)
theorem u339 : Cond.selects RX9 yX9_can yX9_can ∈ zU := z_t 339 (by decide +kernel) (by decide +kernel)
theorem u340 : Cond.code yX9_can cX9_can 4 (some .int) ∈ zU := z_t 340 (by decide +kernel) (by decide +kernel)
theorem u341 : Cond.methodLink RX9 132 yX7_meetingAt ∈ zU := z_t 341 (by decide +kernel) (by decide +kernel)
theorem u342 : Cond.instanceMethod yX7_meetingAt ∈ zU := z_t 342 (by decide +kernel) (by decide +kernel)
theorem u343 : Cond.selects RX7 yX7_meetingAt yX7_meetingAt ∈ zU := z_t 343 (by decide +kernel) (by decide +kernel)
theorem u344 : Cond.code yX7_meetingAt cX7_meetingAt 3 (some .int) ∈ zU := z_t 344 (by decide +kernel) (by decide +kernel)
theorem u345 : Cond.methodLink RX7 65 yX2_meets ∈ zU := z_t 345 (by decide +kernel) (by decide +kernel)
theorem u346 : Cond.instanceMethod yX2_meets ∈ zU := z_t 346 (by decide +kernel) (by decide +kernel)
theorem u347 : Cond.selects RX2 yX2_meets yX2_meets ∈ zU := z_t 347 (by decide +kernel) (by decide +kernel)
theorem u348 : Cond.sameMethod "BeardHire$Kind" "BeardHire$Kind" "meets" "(IZI)I" ∈ zU := z_t 348 (by decide +kernel) (by decide +kernel)
theorem u349 : Cond.selects RX0 yX2_meets yX0_meets ∈ zU := z_t 349 (by decide +kernel) (by decide +kernel)
theorem u350 : Cond.instanceMethod yX0_meets ∈ zU := z_t 350 (by decide +kernel) (by decide +kernel)
theorem u351 : Cond.code yX0_meets cX0_meets 5 (some .int) ∈ zU := z_t 351 (by decide +kernel) (by decide +kernel)
theorem u352 : Cond.methodLink RX0 13 yX2_meets ∈ zU := z_t 352 (by decide +kernel) (by decide +kernel)
theorem u353 : Cond.selects RX1 yX2_meets yX1_meets ∈ zU := z_t 353 (by decide +kernel) (by decide +kernel)
theorem u354 : Cond.instanceMethod yX1_meets ∈ zU := z_t 354 (by decide +kernel) (by decide +kernel)
theorem u355 : Cond.code yX1_meets cX1_meets 5 (some .int) ∈ zU := z_t 355 (by decide +kernel) (by decide +kernel)
theorem u356 : Cond.methodLink RX1 13 yX0_meets ∈ zU := z_t 356 (by decide +kernel) (by decide +kernel)
theorem u357 : Cond.selects RX3 yX2_meets yX3_meets ∈ zU := z_t 357 (by decide +kernel) (by decide +kernel)
theorem u358 : Cond.instanceMethod yX3_meets ∈ zU := z_t 358 (by decide +kernel) (by decide +kernel)
theorem u359 : Cond.code yX3_meets cX3_meets 4 (some .int) ∈ zU := z_t 359 (by decide +kernel) (by decide +kernel)
theorem u360 : Cond.methodLink RX3 9 yX2_meets ∈ zU := z_t 360 (by decide +kernel) (by decide +kernel)
theorem u361 : Cond.selects RX4 yX2_meets yX4_meets ∈ zU := z_t 361 (by decide +kernel) (by decide +kernel)
theorem u362 : Cond.instanceMethod yX4_meets ∈ zU := z_t 362 (by decide +kernel) (by decide +kernel)
theorem u363 : Cond.code yX4_meets cX4_meets 4 (some .int) ∈ zU := z_t 363 (by decide +kernel) (by decide +kernel)
theorem u364 : Cond.methodLink RX4 13 yX8_meets ∈ zU := z_t 364 (by decide +kernel) (by decide +kernel)
theorem u365 : Cond.instanceMethod yX8_meets ∈ zU := z_t 365 (by decide +kernel) (by decide +kernel)
theorem u366 : Cond.code yX8_meets cX8_meets 5 (some .int) ∈ zU := z_t 366 (by decide +kernel) (by decide +kernel)
theorem u367 : Cond.methodLink RX8 9 yX2_meets ∈ zU := z_t 367 (by decide +kernel) (by decide +kernel)
theorem u368 : Cond.selects RX8 yX2_meets yX8_meets ∈ zU := z_t 368 (by decide +kernel) (by decide +kernel)
theorem u369 : Cond.code yX2_meets cX2_meets 4 (some .int) ∈ zU := z_t 369 (by decide +kernel) (by decide +kernel)
theorem u370 : Cond.methodLink RX9 136 yX7_leavingOf ∈ zU := z_t 370 (by decide +kernel) (by decide +kernel)
theorem u371 : Cond.instanceMethod yX7_leavingOf ∈ zU := z_t 371 (by decide +kernel) (by decide +kernel)
theorem u372 : Cond.selects RX7 yX7_leavingOf yX7_leavingOf ∈ zU := z_t 372 (by decide +kernel) (by decide +kernel)
theorem u373 : Cond.code yX7_leavingOf cX7_leavingOf 2 (some .int) ∈ zU := z_t 373 (by decide +kernel) (by decide +kernel)
theorem u374 : Cond.methodLink RX7 69 yX2_leaves ∈ zU := z_t 374 (by decide +kernel) (by decide +kernel)
theorem u375 : Cond.instanceMethod yX2_leaves ∈ zU := z_t 375 (by decide +kernel) (by decide +kernel)
theorem u376 : Cond.selects RX2 yX2_leaves yX2_leaves ∈ zU := z_t 376 (by decide +kernel) (by decide +kernel)
theorem u377 : Cond.sameMethod "BeardHire$Kind" "BeardHire$Kind" "leaves" "(I)I" ∈ zU := z_t 377 (by decide +kernel) (by decide +kernel)
theorem u378 : Cond.selects RX0 yX2_leaves yX0_leaves ∈ zU := z_t 378 (by decide +kernel) (by decide +kernel)
theorem u379 : Cond.instanceMethod yX0_leaves ∈ zU := z_t 379 (by decide +kernel) (by decide +kernel)
theorem u380 : Cond.code yX0_leaves cX0_leaves 2 (some .int) ∈ zU := z_t 380 (by decide +kernel) (by decide +kernel)
theorem u381 : Cond.methodLink RX0 17 yX2_leaves ∈ zU := z_t 381 (by decide +kernel) (by decide +kernel)
theorem u382 : Cond.selects RX1 yX2_leaves yX1_leaves ∈ zU := z_t 382 (by decide +kernel) (by decide +kernel)
theorem u383 : Cond.instanceMethod yX1_leaves ∈ zU := z_t 383 (by decide +kernel) (by decide +kernel)
theorem u384 : Cond.code yX1_leaves cX1_leaves 2 (some .int) ∈ zU := z_t 384 (by decide +kernel) (by decide +kernel)
theorem u385 : Cond.methodLink RX1 17 yX0_leaves ∈ zU := z_t 385 (by decide +kernel) (by decide +kernel)
theorem u386 : Cond.selects RX3 yX2_leaves yX3_leaves ∈ zU := z_t 386 (by decide +kernel) (by decide +kernel)
theorem u387 : Cond.instanceMethod yX3_leaves ∈ zU := z_t 387 (by decide +kernel) (by decide +kernel)
theorem u388 : Cond.code yX3_leaves cX3_leaves 2 (some .int) ∈ zU := z_t 388 (by decide +kernel) (by decide +kernel)
theorem u389 : Cond.selects RX4 yX2_leaves yX8_leaves ∈ zU := z_t 389 (by decide +kernel) (by decide +kernel)
theorem u390 : Cond.instanceMethod yX8_leaves ∈ zU := z_t 390 (by decide +kernel) (by decide +kernel)
theorem u391 : Cond.code yX8_leaves cX8_leaves 2 (some .int) ∈ zU := z_t 391 (by decide +kernel) (by decide +kernel)
theorem u392 : Cond.methodLink RX8 13 yX2_leaves ∈ zU := z_t 392 (by decide +kernel) (by decide +kernel)
theorem u393 : Cond.selects RX8 yX2_leaves yX8_leaves ∈ zU := z_t 393 (by decide +kernel) (by decide +kernel)
theorem u394 : Cond.code yX2_leaves cX2_leaves 2 (some .int) ∈ zU := z_t 394 (by decide +kernel) (by decide +kernel)
theorem u395 : Cond.methodLink RL 44 yX9_set ∈ zU := z_t 395 (by decide +kernel) (by decide +kernel)
theorem u396 : Cond.instanceMethod yX9_set ∈ zU := z_t 396 (by decide +kernel) (by decide +kernel)
theorem u397 : Cond.selects RX9 yX9_set yX9_set ∈ zU := z_t 397 (by decide +kernel) (by decide +kernel)
theorem u398 : Cond.code yX9_set cX9_set 5 (some .int) ∈ zU := z_t 398 (by decide +kernel) (by decide +kernel)
theorem u399 : Cond.methodLink RL 48 yX9_turn ∈ zU := z_t 399 (by decide +kernel) (by decide +kernel)
theorem u400 : Cond.instanceMethod yX9_turn ∈ zU := z_t 400 (by decide +kernel) (by decide +kernel)
theorem u401 : Cond.selects RX9 yX9_turn yX9_turn ∈ zU := z_t 401 (by decide +kernel) (by decide +kernel)
theorem u402 : Cond.code yX9_turn cX9_turn 4 (some .int) ∈ zU := z_t 402 (by decide +kernel) (by decide +kernel)
theorem u403 : Cond.methodLink RL 52 yX9_as ∈ zU := z_t 403 (by decide +kernel) (by decide +kernel)
theorem u404 : Cond.instanceMethod yX9_as ∈ zU := z_t 404 (by decide +kernel) (by decide +kernel)
theorem u405 : Cond.selects RX9 yX9_as yX9_as ∈ zU := z_t 405 (by decide +kernel) (by decide +kernel)
theorem u406 : Cond.code yX9_as cX9_as 3 (some .int) ∈ zU := z_t 406 (by decide +kernel) (by decide +kernel)
theorem u407 : Cond.methodLink RX9 139 yX9_isUnder ∈ zU := z_t 407 (by decide +kernel) (by decide +kernel)
theorem u408 : Cond.static yX9_isUnder ∈ zU := z_t 408 (by decide +kernel) (by decide +kernel)
theorem u409 : Cond.code yX9_isUnder cX9_isUnder 4 (some .boolean) ∈ zU := z_t 409 (by decide +kernel) (by decide +kernel)
theorem u410 : Cond.fieldLink RX9 238 "BeardHire" "ABOVE" "[I" ∈ zU := z_t 410 (by decide +kernel) (by decide +kernel)
theorem u412 : Cond.methodLink RL 56 yX9_wearer ∈ zU := z_t 412 (by decide +kernel) (by decide +kernel)
theorem u413 : Cond.instanceMethod yX9_wearer ∈ zU := z_t 413 (by decide +kernel) (by decide +kernel)
theorem u414 : Cond.selects RX9 yX9_wearer yX9_wearer ∈ zU := z_t 414 (by decide +kernel) (by decide +kernel)
theorem u415 : Cond.code yX9_wearer cX9_wearer 3 (some .int) ∈ zU := z_t 415 (by decide +kernel) (by decide +kernel)
theorem u416 : Cond.methodLink RX9 143 yX7_addWearer ∈ zU := z_t 416 (by decide +kernel) (by decide +kernel)
theorem u417 : Cond.instanceMethod yX7_addWearer ∈ zU := z_t 417 (by decide +kernel) (by decide +kernel)
theorem u418 : Cond.selects RX7 yX7_addWearer yX7_addWearer ∈ zU := z_t 418 (by decide +kernel) (by decide +kernel)
theorem u419 : Cond.code yX7_addWearer cX7_addWearer 3 (some .int) ∈ zU := z_t 419 (by decide +kernel) (by decide +kernel)
theorem u420 : Cond.methodLink RL 60 yX9_wearerOf ∈ zU := z_t 420 (by decide +kernel) (by decide +kernel)
theorem u421 : Cond.instanceMethod yX9_wearerOf ∈ zU := z_t 421 (by decide +kernel) (by decide +kernel)
theorem u422 : Cond.selects RX9 yX9_wearerOf yX9_wearerOf ∈ zU := z_t 422 (by decide +kernel) (by decide +kernel)
theorem u423 : Cond.code yX9_wearerOf cX9_wearerOf 3 (some .int) ∈ zU := z_t 423 (by decide +kernel) (by decide +kernel)
theorem u424 : Cond.methodLink RX9 146 yX9_isWearer ∈ zU := z_t 424 (by decide +kernel) (by decide +kernel)
theorem u426 : Cond.instanceMethod yX9_isWearer ∈ zU := z_t 426 (by decide +kernel) (by decide +kernel)
theorem u427 : Cond.code yX9_isWearer cX9_isWearer 2 (some .boolean) ∈ zU := z_t 427 (by decide +kernel) (by decide +kernel)
theorem u428 : Cond.methodLink RX9 158 yX7_houseTonight ∈ zU := z_t 428 (by decide +kernel) (by decide +kernel)
theorem u429 : Cond.methodLink RL 64 yX9_give ∈ zU := z_t 429 (by decide +kernel) (by decide +kernel)
theorem u430 : Cond.instanceMethod yX9_give ∈ zU := z_t 430 (by decide +kernel) (by decide +kernel)
theorem u431 : Cond.selects RX9 yX9_give yX9_give ∈ zU := z_t 431 (by decide +kernel) (by decide +kernel)
theorem u432 : Cond.code yX9_give cX9_give 5 (some .int) ∈ zU := z_t 432 (by decide +kernel) (by decide +kernel)
theorem u433 : Cond.methodLink RL 68 yX9_hire ∈ zU := z_t 433 (by decide +kernel) (by decide +kernel)
theorem u434 : Cond.instanceMethod yX9_hire ∈ zU := z_t 434 (by decide +kernel) (by decide +kernel)
theorem u435 : Cond.selects RX9 yX9_hire yX9_hire ∈ zU := z_t 435 (by decide +kernel) (by decide +kernel)
theorem u436 : Cond.code yX9_hire cX9_hire 3 (some .int) ∈ zU := z_t 436 (by decide +kernel) (by decide +kernel)
theorem u437 : Cond.methodLink RX9 161 yX7_putOn ∈ zU := z_t 437 (by decide +kernel) (by decide +kernel)
theorem u438 : Cond.instanceMethod yX7_putOn ∈ zU := z_t 438 (by decide +kernel) (by decide +kernel)
theorem u439 : Cond.selects RX7 yX7_putOn yX7_putOn ∈ zU := z_t 439 (by decide +kernel) (by decide +kernel)
theorem u440 : Cond.code yX7_putOn cX7_putOn 3 none ∈ zU := z_t 440 (by decide +kernel) (by decide +kernel)
theorem u441 : Cond.methodLink RL 72 yX9_back ∈ zU := z_t 441 (by decide +kernel) (by decide +kernel)
theorem u442 : Cond.instanceMethod yX9_back ∈ zU := z_t 442 (by decide +kernel) (by decide +kernel)
theorem u443 : Cond.selects RX9 yX9_back yX9_back ∈ zU := z_t 443 (by decide +kernel) (by decide +kernel)
theorem u444 : Cond.code yX9_back cX9_back 3 (some .int) ∈ zU := z_t 444 (by decide +kernel) (by decide +kernel)
theorem u445 : Cond.methodLink RX9 165 yX7_takeOff ∈ zU := z_t 445 (by decide +kernel) (by decide +kernel)
theorem u446 : Cond.instanceMethod yX7_takeOff ∈ zU := z_t 446 (by decide +kernel) (by decide +kernel)
theorem u447 : Cond.selects RX7 yX7_takeOff yX7_takeOff ∈ zU := z_t 447 (by decide +kernel) (by decide +kernel)
theorem u448 : Cond.code yX7_takeOff cX7_takeOff 3 none ∈ zU := z_t 448 (by decide +kernel) (by decide +kernel)
theorem u449 : Cond.methodLink RL 76 yX9_nights ∈ zU := z_t 449 (by decide +kernel) (by decide +kernel)
theorem u450 : Cond.instanceMethod yX9_nights ∈ zU := z_t 450 (by decide +kernel) (by decide +kernel)
theorem u451 : Cond.selects RX9 yX9_nights yX9_nights ∈ zU := z_t 451 (by decide +kernel) (by decide +kernel)
theorem u452 : Cond.code yX9_nights cX9_nights 2 (some .int) ∈ zU := z_t 452 (by decide +kernel) (by decide +kernel)
theorem u453 : Cond.constant RX9 168 (99999) ∈ zU := z_t 453 (by decide +kernel) (by decide +kernel)
theorem u454 : Cond.methodLink RX9 169 yX7_passNights ∈ zU := z_t 454 (by decide +kernel) (by decide +kernel)
theorem u455 : Cond.instanceMethod yX7_passNights ∈ zU := z_t 455 (by decide +kernel) (by decide +kernel)
theorem u456 : Cond.selects RX7 yX7_passNights yX7_passNights ∈ zU := z_t 456 (by decide +kernel) (by decide +kernel)
theorem u457 : Cond.code yX7_passNights cX7_passNights 3 none ∈ zU := z_t 457 (by decide +kernel) (by decide +kernel)
theorem u458 : Cond.methodLink RX7 81 yX7_passNight ∈ zU := z_t 458 (by decide +kernel) (by decide +kernel)
theorem u459 : Cond.instanceMethod yX7_passNight ∈ zU := z_t 459 (by decide +kernel) (by decide +kernel)
theorem u460 : Cond.selects RX7 yX7_passNight yX7_passNight ∈ zU := z_t 460 (by decide +kernel) (by decide +kernel)
theorem u461 : Cond.code yX7_passNight cX7_passNight 2 none ∈ zU := z_t 461 (by decide +kernel) (by decide +kernel)
theorem u462 : Cond.methodLink RX7 84 yX7_spendNight ∈ zU := z_t 462 (by decide +kernel) (by decide +kernel)
theorem u464 : Cond.instanceMethod yX7_spendNight ∈ zU := z_t 464 (by decide +kernel) (by decide +kernel)
theorem u465 : Cond.code yX7_spendNight cX7_spendNight 9 none ∈ zU := z_t 465 (by decide +kernel) (by decide +kernel)
theorem u466 : Cond.methodLink RX7 91 yX7_takeOff ∈ zU := z_t 466 (by decide +kernel) (by decide +kernel)
theorem u467 : Cond.methodLink RX7 97 yX7_held ∈ zU := z_t 467 (by decide +kernel) (by decide +kernel)
theorem u468 : Cond.static yX7_held ∈ zU := z_t 468 (by decide +kernel) (by decide +kernel)
theorem u469 : Cond.code yX7_held cX7_held 3 (some .int) ∈ zU := z_t 469 (by decide +kernel) (by decide +kernel)
theorem u470 : Cond.methodLink RX7 101 Lib.Math.min.name ∈ zU := z_t 470 (by decide +kernel) (by decide +kernel)
theorem u471 : Cond.static Lib.Math.min.name ∈ zU := z_t 471 (by decide +kernel) (by decide +kernel)
theorem u472 : Cond.code Lib.Math.min.name Lib.Math.min.code 2 (some .int) ∈ zU := z_t 472 (by decide +kernel) (by decide +kernel)
theorem u473 : Cond.methodLink RX7 106 Lib.Math.max.name ∈ zU := z_t 473 (by decide +kernel) (by decide +kernel)
theorem u474 : Cond.static Lib.Math.max.name ∈ zU := z_t 474 (by decide +kernel) (by decide +kernel)
theorem u475 : Cond.code Lib.Math.max.name Lib.Math.max.code 2 (some .int) ∈ zU := z_t 475 (by decide +kernel) (by decide +kernel)
theorem u476 : Cond.methodLink RX7 88 yX7_combOut ∈ zU := z_t 476 (by decide +kernel) (by decide +kernel)
theorem u478 : Cond.instanceMethod yX7_combOut ∈ zU := z_t 478 (by decide +kernel) (by decide +kernel)
theorem u479 : Cond.code yX7_combOut cX7_combOut 2 none ∈ zU := z_t 479 (by decide +kernel) (by decide +kernel)
theorem u480 : Cond.methodLink RL 80 yX9_on ∈ zU := z_t 480 (by decide +kernel) (by decide +kernel)
theorem u481 : Cond.instanceMethod yX9_on ∈ zU := z_t 481 (by decide +kernel) (by decide +kernel)
theorem u482 : Cond.selects RX9 yX9_on yX9_on ∈ zU := z_t 482 (by decide +kernel) (by decide +kernel)
theorem u483 : Cond.code yX9_on cX9_on 4 (some .int) ∈ zU := z_t 483 (by decide +kernel) (by decide +kernel)
theorem u484 : Cond.methodLink RX9 173 yX7_become ∈ zU := z_t 484 (by decide +kernel) (by decide +kernel)
theorem u485 : Cond.instanceMethod yX7_become ∈ zU := z_t 485 (by decide +kernel) (by decide +kernel)
theorem u486 : Cond.selects RX7 yX7_become yX7_become ∈ zU := z_t 486 (by decide +kernel) (by decide +kernel)
theorem u487 : Cond.code yX7_become cX7_become 2 none ∈ zU := z_t 487 (by decide +kernel) (by decide +kernel)
theorem u488 : Cond.methodLink RX7 53 arraycopyName ∈ zU := z_t 488 (by decide +kernel) (by decide +kernel)
theorem u489 : Cond.static arraycopyName ∈ zU := z_t 489 (by decide +kernel) (by decide +kernel)
theorem u490 : Cond.native arraycopyName ∈ zU := z_t 490 (by decide +kernel) (by decide +kernel)
theorem u491 : Cond.methodLink RX9 177 yX7_passNightsOfWearer ∈ zU := z_t 491 (by decide +kernel) (by decide +kernel)
theorem u492 : Cond.instanceMethod yX7_passNightsOfWearer ∈ zU := z_t 492 (by decide +kernel) (by decide +kernel)
theorem u493 : Cond.selects RX7 yX7_passNightsOfWearer yX7_passNightsOfWearer ∈ zU := z_t 493 (by decide +kernel) (by decide +kernel)
theorem u494 : Cond.code yX7_passNightsOfWearer cX7_passNightsOfWearer 4 none ∈ zU := z_t 494 (by decide +kernel) (by decide +kernel)
theorem u495 : Cond.methodLink RL 84 yX9_then ∈ zU := z_t 495 (by decide +kernel) (by decide +kernel)
theorem u496 : Cond.instanceMethod yX9_then ∈ zU := z_t 496 (by decide +kernel) (by decide +kernel)
theorem u497 : Cond.selects RX9 yX9_then yX9_then ∈ zU := z_t 497 (by decide +kernel) (by decide +kernel)
theorem u498 : Cond.code yX9_then cX9_then 4 (some .int) ∈ zU := z_t 498 (by decide +kernel) (by decide +kernel)
theorem u499 : Cond.methodLink RL 88 yX9_fond ∈ zU := z_t 499 (by decide +kernel) (by decide +kernel)
theorem u500 : Cond.instanceMethod yX9_fond ∈ zU := z_t 500 (by decide +kernel) (by decide +kernel)
theorem u501 : Cond.selects RX9 yX9_fond yX9_fond ∈ zU := z_t 501 (by decide +kernel) (by decide +kernel)
theorem u502 : Cond.code yX9_fond cX9_fond 3 (some .int) ∈ zU := z_t 502 (by decide +kernel) (by decide +kernel)
theorem u503 : Cond.methodLink RL 92 yX9_home ∈ zU := z_t 503 (by decide +kernel) (by decide +kernel)
theorem u504 : Cond.instanceMethod yX9_home ∈ zU := z_t 504 (by decide +kernel) (by decide +kernel)
theorem u505 : Cond.selects RX9 yX9_home yX9_home ∈ zU := z_t 505 (by decide +kernel) (by decide +kernel)
theorem u506 : Cond.code yX9_home cX9_home 3 (some .int) ∈ zU := z_t 506 (by decide +kernel) (by decide +kernel)
theorem u507 : Cond.methodLink RX9 180 yX7_passNight ∈ zU := z_t 507 (by decide +kernel) (by decide +kernel)
theorem u508 : Cond.methodLink RL 96 yX9_falls ∈ zU := z_t 508 (by decide +kernel) (by decide +kernel)
theorem u509 : Cond.instanceMethod yX9_falls ∈ zU := z_t 509 (by decide +kernel) (by decide +kernel)
theorem u510 : Cond.selects RX9 yX9_falls yX9_falls ∈ zU := z_t 510 (by decide +kernel) (by decide +kernel)
theorem u511 : Cond.code yX9_falls cX9_falls 4 (some .int) ∈ zU := z_t 511 (by decide +kernel) (by decide +kernel)
theorem u512 : Cond.methodLink RL 100 yX9_best ∈ zU := z_t 512 (by decide +kernel) (by decide +kernel)
theorem u513 : Cond.instanceMethod yX9_best ∈ zU := z_t 513 (by decide +kernel) (by decide +kernel)
theorem u514 : Cond.selects RX9 yX9_best yX9_best ∈ zU := z_t 514 (by decide +kernel) (by decide +kernel)
theorem u515 : Cond.code yX9_best cX9_best 6 (some .int) ∈ zU := z_t 515 (by decide +kernel) (by decide +kernel)
theorem u516 : Cond.methodLink RL 104 yX9_round ∈ zU := z_t 516 (by decide +kernel) (by decide +kernel)
theorem u517 : Cond.instanceMethod yX9_round ∈ zU := z_t 517 (by decide +kernel) (by decide +kernel)
theorem u518 : Cond.selects RX9 yX9_round yX9_round ∈ zU := z_t 518 (by decide +kernel) (by decide +kernel)
theorem u519 : Cond.code yX9_round cX9_round 6 (some .int) ∈ zU := z_t 519 (by decide +kernel) (by decide +kernel)
theorem u520 : Cond.methodLink RL 108 yX9_kind ∈ zU := z_t 520 (by decide +kernel) (by decide +kernel)
theorem u521 : Cond.instanceMethod yX9_kind ∈ zU := z_t 521 (by decide +kernel) (by decide +kernel)
theorem u522 : Cond.selects RX9 yX9_kind yX9_kind ∈ zU := z_t 522 (by decide +kernel) (by decide +kernel)
theorem u523 : Cond.code yX9_kind cX9_kind 7 (some .int) ∈ zU := z_t 523 (by decide +kernel) (by decide +kernel)
theorem u524 : Cond.methodLink RL 112 yX9_enough ∈ zU := z_t 524 (by decide +kernel) (by decide +kernel)
theorem u525 : Cond.instanceMethod yX9_enough ∈ zU := z_t 525 (by decide +kernel) (by decide +kernel)
theorem u526 : Cond.selects RX9 yX9_enough yX9_enough ∈ zU := z_t 526 (by decide +kernel) (by decide +kernel)
theorem u527 : Cond.code yX9_enough cX9_enough 4 (some .int) ∈ zU := z_t 527 (by decide +kernel) (by decide +kernel)
theorem u528 : Cond.methodLink RL 116 yX9_please ∈ zU := z_t 528 (by decide +kernel) (by decide +kernel)
theorem u529 : Cond.instanceMethod yX9_please ∈ zU := z_t 529 (by decide +kernel) (by decide +kernel)
theorem u530 : Cond.selects RX9 yX9_please yX9_please ∈ zU := z_t 530 (by decide +kernel) (by decide +kernel)
theorem u531 : Cond.code yX9_please cX9_please 6 (some .int) ∈ zU := z_t 531 (by decide +kernel) (by decide +kernel)
theorem u532 : Cond.methodLink RL 121 yX9_richest ∈ zU := z_t 532 (by decide +kernel) (by decide +kernel)
theorem u533 : Cond.instanceMethod yX9_richest ∈ zU := z_t 533 (by decide +kernel) (by decide +kernel)
theorem u534 : Cond.selects RX9 yX9_richest yX9_richest ∈ zU := z_t 534 (by decide +kernel) (by decide +kernel)
theorem u535 : Cond.code yX9_richest cX9_richest 5 (some .int) ∈ zU := z_t 535 (by decide +kernel) (by decide +kernel)
theorem u536 : Cond.methodLink RL 125 yX9_feed ∈ zU := z_t 536 (by decide +kernel) (by decide +kernel)
theorem u537 : Cond.instanceMethod yX9_feed ∈ zU := z_t 537 (by decide +kernel) (by decide +kernel)
theorem u538 : Cond.selects RX9 yX9_feed yX9_feed ∈ zU := z_t 538 (by decide +kernel) (by decide +kernel)
theorem u539 : Cond.code yX9_feed cX9_feed 4 (some .int) ∈ zU := z_t 539 (by decide +kernel) (by decide +kernel)
theorem u540 : Cond.methodLink RX9 189 yX6_append ∈ zU := z_t 540 (by decide +kernel) (by decide +kernel)
theorem u541 : Cond.instanceMethod yX6_append ∈ zU := z_t 541 (by decide +kernel) (by decide +kernel)
theorem u542 : Cond.selects RX6 yX6_append yX6_append ∈ zU := z_t 542 (by decide +kernel) (by decide +kernel)
theorem u543 : Cond.code yX6_append cX6_append 2 none ∈ zU := z_t 543 (by decide +kernel) (by decide +kernel)
theorem u544 : Cond.methodLink RL 129 yX9_wipe ∈ zU := z_t 544 (by decide +kernel) (by decide +kernel)
theorem u545 : Cond.instanceMethod yX9_wipe ∈ zU := z_t 545 (by decide +kernel) (by decide +kernel)
theorem u546 : Cond.selects RX9 yX9_wipe yX9_wipe ∈ zU := z_t 546 (by decide +kernel) (by decide +kernel)
theorem u547 : Cond.code yX9_wipe cX9_wipe 2 (some .int) ∈ zU := z_t 547 (by decide +kernel) (by decide +kernel)
theorem u548 : Cond.methodLink RL 134 yX9_shop ∈ zU := z_t 548 (by decide +kernel) (by decide +kernel)
theorem u549 : Cond.instanceMethod yX9_shop ∈ zU := z_t 549 (by decide +kernel) (by decide +kernel)
theorem u550 : Cond.selects RX9 yX9_shop yX9_shop ∈ zU := z_t 550 (by decide +kernel) (by decide +kernel)
theorem u551 : Cond.code yX9_shop cX9_shop 2 (some .int) ∈ zU := z_t 551 (by decide +kernel) (by decide +kernel)
theorem u552 : Cond.methodLink RX9 192 yX6_tellAll ∈ zU := z_t 552 (by decide +kernel) (by decide +kernel)
theorem u553 : Cond.instanceMethod yX6_tellAll ∈ zU := z_t 553 (by decide +kernel) (by decide +kernel)
theorem u554 : Cond.selects RX6 yX6_tellAll yX6_tellAll ∈ zU := z_t 554 (by decide +kernel) (by decide +kernel)
theorem u555 : Cond.code yX6_tellAll cX6_tellAll 2 (some .int) ∈ zU := z_t 555 (by decide +kernel) (by decide +kernel)
theorem u556 : Cond.methodLink RX6 30 yX6_advance ∈ zU := z_t 556 (by decide +kernel) (by decide +kernel)
theorem u558 : Cond.instanceMethod yX6_advance ∈ zU := z_t 558 (by decide +kernel) (by decide +kernel)
theorem u559 : Cond.code yX6_advance cX6_advance 1 none ∈ zU := z_t 559 (by decide +kernel) (by decide +kernel)
theorem u560 : Cond.methodLink RX6 140 yX6_isLetter ∈ zU := z_t 560 (by decide +kernel) (by decide +kernel)
theorem u561 : Cond.static yX6_isLetter ∈ zU := z_t 561 (by decide +kernel) (by decide +kernel)
theorem u562 : Cond.code yX6_isLetter cX6_isLetter 1 (some .boolean) ∈ zU := z_t 562 (by decide +kernel) (by decide +kernel)
theorem u563 : Cond.methodLink RX6 143 yX6_isDigit ∈ zU := z_t 563 (by decide +kernel) (by decide +kernel)
theorem u564 : Cond.static yX6_isDigit ∈ zU := z_t 564 (by decide +kernel) (by decide +kernel)
theorem u565 : Cond.code yX6_isDigit cX6_isDigit 1 (some .boolean) ∈ zU := z_t 565 (by decide +kernel) (by decide +kernel)
theorem u566 : Cond.methodLink RX6 146 Lib.Math.min.name ∈ zU := z_t 566 (by decide +kernel) (by decide +kernel)
theorem u567 : Cond.methodLink RX6 33 yX6_tellItem ∈ zU := z_t 567 (by decide +kernel) (by decide +kernel)
theorem u569 : Cond.instanceMethod yX6_tellItem ∈ zU := z_t 569 (by decide +kernel) (by decide +kernel)
theorem u570 : Cond.code yX6_tellItem cX6_tellItem 2 (some .boolean) ∈ zU := z_t 570 (by decide +kernel) (by decide +kernel)
theorem u571 : Cond.methodLink RX6 43 yX2_title ∈ zU := z_t 571 (by decide +kernel) (by decide +kernel)
theorem u572 : Cond.instanceMethod yX2_title ∈ zU := z_t 572 (by decide +kernel) (by decide +kernel)
theorem u573 : Cond.selects RX2 yX2_title yX2_title ∈ zU := z_t 573 (by decide +kernel) (by decide +kernel)
theorem u574 : Cond.sameMethod "BeardHire$Kind" "BeardHire$Kind" "title" "()Ljava/lang/String;" ∈ zU := z_t 574 (by decide +kernel) (by decide +kernel)
theorem u575 : Cond.selects RX0 yX2_title yX0_title ∈ zU := z_t 575 (by decide +kernel) (by decide +kernel)
theorem u576 : Cond.instanceMethod yX0_title ∈ zU := z_t 576 (by decide +kernel) (by decide +kernel)
theorem u577 : Cond.code yX0_title cX0_title 1 (some (.object "java/lang/String")) ∈ zU := z_t 577 (by decide +kernel) (by decide +kernel)
theorem u579 : Cond.selects RX1 yX2_title yX1_title ∈ zU := z_t 579 (by decide +kernel) (by decide +kernel)
theorem u580 : Cond.instanceMethod yX1_title ∈ zU := z_t 580 (by decide +kernel) (by decide +kernel)
theorem u581 : Cond.code yX1_title cX1_title 1 (some (.object "java/lang/String")) ∈ zU := z_t 581 (by decide +kernel) (by decide +kernel)
theorem u583 : Cond.selects RX3 yX2_title yX3_title ∈ zU := z_t 583 (by decide +kernel) (by decide +kernel)
theorem u584 : Cond.instanceMethod yX3_title ∈ zU := z_t 584 (by decide +kernel) (by decide +kernel)
theorem u585 : Cond.code yX3_title cX3_title 1 (some (.object "java/lang/String")) ∈ zU := z_t 585 (by decide +kernel) (by decide +kernel)
theorem u587 : Cond.selects RX4 yX2_title yX4_title ∈ zU := z_t 587 (by decide +kernel) (by decide +kernel)
theorem u588 : Cond.instanceMethod yX4_title ∈ zU := z_t 588 (by decide +kernel) (by decide +kernel)
theorem u589 : Cond.code yX4_title cX4_title 1 (some (.object "java/lang/String")) ∈ zU := z_t 589 (by decide +kernel) (by decide +kernel)
theorem u591 : Cond.selects RX8 yX2_title yX8_title ∈ zU := z_t 591 (by decide +kernel) (by decide +kernel)
theorem u592 : Cond.instanceMethod yX8_title ∈ zU := z_t 592 (by decide +kernel) (by decide +kernel)
theorem u593 : Cond.code yX8_title cX8_title 1 (some (.object "java/lang/String")) ∈ zU := z_t 593 (by decide +kernel) (by decide +kernel)
theorem u595 : Cond.code yX2_title cX2_title 1 (some (.object "java/lang/String")) ∈ zU := z_t 595 (by decide +kernel) (by decide +kernel)
theorem u597 : Cond.methodLink RX6 49 yX6_isWord ∈ zU := z_t 597 (by decide +kernel) (by decide +kernel)
theorem u599 : Cond.instanceMethod yX6_isWord ∈ zU := z_t 599 (by decide +kernel) (by decide +kernel)
theorem u600 : Cond.code yX6_isWord cX6_isWord 3 (some .boolean) ∈ zU := z_t 600 (by decide +kernel) (by decide +kernel)
theorem u601 : Cond.methodLink RX6 132 yJ0_length_8abf5 ∈ zU := z_t 601 (by decide +kernel) (by decide +kernel)
theorem u602 : Cond.instanceMethod yJ0_length_8abf5 ∈ zU := z_t 602 (by decide +kernel) (by decide +kernel)
theorem u603 : Cond.selects RJ0 yJ0_length_8abf5 yJ0_length_8abf5 ∈ zU := z_t 603 (by decide +kernel) (by decide +kernel)
theorem u604 : Cond.code yJ0_length_8abf5 cJ0_length_8abf5 1 (some .int) ∈ zU := z_t 604 (by decide +kernel) (by decide +kernel)
theorem u605 : Cond.methodLink RJ0 335 yJ0_coder_7d493 ∈ zU := z_t 605 (by decide +kernel) (by decide +kernel)
theorem u606 : Cond.instanceMethod yJ0_coder_7d493 ∈ zU := z_t 606 (by decide +kernel) (by decide +kernel)
theorem u607 : Cond.selects RJ0 yJ0_coder_7d493 yJ0_coder_7d493 ∈ zU := z_t 607 (by decide +kernel) (by decide +kernel)
theorem u608 : Cond.code yJ0_coder_7d493 cJ0_coder_7d493 1 (some .byte) ∈ zU := z_t 608 (by decide +kernel) (by decide +kernel)
theorem u609 : Cond.fieldLink RJ0 38 "java/lang/String" "COMPACT_STRINGS" "Z" ∈ zU := z_t 609 (by decide +kernel) (by decide +kernel)
theorem u611 : Cond.methodLink RX6 136 yJ0_charAt_5068e ∈ zU := z_t 611 (by decide +kernel) (by decide +kernel)
theorem u612 : Cond.instanceMethod yJ0_charAt_5068e ∈ zU := z_t 612 (by decide +kernel) (by decide +kernel)
theorem u613 : Cond.selects RJ0 yJ0_charAt_5068e yJ0_charAt_5068e ∈ zU := z_t 613 (by decide +kernel) (by decide +kernel)
theorem u614 : Cond.code yJ0_charAt_5068e cJ0_charAt_5068e 2 (some .char) ∈ zU := z_t 614 (by decide +kernel) (by decide +kernel)
theorem u615 : Cond.methodLink RJ0 492 yJ0_isLatin1_aae02 ∈ zU := z_t 615 (by decide +kernel) (by decide +kernel)
theorem u616 : Cond.instanceMethod yJ0_isLatin1_aae02 ∈ zU := z_t 616 (by decide +kernel) (by decide +kernel)
theorem u617 : Cond.selects RJ0 yJ0_isLatin1_aae02 yJ0_isLatin1_aae02 ∈ zU := z_t 617 (by decide +kernel) (by decide +kernel)
theorem u618 : Cond.code yJ0_isLatin1_aae02 cJ0_isLatin1_aae02 1 (some .boolean) ∈ zU := z_t 618 (by decide +kernel) (by decide +kernel)
theorem u619 : Cond.methodLink RJ0 495 yJ1_charAt_3b067 ∈ zU := z_t 619 (by decide +kernel) (by decide +kernel)
theorem u620 : Cond.static yJ1_charAt_3b067 ∈ zU := z_t 620 (by decide +kernel) (by decide +kernel)
theorem u621 : Cond.code yJ1_charAt_3b067 cJ1_charAt_3b067 2 (some .char) ∈ zU := z_t 621 (by decide +kernel) (by decide +kernel)
theorem u622 : Cond.methodLink RJ1 9 yJ0_checkIndex_df160 ∈ zU := z_t 622 (by decide +kernel) (by decide +kernel)
theorem u623 : Cond.static yJ0_checkIndex_df160 ∈ zU := z_t 623 (by decide +kernel) (by decide +kernel)
theorem u624 : Cond.code yJ0_checkIndex_df160 cJ0_checkIndex_df160 2 none ∈ zU := z_t 624 (by decide +kernel) (by decide +kernel)
theorem u625 : Cond.fieldLink RJ0 1053 "jdk/internal/util/Preconditions" "SIOOBE_FORMATTER" "Ljava/util/function/BiFunction;" ∈ zU := z_t 625 (by decide +kernel) (by decide +kernel)
theorem u627 : Cond.methodLink RJ0 1059 yJ3_checkIndex_8e157 ∈ zU := z_t 627 (by decide +kernel) (by decide +kernel)
theorem u628 : Cond.static yJ3_checkIndex_8e157 ∈ zU := z_t 628 (by decide +kernel) (by decide +kernel)
theorem u629 : Cond.code yJ3_checkIndex_8e157 cJ3_checkIndex_8e157 3 (some .int) ∈ zU := z_t 629 (by decide +kernel) (by decide +kernel)
theorem u630 : Cond.methodLink RJ0 498 yJ2_charAt_3b067 ∈ zU := z_t 630 (by decide +kernel) (by decide +kernel)
theorem u631 : Cond.static yJ2_charAt_3b067 ∈ zU := z_t 631 (by decide +kernel) (by decide +kernel)
theorem u632 : Cond.code yJ2_charAt_3b067 cJ2_charAt_3b067 2 (some .char) ∈ zU := z_t 632 (by decide +kernel) (by decide +kernel)
theorem u633 : Cond.methodLink RJ2 67 yJ2_checkIndex_2214a ∈ zU := z_t 633 (by decide +kernel) (by decide +kernel)
theorem u634 : Cond.static yJ2_checkIndex_2214a ∈ zU := z_t 634 (by decide +kernel) (by decide +kernel)
theorem u635 : Cond.code yJ2_checkIndex_2214a cJ2_checkIndex_2214a 2 none ∈ zU := z_t 635 (by decide +kernel) (by decide +kernel)
theorem u636 : Cond.methodLink RJ2 48 yJ2_length_9d52b ∈ zU := z_t 636 (by decide +kernel) (by decide +kernel)
theorem u637 : Cond.static yJ2_length_9d52b ∈ zU := z_t 637 (by decide +kernel) (by decide +kernel)
theorem u638 : Cond.code yJ2_length_9d52b cJ2_length_9d52b 1 (some .int) ∈ zU := z_t 638 (by decide +kernel) (by decide +kernel)
theorem u639 : Cond.methodLink RJ2 414 yJ0_checkIndex_df160 ∈ zU := z_t 639 (by decide +kernel) (by decide +kernel)
theorem u640 : Cond.methodLink RJ2 71 yJ2_getChar_3b067 ∈ zU := z_t 640 (by decide +kernel) (by decide +kernel)
theorem u641 : Cond.static yJ2_getChar_3b067 ∈ zU := z_t 641 (by decide +kernel) (by decide +kernel)
theorem u642 : Cond.code yJ2_getChar_3b067 cJ2_getChar_3b067 2 (some .char) ∈ zU := z_t 642 (by decide +kernel) (by decide +kernel)
theorem u643 : Cond.fieldLink RJ2 44 "java/lang/StringUTF16" "$assertionsDisabled" "Z" ∈ zU := z_t 643 (by decide +kernel) (by decide +kernel)
theorem u645 : Cond.fieldLink RJ2 59 "java/lang/StringUTF16" "HI_BYTE_SHIFT" "I" ∈ zU := z_t 645 (by decide +kernel) (by decide +kernel)
theorem u647 : Cond.fieldLink RJ2 63 "java/lang/StringUTF16" "LO_BYTE_SHIFT" "I" ∈ zU := z_t 647 (by decide +kernel) (by decide +kernel)
theorem u649 : Cond.methodLink RX6 53 yX6_tellBeard ∈ zU := z_t 649 (by decide +kernel) (by decide +kernel)
theorem u651 : Cond.instanceMethod yX6_tellBeard ∈ zU := z_t 651 (by decide +kernel) (by decide +kernel)
theorem u652 : Cond.code yX6_tellBeard cX6_tellBeard 3 (some .boolean) ∈ zU := z_t 652 (by decide +kernel) (by decide +kernel)
theorem u653 : Cond.methodLink RX6 72 yX7_addBeard ∈ zU := z_t 653 (by decide +kernel) (by decide +kernel)
theorem u655 : Cond.methodLink RX6 80 yX6_isNumber ∈ zU := z_t 655 (by decide +kernel) (by decide +kernel)
theorem u657 : Cond.instanceMethod yX6_isNumber ∈ zU := z_t 657 (by decide +kernel) (by decide +kernel)
theorem u658 : Cond.code yX6_isNumber cX6_isNumber 2 (some .boolean) ∈ zU := z_t 658 (by decide +kernel) (by decide +kernel)
theorem u659 : Cond.methodLink RX6 86 yX6_takeNumber ∈ zU := z_t 659 (by decide +kernel) (by decide +kernel)
theorem u661 : Cond.instanceMethod yX6_takeNumber ∈ zU := z_t 661 (by decide +kernel) (by decide +kernel)
theorem u662 : Cond.code yX6_takeNumber cX6_takeNumber 2 (some .int) ∈ zU := z_t 662 (by decide +kernel) (by decide +kernel)
theorem u665 : Cond.methodLink RX6 59 yX6_tellWearer ∈ zU := z_t 665 (by decide +kernel) (by decide +kernel)
theorem u667 : Cond.instanceMethod yX6_tellWearer ∈ zU := z_t 667 (by decide +kernel) (by decide +kernel)
theorem u668 : Cond.code yX6_tellWearer cX6_tellWearer 2 (some .boolean) ∈ zU := z_t 668 (by decide +kernel) (by decide +kernel)
theorem u669 : Cond.methodLink RX6 95 yX7_addWearer ∈ zU := z_t 669 (by decide +kernel) (by decide +kernel)
theorem u672 : Cond.methodLink RX6 64 yX6_tellHouse ∈ zU := z_t 672 (by decide +kernel) (by decide +kernel)
theorem u674 : Cond.instanceMethod yX6_tellHouse ∈ zU := z_t 674 (by decide +kernel) (by decide +kernel)
theorem u675 : Cond.code yX6_tellHouse cX6_tellHouse 4 (some .boolean) ∈ zU := z_t 675 (by decide +kernel) (by decide +kernel)
theorem u679 : Cond.methodLink RX6 69 yX6_tellHire ∈ zU := z_t 679 (by decide +kernel) (by decide +kernel)
theorem u681 : Cond.instanceMethod yX6_tellHire ∈ zU := z_t 681 (by decide +kernel) (by decide +kernel)
theorem u682 : Cond.code yX6_tellHire cX6_tellHire 2 (some .boolean) ∈ zU := z_t 682 (by decide +kernel) (by decide +kernel)
theorem u683 : Cond.methodLink RX6 128 yX7_putOn ∈ zU := z_t 683 (by decide +kernel) (by decide +kernel)
theorem u684 : Cond.arrayClass .byte ∈ zU := z_t 684 (by decide +kernel) (by decide +kernel)
theorem u685 : Cond.methodLink RL 138 yX9_sheet ∈ zU := z_t 685 (by decide +kernel) (by decide +kernel)
theorem u686 : Cond.instanceMethod yX9_sheet ∈ zU := z_t 686 (by decide +kernel) (by decide +kernel)
theorem u687 : Cond.selects RX9 yX9_sheet yX9_sheet ∈ zU := z_t 687 (by decide +kernel) (by decide +kernel)
theorem u688 : Cond.code yX9_sheet cX9_sheet 4 (some .int) ∈ zU := z_t 688 (by decide +kernel) (by decide +kernel)
theorem u689 : Cond.methodLink RX9 195 yX9_isSheet ∈ zU := z_t 689 (by decide +kernel) (by decide +kernel)
theorem u690 : Cond.static yX9_isSheet ∈ zU := z_t 690 (by decide +kernel) (by decide +kernel)
theorem u691 : Cond.code yX9_isSheet cX9_isSheet 1 (some .boolean) ∈ zU := z_t 691 (by decide +kernel) (by decide +kernel)
theorem u692 : Cond.methodLink RX9 198 yX5_layOut ∈ zU := z_t 692 (by decide +kernel) (by decide +kernel)
theorem u693 : Cond.instanceMethod yX5_layOut ∈ zU := z_t 693 (by decide +kernel) (by decide +kernel)
theorem u694 : Cond.selects RX5 yX5_layOut yX5_layOut ∈ zU := z_t 694 (by decide +kernel) (by decide +kernel)
theorem u695 : Cond.code yX5_layOut cX5_layOut 4 none ∈ zU := z_t 695 (by decide +kernel) (by decide +kernel)
theorem u696 : Cond.methodLink RL 144 yX9_write ∈ zU := z_t 696 (by decide +kernel) (by decide +kernel)
theorem u697 : Cond.instanceMethod yX9_write ∈ zU := z_t 697 (by decide +kernel) (by decide +kernel)
theorem u698 : Cond.selects RX9 yX9_write yX9_write ∈ zU := z_t 698 (by decide +kernel) (by decide +kernel)
theorem u699 : Cond.code yX9_write cX9_write 8 (some .long) ∈ zU := z_t 699 (by decide +kernel) (by decide +kernel)
theorem u700 : Cond.methodLink RX9 202 yX5_isMissing ∈ zU := z_t 700 (by decide +kernel) (by decide +kernel)
theorem u701 : Cond.instanceMethod yX5_isMissing ∈ zU := z_t 701 (by decide +kernel) (by decide +kernel)
theorem u702 : Cond.selects RX5 yX5_isMissing yX5_isMissing ∈ zU := z_t 702 (by decide +kernel) (by decide +kernel)
theorem u703 : Cond.code yX5_isMissing cX5_isMissing 1 (some .boolean) ∈ zU := z_t 703 (by decide +kernel) (by decide +kernel)
theorem u704 : Cond.methodLink RX9 209 yX5_put ∈ zU := z_t 704 (by decide +kernel) (by decide +kernel)
theorem u705 : Cond.instanceMethod yX5_put ∈ zU := z_t 705 (by decide +kernel) (by decide +kernel)
theorem u706 : Cond.selects RX5 yX5_put yX5_put ∈ zU := z_t 706 (by decide +kernel) (by decide +kernel)
theorem u707 : Cond.code yX5_put cX5_put 4 none ∈ zU := z_t 707 (by decide +kernel) (by decide +kernel)
theorem u708 : Cond.methodLink RL 149 yX9_copy ∈ zU := z_t 708 (by decide +kernel) (by decide +kernel)
theorem u709 : Cond.instanceMethod yX9_copy ∈ zU := z_t 709 (by decide +kernel) (by decide +kernel)
theorem u710 : Cond.selects RX9 yX9_copy yX9_copy ∈ zU := z_t 710 (by decide +kernel) (by decide +kernel)
theorem u711 : Cond.code yX9_copy cX9_copy 8 (some .int) ∈ zU := z_t 711 (by decide +kernel) (by decide +kernel)
theorem u712 : Cond.methodLink RX9 216 yX5_hasSpan ∈ zU := z_t 712 (by decide +kernel) (by decide +kernel)
theorem u713 : Cond.instanceMethod yX5_hasSpan ∈ zU := z_t 713 (by decide +kernel) (by decide +kernel)
theorem u714 : Cond.selects RX5 yX5_hasSpan yX5_hasSpan ∈ zU := z_t 714 (by decide +kernel) (by decide +kernel)
theorem u715 : Cond.code yX5_hasSpan cX5_hasSpan 3 (some .boolean) ∈ zU := z_t 715 (by decide +kernel) (by decide +kernel)
theorem u716 : Cond.methodLink RX9 219 arraycopyName ∈ zU := z_t 716 (by decide +kernel) (by decide +kernel)
theorem u717 : Cond.methodLink RL 154 yX9_lays ∈ zU := z_t 717 (by decide +kernel) (by decide +kernel)
theorem u718 : Cond.instanceMethod yX9_lays ∈ zU := z_t 718 (by decide +kernel) (by decide +kernel)
theorem u719 : Cond.selects RX9 yX9_lays yX9_lays ∈ zU := z_t 719 (by decide +kernel) (by decide +kernel)
theorem u720 : Cond.code yX9_lays cX9_lays 7 (some .int) ∈ zU := z_t 720 (by decide +kernel) (by decide +kernel)
theorem u721 : Cond.constantLong RX9 228 (9999) ∈ zU := z_t 721 (by decide +kernel) (by decide +kernel)
theorem u722 : Cond.methodLink RL 158 yX9_book ∈ zU := z_t 722 (by decide +kernel) (by decide +kernel)
theorem u723 : Cond.instanceMethod yX9_book ∈ zU := z_t 723 (by decide +kernel) (by decide +kernel)
theorem u724 : Cond.selects RX9 yX9_book yX9_book ∈ zU := z_t 724 (by decide +kernel) (by decide +kernel)
theorem u725 : Cond.code yX9_book cX9_book 5 (some .int) ∈ zU := z_t 725 (by decide +kernel) (by decide +kernel)
theorem u726 : Cond.methodLink RL 162 yX9_read ∈ zU := z_t 726 (by decide +kernel) (by decide +kernel)
theorem u727 : Cond.instanceMethod yX9_read ∈ zU := z_t 727 (by decide +kernel) (by decide +kernel)
theorem u728 : Cond.selects RX9 yX9_read yX9_read ∈ zU := z_t 728 (by decide +kernel) (by decide +kernel)
theorem u729 : Cond.code yX9_read cX9_read 7 (some .int) ∈ zU := z_t 729 (by decide +kernel) (by decide +kernel)
theorem u730 : Cond.methodLink RX9 230 yX9_trialFollows ∈ zU := z_t 730 (by decide +kernel) (by decide +kernel)
theorem u732 : Cond.instanceMethod yX9_trialFollows ∈ zU := z_t 732 (by decide +kernel) (by decide +kernel)
theorem u733 : Cond.code yX9_trialFollows cX9_trialFollows 4 (some .boolean) ∈ zU := z_t 733 (by decide +kernel) (by decide +kernel)
theorem u734 : Cond.methodLink RL 166 yX9_image ∈ zU := z_t 734 (by decide +kernel) (by decide +kernel)
theorem u735 : Cond.instanceMethod yX9_image ∈ zU := z_t 735 (by decide +kernel) (by decide +kernel)
theorem u736 : Cond.selects RX9 yX9_image yX9_image ∈ zU := z_t 736 (by decide +kernel) (by decide +kernel)
theorem u737 : Cond.code yX9_image cX9_image 1 (some .int) ∈ zU := z_t 737 (by decide +kernel) (by decide +kernel)
theorem u738 : Cond.methodLink RL 170 yX9_undo ∈ zU := z_t 738 (by decide +kernel) (by decide +kernel)
theorem u739 : Cond.instanceMethod yX9_undo ∈ zU := z_t 739 (by decide +kernel) (by decide +kernel)
theorem u740 : Cond.selects RX9 yX9_undo yX9_undo ∈ zU := z_t 740 (by decide +kernel) (by decide +kernel)
theorem u741 : Cond.code yX9_undo cX9_undo 1 (some .int) ∈ zU := z_t 741 (by decide +kernel) (by decide +kernel)
theorem u742 : Cond.methodLink RL 174 yX9_tear ∈ zU := z_t 742 (by decide +kernel) (by decide +kernel)
theorem u743 : Cond.instanceMethod yX9_tear ∈ zU := z_t 743 (by decide +kernel) (by decide +kernel)
theorem u744 : Cond.selects RX9 yX9_tear yX9_tear ∈ zU := z_t 744 (by decide +kernel) (by decide +kernel)
theorem u745 : Cond.code yX9_tear cX9_tear 2 (some .int) ∈ zU := z_t 745 (by decide +kernel) (by decide +kernel)
theorem u746 : Cond.methodLink RL 178 yX9_count ∈ zU := z_t 746 (by decide +kernel) (by decide +kernel)
theorem u747 : Cond.instanceMethod yX9_count ∈ zU := z_t 747 (by decide +kernel) (by decide +kernel)
theorem u748 : Cond.selects RX9 yX9_count yX9_count ∈ zU := z_t 748 (by decide +kernel) (by decide +kernel)
theorem u749 : Cond.code yX9_count cX9_count 2 (some .int) ∈ zU := z_t 749 (by decide +kernel) (by decide +kernel)
theorem u750 : Cond.methodLink RX9 234 yX7_allHoards ∈ zU := z_t 750 (by decide +kernel) (by decide +kernel)
theorem u751 : Cond.instanceMethod yX7_allHoards ∈ zU := z_t 751 (by decide +kernel) (by decide +kernel)
theorem u752 : Cond.selects RX7 yX7_allHoards yX7_allHoards ∈ zU := z_t 752 (by decide +kernel) (by decide +kernel)
theorem u753 : Cond.code yX7_allHoards cX7_allHoards 3 (some .int) ∈ zU := z_t 753 (by decide +kernel) (by decide +kernel)
theorem u754 : Cond.methodLink RL 182 yX9_status ∈ zU := z_t 754 (by decide +kernel) (by decide +kernel)
theorem u755 : Cond.instanceMethod yX9_status ∈ zU := z_t 755 (by decide +kernel) (by decide +kernel)
theorem u756 : Cond.selects RX9 yX9_status yX9_status ∈ zU := z_t 756 (by decide +kernel) (by decide +kernel)
theorem u757 : Cond.code yX9_status cX9_status 4 (some .int) ∈ zU := z_t 757 (by decide +kernel) (by decide +kernel)
theorem u758 : Cond.classLink RL 10 RX10 ∈ zU := z_t 758 (by decide +kernel) (by decide +kernel)
theorem u759 : Cond.instantiable RX10 16 ∈ zU := z_t 759 (by decide +kernel) (by decide +kernel)
theorem u760 : Cond.methodLink RL 12 yX10_init ∈ zU := z_t 760 (by decide +kernel) (by decide +kernel)
theorem u761 : Cond.instanceMethod yX10_init ∈ zU := z_t 761 (by decide +kernel) (by decide +kernel)
theorem u762 : Cond.code yX10_init cX10_init 2 none ∈ zU := z_t 762 (by decide +kernel) (by decide +kernel)
theorem u763 : Cond.methodLink RX10 1 objectInit ∈ zU := z_t 763 (by decide +kernel) (by decide +kernel)
theorem u764 : Cond.methodLink RX10 41 yX10_houseSpot ∈ zU := z_t 764 (by decide +kernel) (by decide +kernel)
theorem u765 : Cond.static yX10_houseSpot ∈ zU := z_t 765 (by decide +kernel) (by decide +kernel)
theorem u766 : Cond.code yX10_houseSpot cX10_houseSpot 2 (some .int) ∈ zU := z_t 766 (by decide +kernel) (by decide +kernel)
theorem u767 : Cond.fieldLink RX10 7 "BeardHireModel" "s" "[I" ∈ zU := z_t 767 (by decide +kernel) (by decide +kernel)
theorem u768 : Cond.fieldLink RX10 13 "BeardHireModel" "keptS" "[I" ∈ zU := z_t 768 (by decide +kernel) (by decide +kernel)
theorem u769 : Cond.fieldLink RX10 16 "BeardHireModel" "other" "[I" ∈ zU := z_t 769 (by decide +kernel) (by decide +kernel)
theorem u770 : Cond.fieldLink RX10 19 "BeardHireModel" "aside" "[I" ∈ zU := z_t 770 (by decide +kernel) (by decide +kernel)
theorem u771 : Cond.fieldLink RX10 22 "BeardHireModel" "statuses" "[I" ∈ zU := z_t 771 (by decide +kernel) (by decide +kernel)
theorem u772 : Cond.fieldLink RX10 331 "BeardHireModel" "isKept" "Z" ∈ zU := z_t 772 (by decide +kernel) (by decide +kernel)
theorem u773 : Cond.fieldLink RX10 25 "BeardHireModel" "tape" "[I" ∈ zU := z_t 773 (by decide +kernel) (by decide +kernel)
theorem u774 : Cond.fieldLink RX10 205 "BeardHireModel" "taped" "I" ∈ zU := z_t 774 (by decide +kernel) (by decide +kernel)
theorem u775 : Cond.fieldLink RX10 220 "BeardHireModel" "from" "I" ∈ zU := z_t 775 (by decide +kernel) (by decide +kernel)
theorem u776 : Cond.fieldLink RX10 217 "BeardHireModel" "to" "I" ∈ zU := z_t 776 (by decide +kernel) (by decide +kernel)
theorem u777 : Cond.fieldLink RX10 243 "BeardHireModel" "value" "I" ∈ zU := z_t 777 (by decide +kernel) (by decide +kernel)
theorem u778 : Cond.fieldLink RX10 232 "BeardHireModel" "isWrong" "Z" ∈ zU := z_t 778 (by decide +kernel) (by decide +kernel)
theorem u779 : Cond.fieldLink RX10 28 "BeardHireModel" "bitsOf" "[I" ∈ zU := z_t 779 (by decide +kernel) (by decide +kernel)
theorem u780 : Cond.fieldLink RX10 31 "BeardHireModel" "sizeOf" "[I" ∈ zU := z_t 780 (by decide +kernel) (by decide +kernel)
theorem u781 : Cond.fieldLink RX10 34 "BeardHireModel" "numbers" "[J" ∈ zU := z_t 781 (by decide +kernel) (by decide +kernel)
theorem u782 : Cond.fieldLink RX10 38 "BeardHireModel" "moved" "[J" ∈ zU := z_t 782 (by decide +kernel) (by decide +kernel)
theorem u783 : Cond.laysFinal "BeardHireModel" "BeardHireModel" "s" "[I" ∈ zU := z_t 783 (by decide +kernel) (by decide +kernel)
theorem u785 : Cond.laysFinal "BeardHireModel" "BeardHireModel" "keptS" "[I" ∈ zU := z_t 785 (by decide +kernel) (by decide +kernel)
theorem u787 : Cond.laysFinal "BeardHireModel" "BeardHireModel" "other" "[I" ∈ zU := z_t 787 (by decide +kernel) (by decide +kernel)
theorem u789 : Cond.laysFinal "BeardHireModel" "BeardHireModel" "aside" "[I" ∈ zU := z_t 789 (by decide +kernel) (by decide +kernel)
theorem u791 : Cond.laysFinal "BeardHireModel" "BeardHireModel" "statuses" "[I" ∈ zU := z_t 791 (by decide +kernel) (by decide +kernel)
theorem u793 : Cond.lays "BeardHireModel" "BeardHireModel" "isKept" "Z" ∈ zU := z_t 793 (by decide +kernel) (by decide +kernel)
theorem u795 : Cond.laysFinal "BeardHireModel" "BeardHireModel" "tape" "[I" ∈ zU := z_t 795 (by decide +kernel) (by decide +kernel)
theorem u797 : Cond.lays "BeardHireModel" "BeardHireModel" "taped" "I" ∈ zU := z_t 797 (by decide +kernel) (by decide +kernel)
theorem u799 : Cond.lays "BeardHireModel" "BeardHireModel" "from" "I" ∈ zU := z_t 799 (by decide +kernel) (by decide +kernel)
theorem u801 : Cond.lays "BeardHireModel" "BeardHireModel" "to" "I" ∈ zU := z_t 801 (by decide +kernel) (by decide +kernel)
theorem u803 : Cond.lays "BeardHireModel" "BeardHireModel" "value" "I" ∈ zU := z_t 803 (by decide +kernel) (by decide +kernel)
theorem u805 : Cond.lays "BeardHireModel" "BeardHireModel" "isWrong" "Z" ∈ zU := z_t 805 (by decide +kernel) (by decide +kernel)
theorem u807 : Cond.laysFinal "BeardHireModel" "BeardHireModel" "bitsOf" "[I" ∈ zU := z_t 807 (by decide +kernel) (by decide +kernel)
theorem u809 : Cond.laysFinal "BeardHireModel" "BeardHireModel" "sizeOf" "[I" ∈ zU := z_t 809 (by decide +kernel) (by decide +kernel)
theorem u811 : Cond.laysFinal "BeardHireModel" "BeardHireModel" "numbers" "[J" ∈ zU := z_t 811 (by decide +kernel) (by decide +kernel)
theorem u813 : Cond.laysFinal "BeardHireModel" "BeardHireModel" "moved" "[J" ∈ zU := z_t 813 (by decide +kernel) (by decide +kernel)
theorem u815 : Cond.superclass RX10 "java/lang/Object" ∈ zU := z_t 815 (by decide +kernel) (by decide +kernel)
theorem u816 : Cond.methodLink RL 17 yX10_mood ∈ zU := z_t 816 (by decide +kernel) (by decide +kernel)
theorem u817 : Cond.instanceMethod yX10_mood ∈ zU := z_t 817 (by decide +kernel) (by decide +kernel)
theorem u818 : Cond.selects RX10 yX10_mood yX10_mood ∈ zU := z_t 818 (by decide +kernel) (by decide +kernel)
theorem u819 : Cond.code yX10_mood cX10_mood 3 (some .int) ∈ zU := z_t 819 (by decide +kernel) (by decide +kernel)
theorem u820 : Cond.methodLink RX10 64 yX10_isHouse ∈ zU := z_t 820 (by decide +kernel) (by decide +kernel)
theorem u821 : Cond.static yX10_isHouse ∈ zU := z_t 821 (by decide +kernel) (by decide +kernel)
theorem u822 : Cond.code yX10_isHouse cX10_isHouse 1 (some .boolean) ∈ zU := z_t 822 (by decide +kernel) (by decide +kernel)
theorem u823 : Cond.constantLong RX10 52 (5) ∈ zU := z_t 823 (by decide +kernel) (by decide +kernel)
theorem u824 : Cond.methodLink RX10 54 yX10_in ∈ zU := z_t 824 (by decide +kernel) (by decide +kernel)
theorem u825 : Cond.static yX10_in ∈ zU := z_t 825 (by decide +kernel) (by decide +kernel)
theorem u826 : Cond.code yX10_in cX10_in 6 (some .boolean) ∈ zU := z_t 826 (by decide +kernel) (by decide +kernel)
theorem u827 : Cond.constantLong RX10 68 (-50) ∈ zU := z_t 827 (by decide +kernel) (by decide +kernel)
theorem u828 : Cond.constantLong RX10 70 (50) ∈ zU := z_t 828 (by decide +kernel) (by decide +kernel)
theorem u829 : Cond.methodLink RX10 72 yX10_becomes ∈ zU := z_t 829 (by decide +kernel) (by decide +kernel)
theorem u831 : Cond.instanceMethod yX10_becomes ∈ zU := z_t 831 (by decide +kernel) (by decide +kernel)
theorem u832 : Cond.code yX10_becomes cX10_becomes 4 (some .int) ∈ zU := z_t 832 (by decide +kernel) (by decide +kernel)
theorem u833 : Cond.constant RX10 45 (-1000000001) ∈ zU := z_t 833 (by decide +kernel) (by decide +kernel)
theorem u834 : Cond.methodLink RX10 75 yX10_finds ∈ zU := z_t 834 (by decide +kernel) (by decide +kernel)
theorem u836 : Cond.instanceMethod yX10_finds ∈ zU := z_t 836 (by decide +kernel) (by decide +kernel)
theorem u837 : Cond.code yX10_finds cX10_finds 2 (some .int) ∈ zU := z_t 837 (by decide +kernel) (by decide +kernel)
theorem u838 : Cond.methodLink RL 21 yX10_recall ∈ zU := z_t 838 (by decide +kernel) (by decide +kernel)
theorem u839 : Cond.instanceMethod yX10_recall ∈ zU := z_t 839 (by decide +kernel) (by decide +kernel)
theorem u840 : Cond.selects RX10 yX10_recall yX10_recall ∈ zU := z_t 840 (by decide +kernel) (by decide +kernel)
theorem u841 : Cond.code yX10_recall cX10_recall 4 (some .int) ∈ zU := z_t 841 (by decide +kernel) (by decide +kernel)
theorem u842 : Cond.methodLink RX10 79 yX10_isBeard ∈ zU := z_t 842 (by decide +kernel) (by decide +kernel)
theorem u844 : Cond.instanceMethod yX10_isBeard ∈ zU := z_t 844 (by decide +kernel) (by decide +kernel)
theorem u845 : Cond.code yX10_isBeard cX10_isBeard 2 (some .boolean) ∈ zU := z_t 845 (by decide +kernel) (by decide +kernel)
theorem u846 : Cond.methodLink RL 25 yX10_houseOf ∈ zU := z_t 846 (by decide +kernel) (by decide +kernel)
theorem u847 : Cond.instanceMethod yX10_houseOf ∈ zU := z_t 847 (by decide +kernel) (by decide +kernel)
theorem u848 : Cond.selects RX10 yX10_houseOf yX10_houseOf ∈ zU := z_t 848 (by decide +kernel) (by decide +kernel)
theorem u849 : Cond.code yX10_houseOf cX10_houseOf 3 (some .int) ∈ zU := z_t 849 (by decide +kernel) (by decide +kernel)
theorem u850 : Cond.constantLong RX10 85 (2) ∈ zU := z_t 850 (by decide +kernel) (by decide +kernel)
theorem u851 : Cond.methodLink RX10 87 yX10_house ∈ zU := z_t 851 (by decide +kernel) (by decide +kernel)
theorem u853 : Cond.instanceMethod yX10_house ∈ zU := z_t 853 (by decide +kernel) (by decide +kernel)
theorem u854 : Cond.code yX10_house cX10_house 3 (some .int) ∈ zU := z_t 854 (by decide +kernel) (by decide +kernel)
theorem u855 : Cond.methodLink RX10 90 yX10_goers ∈ zU := z_t 855 (by decide +kernel) (by decide +kernel)
theorem u857 : Cond.instanceMethod yX10_goers ∈ zU := z_t 857 (by decide +kernel) (by decide +kernel)
theorem u858 : Cond.code yX10_goers cX10_goers 4 (some .int) ∈ zU := z_t 858 (by decide +kernel) (by decide +kernel)
theorem u859 : Cond.methodLink RX10 82 yX10_placeOf ∈ zU := z_t 859 (by decide +kernel) (by decide +kernel)
theorem u861 : Cond.instanceMethod yX10_placeOf ∈ zU := z_t 861 (by decide +kernel) (by decide +kernel)
theorem u862 : Cond.code yX10_placeOf cX10_placeOf 2 (some .int) ∈ zU := z_t 862 (by decide +kernel) (by decide +kernel)
theorem u863 : Cond.methodLink RX10 58 yX10_theirs ∈ zU := z_t 863 (by decide +kernel) (by decide +kernel)
theorem u865 : Cond.instanceMethod yX10_theirs ∈ zU := z_t 865 (by decide +kernel) (by decide +kernel)
theorem u866 : Cond.code yX10_theirs cX10_theirs 3 (some .int) ∈ zU := z_t 866 (by decide +kernel) (by decide +kernel)
theorem u867 : Cond.methodLink RX10 49 yX10_wearerSpot ∈ zU := z_t 867 (by decide +kernel) (by decide +kernel)
theorem u868 : Cond.static yX10_wearerSpot ∈ zU := z_t 868 (by decide +kernel) (by decide +kernel)
theorem u869 : Cond.code yX10_wearerSpot cX10_wearerSpot 2 (some .int) ∈ zU := z_t 869 (by decide +kernel) (by decide +kernel)
theorem u870 : Cond.methodLink RL 30 yX10_now ∈ zU := z_t 870 (by decide +kernel) (by decide +kernel)
theorem u871 : Cond.instanceMethod yX10_now ∈ zU := z_t 871 (by decide +kernel) (by decide +kernel)
theorem u872 : Cond.selects RX10 yX10_now yX10_now ∈ zU := z_t 872 (by decide +kernel) (by decide +kernel)
theorem u873 : Cond.code yX10_now cX10_now 2 (some .int) ∈ zU := z_t 873 (by decide +kernel) (by decide +kernel)
theorem u874 : Cond.methodLink RX10 93 yX10_isMonday ∈ zU := z_t 874 (by decide +kernel) (by decide +kernel)
theorem u876 : Cond.instanceMethod yX10_isMonday ∈ zU := z_t 876 (by decide +kernel) (by decide +kernel)
theorem u877 : Cond.code yX10_isMonday cX10_isMonday 1 (some .boolean) ∈ zU := z_t 877 (by decide +kernel) (by decide +kernel)
theorem u878 : Cond.methodLink RX10 97 yX10_inShop ∈ zU := z_t 878 (by decide +kernel) (by decide +kernel)
theorem u880 : Cond.instanceMethod yX10_inShop ∈ zU := z_t 880 (by decide +kernel) (by decide +kernel)
theorem u881 : Cond.code yX10_inShop cX10_inShop 3 (some .int) ∈ zU := z_t 881 (by decide +kernel) (by decide +kernel)
theorem u882 : Cond.methodLink RX10 61 yX10_its ∈ zU := z_t 882 (by decide +kernel) (by decide +kernel)
theorem u884 : Cond.instanceMethod yX10_its ∈ zU := z_t 884 (by decide +kernel) (by decide +kernel)
theorem u885 : Cond.code yX10_its cX10_its 3 (some .int) ∈ zU := z_t 885 (by decide +kernel) (by decide +kernel)
theorem u886 : Cond.methodLink RX10 46 yX10_beardSpot ∈ zU := z_t 886 (by decide +kernel) (by decide +kernel)
theorem u887 : Cond.static yX10_beardSpot ∈ zU := z_t 887 (by decide +kernel) (by decide +kernel)
theorem u888 : Cond.code yX10_beardSpot cX10_beardSpot 2 (some .int) ∈ zU := z_t 888 (by decide +kernel) (by decide +kernel)
theorem u889 : Cond.methodLink RX10 101 yX10_bearded ∈ zU := z_t 889 (by decide +kernel) (by decide +kernel)
theorem u891 : Cond.instanceMethod yX10_bearded ∈ zU := z_t 891 (by decide +kernel) (by decide +kernel)
theorem u892 : Cond.code yX10_bearded cX10_bearded 3 (some .int) ∈ zU := z_t 892 (by decide +kernel) (by decide +kernel)
theorem u893 : Cond.methodLink RX10 104 yX10_purses ∈ zU := z_t 893 (by decide +kernel) (by decide +kernel)
theorem u895 : Cond.instanceMethod yX10_purses ∈ zU := z_t 895 (by decide +kernel) (by decide +kernel)
theorem u896 : Cond.code yX10_purses cX10_purses 3 (some .int) ∈ zU := z_t 896 (by decide +kernel) (by decide +kernel)
theorem u897 : Cond.methodLink RL 34 yX10_beard ∈ zU := z_t 897 (by decide +kernel) (by decide +kernel)
theorem u898 : Cond.instanceMethod yX10_beard ∈ zU := z_t 898 (by decide +kernel) (by decide +kernel)
theorem u899 : Cond.selects RX10 yX10_beard yX10_beard ∈ zU := z_t 899 (by decide +kernel) (by decide +kernel)
theorem u900 : Cond.code yX10_beard cX10_beard 2 (some .int) ∈ zU := z_t 900 (by decide +kernel) (by decide +kernel)
theorem u901 : Cond.methodLink RX10 107 yX10_isKind ∈ zU := z_t 901 (by decide +kernel) (by decide +kernel)
theorem u902 : Cond.static yX10_isKind ∈ zU := z_t 902 (by decide +kernel) (by decide +kernel)
theorem u903 : Cond.code yX10_isKind cX10_isKind 1 (some .boolean) ∈ zU := z_t 903 (by decide +kernel) (by decide +kernel)
theorem u904 : Cond.constant RX10 110 (-1000000002) ∈ zU := z_t 904 (by decide +kernel) (by decide +kernel)
theorem u905 : Cond.methodLink RX10 111 yX10_addsBeard ∈ zU := z_t 905 (by decide +kernel) (by decide +kernel)
theorem u907 : Cond.instanceMethod yX10_addsBeard ∈ zU := z_t 907 (by decide +kernel) (by decide +kernel)
theorem u908 : Cond.code yX10_addsBeard cX10_addsBeard 3 (some .int) ∈ zU := z_t 908 (by decide +kernel) (by decide +kernel)
theorem u909 : Cond.methodLink RL 38 yX10_of ∈ zU := z_t 909 (by decide +kernel) (by decide +kernel)
theorem u910 : Cond.instanceMethod yX10_of ∈ zU := z_t 910 (by decide +kernel) (by decide +kernel)
theorem u911 : Cond.selects RX10 yX10_of yX10_of ∈ zU := z_t 911 (by decide +kernel) (by decide +kernel)
theorem u912 : Cond.code yX10_of cX10_of 3 (some .int) ∈ zU := z_t 912 (by decide +kernel) (by decide +kernel)
theorem u913 : Cond.methodLink RX10 114 yX10_costsOf ∈ zU := z_t 913 (by decide +kernel) (by decide +kernel)
theorem u915 : Cond.instanceMethod yX10_costsOf ∈ zU := z_t 915 (by decide +kernel) (by decide +kernel)
theorem u916 : Cond.code yX10_costsOf cX10_costsOf 3 (some .int) ∈ zU := z_t 916 (by decide +kernel) (by decide +kernel)
theorem u917 : Cond.methodLink RX10 117 yX10_gainsOf ∈ zU := z_t 917 (by decide +kernel) (by decide +kernel)
theorem u919 : Cond.instanceMethod yX10_gainsOf ∈ zU := z_t 919 (by decide +kernel) (by decide +kernel)
theorem u920 : Cond.code yX10_gainsOf cX10_gainsOf 2 (some .int) ∈ zU := z_t 920 (by decide +kernel) (by decide +kernel)
theorem u921 : Cond.methodLink RL 43 yX10_can ∈ zU := z_t 921 (by decide +kernel) (by decide +kernel)
theorem u922 : Cond.instanceMethod yX10_can ∈ zU := z_t 922 (by decide +kernel) (by decide +kernel)
theorem u923 : Cond.selects RX10 yX10_can yX10_can ∈ zU := z_t 923 (by decide +kernel) (by decide +kernel)
theorem u924 : Cond.code yX10_can cX10_can 4 (some .int) ∈ zU := z_t 924 (by decide +kernel) (by decide +kernel)
theorem u925 : Cond.methodLink RX10 120 yX10_meetsOf ∈ zU := z_t 925 (by decide +kernel) (by decide +kernel)
theorem u927 : Cond.instanceMethod yX10_meetsOf ∈ zU := z_t 927 (by decide +kernel) (by decide +kernel)
theorem u928 : Cond.code yX10_meetsOf cX10_meetsOf 7 (some .int) ∈ zU := z_t 928 (by decide +kernel) (by decide +kernel)
theorem u929 : Cond.methodLink RX10 123 yX10_leavesOf ∈ zU := z_t 929 (by decide +kernel) (by decide +kernel)
theorem u931 : Cond.instanceMethod yX10_leavesOf ∈ zU := z_t 931 (by decide +kernel) (by decide +kernel)
theorem u932 : Cond.code yX10_leavesOf cX10_leavesOf 3 (some .int) ∈ zU := z_t 932 (by decide +kernel) (by decide +kernel)
theorem u933 : Cond.methodLink RL 47 yX10_set ∈ zU := z_t 933 (by decide +kernel) (by decide +kernel)
theorem u934 : Cond.instanceMethod yX10_set ∈ zU := z_t 934 (by decide +kernel) (by decide +kernel)
theorem u935 : Cond.selects RX10 yX10_set yX10_set ∈ zU := z_t 935 (by decide +kernel) (by decide +kernel)
theorem u936 : Cond.code yX10_set cX10_set 5 (some .int) ∈ zU := z_t 936 (by decide +kernel) (by decide +kernel)
theorem u937 : Cond.constantLong RX10 126 (99) ∈ zU := z_t 937 (by decide +kernel) (by decide +kernel)
theorem u938 : Cond.constantLong RX10 128 (999) ∈ zU := z_t 938 (by decide +kernel) (by decide +kernel)
theorem u939 : Cond.methodLink RL 51 yX10_turn ∈ zU := z_t 939 (by decide +kernel) (by decide +kernel)
theorem u940 : Cond.instanceMethod yX10_turn ∈ zU := z_t 940 (by decide +kernel) (by decide +kernel)
theorem u941 : Cond.selects RX10 yX10_turn yX10_turn ∈ zU := z_t 941 (by decide +kernel) (by decide +kernel)
theorem u942 : Cond.code yX10_turn cX10_turn 3 (some .int) ∈ zU := z_t 942 (by decide +kernel) (by decide +kernel)
theorem u943 : Cond.methodLink RL 55 yX10_as ∈ zU := z_t 943 (by decide +kernel) (by decide +kernel)
theorem u944 : Cond.instanceMethod yX10_as ∈ zU := z_t 944 (by decide +kernel) (by decide +kernel)
theorem u945 : Cond.selects RX10 yX10_as yX10_as ∈ zU := z_t 945 (by decide +kernel) (by decide +kernel)
theorem u946 : Cond.code yX10_as cX10_as 3 (some .int) ∈ zU := z_t 946 (by decide +kernel) (by decide +kernel)
theorem u947 : Cond.methodLink RX10 130 yX10_isUnder ∈ zU := z_t 947 (by decide +kernel) (by decide +kernel)
theorem u948 : Cond.static yX10_isUnder ∈ zU := z_t 948 (by decide +kernel) (by decide +kernel)
theorem u949 : Cond.code yX10_isUnder cX10_isUnder 2 (some .boolean) ∈ zU := z_t 949 (by decide +kernel) (by decide +kernel)
theorem u950 : Cond.constant RX10 134 (-1000000003) ∈ zU := z_t 950 (by decide +kernel) (by decide +kernel)
theorem u951 : Cond.methodLink RL 59 yX10_wearer ∈ zU := z_t 951 (by decide +kernel) (by decide +kernel)
theorem u952 : Cond.instanceMethod yX10_wearer ∈ zU := z_t 952 (by decide +kernel) (by decide +kernel)
theorem u953 : Cond.selects RX10 yX10_wearer yX10_wearer ∈ zU := z_t 953 (by decide +kernel) (by decide +kernel)
theorem u954 : Cond.code yX10_wearer cX10_wearer 2 (some .int) ∈ zU := z_t 954 (by decide +kernel) (by decide +kernel)
theorem u955 : Cond.constantLong RX10 135 (9999) ∈ zU := z_t 955 (by decide +kernel) (by decide +kernel)
theorem u956 : Cond.methodLink RX10 137 yX10_addsWearer ∈ zU := z_t 956 (by decide +kernel) (by decide +kernel)
theorem u958 : Cond.instanceMethod yX10_addsWearer ∈ zU := z_t 958 (by decide +kernel) (by decide +kernel)
theorem u959 : Cond.code yX10_addsWearer cX10_addsWearer 3 (some .int) ∈ zU := z_t 959 (by decide +kernel) (by decide +kernel)
theorem u960 : Cond.methodLink RL 63 yX10_wearerOf ∈ zU := z_t 960 (by decide +kernel) (by decide +kernel)
theorem u961 : Cond.instanceMethod yX10_wearerOf ∈ zU := z_t 961 (by decide +kernel) (by decide +kernel)
theorem u962 : Cond.selects RX10 yX10_wearerOf yX10_wearerOf ∈ zU := z_t 962 (by decide +kernel) (by decide +kernel)
theorem u963 : Cond.code yX10_wearerOf cX10_wearerOf 3 (some .int) ∈ zU := z_t 963 (by decide +kernel) (by decide +kernel)
theorem u964 : Cond.methodLink RX10 140 yX10_isWearer ∈ zU := z_t 964 (by decide +kernel) (by decide +kernel)
theorem u966 : Cond.instanceMethod yX10_isWearer ∈ zU := z_t 966 (by decide +kernel) (by decide +kernel)
theorem u967 : Cond.code yX10_isWearer cX10_isWearer 2 (some .boolean) ∈ zU := z_t 967 (by decide +kernel) (by decide +kernel)
theorem u968 : Cond.constantLong RX10 143 (3) ∈ zU := z_t 968 (by decide +kernel) (by decide +kernel)
theorem u969 : Cond.methodLink RX10 145 yX10_wornBy ∈ zU := z_t 969 (by decide +kernel) (by decide +kernel)
theorem u971 : Cond.instanceMethod yX10_wornBy ∈ zU := z_t 971 (by decide +kernel) (by decide +kernel)
theorem u972 : Cond.code yX10_wornBy cX10_wornBy 4 (some .int) ∈ zU := z_t 972 (by decide +kernel) (by decide +kernel)
theorem u973 : Cond.methodLink RL 67 yX10_give ∈ zU := z_t 973 (by decide +kernel) (by decide +kernel)
theorem u974 : Cond.instanceMethod yX10_give ∈ zU := z_t 974 (by decide +kernel) (by decide +kernel)
theorem u975 : Cond.selects RX10 yX10_give yX10_give ∈ zU := z_t 975 (by decide +kernel) (by decide +kernel)
theorem u976 : Cond.code yX10_give cX10_give 5 (some .int) ∈ zU := z_t 976 (by decide +kernel) (by decide +kernel)
theorem u977 : Cond.methodLink RL 71 yX10_hire ∈ zU := z_t 977 (by decide +kernel) (by decide +kernel)
theorem u978 : Cond.instanceMethod yX10_hire ∈ zU := z_t 978 (by decide +kernel) (by decide +kernel)
theorem u979 : Cond.selects RX10 yX10_hire yX10_hire ∈ zU := z_t 979 (by decide +kernel) (by decide +kernel)
theorem u980 : Cond.code yX10_hire cX10_hire 3 (some .int) ∈ zU := z_t 980 (by decide +kernel) (by decide +kernel)
theorem u981 : Cond.constant RX10 148 (-1000000005) ∈ zU := z_t 981 (by decide +kernel) (by decide +kernel)
theorem u982 : Cond.methodLink RL 75 yX10_back ∈ zU := z_t 982 (by decide +kernel) (by decide +kernel)
theorem u983 : Cond.instanceMethod yX10_back ∈ zU := z_t 983 (by decide +kernel) (by decide +kernel)
theorem u984 : Cond.selects RX10 yX10_back yX10_back ∈ zU := z_t 984 (by decide +kernel) (by decide +kernel)
theorem u985 : Cond.code yX10_back cX10_back 2 (some .int) ∈ zU := z_t 985 (by decide +kernel) (by decide +kernel)
theorem u986 : Cond.methodLink RL 79 yX10_nights ∈ zU := z_t 986 (by decide +kernel) (by decide +kernel)
theorem u987 : Cond.instanceMethod yX10_nights ∈ zU := z_t 987 (by decide +kernel) (by decide +kernel)
theorem u988 : Cond.selects RX10 yX10_nights yX10_nights ∈ zU := z_t 988 (by decide +kernel) (by decide +kernel)
theorem u989 : Cond.code yX10_nights cX10_nights 2 (some .int) ∈ zU := z_t 989 (by decide +kernel) (by decide +kernel)
theorem u990 : Cond.constantLong RX10 163 (100) ∈ zU := z_t 990 (by decide +kernel) (by decide +kernel)
theorem u991 : Cond.constant RX10 165 (99999) ∈ zU := z_t 991 (by decide +kernel) (by decide +kernel)
theorem u992 : Cond.methodLink RX10 166 yX10_nightsGo ∈ zU := z_t 992 (by decide +kernel) (by decide +kernel)
theorem u994 : Cond.instanceMethod yX10_nightsGo ∈ zU := z_t 994 (by decide +kernel) (by decide +kernel)
theorem u995 : Cond.code yX10_nightsGo cX10_nightsGo 3 none ∈ zU := z_t 995 (by decide +kernel) (by decide +kernel)
theorem u996 : Cond.methodLink RX10 160 yX10_night ∈ zU := z_t 996 (by decide +kernel) (by decide +kernel)
theorem u998 : Cond.instanceMethod yX10_night ∈ zU := z_t 998 (by decide +kernel) (by decide +kernel)
theorem u999 : Cond.code yX10_night cX10_night 3 none ∈ zU := z_t 999 (by decide +kernel) (by decide +kernel)
theorem u1000 : Cond.methodLink RX10 157 yX10_wears ∈ zU := z_t 1000 (by decide +kernel) (by decide +kernel)
theorem u1002 : Cond.instanceMethod yX10_wears ∈ zU := z_t 1002 (by decide +kernel) (by decide +kernel)
theorem u1003 : Cond.code yX10_wears cX10_wears 4 none ∈ zU := z_t 1003 (by decide +kernel) (by decide +kernel)
theorem u1004 : Cond.methodLink RX10 153 yX10_goesOut ∈ zU := z_t 1004 (by decide +kernel) (by decide +kernel)
theorem u1006 : Cond.instanceMethod yX10_goesOut ∈ zU := z_t 1006 (by decide +kernel) (by decide +kernel)
theorem u1007 : Cond.code yX10_goesOut cX10_goesOut 7 none ∈ zU := z_t 1007 (by decide +kernel) (by decide +kernel)
theorem u1008 : Cond.methodLink RX10 149 yX10_held ∈ zU := z_t 1008 (by decide +kernel) (by decide +kernel)
theorem u1009 : Cond.static yX10_held ∈ zU := z_t 1009 (by decide +kernel) (by decide +kernel)
theorem u1010 : Cond.code yX10_held cX10_held 3 (some .int) ∈ zU := z_t 1010 (by decide +kernel) (by decide +kernel)
theorem u1011 : Cond.methodLink RL 83 yX10_on ∈ zU := z_t 1011 (by decide +kernel) (by decide +kernel)
theorem u1012 : Cond.instanceMethod yX10_on ∈ zU := z_t 1012 (by decide +kernel) (by decide +kernel)
theorem u1013 : Cond.selects RX10 yX10_on yX10_on ∈ zU := z_t 1013 (by decide +kernel) (by decide +kernel)
theorem u1014 : Cond.code yX10_on cX10_on 4 (some .int) ∈ zU := z_t 1014 (by decide +kernel) (by decide +kernel)
theorem u1015 : Cond.methodLink RX10 178 yX10_isAhead ∈ zU := z_t 1015 (by decide +kernel) (by decide +kernel)
theorem u1016 : Cond.static yX10_isAhead ∈ zU := z_t 1016 (by decide +kernel) (by decide +kernel)
theorem u1017 : Cond.code yX10_isAhead cX10_isAhead 1 (some .boolean) ∈ zU := z_t 1017 (by decide +kernel) (by decide +kernel)
theorem u1018 : Cond.constantLong RX10 170 (200) ∈ zU := z_t 1018 (by decide +kernel) (by decide +kernel)
theorem u1019 : Cond.methodLink RX10 181 yX10_behind ∈ zU := z_t 1019 (by decide +kernel) (by decide +kernel)
theorem u1021 : Cond.instanceMethod yX10_behind ∈ zU := z_t 1021 (by decide +kernel) (by decide +kernel)
theorem u1022 : Cond.code yX10_behind cX10_behind 3 (some .int) ∈ zU := z_t 1022 (by decide +kernel) (by decide +kernel)
theorem u1023 : Cond.methodLink RX10 172 yX10_laysAside ∈ zU := z_t 1023 (by decide +kernel) (by decide +kernel)
theorem u1025 : Cond.instanceMethod yX10_laysAside ∈ zU := z_t 1025 (by decide +kernel) (by decide +kernel)
theorem u1026 : Cond.code yX10_laysAside cX10_laysAside 2 none ∈ zU := z_t 1026 (by decide +kernel) (by decide +kernel)
theorem u1027 : Cond.methodLink RX10 175 yX10_takesBack ∈ zU := z_t 1027 (by decide +kernel) (by decide +kernel)
theorem u1029 : Cond.instanceMethod yX10_takesBack ∈ zU := z_t 1029 (by decide +kernel) (by decide +kernel)
theorem u1030 : Cond.code yX10_takesBack cX10_takesBack 3 (some .int) ∈ zU := z_t 1030 (by decide +kernel) (by decide +kernel)
theorem u1031 : Cond.methodLink RX10 184 yX10_wornBehind ∈ zU := z_t 1031 (by decide +kernel) (by decide +kernel)
theorem u1033 : Cond.instanceMethod yX10_wornBehind ∈ zU := z_t 1033 (by decide +kernel) (by decide +kernel)
theorem u1034 : Cond.code yX10_wornBehind cX10_wornBehind 3 (some .int) ∈ zU := z_t 1034 (by decide +kernel) (by decide +kernel)
theorem u1035 : Cond.methodLink RL 87 yX10_then ∈ zU := z_t 1035 (by decide +kernel) (by decide +kernel)
theorem u1036 : Cond.instanceMethod yX10_then ∈ zU := z_t 1036 (by decide +kernel) (by decide +kernel)
theorem u1037 : Cond.selects RX10 yX10_then yX10_then ∈ zU := z_t 1037 (by decide +kernel) (by decide +kernel)
theorem u1038 : Cond.code yX10_then cX10_then 4 (some .int) ∈ zU := z_t 1038 (by decide +kernel) (by decide +kernel)
theorem u1039 : Cond.methodLink RL 91 yX10_fond ∈ zU := z_t 1039 (by decide +kernel) (by decide +kernel)
theorem u1040 : Cond.instanceMethod yX10_fond ∈ zU := z_t 1040 (by decide +kernel) (by decide +kernel)
theorem u1041 : Cond.selects RX10 yX10_fond yX10_fond ∈ zU := z_t 1041 (by decide +kernel) (by decide +kernel)
theorem u1042 : Cond.code yX10_fond cX10_fond 3 (some .int) ∈ zU := z_t 1042 (by decide +kernel) (by decide +kernel)
theorem u1043 : Cond.methodLink RL 95 yX10_home ∈ zU := z_t 1043 (by decide +kernel) (by decide +kernel)
theorem u1044 : Cond.instanceMethod yX10_home ∈ zU := z_t 1044 (by decide +kernel) (by decide +kernel)
theorem u1045 : Cond.selects RX10 yX10_home yX10_home ∈ zU := z_t 1045 (by decide +kernel) (by decide +kernel)
theorem u1046 : Cond.code yX10_home cX10_home 2 (some .int) ∈ zU := z_t 1046 (by decide +kernel) (by decide +kernel)
theorem u1047 : Cond.methodLink RX10 188 yX10_firstDown ∈ zU := z_t 1047 (by decide +kernel) (by decide +kernel)
theorem u1049 : Cond.instanceMethod yX10_firstDown ∈ zU := z_t 1049 (by decide +kernel) (by decide +kernel)
theorem u1050 : Cond.code yX10_firstDown cX10_firstDown 5 (some .int) ∈ zU := z_t 1050 (by decide +kernel) (by decide +kernel)
theorem u1051 : Cond.constant RX10 187 (-1000000004) ∈ zU := z_t 1051 (by decide +kernel) (by decide +kernel)
theorem u1052 : Cond.methodLink RL 99 yX10_falls ∈ zU := z_t 1052 (by decide +kernel) (by decide +kernel)
theorem u1053 : Cond.instanceMethod yX10_falls ∈ zU := z_t 1053 (by decide +kernel) (by decide +kernel)
theorem u1054 : Cond.selects RX10 yX10_falls yX10_falls ∈ zU := z_t 1054 (by decide +kernel) (by decide +kernel)
theorem u1055 : Cond.code yX10_falls cX10_falls 3 (some .int) ∈ zU := z_t 1055 (by decide +kernel) (by decide +kernel)
theorem u1056 : Cond.methodLink RL 103 yX10_best ∈ zU := z_t 1056 (by decide +kernel) (by decide +kernel)
theorem u1057 : Cond.instanceMethod yX10_best ∈ zU := z_t 1057 (by decide +kernel) (by decide +kernel)
theorem u1058 : Cond.selects RX10 yX10_best yX10_best ∈ zU := z_t 1058 (by decide +kernel) (by decide +kernel)
theorem u1059 : Cond.code yX10_best cX10_best 7 (some .int) ∈ zU := z_t 1059 (by decide +kernel) (by decide +kernel)
theorem u1060 : Cond.methodLink RX10 193 yX10_isSoon ∈ zU := z_t 1060 (by decide +kernel) (by decide +kernel)
theorem u1061 : Cond.static yX10_isSoon ∈ zU := z_t 1061 (by decide +kernel) (by decide +kernel)
theorem u1062 : Cond.code yX10_isSoon cX10_isSoon 1 (some .boolean) ∈ zU := z_t 1062 (by decide +kernel) (by decide +kernel)
theorem u1063 : Cond.constantLong RX10 191 (60) ∈ zU := z_t 1063 (by decide +kernel) (by decide +kernel)
theorem u1064 : Cond.methodLink RL 107 yX10_round ∈ zU := z_t 1064 (by decide +kernel) (by decide +kernel)
theorem u1065 : Cond.instanceMethod yX10_round ∈ zU := z_t 1065 (by decide +kernel) (by decide +kernel)
theorem u1066 : Cond.selects RX10 yX10_round yX10_round ∈ zU := z_t 1066 (by decide +kernel) (by decide +kernel)
theorem u1067 : Cond.code yX10_round cX10_round 3 (some .int) ∈ zU := z_t 1067 (by decide +kernel) (by decide +kernel)
theorem u1068 : Cond.methodLink RX10 199 yX10_mostBy ∈ zU := z_t 1068 (by decide +kernel) (by decide +kernel)
theorem u1070 : Cond.instanceMethod yX10_mostBy ∈ zU := z_t 1070 (by decide +kernel) (by decide +kernel)
theorem u1071 : Cond.code yX10_mostBy cX10_mostBy 10 (some .int) ∈ zU := z_t 1071 (by decide +kernel) (by decide +kernel)
theorem u1072 : Cond.methodLink RX10 196 yX10_pursesBehind ∈ zU := z_t 1072 (by decide +kernel) (by decide +kernel)
theorem u1074 : Cond.instanceMethod yX10_pursesBehind ∈ zU := z_t 1074 (by decide +kernel) (by decide +kernel)
theorem u1075 : Cond.code yX10_pursesBehind cX10_pursesBehind 2 (some .int) ∈ zU := z_t 1075 (by decide +kernel) (by decide +kernel)
theorem u1076 : Cond.methodLink RL 111 yX10_kind ∈ zU := z_t 1076 (by decide +kernel) (by decide +kernel)
theorem u1077 : Cond.instanceMethod yX10_kind ∈ zU := z_t 1077 (by decide +kernel) (by decide +kernel)
theorem u1078 : Cond.selects RX10 yX10_kind yX10_kind ∈ zU := z_t 1078 (by decide +kernel) (by decide +kernel)
theorem u1079 : Cond.code yX10_kind cX10_kind 3 (some .int) ∈ zU := z_t 1079 (by decide +kernel) (by decide +kernel)
theorem u1080 : Cond.methodLink RL 115 yX10_enough ∈ zU := z_t 1080 (by decide +kernel) (by decide +kernel)
theorem u1081 : Cond.instanceMethod yX10_enough ∈ zU := z_t 1081 (by decide +kernel) (by decide +kernel)
theorem u1082 : Cond.selects RX10 yX10_enough yX10_enough ∈ zU := z_t 1082 (by decide +kernel) (by decide +kernel)
theorem u1083 : Cond.code yX10_enough cX10_enough 8 (some .int) ∈ zU := z_t 1083 (by decide +kernel) (by decide +kernel)
theorem u1084 : Cond.methodLink RL 120 yX10_please ∈ zU := z_t 1084 (by decide +kernel) (by decide +kernel)
theorem u1085 : Cond.instanceMethod yX10_please ∈ zU := z_t 1085 (by decide +kernel) (by decide +kernel)
theorem u1086 : Cond.selects RX10 yX10_please yX10_please ∈ zU := z_t 1086 (by decide +kernel) (by decide +kernel)
theorem u1087 : Cond.code yX10_please cX10_please 9 (some .int) ∈ zU := z_t 1087 (by decide +kernel) (by decide +kernel)
theorem u1088 : Cond.methodLink RL 124 yX10_richest ∈ zU := z_t 1088 (by decide +kernel) (by decide +kernel)
theorem u1089 : Cond.instanceMethod yX10_richest ∈ zU := z_t 1089 (by decide +kernel) (by decide +kernel)
theorem u1090 : Cond.selects RX10 yX10_richest yX10_richest ∈ zU := z_t 1090 (by decide +kernel) (by decide +kernel)
theorem u1091 : Cond.code yX10_richest cX10_richest 4 (some .int) ∈ zU := z_t 1091 (by decide +kernel) (by decide +kernel)
theorem u1092 : Cond.methodLink RL 128 yX10_feed ∈ zU := z_t 1092 (by decide +kernel) (by decide +kernel)
theorem u1093 : Cond.instanceMethod yX10_feed ∈ zU := z_t 1093 (by decide +kernel) (by decide +kernel)
theorem u1094 : Cond.selects RX10 yX10_feed yX10_feed ∈ zU := z_t 1094 (by decide +kernel) (by decide +kernel)
theorem u1095 : Cond.code yX10_feed cX10_feed 4 (some .int) ∈ zU := z_t 1095 (by decide +kernel) (by decide +kernel)
theorem u1096 : Cond.constantLong RX10 203 (4) ∈ zU := z_t 1096 (by decide +kernel) (by decide +kernel)
theorem u1097 : Cond.methodLink RL 133 yX10_wipe ∈ zU := z_t 1097 (by decide +kernel) (by decide +kernel)
theorem u1098 : Cond.instanceMethod yX10_wipe ∈ zU := z_t 1098 (by decide +kernel) (by decide +kernel)
theorem u1099 : Cond.selects RX10 yX10_wipe yX10_wipe ∈ zU := z_t 1099 (by decide +kernel) (by decide +kernel)
theorem u1100 : Cond.code yX10_wipe cX10_wipe 2 (some .int) ∈ zU := z_t 1100 (by decide +kernel) (by decide +kernel)
theorem u1101 : Cond.methodLink RL 137 yX10_shop ∈ zU := z_t 1101 (by decide +kernel) (by decide +kernel)
theorem u1102 : Cond.instanceMethod yX10_shop ∈ zU := z_t 1102 (by decide +kernel) (by decide +kernel)
theorem u1103 : Cond.selects RX10 yX10_shop yX10_shop ∈ zU := z_t 1103 (by decide +kernel) (by decide +kernel)
theorem u1104 : Cond.code yX10_shop cX10_shop 2 (some .int) ∈ zU := z_t 1104 (by decide +kernel) (by decide +kernel)
theorem u1105 : Cond.methodLink RX10 307 yX10_saves ∈ zU := z_t 1105 (by decide +kernel) (by decide +kernel)
theorem u1107 : Cond.instanceMethod yX10_saves ∈ zU := z_t 1107 (by decide +kernel) (by decide +kernel)
theorem u1108 : Cond.code yX10_saves cX10_saves 2 none ∈ zU := z_t 1108 (by decide +kernel) (by decide +kernel)
theorem u1109 : Cond.methodLink RX10 236 yX10_token ∈ zU := z_t 1109 (by decide +kernel) (by decide +kernel)
theorem u1111 : Cond.instanceMethod yX10_token ∈ zU := z_t 1111 (by decide +kernel) (by decide +kernel)
theorem u1112 : Cond.code yX10_token cX10_token 3 none ∈ zU := z_t 1112 (by decide +kernel) (by decide +kernel)
theorem u1113 : Cond.methodLink RX10 223 yX10_byteAt ∈ zU := z_t 1113 (by decide +kernel) (by decide +kernel)
theorem u1115 : Cond.instanceMethod yX10_byteAt ∈ zU := z_t 1115 (by decide +kernel) (by decide +kernel)
theorem u1116 : Cond.code yX10_byteAt cX10_byteAt 2 (some .int) ∈ zU := z_t 1116 (by decide +kernel) (by decide +kernel)
theorem u1117 : Cond.methodLink RX10 226 yX10_isLetter ∈ zU := z_t 1117 (by decide +kernel) (by decide +kernel)
theorem u1118 : Cond.static yX10_isLetter ∈ zU := z_t 1118 (by decide +kernel) (by decide +kernel)
theorem u1119 : Cond.code yX10_isLetter cX10_isLetter 1 (some .boolean) ∈ zU := z_t 1119 (by decide +kernel) (by decide +kernel)
theorem u1120 : Cond.constantLong RX10 209 (97) ∈ zU := z_t 1120 (by decide +kernel) (by decide +kernel)
theorem u1121 : Cond.constantLong RX10 211 (122) ∈ zU := z_t 1121 (by decide +kernel) (by decide +kernel)
theorem u1122 : Cond.methodLink RX10 229 yX10_isDigit ∈ zU := z_t 1122 (by decide +kernel) (by decide +kernel)
theorem u1123 : Cond.static yX10_isDigit ∈ zU := z_t 1123 (by decide +kernel) (by decide +kernel)
theorem u1124 : Cond.code yX10_isDigit cX10_isDigit 1 (some .boolean) ∈ zU := z_t 1124 (by decide +kernel) (by decide +kernel)
theorem u1125 : Cond.constantLong RX10 213 (48) ∈ zU := z_t 1125 (by decide +kernel) (by decide +kernel)
theorem u1126 : Cond.constantLong RX10 215 (57) ∈ zU := z_t 1126 (by decide +kernel) (by decide +kernel)
theorem u1127 : Cond.methodLink RX10 310 yX10_item ∈ zU := z_t 1127 (by decide +kernel) (by decide +kernel)
theorem u1129 : Cond.instanceMethod yX10_item ∈ zU := z_t 1129 (by decide +kernel) (by decide +kernel)
theorem u1130 : Cond.code yX10_item cX10_item 4 none ∈ zU := z_t 1130 (by decide +kernel) (by decide +kernel)
theorem u1131 : Cond.methodLink RX10 286 yX10_kindHere ∈ zU := z_t 1131 (by decide +kernel) (by decide +kernel)
theorem u1133 : Cond.instanceMethod yX10_kindHere ∈ zU := z_t 1133 (by decide +kernel) (by decide +kernel)
theorem u1134 : Cond.code yX10_kindHere cX10_kindHere 3 (some .int) ∈ zU := z_t 1134 (by decide +kernel) (by decide +kernel)
theorem u1135 : Cond.methodLink RX10 250 yX10_word ∈ zU := z_t 1135 (by decide +kernel) (by decide +kernel)
theorem u1137 : Cond.instanceMethod yX10_word ∈ zU := z_t 1137 (by decide +kernel) (by decide +kernel)
theorem u1138 : Cond.code yX10_word cX10_word 4 (some .long) ∈ zU := z_t 1138 (by decide +kernel) (by decide +kernel)
theorem u1139 : Cond.constantLong RX10 239 (36028797018963967) ∈ zU := z_t 1139 (by decide +kernel) (by decide +kernel)
theorem u1140 : Cond.constantLong RX10 241 (32) ∈ zU := z_t 1140 (by decide +kernel) (by decide +kernel)
theorem u1141 : Cond.constantLong RX10 254 (2262596) ∈ zU := z_t 1141 (by decide +kernel) (by decide +kernel)
theorem u1142 : Cond.constantLong RX10 256 (244784306) ∈ zU := z_t 1142 (by decide +kernel) (by decide +kernel)
theorem u1143 : Cond.constantLong RX10 258 (24389253) ∈ zU := z_t 1143 (by decide +kernel) (by decide +kernel)
theorem u1144 : Cond.constantLong RX10 260 (14832254356741) ∈ zU := z_t 1144 (by decide +kernel) (by decide +kernel)
theorem u1145 : Cond.constantLong RX10 262 (323739001900) ∈ zU := z_t 1145 (by decide +kernel) (by decide +kernel)
theorem u1146 : Cond.constantLong RX10 264 (17648634087528) ∈ zU := z_t 1146 (by decide +kernel) (by decide +kernel)
theorem u1147 : Cond.methodLink RX10 289 yX10_beardItem ∈ zU := z_t 1147 (by decide +kernel) (by decide +kernel)
theorem u1149 : Cond.instanceMethod yX10_beardItem ∈ zU := z_t 1149 (by decide +kernel) (by decide +kernel)
theorem u1150 : Cond.code yX10_beardItem cX10_beardItem 3 none ∈ zU := z_t 1150 (by decide +kernel) (by decide +kernel)
theorem u1151 : Cond.methodLink RX10 246 yX10_must ∈ zU := z_t 1151 (by decide +kernel) (by decide +kernel)
theorem u1153 : Cond.instanceMethod yX10_must ∈ zU := z_t 1153 (by decide +kernel) (by decide +kernel)
theorem u1154 : Cond.code yX10_must cX10_must 2 none ∈ zU := z_t 1154 (by decide +kernel) (by decide +kernel)
theorem u1155 : Cond.constantLong RX10 269 (198053) ∈ zU := z_t 1155 (by decide +kernel) (by decide +kernel)
theorem u1156 : Cond.methodLink RX10 271 yX10_partItem ∈ zU := z_t 1156 (by decide +kernel) (by decide +kernel)
theorem u1158 : Cond.instanceMethod yX10_partItem ∈ zU := z_t 1158 (by decide +kernel) (by decide +kernel)
theorem u1159 : Cond.code yX10_partItem cX10_partItem 5 none ∈ zU := z_t 1159 (by decide +kernel) (by decide +kernel)
theorem u1160 : Cond.methodLink RX10 266 yX10_number ∈ zU := z_t 1160 (by decide +kernel) (by decide +kernel)
theorem u1162 : Cond.instanceMethod yX10_number ∈ zU := z_t 1162 (by decide +kernel) (by decide +kernel)
theorem u1163 : Cond.code yX10_number cX10_number 6 none ∈ zU := z_t 1163 (by decide +kernel) (by decide +kernel)
theorem u1164 : Cond.constantLong RX10 275 (8881732) ∈ zU := z_t 1164 (by decide +kernel) (by decide +kernel)
theorem u1165 : Cond.constantLong RX10 292 (777046194) ∈ zU := z_t 1165 (by decide +kernel) (by decide +kernel)
theorem u1166 : Cond.methodLink RX10 294 yX10_wearerItem ∈ zU := z_t 1166 (by decide +kernel) (by decide +kernel)
theorem u1168 : Cond.instanceMethod yX10_wearerItem ∈ zU := z_t 1168 (by decide +kernel) (by decide +kernel)
theorem u1169 : Cond.code yX10_wearerItem cX10_wearerItem 2 none ∈ zU := z_t 1169 (by decide +kernel) (by decide +kernel)
theorem u1170 : Cond.constantLong RX10 277 (19387844) ∈ zU := z_t 1170 (by decide +kernel) (by decide +kernel)
theorem u1171 : Cond.constantLong RX10 297 (8902245) ∈ zU := z_t 1171 (by decide +kernel) (by decide +kernel)
theorem u1172 : Cond.methodLink RX10 299 yX10_houseItem ∈ zU := z_t 1172 (by decide +kernel) (by decide +kernel)
theorem u1174 : Cond.instanceMethod yX10_houseItem ∈ zU := z_t 1174 (by decide +kernel) (by decide +kernel)
theorem u1175 : Cond.code yX10_houseItem cX10_houseItem 3 none ∈ zU := z_t 1175 (by decide +kernel) (by decide +kernel)
theorem u1176 : Cond.constantLong RX10 279 (212420) ∈ zU := z_t 1176 (by decide +kernel) (by decide +kernel)
theorem u1177 : Cond.constantLong RX10 281 (3751539) ∈ zU := z_t 1177 (by decide +kernel) (by decide +kernel)
theorem u1178 : Cond.constantLong RX10 302 (271941) ∈ zU := z_t 1178 (by decide +kernel) (by decide +kernel)
theorem u1179 : Cond.methodLink RX10 304 yX10_hireItem ∈ zU := z_t 1179 (by decide +kernel) (by decide +kernel)
theorem u1181 : Cond.instanceMethod yX10_hireItem ∈ zU := z_t 1181 (by decide +kernel) (by decide +kernel)
theorem u1182 : Cond.code yX10_hireItem cX10_hireItem 3 none ∈ zU := z_t 1182 (by decide +kernel) (by decide +kernel)
theorem u1183 : Cond.methodLink RX10 283 yX10_numberHere ∈ zU := z_t 1183 (by decide +kernel) (by decide +kernel)
theorem u1185 : Cond.instanceMethod yX10_numberHere ∈ zU := z_t 1185 (by decide +kernel) (by decide +kernel)
theorem u1186 : Cond.code yX10_numberHere cX10_numberHere 3 (some .int) ∈ zU := z_t 1186 (by decide +kernel) (by decide +kernel)
theorem u1187 : Cond.methodLink RX10 313 yX10_putsBack ∈ zU := z_t 1187 (by decide +kernel) (by decide +kernel)
theorem u1189 : Cond.instanceMethod yX10_putsBack ∈ zU := z_t 1189 (by decide +kernel) (by decide +kernel)
theorem u1190 : Cond.code yX10_putsBack cX10_putsBack 2 none ∈ zU := z_t 1190 (by decide +kernel) (by decide +kernel)
theorem u1191 : Cond.methodLink RL 141 yX10_sheet ∈ zU := z_t 1191 (by decide +kernel) (by decide +kernel)
theorem u1192 : Cond.instanceMethod yX10_sheet ∈ zU := z_t 1192 (by decide +kernel) (by decide +kernel)
theorem u1193 : Cond.selects RX10 yX10_sheet yX10_sheet ∈ zU := z_t 1193 (by decide +kernel) (by decide +kernel)
theorem u1194 : Cond.code yX10_sheet cX10_sheet 5 (some .int) ∈ zU := z_t 1194 (by decide +kernel) (by decide +kernel)
theorem u1195 : Cond.methodLink RX10 316 yX10_isOne ∈ zU := z_t 1195 (by decide +kernel) (by decide +kernel)
theorem u1196 : Cond.static yX10_isOne ∈ zU := z_t 1196 (by decide +kernel) (by decide +kernel)
theorem u1197 : Cond.code yX10_isOne cX10_isOne 1 (some .boolean) ∈ zU := z_t 1197 (by decide +kernel) (by decide +kernel)
theorem u1198 : Cond.constant RX10 319 (-1000000007) ∈ zU := z_t 1198 (by decide +kernel) (by decide +kernel)
theorem u1199 : Cond.methodLink RL 148 yX10_write ∈ zU := z_t 1199 (by decide +kernel) (by decide +kernel)
theorem u1200 : Cond.instanceMethod yX10_write ∈ zU := z_t 1200 (by decide +kernel) (by decide +kernel)
theorem u1201 : Cond.selects RX10 yX10_write yX10_write ∈ zU := z_t 1201 (by decide +kernel) (by decide +kernel)
theorem u1202 : Cond.code yX10_write cX10_write 8 (some .long) ∈ zU := z_t 1202 (by decide +kernel) (by decide +kernel)
theorem u1203 : Cond.methodLink RX10 321 yX10_wrongSheet ∈ zU := z_t 1203 (by decide +kernel) (by decide +kernel)
theorem u1205 : Cond.instanceMethod yX10_wrongSheet ∈ zU := z_t 1205 (by decide +kernel) (by decide +kernel)
theorem u1206 : Cond.code yX10_wrongSheet cX10_wrongSheet 2 (some .int) ∈ zU := z_t 1206 (by decide +kernel) (by decide +kernel)
theorem u1207 : Cond.constant RX10 320 (-1000000006) ∈ zU := z_t 1207 (by decide +kernel) (by decide +kernel)
theorem u1208 : Cond.methodLink RX10 324 yX10_narrowed ∈ zU := z_t 1208 (by decide +kernel) (by decide +kernel)
theorem u1209 : Cond.static yX10_narrowed ∈ zU := z_t 1209 (by decide +kernel) (by decide +kernel)
theorem u1210 : Cond.code yX10_narrowed cX10_narrowed 3 (some .long) ∈ zU := z_t 1210 (by decide +kernel) (by decide +kernel)
theorem u1211 : Cond.methodLink RL 153 yX10_copy ∈ zU := z_t 1211 (by decide +kernel) (by decide +kernel)
theorem u1212 : Cond.instanceMethod yX10_copy ∈ zU := z_t 1212 (by decide +kernel) (by decide +kernel)
theorem u1213 : Cond.selects RX10 yX10_copy yX10_copy ∈ zU := z_t 1213 (by decide +kernel) (by decide +kernel)
theorem u1214 : Cond.code yX10_copy cX10_copy 7 (some .int) ∈ zU := z_t 1214 (by decide +kernel) (by decide +kernel)
theorem u1215 : Cond.methodLink RL 157 yX10_lays ∈ zU := z_t 1215 (by decide +kernel) (by decide +kernel)
theorem u1216 : Cond.instanceMethod yX10_lays ∈ zU := z_t 1216 (by decide +kernel) (by decide +kernel)
theorem u1217 : Cond.selects RX10 yX10_lays yX10_lays ∈ zU := z_t 1217 (by decide +kernel) (by decide +kernel)
theorem u1218 : Cond.code yX10_lays cX10_lays 6 (some .int) ∈ zU := z_t 1218 (by decide +kernel) (by decide +kernel)
theorem u1219 : Cond.methodLink RL 161 yX10_book ∈ zU := z_t 1219 (by decide +kernel) (by decide +kernel)
theorem u1220 : Cond.instanceMethod yX10_book ∈ zU := z_t 1220 (by decide +kernel) (by decide +kernel)
theorem u1221 : Cond.selects RX10 yX10_book yX10_book ∈ zU := z_t 1221 (by decide +kernel) (by decide +kernel)
theorem u1222 : Cond.code yX10_book cX10_book 5 (some .int) ∈ zU := z_t 1222 (by decide +kernel) (by decide +kernel)
theorem u1223 : Cond.methodLink RL 165 yX10_read ∈ zU := z_t 1223 (by decide +kernel) (by decide +kernel)
theorem u1224 : Cond.instanceMethod yX10_read ∈ zU := z_t 1224 (by decide +kernel) (by decide +kernel)
theorem u1225 : Cond.selects RX10 yX10_read yX10_read ∈ zU := z_t 1225 (by decide +kernel) (by decide +kernel)
theorem u1226 : Cond.code yX10_read cX10_read 7 (some .int) ∈ zU := z_t 1226 (by decide +kernel) (by decide +kernel)
theorem u1227 : Cond.methodLink RX10 328 yX10_isBook ∈ zU := z_t 1227 (by decide +kernel) (by decide +kernel)
theorem u1229 : Cond.instanceMethod yX10_isBook ∈ zU := z_t 1229 (by decide +kernel) (by decide +kernel)
theorem u1230 : Cond.code yX10_isBook cX10_isBook 4 (some .boolean) ∈ zU := z_t 1230 (by decide +kernel) (by decide +kernel)
theorem u1231 : Cond.methodLink RL 169 yX10_image ∈ zU := z_t 1231 (by decide +kernel) (by decide +kernel)
theorem u1232 : Cond.instanceMethod yX10_image ∈ zU := z_t 1232 (by decide +kernel) (by decide +kernel)
theorem u1233 : Cond.selects RX10 yX10_image yX10_image ∈ zU := z_t 1233 (by decide +kernel) (by decide +kernel)
theorem u1234 : Cond.code yX10_image cX10_image 2 (some .int) ∈ zU := z_t 1234 (by decide +kernel) (by decide +kernel)
theorem u1235 : Cond.methodLink RL 173 yX10_undo ∈ zU := z_t 1235 (by decide +kernel) (by decide +kernel)
theorem u1236 : Cond.instanceMethod yX10_undo ∈ zU := z_t 1236 (by decide +kernel) (by decide +kernel)
theorem u1237 : Cond.selects RX10 yX10_undo yX10_undo ∈ zU := z_t 1237 (by decide +kernel) (by decide +kernel)
theorem u1238 : Cond.code yX10_undo cX10_undo 2 (some .int) ∈ zU := z_t 1238 (by decide +kernel) (by decide +kernel)
theorem u1239 : Cond.methodLink RL 177 yX10_tear ∈ zU := z_t 1239 (by decide +kernel) (by decide +kernel)
theorem u1240 : Cond.instanceMethod yX10_tear ∈ zU := z_t 1240 (by decide +kernel) (by decide +kernel)
theorem u1241 : Cond.selects RX10 yX10_tear yX10_tear ∈ zU := z_t 1241 (by decide +kernel) (by decide +kernel)
theorem u1242 : Cond.code yX10_tear cX10_tear 2 (some .int) ∈ zU := z_t 1242 (by decide +kernel) (by decide +kernel)
theorem u1243 : Cond.methodLink RL 181 yX10_count ∈ zU := z_t 1243 (by decide +kernel) (by decide +kernel)
theorem u1244 : Cond.instanceMethod yX10_count ∈ zU := z_t 1244 (by decide +kernel) (by decide +kernel)
theorem u1245 : Cond.selects RX10 yX10_count yX10_count ∈ zU := z_t 1245 (by decide +kernel) (by decide +kernel)
theorem u1246 : Cond.code yX10_count cX10_count 2 (some .int) ∈ zU := z_t 1246 (by decide +kernel) (by decide +kernel)
theorem u1247 : Cond.methodLink RX10 334 yX10_hoards ∈ zU := z_t 1247 (by decide +kernel) (by decide +kernel)
theorem u1249 : Cond.instanceMethod yX10_hoards ∈ zU := z_t 1249 (by decide +kernel) (by decide +kernel)
theorem u1250 : Cond.code yX10_hoards cX10_hoards 3 (some .int) ∈ zU := z_t 1250 (by decide +kernel) (by decide +kernel)
theorem u1251 : Cond.methodLink RL 185 yX10_status ∈ zU := z_t 1251 (by decide +kernel) (by decide +kernel)
theorem u1252 : Cond.instanceMethod yX10_status ∈ zU := z_t 1252 (by decide +kernel) (by decide +kernel)
theorem u1253 : Cond.selects RX10 yX10_status yX10_status ∈ zU := z_t 1253 (by decide +kernel) (by decide +kernel)
theorem u1254 : Cond.code yX10_status cX10_status 4 (some .int) ∈ zU := z_t 1254 (by decide +kernel) (by decide +kernel)
theorem u1255 : Cond.constantLong RX10 337 (-1) ∈ zU := z_t 1255 (by decide +kernel) (by decide +kernel)
theorem u1256 : Cond.constantLong RX10 339 (6) ∈ zU := z_t 1256 (by decide +kernel) (by decide +kernel)
theorem u1257 : Cond.constantLong RL 142 (4294967295) ∈ zU := z_t 1257 (by decide +kernel) (by decide +kernel)
theorem u1258 : Cond.sameMethod "BeardHire$Ginger" "BeardHire$Ginger" "costs" "(II)I" ∈ zU := z_t 1258 (by decide +kernel) (by decide +kernel)
theorem u1259 : Cond.sameMethod "BeardHire$White" "BeardHire$White" "costs" "(II)I" ∈ zU := z_t 1259 (by decide +kernel) (by decide +kernel)
theorem u1260 : Cond.sameMethod "BeardHire$Ginger" "BeardHire$Ginger" "gains" "(Z)I" ∈ zU := z_t 1260 (by decide +kernel) (by decide +kernel)
theorem u1261 : Cond.sameMethod "BeardHire$Ginger" "BeardHire$Ginger" "meets" "(IZI)I" ∈ zU := z_t 1261 (by decide +kernel) (by decide +kernel)
theorem u1262 : Cond.sameMethod "BeardHire$White" "BeardHire$White" "meets" "(IZI)I" ∈ zU := z_t 1262 (by decide +kernel) (by decide +kernel)
theorem u1263 : Cond.sameMethod "BeardHire$Ginger" "BeardHire$Ginger" "leaves" "(I)I" ∈ zU := z_t 1263 (by decide +kernel) (by decide +kernel)
theorem u1269 : Cond.fieldLink RJ0 9 "java/lang/String" "value" "[B" ∈ zU := z_t 1269 (by decide +kernel) (by decide +kernel)
theorem u1270 : Cond.fieldLink RJ0 15 "java/lang/String" "coder" "B" ∈ zU := z_t 1270 (by decide +kernel) (by decide +kernel)
theorem us0 : Cond.selects RX9 yX9_finding yX9_finding ∈ zU := z_s 0 (by decide +kernel) (by decide +kernel)
theorem us1 : Cond.selects RX9 yX9_isBeard yX9_isBeard ∈ zU := z_s 1 (by decide +kernel) (by decide +kernel)
theorem us2 : Cond.selects RX9 yX9_isWearer yX9_isWearer ∈ zU := z_s 2 (by decide +kernel) (by decide +kernel)
theorem us3 : Cond.selects RX7 yX7_spendNight yX7_spendNight ∈ zU := z_s 3 (by decide +kernel) (by decide +kernel)
theorem us4 : Cond.selects RX7 yX7_combOut yX7_combOut ∈ zU := z_s 4 (by decide +kernel) (by decide +kernel)
theorem us5 : Cond.selects RX6 yX6_advance yX6_advance ∈ zU := z_s 5 (by decide +kernel) (by decide +kernel)
theorem us6 : Cond.selects RX6 yX6_tellItem yX6_tellItem ∈ zU := z_s 6 (by decide +kernel) (by decide +kernel)
theorem us7 : Cond.selects RX6 yX6_isWord yX6_isWord ∈ zU := z_s 7 (by decide +kernel) (by decide +kernel)
theorem us8 : Cond.selects RX6 yX6_tellBeard yX6_tellBeard ∈ zU := z_s 8 (by decide +kernel) (by decide +kernel)
theorem us9 : Cond.selects RX6 yX6_isNumber yX6_isNumber ∈ zU := z_s 9 (by decide +kernel) (by decide +kernel)
theorem us10 : Cond.selects RX6 yX6_takeNumber yX6_takeNumber ∈ zU := z_s 10 (by decide +kernel) (by decide +kernel)
theorem us11 : Cond.selects RX6 yX6_tellWearer yX6_tellWearer ∈ zU := z_s 11 (by decide +kernel) (by decide +kernel)
theorem us12 : Cond.selects RX6 yX6_tellHouse yX6_tellHouse ∈ zU := z_s 12 (by decide +kernel) (by decide +kernel)
theorem us13 : Cond.selects RX6 yX6_tellHire yX6_tellHire ∈ zU := z_s 13 (by decide +kernel) (by decide +kernel)
theorem us14 : Cond.selects RX9 yX9_trialFollows yX9_trialFollows ∈ zU := z_s 14 (by decide +kernel) (by decide +kernel)
theorem us15 : Cond.selects RX10 yX10_becomes yX10_becomes ∈ zU := z_s 15 (by decide +kernel) (by decide +kernel)
theorem us16 : Cond.selects RX10 yX10_finds yX10_finds ∈ zU := z_s 16 (by decide +kernel) (by decide +kernel)
theorem us17 : Cond.selects RX10 yX10_isBeard yX10_isBeard ∈ zU := z_s 17 (by decide +kernel) (by decide +kernel)
theorem us18 : Cond.selects RX10 yX10_house yX10_house ∈ zU := z_s 18 (by decide +kernel) (by decide +kernel)
theorem us19 : Cond.selects RX10 yX10_goers yX10_goers ∈ zU := z_s 19 (by decide +kernel) (by decide +kernel)
theorem us20 : Cond.selects RX10 yX10_placeOf yX10_placeOf ∈ zU := z_s 20 (by decide +kernel) (by decide +kernel)
theorem us21 : Cond.selects RX10 yX10_theirs yX10_theirs ∈ zU := z_s 21 (by decide +kernel) (by decide +kernel)
theorem us22 : Cond.selects RX10 yX10_isMonday yX10_isMonday ∈ zU := z_s 22 (by decide +kernel) (by decide +kernel)
theorem us23 : Cond.selects RX10 yX10_inShop yX10_inShop ∈ zU := z_s 23 (by decide +kernel) (by decide +kernel)
theorem us24 : Cond.selects RX10 yX10_its yX10_its ∈ zU := z_s 24 (by decide +kernel) (by decide +kernel)
theorem us25 : Cond.selects RX10 yX10_bearded yX10_bearded ∈ zU := z_s 25 (by decide +kernel) (by decide +kernel)
theorem us26 : Cond.selects RX10 yX10_purses yX10_purses ∈ zU := z_s 26 (by decide +kernel) (by decide +kernel)
theorem us27 : Cond.selects RX10 yX10_addsBeard yX10_addsBeard ∈ zU := z_s 27 (by decide +kernel) (by decide +kernel)
theorem us28 : Cond.selects RX10 yX10_costsOf yX10_costsOf ∈ zU := z_s 28 (by decide +kernel) (by decide +kernel)
theorem us29 : Cond.selects RX10 yX10_gainsOf yX10_gainsOf ∈ zU := z_s 29 (by decide +kernel) (by decide +kernel)
theorem us30 : Cond.selects RX10 yX10_meetsOf yX10_meetsOf ∈ zU := z_s 30 (by decide +kernel) (by decide +kernel)
theorem us31 : Cond.selects RX10 yX10_leavesOf yX10_leavesOf ∈ zU := z_s 31 (by decide +kernel) (by decide +kernel)
theorem us32 : Cond.selects RX10 yX10_addsWearer yX10_addsWearer ∈ zU := z_s 32 (by decide +kernel) (by decide +kernel)
theorem us33 : Cond.selects RX10 yX10_isWearer yX10_isWearer ∈ zU := z_s 33 (by decide +kernel) (by decide +kernel)
theorem us34 : Cond.selects RX10 yX10_wornBy yX10_wornBy ∈ zU := z_s 34 (by decide +kernel) (by decide +kernel)
theorem us35 : Cond.selects RX10 yX10_nightsGo yX10_nightsGo ∈ zU := z_s 35 (by decide +kernel) (by decide +kernel)
theorem us36 : Cond.selects RX10 yX10_night yX10_night ∈ zU := z_s 36 (by decide +kernel) (by decide +kernel)
theorem us37 : Cond.selects RX10 yX10_wears yX10_wears ∈ zU := z_s 37 (by decide +kernel) (by decide +kernel)
theorem us38 : Cond.selects RX10 yX10_goesOut yX10_goesOut ∈ zU := z_s 38 (by decide +kernel) (by decide +kernel)
theorem us39 : Cond.selects RX10 yX10_behind yX10_behind ∈ zU := z_s 39 (by decide +kernel) (by decide +kernel)
theorem us40 : Cond.selects RX10 yX10_laysAside yX10_laysAside ∈ zU := z_s 40 (by decide +kernel) (by decide +kernel)
theorem us41 : Cond.selects RX10 yX10_takesBack yX10_takesBack ∈ zU := z_s 41 (by decide +kernel) (by decide +kernel)
theorem us42 : Cond.selects RX10 yX10_wornBehind yX10_wornBehind ∈ zU := z_s 42 (by decide +kernel) (by decide +kernel)
theorem us43 : Cond.selects RX10 yX10_firstDown yX10_firstDown ∈ zU := z_s 43 (by decide +kernel) (by decide +kernel)
theorem us44 : Cond.selects RX10 yX10_mostBy yX10_mostBy ∈ zU := z_s 44 (by decide +kernel) (by decide +kernel)
theorem us45 : Cond.selects RX10 yX10_pursesBehind yX10_pursesBehind ∈ zU := z_s 45 (by decide +kernel) (by decide +kernel)
theorem us46 : Cond.selects RX10 yX10_saves yX10_saves ∈ zU := z_s 46 (by decide +kernel) (by decide +kernel)
theorem us47 : Cond.selects RX10 yX10_token yX10_token ∈ zU := z_s 47 (by decide +kernel) (by decide +kernel)
theorem us48 : Cond.selects RX10 yX10_byteAt yX10_byteAt ∈ zU := z_s 48 (by decide +kernel) (by decide +kernel)
theorem us49 : Cond.selects RX10 yX10_item yX10_item ∈ zU := z_s 49 (by decide +kernel) (by decide +kernel)
theorem us50 : Cond.selects RX10 yX10_kindHere yX10_kindHere ∈ zU := z_s 50 (by decide +kernel) (by decide +kernel)
theorem us51 : Cond.selects RX10 yX10_word yX10_word ∈ zU := z_s 51 (by decide +kernel) (by decide +kernel)
theorem us52 : Cond.selects RX10 yX10_beardItem yX10_beardItem ∈ zU := z_s 52 (by decide +kernel) (by decide +kernel)
theorem us53 : Cond.selects RX10 yX10_must yX10_must ∈ zU := z_s 53 (by decide +kernel) (by decide +kernel)
theorem us54 : Cond.selects RX10 yX10_partItem yX10_partItem ∈ zU := z_s 54 (by decide +kernel) (by decide +kernel)
theorem us55 : Cond.selects RX10 yX10_number yX10_number ∈ zU := z_s 55 (by decide +kernel) (by decide +kernel)
theorem us56 : Cond.selects RX10 yX10_wearerItem yX10_wearerItem ∈ zU := z_s 56 (by decide +kernel) (by decide +kernel)
theorem us57 : Cond.selects RX10 yX10_houseItem yX10_houseItem ∈ zU := z_s 57 (by decide +kernel) (by decide +kernel)
theorem us58 : Cond.selects RX10 yX10_hireItem yX10_hireItem ∈ zU := z_s 58 (by decide +kernel) (by decide +kernel)
theorem us59 : Cond.selects RX10 yX10_numberHere yX10_numberHere ∈ zU := z_s 59 (by decide +kernel) (by decide +kernel)
theorem us60 : Cond.selects RX10 yX10_putsBack yX10_putsBack ∈ zU := z_s 60 (by decide +kernel) (by decide +kernel)
theorem us61 : Cond.selects RX10 yX10_wrongSheet yX10_wrongSheet ∈ zU := z_s 61 (by decide +kernel) (by decide +kernel)
theorem us62 : Cond.selects RX10 yX10_isBook yX10_isBook ∈ zU := z_s 62 (by decide +kernel) (by decide +kernel)
theorem us63 : Cond.selects RX10 yX10_hoards yX10_hoards ∈ zU := z_s 63 (by decide +kernel) (by decide +kernel)
theorem inU0 : ∀ w ∈ u_ws RX0 TX0 0, w ∈ zU := fun w h => absurd h List.not_mem_nil
theorem inU1 : ∀ w ∈ u_ws RX1 TX1 0, w ∈ zU := fun w h => absurd h List.not_mem_nil
theorem inU2 : ∀ w ∈ u_ws RX2 TX2 0, w ∈ zU := fun w h => absurd h List.not_mem_nil
theorem inU3 : ∀ w ∈ u_ws RX3 TX3 0, w ∈ zU := fun w h => absurd h List.not_mem_nil
theorem inU4 : ∀ w ∈ u_ws RX4 TX4 0, w ∈ zU := fun w h => absurd h List.not_mem_nil
theorem inU5 : ∀ w ∈ u_ws RX5 TX5 3, w ∈ zU := List.forall_mem_cons.mpr ⟨u182, List.forall_mem_cons.mpr ⟨u184, List.forall_mem_cons.mpr ⟨u186, fun _ h => absurd h List.not_mem_nil⟩⟩⟩
theorem inU6 : ∀ w ∈ u_ws RX6 TX6 8, w ∈ zU := List.forall_mem_cons.mpr ⟨u152, List.forall_mem_cons.mpr ⟨u154, List.forall_mem_cons.mpr ⟨u156, List.forall_mem_cons.mpr ⟨u158, List.forall_mem_cons.mpr ⟨u160, List.forall_mem_cons.mpr ⟨u162, List.forall_mem_cons.mpr ⟨u164, List.forall_mem_cons.mpr ⟨u166, fun _ h => absurd h List.not_mem_nil⟩⟩⟩⟩⟩⟩⟩⟩
theorem inU7 : ∀ w ∈ u_ws RX7 TX7 13, w ∈ zU := List.forall_mem_cons.mpr ⟨u109, List.forall_mem_cons.mpr ⟨u111, List.forall_mem_cons.mpr ⟨u113, List.forall_mem_cons.mpr ⟨u115, List.forall_mem_cons.mpr ⟨u117, List.forall_mem_cons.mpr ⟨u119, List.forall_mem_cons.mpr ⟨u121, List.forall_mem_cons.mpr ⟨u123, List.forall_mem_cons.mpr ⟨u125, List.forall_mem_cons.mpr ⟨u127, List.forall_mem_cons.mpr ⟨u129, List.forall_mem_cons.mpr ⟨u131, List.forall_mem_cons.mpr ⟨u133, fun _ h => absurd h List.not_mem_nil⟩⟩⟩⟩⟩⟩⟩⟩⟩⟩⟩⟩⟩
theorem inU8 : ∀ w ∈ u_ws RX8 TX8 0, w ∈ zU := fun w h => absurd h List.not_mem_nil
theorem inU9 : ∀ w ∈ u_ws RX9 TX9 7, w ∈ zU := List.forall_mem_cons.mpr ⟨u197, List.forall_mem_cons.mpr ⟨u199, List.forall_mem_cons.mpr ⟨u201, List.forall_mem_cons.mpr ⟨u203, List.forall_mem_cons.mpr ⟨u205, List.forall_mem_cons.mpr ⟨u207, List.forall_mem_cons.mpr ⟨u209, fun _ h => absurd h List.not_mem_nil⟩⟩⟩⟩⟩⟩⟩
theorem inU10 : ∀ w ∈ u_ws RX10 TX10 16, w ∈ zU := List.forall_mem_cons.mpr ⟨u783, List.forall_mem_cons.mpr ⟨u785, List.forall_mem_cons.mpr ⟨u787, List.forall_mem_cons.mpr ⟨u789, List.forall_mem_cons.mpr ⟨u791, List.forall_mem_cons.mpr ⟨u793, List.forall_mem_cons.mpr ⟨u795, List.forall_mem_cons.mpr ⟨u797, List.forall_mem_cons.mpr ⟨u799, List.forall_mem_cons.mpr ⟨u801, List.forall_mem_cons.mpr ⟨u803, List.forall_mem_cons.mpr ⟨u805, List.forall_mem_cons.mpr ⟨u807, List.forall_mem_cons.mpr ⟨u809, List.forall_mem_cons.mpr ⟨u811, List.forall_mem_cons.mpr ⟨u813, fun _ h => absurd h List.not_mem_nil⟩⟩⟩⟩⟩⟩⟩⟩⟩⟩⟩⟩⟩⟩⟩⟩
end
section
/-! the worlds by number: a memory of ints and a memory of longs, by cell and place -/
abbrev zM : Type := (Nat → Nat → Int32) × (Nat → Nat → Int64)
def zst (M : zM) (k j : Nat) (v : Int32) : zM := (fun a b => if a = k ∧ b = j then v else M.1 a b, M.2)
def zstL (M : zM) (k j : Nat) (v : Int64) : zM := (M.1, fun a b => if a = k ∧ b = j then v else M.2 a b)
def zcp (M : zM) (k0 k1 sp dp n : Nat) : zM := (fun a b => if a = k1 then va_cpy (M.1 k0) (M.1 k1) sp dp n b else M.1 a b, M.2)
def zcpL (M : zM) (k0 k1 sp dp n : Nat) : zM := (M.1, fun a b => if a = k1 then va_cpy (M.2 k0) (M.2 k1) sp dp n b else M.2 a b)
theorem zst_ne {M : zM} {k j : Nat} {v : Int32} : ∀ i, i ≠ k → (zst M k j v).1 i = M.1 i ∧ (zst M k j v).2 i = M.2 i := fun i hi => ⟨by funext b; simp [zst, hi], rfl⟩
theorem zstL_ne {M : zM} {k j : Nat} {v : Int64} : ∀ i, i ≠ k → (zstL M k j v).1 i = M.1 i ∧ (zstL M k j v).2 i = M.2 i := fun i hi => ⟨rfl, by funext b; simp [zstL, hi]⟩
theorem zcp_ne {M : zM} {k0 k1 sp dp n : Nat} : ∀ i, i ≠ k1 → (zcp M k0 k1 sp dp n).1 i = M.1 i ∧ (zcp M k0 k1 sp dp n).2 i = M.2 i := fun i hi => ⟨by funext b; simp [zcp, hi], rfl⟩
theorem zcpL_ne {M : zM} {k0 k1 sp dp n : Nat} : ∀ i, i ≠ k1 → (zcpL M k0 k1 sp dp n).1 i = M.1 i ∧ (zcpL M k0 k1 sp dp n).2 i = M.2 i := fun i hi => ⟨rfl, by funext b; simp [zcpL, hi]⟩
theorem zst_at {M : zM} {k j : Nat} {v : Int32} : (zst M k j v).1 k = upd (M.1 k) j v := by
  funext b
  by_cases h : b = j <;> simp [zst, upd, h]
theorem zstL_at {M : zM} {k j : Nat} {v : Int64} : (zstL M k j v).2 k = vp_updL (M.2 k) j v := by
  funext b
  by_cases h : b = j <;> simp [zstL, vp_updL, h]
theorem zcp_at {M : zM} {k0 k1 sp dp n : Nat} : (zcp M k0 k1 sp dp n).1 k1 = va_cpy (M.1 k0) (M.1 k1) sp dp n := by funext b; simp [zcp]
theorem zcpL_at {M : zM} {k0 k1 sp dp n : Nat} : (zcpL M k0 k1 sp dp n).2 k1 = va_cpy (M.2 k0) (M.2 k1) sp dp n := by funext b; simp [zcpL]
/-- a place of a row of n -/
def zix (i : Int32) (n : Nat) : Option Nat := if i < 0 ∨ n ≤ i.toNatClampNeg then none else some i.toNatClampNeg
theorem zix_some {i : Int32} {n j : Nat} (h : zix i n = some j) : vp_in i n ∧ i.toNatClampNeg = j := by
  unfold zix at h
  by_cases hc : i < 0 ∨ n ≤ i.toNatClampNeg
  · rw [if_pos hc] at h; cases h
  · rw [if_neg hc] at h; exact ⟨hc, Option.some.inj h⟩
theorem zix_lt {i : Int32} {n j : Nat} (h : zix i n = some j) : j < n := by
  obtain ⟨h1, h2⟩ := zix_some h
  rw [← h2]; exact Nat.not_le.mp fun q => h1 (Or.inr q)
/-- a truth -/
def zbl (v : Int32) : Option Int32 := if v &&& 1 = v then some v else none
theorem zbl_some {v r : Int32} (h : zbl v = some r) : v &&& 1 = v ∧ v = r := by
  unfold zbl at h
  by_cases hc : v &&& 1 = v
  · rw [if_pos hc] at h; exact ⟨hc, Option.some.inj h⟩
  · rw [if_neg hc] at h; cases h
/-- a character -/
def zch (v : Int32) : Option Int32 := if (v.toUInt32 % 65536).toInt32 = v then some v else none
def zrem (x y : Int32) : Int32 := x - x / y * y
theorem z_bind {α β : Type} {x : Option α} {f : α → Option β} {b : β} (h : x.bind f = some b) : ∃ a, x = some a ∧ f a = some b := Option.bind_eq_some_iff.mp h
theorem z_let {α β : Type} {a : α} {f : α → Option β} {b : β} (h : (some a).bind f = some b) : ∃ x, x = a ∧ f x = some b := ⟨a, rfl, h⟩
theorem z_if {α : Type} {c : Prop} [Decidable c] {x y b : Option α} (hc : c) (h : (if c then x else y) = b) : x = b := by rw [if_pos hc] at h; exact h
theorem z_ifn {α : Type} {c : Prop} [Decidable c] {x y b : Option α} (hc : ¬ c) (h : (if c then x else y) = b) : y = b := by rw [if_neg hc] at h; exact h
def zFuel : Nat := 1000000
/-- a world: classes and slots, array classes, addresses, how many cells, contents by a memory, what else is known -/
abbrev zWd : Type := va_G × List (ClassId × FieldType) × (Nat → Nat) × Nat × (zM → Nat → va_E) × (State → Heap → Prop)
def zD (w : zWd) : va_G := w.1
def zt (w : zWd) : List (ClassId × FieldType) := w.2.1
def za (w : zWd) : Nat → Nat := w.2.2.1
def zn (w : zWd) : Nat := w.2.2.2.1
def zc (w : zWd) : zM → Nat → va_E := w.2.2.2.2.1
def ze (w : zWd) : State → Heap → Prop := w.2.2.2.2.2
def zA (w : zWd) : Nat → Prop := fun q => ∃ k, k < zn w ∧ q = za w k
def zL (w : zWd) (M : zM) : va_W := (List.range (zn w)).map (fun k => (za w k, zc w M k))
def zOk (w : zWd) : Prop := (∀ i j, i < zn w → j < zn w → za w i = za w j → i = j) ∧ (∀ (M M' : zM) (i : Nat), M.1 i = M'.1 i → M.2 i = M'.2 i → zc w M i = zc w M' i) ∧
  (∀ (s U : State) (H H1 : Heap), ze w s H → s.WarmedH U.vm → (∀ q, q < H.size → ¬ zA w q → H1[q]? = H[q]?) → ze w U H1) ∧ ∀ (U : State) (g : JFrame) (mk : MethodId) (a : Array Value) (H : Heap), ze w U H → ze w (U.calling g mk a) H
theorem zL_at {w : zWd} {M : zM} {k : Nat} (hk : k < zn w) : (zL w M)[k]? = some (za w k, zc w M k) := by
  simp [zL, hk]
theorem zL_of {w : zWd} {M : zM} {k : Nat} {q : Nat × va_E} (h : (zL w M)[k]? = some q) : k < zn w ∧ q = (za w k, zc w M k) := by
  have hk : k < zn w := by
    have := (List.getElem?_eq_some_iff.mp h).1
    simpa [zL] using this
  rw [zL_at hk] at h
  exact ⟨hk, (Option.some.inj h).symm⟩
theorem zL_set {w : zWd} (ho : zOk w) {M M' : zM} {k : Nat} {e : va_E} (hk : k < zn w) (he : zc w M' k = e) (hne : ∀ i, i ≠ k → M'.1 i = M.1 i ∧ M'.2 i = M.2 i) : (zL w M).set k (za w k, e) = zL w M' := by
  apply List.ext_getElem?
  intro i
  by_cases hi : i = k
  · subst hi
    rw [List.getElem?_set_self (by simpa [zL] using hk), zL_at hk, he]
  · rw [List.getElem?_set_ne (Ne.symm hi)]
    by_cases hl : i < zn w
    · rw [zL_at hl, zL_at hl, ho.2.1 M' M i (hne i hi).1 (hne i hi).2]
    · rw [List.getElem?_eq_none (by simp [zL]; omega), List.getElem?_eq_none (by simp [zL]; omega)]
theorem zL_D {w : zWd} (ho : zOk w) (M : zM) : va_D (zA w) (zL w M) := by
  refine ⟨fun i j x y hi hj hxy => ?_, fun k q hk => ?_⟩
  · obtain ⟨h1, rfl⟩ := zL_of hi
    obtain ⟨h2, rfl⟩ := zL_of hj
    exact ho.1 i j h1 h2 hxy
  · obtain ⟨h1, rfl⟩ := zL_of hk
    exact ⟨k, h1, rfl⟩
def zP (w : zWd) (M : zM) (H : Heap) : Prop := va_P (zD w) vwCl (zL w M) H
def zH (w : zWd) (s : State) (M : zM) (H : Heap) (locs : List Loc) : Prop := zP w M H ∧ va_S (zA w) s.heap H locs
def zG (w : zWd) (p : Program) (s : State) (m : MethodId) (c : Code) (args : Array Value) (cc : ByteArray) (own : String) (nL : Nat) : Prop :=
  p.tables.exec = Jvm.exec ∧ c.code = cc ∧ c.maxLocals = nL ∧ s.vm.findClass own = some m.cls ∧ (∀ u ∈ zU, u.before args s = true) ∧ va_K (zD w) vwCl (zt w) s ∧ zOk w ∧ ze w s s.heap
theorem zG.x {w : zWd} {p : Program} {s : State} {m : MethodId} {c : Code} {args : Array Value} {cc : ByteArray} {own : String} {nL : Nat} (G : zG w p s m c args cc own nL) : p.tables.exec = Jvm.exec := G.1
theorem zG.b {w : zWd} {p : Program} {s : State} {m : MethodId} {c : Code} {args : Array Value} {cc : ByteArray} {own : String} {nL : Nat} (G : zG w p s m c args cc own nL) : c.code = cc := G.2.1
theorem zG.ml {w : zWd} {p : Program} {s : State} {m : MethodId} {c : Code} {args : Array Value} {cc : ByteArray} {own : String} {nL : Nat} (G : zG w p s m c args cc own nL) : c.maxLocals = nL := G.2.2.1
theorem zG.o {w : zWd} {p : Program} {s : State} {m : MethodId} {c : Code} {args : Array Value} {cc : ByteArray} {own : String} {nL : Nat} (G : zG w p s m c args cc own nL) : s.vm.findClass own = some m.cls := G.2.2.2.1
theorem zG.t {w : zWd} {p : Program} {s : State} {m : MethodId} {c : Code} {args : Array Value} {cc : ByteArray} {own : String} {nL : Nat} (G : zG w p s m c args cc own nL) {u : Cond} (h : u ∈ zU) : u.before args s = true := G.2.2.2.2.1 u h
theorem zG.K {w : zWd} {p : Program} {s : State} {m : MethodId} {c : Code} {args : Array Value} {cc : ByteArray} {own : String} {nL : Nat} (G : zG w p s m c args cc own nL) : va_K (zD w) vwCl (zt w) s := G.2.2.2.2.2.1
theorem zG.k {w : zWd} {p : Program} {s : State} {m : MethodId} {c : Code} {args : Array Value} {cc : ByteArray} {own : String} {nL : Nat} (G : zG w p s m c args cc own nL) : zOk w := G.2.2.2.2.2.2.1
theorem zG.e {w : zWd} {p : Program} {s : State} {m : MethodId} {c : Code} {args : Array Value} {cc : ByteArray} {own : String} {nL : Nat} (G : zG w p s m c args cc own nL) : ze w s s.heap := G.2.2.2.2.2.2.2
theorem zG.f {w : zWd} {p : Program} {s : State} {m : MethodId} {c : Code} {args : Array Value} {cc : ByteArray} {own : String} {nL : Nat} (G : zG w p s m c args cc own nL) : CallFix p m c cc nL s args zU own := ⟨G.1, G.2.1, G.2.2.1, G.2.2.2.1, G.2.2.2.2.1⟩
/-- what a cell is: an object, a row of ints, of longs, of references -/
def zOB (w : zWd) (k ci : Nat) (fs : zM → List Value) : Prop := k < zn w ∧ ∀ M, zc w M k = .inr (ci, fs M)
def zIA (w : zWd) (k n : Nat) : Prop := k < zn w ∧ ∃ (cA : ClassId) (t : Nat), (zt w)[t]? = some (cA, .int) ∧ ∀ M, zc w M k = .inl (cA, n, .inl (M.1 k))
def zLA (w : zWd) (k n : Nat) : Prop := k < zn w ∧ ∃ (cA : ClassId) (t : Nat), (zt w)[t]? = some (cA, .long) ∧ ∀ M, zc w M k = .inl (cA, n, .inr (.inl (M.2 k)))
def zRA (w : zWd) (k n : Nat) (r : Nat → Nat) : Prop := k < zn w ∧ ∃ (cA : ClassId) (t : Nat) (C : String), (zt w)[t]? = some (cA, .object C) ∧ ∀ M, zc w M k = .inl (cA, n, .inr (.inr (.inr (.inr (fun j => some (za w (r j)))))))
section ZR
variable {p : Program} {l : Launch} {e : Env} {R : Room} {s : State} {m : MethodId} {args : Array Value} {below : List Frame} {meth : Method} {c : Code} {H : Heap} {locs : List Loc} {Q : State → Prop}
variable {cc : ByteArray} {pc nL : Nat} {ls : Array Slot} {rest : List Value} {w : zWd} {M : zM} {own : String}
theorem z_get {ci Nf idx k : Nat} {C : String} {T : u_T} {fs : zM → List Value} {v : Value} (G : zG w p s m c args cc own nL) (hP : zP w M H) (hO : zOB w k ci fs) (hc : vwCl[ci]? = some (C, T, Nf)) (hin : ∀ u ∈ u_ws C T Nf, u ∈ zU) (j : Nat) (hj : j < Nf)
    (hl : Cond.fieldLink own idx (T j).1 (T j).2.1 (T j).2.2.1 ∈ zU) (hv : (fs M)[j]? = some v) (hdg : decode cc pc = .ok (.getfield idx, 3))
    (kk : W p l e R s m args below meth c H locs 0 0 Q (F0 m (pc + 3) ls (v :: rest))) : W p l e R s m args below meth c H locs 0 0 Q (F0 m pc ls (.ref (za w k) :: rest)) :=
  va_get (D := zD w) (ci := ci) (C := C) (T := T) (N := Nf) (Ts := zU) (ref := (T j).1) G.x G.b G.2.2.2.2.1 hin G.o G.K hP k (by rw [zL_at hO.1, hO.2]) hc j hj (G.t hl) (fun _ h => h) hv hdg kk
theorem z_put {ci Nf idx k : Nat} {C : String} {T : u_T} {fs : zM → List Value} {v : Int32} {ty : FieldType} (G : zG w p s m c args cc own nL) (hH : zH w s M H locs) (hO : zOB w k ci fs) (hc : vwCl[ci]? = some (C, T, Nf)) (hin : ∀ u ∈ u_ws C T Nf, u ∈ zU) (ty0 : Nat → FieldType) (hty : ∀ k, k < Nf → parseFieldDescriptor (T k).2.2.1 = some (ty0 k)) (hnm : ∀ a, a < Nf → ∀ b, b < Nf → a ≠ b → (T a).2.1 ≠ (T b).2.1) (j : Nat) (hj : j < Nf)
    (hl : Cond.fieldLink own idx (T j).1 (T j).2.1 (T j).2.2.1 ∈ zU) (hfin : (T j).2.2.2 = false) (hd : ty0 j = ty) (hn : narrow ty (.int v) = .int v) (hfit : fits ty (.int v) = true) (hfs : fs (zst M k j v) = (fs M).set j (.int v)) (hlen : j < (fs M).length) (hdg : decode cc pc = .ok (.putfield idx, 3))
    (kk : ∀ (H1 : Heap) (locs1 : List Loc), zH w s (zst M k j v) H1 locs1 → W p l e R s m args below meth c H1 locs1 0 0 Q (F0 m (pc + 3) ls rest)) : W p l e R s m args below meth c H locs 0 0 Q (F0 m pc ls (.int v :: .ref (za w k) :: rest)) := by
  refine va_put (D := zD w) (ci := ci) (C := C) (T := T) (N := Nf) (Ts := zU) (ref := (T j).1) (ty := ty) G.x G.b G.2.2.2.2.1 hin ty0 hty hnm G.o G.K hH.1 (zL_D G.k M) hH.2 k (by rw [zL_at hO.1, hO.2]) hc j hj (G.t hl) (fun _ h => h) hfin (by rw [hty j hj, hd]) hn hfit hlen hdg (fun H1 locs1 hP hD hS => ?_)
  refine kk H1 locs1 ⟨?_, hS⟩
  rw [zL_set G.k (M' := zst M k j v) hO.1 (by rw [hO.2, hfs]) zst_ne] at hP
  exact hP
theorem z_iald {k n j : Nat} {i : Int32} (G : zG w p s m c args cc own nL) (hP : zP w M H) (hA : zIA w k n) (hj : zix i n = some j) (hdg : decode cc pc = .ok (.iaload, 1))
    (kk : W p l e R s m args below meth c H locs 0 0 Q (F0 m (pc + 1) ls (.int (M.1 k j) :: rest))) : W p l e R s m args below meth c H locs 0 0 Q (F0 m pc ls (.int i :: .ref (za w k) :: rest)) := by
  obtain ⟨hk, cA, t, ht, hA⟩ := hA
  obtain ⟨h1, h2⟩ := zix_some hj
  refine va_iald (D := zD w) G.x G.b G.K hP k t (f := M.1 k) (by rw [zL_at hk, hA]) ht h1 hdg ?_
  rw [h2]; exact kk
theorem z_lald {k n j : Nat} {i : Int32} (G : zG w p s m c args cc own nL) (hP : zP w M H) (hA : zLA w k n) (hj : zix i n = some j) (hdg : decode cc pc = .ok (.laload, 1))
    (kk : W p l e R s m args below meth c H locs 0 0 Q (F0 m (pc + 1) ls (.long (M.2 k j) :: rest))) : W p l e R s m args below meth c H locs 0 0 Q (F0 m pc ls (.int i :: .ref (za w k) :: rest)) := by
  obtain ⟨hk, cA, t, ht, hA⟩ := hA
  obtain ⟨h1, h2⟩ := zix_some hj
  refine va_lald (D := zD w) G.x G.b G.K hP k t (f := M.2 k) (by rw [zL_at hk, hA]) ht h1 hdg ?_
  rw [h2]; exact kk
theorem z_aald {k n j : Nat} {i : Int32} {r : Nat → Nat} (G : zG w p s m c args cc own nL) (hP : zP w M H) (hA : zRA w k n r) (hj : zix i n = some j) (hdg : decode cc pc = .ok (.aaload, 1))
    (kk : W p l e R s m args below meth c H locs 0 0 Q (F0 m (pc + 1) ls (.ref (za w (r j)) :: rest))) : W p l e R s m args below meth c H locs 0 0 Q (F0 m pc ls (.int i :: .ref (za w k) :: rest)) := by
  obtain ⟨hk, cA, t, C, ht, hA⟩ := hA
  obtain ⟨h1, h2⟩ := zix_some hj
  refine va_aldq (D := zD w) G.x G.b G.K hP k t (C := C) (f := fun j => some (za w (r j))) (by rw [zL_at hk, hA]) ht h1 hdg ?_
  rw [h2]; exact kk
theorem z_iast {k n j : Nat} {i v : Int32} (G : zG w p s m c args cc own nL) (hH : zH w s M H locs) (hA : zIA w k n) (hj : zix i n = some j) (hdg : decode cc pc = .ok (.iastore, 1))
    (kk : ∀ (H1 : Heap) (locs1 : List Loc), zH w s (zst M k j v) H1 locs1 → W p l e R s m args below meth c H1 locs1 0 0 Q (F0 m (pc + 1) ls rest)) : W p l e R s m args below meth c H locs 0 0 Q (F0 m pc ls (.int v :: .int i :: .ref (za w k) :: rest)) := by
  obtain ⟨hk, cA, t, ht, hA⟩ := hA
  obtain ⟨h1, h2⟩ := zix_some hj
  refine va_iast (D := zD w) G.x G.b G.K hH.1 (zL_D G.k M) hH.2 k t (f := M.1 k) (by rw [zL_at hk, hA]) ht h1 hdg (fun H1 locs1 hP hD hS => kk H1 locs1 ⟨?_, hS⟩)
  rw [zL_set G.k (M' := zst M k j v) hk (by rw [hA, zst_at, h2]) zst_ne] at hP
  exact hP
theorem z_last {k n j : Nat} {i : Int32} {v : Int64} (G : zG w p s m c args cc own nL) (hH : zH w s M H locs) (hA : zLA w k n) (hj : zix i n = some j) (hdg : decode cc pc = .ok (.lastore, 1))
    (kk : ∀ (H1 : Heap) (locs1 : List Loc), zH w s (zstL M k j v) H1 locs1 → W p l e R s m args below meth c H1 locs1 0 0 Q (F0 m (pc + 1) ls rest)) : W p l e R s m args below meth c H locs 0 0 Q (F0 m pc ls (.long v :: .int i :: .ref (za w k) :: rest)) := by
  obtain ⟨hk, cA, t, ht, hA⟩ := hA
  obtain ⟨h1, h2⟩ := zix_some hj
  refine va_last (D := zD w) G.x G.b G.K hH.1 (zL_D G.k M) hH.2 k t (f := M.2 k) (by rw [zL_at hk, hA]) ht h1 hdg (fun H1 locs1 hP hD hS => kk H1 locs1 ⟨?_, hS⟩)
  rw [zL_set G.k (M' := zstL M k j v) hk (by rw [hA, zstL_at, h2]) zstL_ne] at hP
  exact hP
/-- System.arraycopy of ints: the places are tested ahead -/
def zcpOk (sp dp n : Int32) (n0 n1 : Nat) : Prop := ¬ sp < 0 ∧ ¬ dp < 0 ∧ ¬ n < 0 ∧ sp.toNatClampNeg + n.toNatClampNeg ≤ n0 ∧ dp.toNatClampNeg + n.toNatClampNeg ≤ n1
theorem z_copyi {k0 k1 n0 n1 idx : Nat} {sp dp n : Int32} (G : zG w p s m c args cc own nL) (hH : zH w s M H locs) (hsz : ls.size = nL) (h0 : zIA w k0 n0) (h1 : zIA w k1 n1) (hok : zcpOk sp dp n n0 n1)
    (hl : Cond.methodLink own idx arraycopyName ∈ zU) (hnat : Cond.native arraycopyName ∈ zU) (hstat : Cond.static arraycopyName ∈ zU) (hini : Cond.initialized "java/lang/System" ∈ zU) (hframes : 1 ≤ R.frames) (hlocals : (rest.map fun v => v.category).sum + (nativeFrameWords "java/lang/System" "arraycopy" 5 + 11) ≤ R.locals) (hdg : decode cc pc = .ok (.invokestatic idx, 3))
    (kk : ∀ (H1 : Heap) (locs1 : List Loc), zH w s (zcp M k0 k1 sp.toNatClampNeg dp.toNatClampNeg n.toNatClampNeg) H1 locs1 → W p l e R s m args below meth c H1 locs1 0 0 Q (F0 m (pc + 3) ls rest)) : W p l e R s m args below meth c H locs 0 0 Q (F0 m pc ls (.int n :: .int dp :: .ref (za w k1) :: .int sp :: .ref (za w k0) :: rest)) := by
  obtain ⟨hk0, cA0, t0, ht0, hA0⟩ := h0
  obtain ⟨hk1, cA1, t1, ht1, hA1⟩ := h1
  obtain ⟨a1, a2, a3, a4, a5⟩ := hok
  refine va_copyi (D := zD w) G.x G.b (G.ml.trans hsz.symm) G.o (G.t hl) (G.t hnat) (G.t hstat) (G.t hini) G.K hH.1 (zL_D G.k M) hH.2 k0 k1 t0 t1 (f := M.1 k0) (g := M.1 k1) (ty := .int) (by rw [zL_at hk0, hA0]) (by rw [zL_at hk1, hA1]) ht0 ht1 rfl a1 a2 a3 a4 a5 (fun _ _ => rfl) hframes hlocals hdg (fun H1 locs1 hP hD hS => kk H1 locs1 ⟨?_, hS⟩)
  rw [zL_set G.k (M' := zcp M k0 k1 sp.toNatClampNeg dp.toNatClampNeg n.toNatClampNeg) hk1 (by rw [hA1, zcp_at]) zcp_ne] at hP
  exact hP
theorem z_copyl {k0 k1 n0 n1 idx : Nat} {sp dp n : Int32} (G : zG w p s m c args cc own nL) (hH : zH w s M H locs) (hsz : ls.size = nL) (h0 : zLA w k0 n0) (h1 : zLA w k1 n1) (hok : zcpOk sp dp n n0 n1)
    (hl : Cond.methodLink own idx arraycopyName ∈ zU) (hnat : Cond.native arraycopyName ∈ zU) (hstat : Cond.static arraycopyName ∈ zU) (hini : Cond.initialized "java/lang/System" ∈ zU) (hframes : 1 ≤ R.frames) (hlocals : (rest.map fun v => v.category).sum + (nativeFrameWords "java/lang/System" "arraycopy" 5 + 11) ≤ R.locals) (hdg : decode cc pc = .ok (.invokestatic idx, 3))
    (kk : ∀ (H1 : Heap) (locs1 : List Loc), zH w s (zcpL M k0 k1 sp.toNatClampNeg dp.toNatClampNeg n.toNatClampNeg) H1 locs1 → W p l e R s m args below meth c H1 locs1 0 0 Q (F0 m (pc + 3) ls rest)) : W p l e R s m args below meth c H locs 0 0 Q (F0 m pc ls (.int n :: .int dp :: .ref (za w k1) :: .int sp :: .ref (za w k0) :: rest)) := by
  obtain ⟨hk0, cA0, t0, ht0, hA0⟩ := h0
  obtain ⟨hk1, cA1, t1, ht1, hA1⟩ := h1
  obtain ⟨a1, a2, a3, a4, a5⟩ := hok
  refine va_copyl (D := zD w) G.x G.b (G.ml.trans hsz.symm) G.o (G.t hl) (G.t hnat) (G.t hstat) (G.t hini) G.K hH.1 (zL_D G.k M) hH.2 k0 k1 t0 t1 (f := M.2 k0) (g := M.2 k1) (ty := .long) (by rw [zL_at hk0, hA0]) (by rw [zL_at hk1, hA1]) ht0 ht1 rfl a1 a2 a3 a4 a5 (fun _ _ => rfl) hframes hlocals hdg (fun H1 locs1 hP hD hS => kk H1 locs1 ⟨?_, hS⟩)
  rw [zL_set G.k (M' := zcpL M k0 k1 sp.toNatClampNeg dp.toNatClampNeg n.toNatClampNeg) hk1 (by rw [hA1, zcpL_at]) zcpL_ne] at hP
  exact hP
theorem z_irem {x y : Int32} (G : zG w p s m c args cc own nL) (hdg : decode cc pc = .ok (.irem, 1)) (hne : ¬ y = 0)
    (k : W p l e R s m args below meth c H locs 0 0 Q (F0 m (pc + 1) ls (.int (zrem x y) :: rest))) : W p l e R s m args below meth c H locs 0 0 Q (F0 m pc ls (.int y :: .int x :: rest)) := lv_irem G.x G.b hdg hne k
end ZR
end
section
/-! contracts: a method that writes the world, and one that only reads it -/
def zPre (w : zWd) (M : zM) (av : List Value) : Array Value → State → Prop := va_Pc av (fun U => zP w M U.heap ∧ va_K (zD w) vwCl (zt w) U ∧ ze w U U.heap)
def zQ (w : zWd) (ov : Option Value) (M : zM) : Array Value → State → Outcome → State → Prop := fun _ st o t => o = .returned ov ∧ zP w M t.heap ∧ va_F (zA w) st t
def zR (ov : Option Value) : Array Value → State → Outcome → State → Prop := fun _ st o t => o = .returned ov ∧ t.heap = st.heap
def zNo : Addr → Prop := fun _ => False
/-- a method's name: its class, and how many arguments -/
def zAr (y : MethodName) (C : String) (n : Nat) : Prop := y.cls = C ∧ y.cls ≠ "java/lang/invoke/MethodHandle" ∧ y.cls ≠ "java/lang/invoke/VarHandle" ∧ (parseMethodDescriptor y.desc).map (fun d => d.parameters.length) = some n
theorem zPre.blind {w : zWd} {M : zM} {av : List Value} (ho : zOk w) : FrameBlind (zPre w M av) := by
  intro a U g mk h
  obtain ⟨h1, h2, h3, h4⟩ := h
  exact ⟨h1, h2, va_K.moved (u := U) (U := U.calling g mk a) (Vm.Alike.refl U.vm) h3, ho.2.2.2 U g mk a U.heap h4⟩
theorem zPre.at {w : zWd} {p : Program} {s : State} {m : MethodId} {c : Code} {args : Array Value} {cc : ByteArray} {own : String} {nL : Nat} {M : zM} {H : Heap} {locs : List Loc} (av : List Value) (G : zG w p s m c args cc own nL) (hH : zH w s M H locs) :
    ∀ U : State, U.heap = H → s.WarmedH U.vm → zPre w M av av.toArray U := by
  intro U hU hW
  refine ⟨rfl, by rw [hU]; exact hH.1, va_K.moved hW.alike G.K, ?_⟩
  exact G.k.2.2.1 s U s.heap U.heap G.e hW (by rw [hU]; exact hH.2.2.1)
section ZC
variable {p : Program} {l : Launch} {e : Env} {R : Room} {s : State} {m : MethodId} {args : Array Value} {below : List Frame} {meth : Method} {c : Code} {H : Heap} {locs : List Loc} {Q : State → Prop}
variable {cc : ByteArray} {pc nL : Nat} {ls : Array Slot} {rest : List Value} {w : zWd} {M : zM} {own : String}
/-- the entry of a method -/
theorem z_met {y : MethodName} {cc : ByteArray} {maxL : Nat} {ret : Option FieldType} {rm : Room} {av : List Value} {Qc : Array Value → State → Outcome → State → Prop} {free : Addr → Prop} (ho : zOk w) (hy : plainName y.cls = true) (hm : (lg_sl av).length ≤ maxL)
    (body : ∀ (p : Program) (e : Env) (s : State) (m : MethodId) (below : List Frame) (meth : Method) (c : Code), zG w p s m c av.toArray cc y.cls maxL → meth.sig.returnType = ret → meth.locks = false → zH w s M s.heap [] → ∀ ls : Array Slot, lv_has ls maxL (lv_args 0 av) →
      W p l e rm s m av.toArray below meth c s.heap [] 0 0 (MQ below Qc av.toArray s 0 0 free) (F0 m 0 ls [])) : Met l y (Cond.code y cc maxL ret :: zU) rm (zPre w M av) Qc 0 0 free := by
  refine Met.ofW (cc := cc) (maxL := maxL) (ret := ret) hy rfl ?_
  intro p e s m args below meth c s₁ B hml hv
  obtain ⟨rfl, hP, hK, hE⟩ := hv
  have hts := atoms_spec (ws := Cond.code y cc maxL ret :: zU) B.pre
  have hown : s.vm.findClass y.cls = some m.cls := findClass_of_methodNamed B.named
  rw [lg_entry_eq]
  exact body p e s m below meth c ⟨B.exec, B.bytes, hml, hown, fun u hu => hts u (List.mem_cons_of_mem _ hu), hK, ho, hE⟩ B.returns B.notSynchronized ⟨hP, va_S.rf⟩ _ (lv_entry av hm)
/-- the receiver -/
theorem z_recv {ci Nf k : Nat} {C : String} {T : u_T} {fs : zM → List Value} (G : zG w p s m c args cc own nL) (hP : zP w M H) (hO : zOB w k ci fs) (hc : vwCl[ci]? = some (C, T, Nf)) : ∃ cell : Cell, H[za w k]? = some cell ∧ cell.vm.isStatics = false ∧ s.vm.findClass C = some cell.cls :=
  va_recv (q := (C, T, Nf)) (q0 := k) (ci := ci) (fs := fs M) G.K hP hc (by rw [zL_at hO.1, hO.2])
variable {y : MethodName} {bytes : ByteArray} {maxL n idx k ci Nf : Nat} {ret : Option FieldType} {rm : Room} {Qc : Array Value → State → Outcome → State → Prop} {free : Addr → Prop} {C : String} {T : u_T} {fs : zM → List Value} {As : List Value} {st0 : List Value}
theorem z_runV (G : zG w p s m c args cc own nL) (hH : zH w s M H locs) (hsz : ls.size = nL) (hM : Met l y (Cond.code y bytes maxL ret :: zU) rm (zPre w M (.ref (za w k) :: As)) Qc 0 0 free) (hO : zOB w k ci fs) (hc : vwCl[ci]? = some (C, T, Nf)) (ha : zAr y C n)
    (h1 : Cond.methodLink own idx y ∈ zU) (h2 : Cond.instanceMethod y ∈ zU) (h3 : Cond.selects C y y ∈ zU) (h4 : Cond.initialized C ∈ zU) (h5 : Cond.code y bytes maxL ret ∈ zU) (hrc : rm.cells = 0) (hrs : rm.slots = 0) (hn : As.length = n) (hR1 : rm.frames + 1 ≤ R.frames) (hR2 : 8 + (maxL + 11) + rm.locals ≤ R.locals)
    (hst : st0 = As.reverse ++ .ref (za w k) :: rest) (hW : (rest.map fun v => v.category).sum ≤ 8) (hdg : decode cc pc = .ok (.invokevirtual idx, 3)) : va_Run p l e R s m args below meth c H locs 0 0 0 0 (F0 m pc ls st0) rest (Qc (Value.ref (za w k) :: As).toArray) free := by
  obtain ⟨a1, a2⟩ := ha
  have hcb : CallB R s args own idx y bytes maxL ret (Cond.code y bytes maxL ret :: zU) rm 0 0 n := callB_of n G.2.2.2.2.1 (z_goodU h5) rfl hrc hrs (by rw [a1]; exact G.t h4) (G.t h1) a2 ⟨hR1, hR2⟩
  exact va_runV (g := F0 m pc ls st0) G.f hM ⟨hcb, G.t h2, G.t h3⟩ ⟨zPre.blind G.k, z_recv G hH.1 hO hc, zPre.at _ G hH⟩ rfl hn hsz hst (lv_room hW) hdg ⟨Nat.zero_le _, Nat.zero_le _⟩
theorem z_runS (G : zG w p s m c args cc own nL) (hH : zH w s M H locs) (hsz : ls.size = nL) (hM : Met l y (Cond.code y bytes maxL ret :: zU) rm (zPre w M As) Qc 0 0 free) (ha : zAr y C n)
    (h1 : Cond.methodLink own idx y ∈ zU) (h2 : Cond.static y ∈ zU) (h4 : Cond.initialized C ∈ zU) (h5 : Cond.code y bytes maxL ret ∈ zU) (hrc : rm.cells = 0) (hrs : rm.slots = 0) (hn : As.length = n) (hR1 : rm.frames + 1 ≤ R.frames) (hR2 : 8 + (maxL + 11) + rm.locals ≤ R.locals)
    (hst : st0 = As.reverse ++ rest) (hW : (rest.map fun v => v.category).sum ≤ 8) (hdg : decode cc pc = .ok (.invokestatic idx, 3)) : va_Run p l e R s m args below meth c H locs 0 0 0 0 (F0 m pc ls st0) rest (Qc As.toArray) free := by
  obtain ⟨a1, a2⟩ := ha
  have hcb : CallB R s args own idx y bytes maxL ret (Cond.code y bytes maxL ret :: zU) rm 0 0 n := callB_of n G.2.2.2.2.1 (z_goodU h5) rfl hrc hrs (by rw [a1]; exact G.t h4) (G.t h1) a2 ⟨hR1, hR2⟩
  exact va_runS (g := F0 m pc ls st0) G.f hM ⟨hcb, G.t h2⟩ ⟨zPre.blind G.k, zPre.at _ G hH⟩ rfl hn hsz hst (lv_room hW) hdg ⟨Nat.zero_le _, Nat.zero_le _⟩
/-- super.m(..) -/
theorem z_runSU (G : zG w p s m c args cc own nL) (hH : zH w s M H locs) (hsz : ls.size = nL) (hM : Met l y (Cond.code y bytes maxL ret :: zU) rm (zPre w M (.ref (za w k) :: As)) Qc 0 0 free) (hO : zOB w k ci fs) (hc : vwCl[ci]? = some (C, T, Nf)) {S : String} (ha : zAr y S n) (hno : y.name ≠ "<init>")
    (h1 : Cond.methodLink own idx y ∈ zU) (h2 : Cond.sameMethod y.cls y.cls y.name y.desc ∈ zU) (h3 : Cond.superclass own y.cls ∈ zU) (h6 : Cond.instanceMethod y ∈ zU) (h4 : Cond.initialized S ∈ zU) (h5 : Cond.code y bytes maxL ret ∈ zU) (hrc : rm.cells = 0) (hrs : rm.slots = 0) (hn : As.length = n) (hR1 : rm.frames + 1 ≤ R.frames) (hR2 : 8 + (maxL + 11) + rm.locals ≤ R.locals)
    (hst : st0 = As.reverse ++ .ref (za w k) :: rest) (hW : (rest.map fun v => v.category).sum ≤ 8) (hdg : decode cc pc = .ok (.invokespecial idx, 3)) : va_Run p l e R s m args below meth c H locs 0 0 0 0 (F0 m pc ls st0) rest (Qc (Value.ref (za w k) :: As).toArray) free := by
  obtain ⟨a1, a2, a3, a4⟩ := ha
  have hG : GoodIn zU (Cond.code y bytes maxL ret :: zU) := z_goodU h5
  refine va_runSU (C := C) (cC := (zD w).1 ci) (g := F0 m pc ls st0) (G.K.1 ci _ hc).2 G.f hM ⟨⟨hrc, hrs, hR1, hR2, pay_in G.2.2.2.2.1 hG, List.mem_cons_self⟩, G.t h1, G.t h2, G.t h3, G.t h6, by rw [a1]; exact G.t h4, G.t h5, hno, fun sig h => ?_⟩ ⟨zPre.blind G.k, z_recv G hH.1 hO hc, zPre.at _ G hH⟩ rfl hn hsz hst (lv_room hW) hdg ⟨Nat.zero_le _, Nat.zero_le _⟩
  rw [h] at a4
  exact (Option.some.inj a4).symm
/-- a virtual call: the reference names x, of the class owner; the receiver's class C selects y -/
theorem z_runO {x : MethodName} {owner S : String} {b0 : ByteArray} {m0 : Nat} {r0 : Option FieldType} (G : zG w p s m c args cc own nL) (hH : zH w s M H locs) (hsz : ls.size = nL) (hM : Met l y (Cond.code y bytes maxL ret :: zU) rm (zPre w M (.ref (za w k) :: As)) Qc 0 0 free) (hO : zOB w k ci fs) (hc : vwCl[ci]? = some (C, T, Nf)) (ha : zAr x owner n) (hy : y.cls = S)
    (h1 : Cond.methodLink own idx x ∈ zU) (h2 : Cond.sameMethod x.cls owner x.name x.desc ∈ zU) (h3 : Cond.selects C x y ∈ zU) (h6 : Cond.instanceMethod y ∈ zU) (h7 : Cond.instanceMethod ⟨owner, x.name, x.desc⟩ ∈ zU) (h8 : Cond.code ⟨owner, x.name, x.desc⟩ b0 m0 r0 ∈ zU) (h4 : Cond.initialized S ∈ zU) (h5 : Cond.code y bytes maxL ret ∈ zU) (hrc : rm.cells = 0) (hrs : rm.slots = 0) (hn : As.length = n) (hR1 : rm.frames + 1 ≤ R.frames) (hR2 : 8 + (maxL + 11) + rm.locals ≤ R.locals)
    (hst : st0 = As.reverse ++ .ref (za w k) :: rest) (hW : (rest.map fun v => v.category).sum ≤ 8) (hdg : decode cc pc = .ok (.invokevirtual idx, 3)) : va_Run p l e R s m args below meth c H locs 0 0 0 0 (F0 m pc ls st0) rest (Qc (Value.ref (za w k) :: As).toArray) free := by
  obtain ⟨a1, a2, a3, a4⟩ := ha
  have hG : GoodIn zU (Cond.code y bytes maxL ret :: zU) := z_goodU h5
  refine va_runU (C := C) (owner := owner) (g := F0 m pc ls st0) G.f hM ⟨⟨hrc, hrs, hR1, hR2, pay_in G.2.2.2.2.1 hG, List.mem_cons_self⟩, G.t h5, by rw [hy]; exact G.t h4, by rw [← a1]; exact ⟨a2, a3⟩, fun sig h => ?_, G.t h1, G.t h2, va_Decl.of (G.t h7) (G.t h8), G.t h3, G.t h6⟩ ⟨zPre.blind G.k, z_recv G hH.1 hO hc, zPre.at _ G hH⟩ rfl hn hsz hst (lv_room hW) hdg ⟨Nat.zero_le _, Nat.zero_le _⟩
  rw [h] at a4
  exact (Option.some.inj a4).symm
variable {ov : Option Value} {M' : zM} {a : Array Value}
/-- behind a call that may write -/
theorem z_aft (hr : va_Run p l e R s m args below meth c H locs 0 0 0 0 (F0 m pc ls st0) rest (zQ w ov M' a) (zA w)) (hH : zH w s M H locs)
    (kk : ∀ (H1 : Heap) (locs1 : List Loc), zH w s M' H1 locs1 → W p l e R s m args below meth c H1 locs1 0 0 Q (F0 m (pc + 3) ls (ov.toList ++ rest))) : W p l e R s m args below meth c H locs 0 0 Q (F0 m pc ls st0) := by
  intro T hT X
  obtain ⟨v, st₀, t, T', L, h0, X', hL, e1, e2, ⟨hv, hp, hz, hk⟩, st⟩ := hr T hT X
  cases hv
  rw [h0] at hz hk
  have hS := hH.2
  obtain ⟨t2, a1, b1⟩ := kk T'.heap (locs ++ L) ⟨by rw [e1]; exact hp, Nat.le_trans hS.1 (by rw [e1]; exact hz), fun q h1 h2 => by rw [e1, hk q (Nat.lt_of_lt_of_le h1 hS.1) h2]; exact hS.2.1 q h1 h2, fun q hq => by
      rcases List.mem_append.mp hq with h | h
      · exact hS.2.2 q h
      · exact hL q h⟩ T' rfl X'
  exact ⟨t2, st t2 a1, b1⟩
theorem z_aftI {r : Int32} (hr : va_Run p l e R s m args below meth c H locs 0 0 0 0 (F0 m pc ls st0) rest (zQ w (some (.int r)) M' a) (zA w)) (hH : zH w s M H locs)
    (kk : ∀ (H1 : Heap) (locs1 : List Loc), zH w s M' H1 locs1 → W p l e R s m args below meth c H1 locs1 0 0 Q (F0 m (pc + 3) ls (.int r :: rest))) : W p l e R s m args below meth c H locs 0 0 Q (F0 m pc ls st0) := z_aft hr hH kk
theorem z_aftL {r : Int64} (hr : va_Run p l e R s m args below meth c H locs 0 0 0 0 (F0 m pc ls st0) rest (zQ w (some (.long r)) M' a) (zA w)) (hH : zH w s M H locs)
    (kk : ∀ (H1 : Heap) (locs1 : List Loc), zH w s M' H1 locs1 → W p l e R s m args below meth c H1 locs1 0 0 Q (F0 m (pc + 3) ls (.long r :: rest))) : W p l e R s m args below meth c H locs 0 0 Q (F0 m pc ls st0) := z_aft hr hH kk
theorem z_aftV (hr : va_Run p l e R s m args below meth c H locs 0 0 0 0 (F0 m pc ls st0) rest (zQ w none M' a) (zA w)) (hH : zH w s M H locs)
    (kk : ∀ (H1 : Heap) (locs1 : List Loc), zH w s M' H1 locs1 → W p l e R s m args below meth c H1 locs1 0 0 Q (F0 m (pc + 3) ls rest)) : W p l e R s m args below meth c H locs 0 0 Q (F0 m pc ls st0) := z_aft hr hH kk
/-- behind a call that only reads -/
theorem z_rd (hr : va_Run p l e R s m args below meth c H locs 0 0 0 0 (F0 m pc ls st0) rest (zR ov a) zNo)
    (kk : W p l e R s m args below meth c H locs 0 0 Q (F0 m (pc + 3) ls (ov.toList ++ rest))) : W p l e R s m args below meth c H locs 0 0 Q (F0 m pc ls st0) := by
  intro T hT X
  obtain ⟨v, st₀, t, T', L, h0, X', hL, e1, e2, ⟨hv, hh⟩, st⟩ := hr T hT X
  cases hv
  obtain ⟨t2, a1, b1⟩ := kk T' (by rw [e1, hh, h0]) (Stand.forget X' (fun q h => (hL q h).elim))
  exact ⟨t2, st t2 a1, b1⟩
theorem z_rdI {r : Int32} (hr : va_Run p l e R s m args below meth c H locs 0 0 0 0 (F0 m pc ls st0) rest (zR (some (.int r)) a) zNo)
    (kk : W p l e R s m args below meth c H locs 0 0 Q (F0 m (pc + 3) ls (.int r :: rest))) : W p l e R s m args below meth c H locs 0 0 Q (F0 m pc ls st0) := z_rd hr kk
theorem z_rdL {r : Int64} (hr : va_Run p l e R s m args below meth c H locs 0 0 0 0 (F0 m pc ls st0) rest (zR (some (.long r)) a) zNo)
    (kk : W p l e R s m args below meth c H locs 0 0 Q (F0 m (pc + 3) ls (.long r :: rest))) : W p l e R s m args below meth c H locs 0 0 Q (F0 m pc ls st0) := z_rd hr kk
theorem z_rdA {r : Nat} (hr : va_Run p l e R s m args below meth c H locs 0 0 0 0 (F0 m pc ls st0) rest (zR (some (.ref r)) a) zNo)
    (kk : W p l e R s m args below meth c H locs 0 0 Q (F0 m (pc + 3) ls (.ref r :: rest))) : W p l e R s m args below meth c H locs 0 0 Q (F0 m pc ls st0) := z_rd hr kk
theorem z_rdV (hr : va_Run p l e R s m args below meth c H locs 0 0 0 0 (F0 m pc ls st0) rest (zR none a) zNo)
    (kk : W p l e R s m args below meth c H locs 0 0 Q (F0 m (pc + 3) ls rest)) : W p l e R s m args below meth c H locs 0 0 Q (F0 m pc ls st0) := z_rd hr kk
/-- the ends -/
theorem z_end (hH : zH w s M H locs) : (∀ t : State, t.heap = H → s.WarmedH t.vm → zQ w ov M args s (.returned ov) t) ∧ ∀ q ∈ locs, zA w q.base :=
  ⟨fun t ht _ => ⟨rfl, by rw [ht]; exact hH.1, hH.2.F ht⟩, hH.2.2.2⟩
theorem z_retI {v r : Int32} (G : zG w p s m c args cc own nL) (hr : meth.sig.returnType = some .int) (hlk : meth.locks = false) (hH : zH w s M H locs) (h : some (v, M) = some (r, M')) (hdg : decode cc pc = .ok (.ireturn, 1)) : W p l e R s m args below meth c H locs 0 0 (MQ below (zQ w (some (.int r)) M') args s 0 0 (zA w)) (F0 m pc ls [.int v]) := by
  obtain ⟨rfl, rfl⟩ := Prod.mk.inj (Option.some.inj h)
  exact W.iret G.x G.b hr (z_end hH).1 hH.2.2.2 hdg hlk
theorem z_retZ {v r : Int32} (G : zG w p s m c args cc own nL) (hr : meth.sig.returnType = some .boolean) (hlk : meth.locks = false) (hH : zH w s M H locs) (h : (zbl v).bind (fun v => some (v, M)) = some (r, M')) (hdg : decode cc pc = .ok (.ireturn, 1)) : W p l e R s m args below meth c H locs 0 0 (MQ below (zQ w (some (.int r)) M') args s 0 0 (zA w)) (F0 m pc ls [.int v]) := by
  obtain ⟨u, h1, h⟩ := z_bind h
  obtain ⟨h2, rfl⟩ := zbl_some h1
  obtain ⟨rfl, rfl⟩ := Prod.mk.inj (Option.some.inj h)
  exact W.zret G.x G.b hr (by simp [narrow, h2]) (z_end hH).1 hH.2.2.2 hdg hlk
theorem z_retL {v r : Int64} (G : zG w p s m c args cc own nL) (hr : meth.sig.returnType = some .long) (hlk : meth.locks = false) (hH : zH w s M H locs) (h : some (v, M) = some (r, M')) (hdg : decode cc pc = .ok (.lreturn, 1)) : W p l e R s m args below meth c H locs 0 0 (MQ below (zQ w (some (.long r)) M') args s 0 0 (zA w)) (F0 m pc ls [.long v]) := by
  obtain ⟨rfl, rfl⟩ := Prod.mk.inj (Option.some.inj h)
  exact W.lret G.x G.b hr (z_end hH).1 hH.2.2.2 hdg hlk
theorem z_retV (G : zG w p s m c args cc own nL) (hr : meth.sig.returnType = none) (hlk : meth.locks = false) (hH : zH w s M H locs) (h : some M = some M') (hdg : decode cc pc = .ok (.return_, 1)) : W p l e R s m args below meth c H locs 0 0 (MQ below (zQ w none M') args s 0 0 (zA w)) (F0 m pc ls []) := by
  obtain rfl := Option.some.inj h
  exact W.vret G.x G.b hr (z_end hH).1 hH.2.2.2 hdg hlk
theorem z_endR : (∀ t : State, t.heap = s.heap → s.WarmedH t.vm → zR ov args s (.returned ov) t) ∧ ∀ q ∈ ([] : List Loc), zNo q.base := ⟨fun t ht _ => ⟨rfl, ht⟩, fun q h => by cases h⟩
theorem z_rtI {v r : Int32} (G : zG w p s m c args cc own nL) (hr : meth.sig.returnType = some .int) (hlk : meth.locks = false) (h : some v = some r) (hdg : decode cc pc = .ok (.ireturn, 1)) : W p l e R s m args below meth c s.heap [] 0 0 (MQ below (zR (some (.int r))) args s 0 0 zNo) (F0 m pc ls [.int v]) := by
  obtain rfl := Option.some.inj h
  exact W.iret G.x G.b hr z_endR.1 (z_endR (args := args) (s := s) (ov := none)).2 hdg hlk
theorem z_rtZ {v r : Int32} (G : zG w p s m c args cc own nL) (hr : meth.sig.returnType = some .boolean) (hlk : meth.locks = false) (h : zbl v = some r) (hdg : decode cc pc = .ok (.ireturn, 1)) : W p l e R s m args below meth c s.heap [] 0 0 (MQ below (zR (some (.int r))) args s 0 0 zNo) (F0 m pc ls [.int v]) := by
  obtain ⟨h2, rfl⟩ := zbl_some h
  exact W.zret G.x G.b hr (by simp [narrow, h2]) z_endR.1 (z_endR (args := args) (s := s) (ov := none)).2 hdg hlk
theorem z_rtL {v r : Int64} (G : zG w p s m c args cc own nL) (hr : meth.sig.returnType = some .long) (hlk : meth.locks = false) (h : some v = some r) (hdg : decode cc pc = .ok (.lreturn, 1)) : W p l e R s m args below meth c s.heap [] 0 0 (MQ below (zR (some (.long r))) args s 0 0 zNo) (F0 m pc ls [.long v]) := by
  obtain rfl := Option.some.inj h
  exact W.lret G.x G.b hr z_endR.1 (z_endR (args := args) (s := s) (ov := none)).2 hdg hlk
theorem z_rtV (G : zG w p s m c args cc own nL) (hr : meth.sig.returnType = none) (hlk : meth.locks = false) (hdg : decode cc pc = .ok (.return_, 1)) : W p l e R s m args below meth c s.heap [] 0 0 (MQ below (zR none) args s 0 0 zNo) (F0 m pc ls []) :=
  W.vret G.x G.b hr z_endR.1 (z_endR (args := args) (s := s) (ov := none)).2 hdg hlk
theorem z_rtA {a : Nat} {nm : String} (G : zG w p s m c args cc own nL) (hr : meth.sig.returnType = some (.object nm)) (hlk : meth.locks = false) (hdg : decode cc pc = .ok (.areturn, 1)) : W p l e R s m args below meth c s.heap [] 0 0 (MQ below (zR (some (.ref a))) args s 0 0 zNo) (F0 m pc ls [.ref a]) :=
  W.aret G.x G.b hr (Or.inl ⟨_, rfl⟩) (Or.inr ⟨_, rfl⟩) z_endR.1 (z_endR (args := args) (s := s) (ov := none)).2 hdg hlk
theorem z_rtC {v : Int32} (G : zG w p s m c args cc own nL) (hr : meth.sig.returnType = some .char) (hn : narrow .char (.int v) = .int v) (hlk : meth.locks = false) (hdg : decode cc pc = .ok (.ireturn, 1)) : W p l e R s m args below meth c s.heap [] 0 0 (MQ below (zR (some (.int v))) args s 0 0 zNo) (F0 m pc ls [.int v]) :=
  W.zret G.x G.b hr hn z_endR.1 (z_endR (args := args) (s := s) (ov := none)).2 hdg hlk
theorem z_rtB {v : Int32} (G : zG w p s m c args cc own nL) (hr : meth.sig.returnType = some .byte) (hn : narrow .byte (.int v) = .int v) (hlk : meth.locks = false) (hdg : decode cc pc = .ok (.ireturn, 1)) : W p l e R s m args below meth c s.heap [] 0 0 (MQ below (zR (some (.int v))) args s 0 0 zNo) (F0 m pc ls [.int v]) :=
  W.zret G.x G.b hr hn z_endR.1 (z_endR (args := args) (s := s) (ov := none)).2 hdg hlk
end ZC
end
section
/-! the two worlds: the class (50 cells) and the model (11 cells) -/
def zStr : List (String × Nat × String) := [("BeardHire$Kind", 7, "beard"), ("BeardHire$Ginger", 7, "ginger"), ("BeardHire$White", 7, "white"), ("BeardHire$Moustache", 7, "moustache"), ("BeardHire$Imperial", 7, "imperial"), ("BeardHire$Patriarch", 7, "patriarch"), ("BeardHire$Text", 57, "wearer"), ("BeardHire$Text", 62, "house"), ("BeardHire$Text", 67, "hire"), ("BeardHire$Text", 78, "fame"), ("BeardHire$Text", 90, "hoard"), ("BeardHire$Text", 101, "round"), ("BeardHire$Text", 106, "cross"), ("BeardHire$Text", 108, "fond")]
def zLen : List Nat := [5, 6, 5, 9, 8, 9, 6, 5, 4, 4, 5, 5, 5, 4]
def zByt : List (List Int32) := [[98, 101, 97, 114, 100], [103, 105, 110, 103, 101, 114], [119, 104, 105, 116, 101], [109, 111, 117, 115, 116, 97, 99, 104, 101], [105, 109, 112, 101, 114, 105, 97, 108], [112, 97, 116, 114, 105, 97, 114, 99, 104], [119, 101, 97, 114, 101, 114], [104, 111, 117, 115, 101], [104, 105, 114, 101], [102, 97, 109, 101], [104, 111, 97, 114, 100], [114, 111, 117, 110, 100], [99, 114, 111, 115, 115], [102, 111, 110, 100]]
def zAbv (j : Nat) : Int32 := ([-1, 0, 0, 0, 1, 2] : List Int32).getD j 0
/-- what is known of the constants: the Strings (addresses 100 and on, their bytes 200 and on), the table ABOVE (300), two statics of the JDK -/
def zEC (ad : Nat → Nat) (A : Nat → Prop) (U : State) (H : Heap) : Prop :=
  vk_S 14 zLen zByt (fun i => ad (100 + i)) (fun i => ad (200 + i)) A U H ∧ (∀ i, i < 14 → vk_R (zStr.getD i ("", 0, "")).1 (zStr.getD i ("", 0, "")).2.1 (zStr.getD i ("", 0, "")).2.2 (ad (100 + i)) U) ∧
  va_Z "java/lang/String" "COMPACT_STRINGS" "Z" (.int 1) A U H ∧ va_Zq "jdk/internal/util/Preconditions" "SIOOBE_FORMATTER" "Ljava/util/function/BiFunction;" A U H ∧
  va_Z "BeardHire" "ABOVE" "[I" (.ref (ad 300)) A U H ∧ va_T .int (ad 300) 6 (fun j => .int (zAbv j)) A U H
theorem zEC.go {ad : Nat → Nat} {A : Nat → Prop} {s U : State} {H H1 : Heap} (h : zEC ad A s H) (hW : s.WarmedH U.vm) (hq : ∀ q, q < H.size → ¬ A q → H1[q]? = H[q]?) : zEC ad A U H1 := by
  obtain ⟨h1, h2, h3, h4, h5, h6⟩ := h
  exact ⟨vk_S.moved hW.alike (h1.kept hq), fun i hi => (h2 i hi).warm hW, va_Z.moved hW.alike (h3.kept hq), va_Zq.moved hW.alike (h4.kept hq), va_Z.moved hW.alike (h5.kept hq), va_T.moved hW.alike (h6.kept hq)⟩
theorem zEC.call {ad : Nat → Nat} {A : Nat → Prop} {U : State} {H : Heap} {g : JFrame} {mk : MethodId} {a : Array Value} (h : zEC ad A U H) : zEC ad A (U.calling g mk a) H := by
  obtain ⟨h1, h2, h3, h4, h5, h6⟩ := h
  have hv : U.vm.Alike (U.calling g mk a).vm := Vm.Alike.refl U.vm
  exact ⟨vk_S.moved hv h1, fun i hi => vk_R.same rfl (h2 i hi), va_Z.moved hv h3, va_Zq.moved hv h4, va_Z.moved hv h5, va_T.moved hv h6⟩
def zKc (k : Nat) : Nat := ([2, 0, 8, 3, 1, 4] : List Nat).getD k 0
def zCe (ad : Nat → Nat) (cI cJ cK cS : ClassId) (f : Nat → Int32) (g : Nat → Int64) (k : Nat) : va_E :=
  if k = 0 then .inr (9, [.ref (ad 1), .ref (ad 11), .ref (ad 21), .int (f 3), .ref (ad 31), .ref (ad 34), .ref (ad 33)])
  else if k = 1 ∨ k = 11 ∨ k = 21 then .inr (7, [.ref (ad 35), .int (f 1), .int (f 2), .int (f 3), .ref (ad (k + 1)), .ref (ad (k + 2)), .ref (ad (k + 3)), .ref (ad (k + 4)), .ref (ad (k + 5)), .ref (ad (k + 6)), .ref (ad (k + 7)), .ref (ad (k + 8)), .ref (ad (k + 9))])
  else if k < 31 then .inl (cI, if (k - 1) % 10 < 5 then 8 else 6, .inl f)
  else if k = 31 then .inr (6, [.ref (ad 35), .ref (ad 32), .int (f 2), .ref (ad 11), .int (f 4), .int (f 5), .int (f 6), .int (f 7)])
  else if k = 32 then .inl (cI, 120, .inl f)
  else if k = 33 then .inl (cI, 7, .inl f)
  else if k = 34 then .inl (cS, 4, .inr (.inr (.inr (.inr (fun j => some (ad (42 + 2 * j)))))))
  else if k = 35 then .inl (cK, 6, .inr (.inr (.inr (.inr (fun j => some (ad (36 + j)))))))
  else if k < 42 then .inr (zKc (k - 36), [])
  else if k % 2 = 0 then .inr (5, [.ref (ad (k + 1)), .int (f 1), .int (f 2)])
  else .inl (cJ, 40, .inr (.inl g))
def cWd (D : va_G) (cI cJ cK cS : ClassId) (ad : Nat → Nat) : zWd := (D, [(cI, .int), (cJ, .long), (cK, .object "BeardHire$Kind"), (cS, .object "BeardHire$Sheet")], ad, 50, fun M k => zCe ad cI cJ cK cS (M.1 k) (M.2 k) k, fun U H => zEC ad (fun q => ∃ k, k < 50 ∧ q = ad k) U H)
def zIsC (w : zWd) : Prop := zOk w ∧ zn w = 50 ∧ (∃ cI cJ cK cS : ClassId, zt w = [(cI, .int), (cJ, .long), (cK, .object "BeardHire$Kind"), (cS, .object "BeardHire$Sheet")] ∧ ∀ M k, zc w M k = zCe (za w) cI cJ cK cS (M.1 k) (M.2 k) k) ∧ ∀ U H, ze w U H → zEC (za w) (zA w) U H
theorem cWd_is {D : va_G} {cI cJ cK cS : ClassId} {ad : Nat → Nat} (hi : ∀ i j, i < 50 → j < 50 → ad i = ad j → i = j) : zIsC (cWd D cI cJ cK cS ad) :=
  ⟨⟨hi, fun M M' i h1 h2 => by show zCe _ _ _ _ _ _ _ _ = zCe _ _ _ _ _ _ _ _; rw [h1, h2], fun s U H H1 h hW hq => zEC.go h hW hq, fun U g mk a H h => zEC.call h⟩, rfl, ⟨cI, cJ, cK, cS, rfl, fun _ _ => rfl⟩, fun _ _ h => h⟩
def zT (t : Nat) : Prop := t = 1 ∨ t = 11 ∨ t = 21
def zS (q : Nat) : Prop := q = 42 ∨ q = 44 ∨ q = 46 ∨ q = 48
theorem zT1 : zT 1 := Or.inl rfl
theorem zT11 : zT 11 := Or.inr (Or.inl rfl)
theorem zT21 : zT 21 := Or.inr (Or.inr rfl)
theorem zS_of {i : Int32} {j : Nat} (h : zix i 4 = some j) : zS (42 + 2 * j) := by
  have := zix_lt h
  unfold zS; omega
def fs9 (w : zWd) : zM → List Value := fun M => [.ref (za w 1), .ref (za w 11), .ref (za w 21), .int (M.1 0 3), .ref (za w 31), .ref (za w 34), .ref (za w 33)]
def fs7 (w : zWd) (t : Nat) : zM → List Value := fun M => [.ref (za w 35), .int (M.1 t 1), .int (M.1 t 2), .int (M.1 t 3), .ref (za w (t + 1)), .ref (za w (t + 2)), .ref (za w (t + 3)), .ref (za w (t + 4)), .ref (za w (t + 5)), .ref (za w (t + 6)), .ref (za w (t + 7)), .ref (za w (t + 8)), .ref (za w (t + 9))]
def fs6 (w : zWd) : zM → List Value := fun M => [.ref (za w 35), .ref (za w 32), .int (M.1 31 2), .ref (za w 11), .int (M.1 31 4), .int (M.1 31 5), .int (M.1 31 6), .int (M.1 31 7)]
def fs5 (w : zWd) (q : Nat) : zM → List Value := fun M => [.ref (za w (q + 1)), .int (M.1 q 1), .int (M.1 q 2)]
def fs0 : zM → List Value := fun _ => []
theorem cC0 {w : zWd} (h : zIsC w) : zOB w 0 9 (fs9 w) := by
  obtain ⟨-, hn, ⟨cI, cJ, cK, cS, -, hc⟩, -⟩ := h
  exact ⟨by omega, fun M => by rw [hc]; rfl⟩
theorem cCt {w : zWd} (h : zIsC w) {t : Nat} (ht : zT t) : zOB w t 7 (fs7 w t) := by
  obtain ⟨-, hn, ⟨cI, cJ, cK, cS, -, hc⟩, -⟩ := h
  rcases ht with rfl | rfl | rfl <;> exact ⟨by omega, fun M => by rw [hc]; rfl⟩
theorem cC31 {w : zWd} (h : zIsC w) : zOB w 31 6 (fs6 w) := by
  obtain ⟨-, hn, ⟨cI, cJ, cK, cS, -, hc⟩, -⟩ := h
  exact ⟨by omega, fun M => by rw [hc]; rfl⟩
theorem cC32 {w : zWd} (h : zIsC w) : zIA w 32 120 := by
  obtain ⟨-, hn, ⟨cI, cJ, cK, cS, ht, hc⟩, -⟩ := h
  exact ⟨by omega, cI, 0, by rw [ht]; rfl, fun M => by rw [hc]; rfl⟩
theorem cC33 {w : zWd} (h : zIsC w) : zIA w 33 7 := by
  obtain ⟨-, hn, ⟨cI, cJ, cK, cS, ht, hc⟩, -⟩ := h
  exact ⟨by omega, cI, 0, by rw [ht]; rfl, fun M => by rw [hc]; rfl⟩
theorem cC34 {w : zWd} (h : zIsC w) : zRA w 34 4 (fun j => 42 + 2 * j) := by
  obtain ⟨-, hn, ⟨cI, cJ, cK, cS, ht, hc⟩, -⟩ := h
  exact ⟨by omega, cS, 3, _, by rw [ht]; rfl, fun M => by rw [hc]; rfl⟩
theorem cC35 {w : zWd} (h : zIsC w) : zRA w 35 6 (fun j => 36 + j) := by
  obtain ⟨-, hn, ⟨cI, cJ, cK, cS, ht, hc⟩, -⟩ := h
  exact ⟨by omega, cK, 2, _, by rw [ht]; rfl, fun M => by rw [hc]; rfl⟩
theorem cCk {w : zWd} (h : zIsC w) {k : Nat} (hk : k < 6) : zOB w (36 + k) (zKc k) fs0 := by
  obtain ⟨-, hn, ⟨cI, cJ, cK, cS, -, hc⟩, -⟩ := h
  refine ⟨by omega, fun M => ?_⟩
  rw [hc]
  rcases (show k = 0 ∨ k = 1 ∨ k = 2 ∨ k = 3 ∨ k = 4 ∨ k = 5 by omega) with rfl | rfl | rfl | rfl | rfl | rfl <;> rfl
theorem cCs {w : zWd} (h : zIsC w) {q : Nat} (hq : zS q) : zOB w q 5 (fs5 w q) := by
  obtain ⟨-, hn, ⟨cI, cJ, cK, cS, -, hc⟩, -⟩ := h
  rcases hq with rfl | rfl | rfl | rfl <;> exact ⟨by omega, fun M => by rw [hc]; rfl⟩
theorem cCs1 {w : zWd} (h : zIsC w) {q : Nat} (hq : zS q) : zLA w (q + 1) 40 := by
  obtain ⟨-, hn, ⟨cI, cJ, cK, cS, ht, hc⟩, -⟩ := h
  rcases hq with rfl | rfl | rfl | rfl <;> exact ⟨by omega, cJ, 1, by rw [ht]; rfl, fun M => by rw [hc]; rfl⟩
theorem cCt1 {w : zWd} (h : zIsC w) {t : Nat} (ht : zT t) : zIA w (t + 1) 8 := by
  obtain ⟨-, hn, ⟨cI, cJ, cK, cS, hy, hc⟩, -⟩ := h
  rcases ht with rfl | rfl | rfl <;> exact ⟨by omega, cI, 0, by rw [hy]; rfl, fun M => by rw [hc]; rfl⟩
theorem cCt2 {w : zWd} (h : zIsC w) {t : Nat} (ht : zT t) : zIA w (t + 2) 8 := by
  obtain ⟨-, hn, ⟨cI, cJ, cK, cS, hy, hc⟩, -⟩ := h
  rcases ht with rfl | rfl | rfl <;> exact ⟨by omega, cI, 0, by rw [hy]; rfl, fun M => by rw [hc]; rfl⟩
theorem cCt3 {w : zWd} (h : zIsC w) {t : Nat} (ht : zT t) : zIA w (t + 3) 8 := by
  obtain ⟨-, hn, ⟨cI, cJ, cK, cS, hy, hc⟩, -⟩ := h
  rcases ht with rfl | rfl | rfl <;> exact ⟨by omega, cI, 0, by rw [hy]; rfl, fun M => by rw [hc]; rfl⟩
theorem cCt4 {w : zWd} (h : zIsC w) {t : Nat} (ht : zT t) : zIA w (t + 4) 8 := by
  obtain ⟨-, hn, ⟨cI, cJ, cK, cS, hy, hc⟩, -⟩ := h
  rcases ht with rfl | rfl | rfl <;> exact ⟨by omega, cI, 0, by rw [hy]; rfl, fun M => by rw [hc]; rfl⟩
theorem cCt5 {w : zWd} (h : zIsC w) {t : Nat} (ht : zT t) : zIA w (t + 5) 6 := by
  obtain ⟨-, hn, ⟨cI, cJ, cK, cS, hy, hc⟩, -⟩ := h
  rcases ht with rfl | rfl | rfl <;> exact ⟨by omega, cI, 0, by rw [hy]; rfl, fun M => by rw [hc]; rfl⟩
theorem cCt6 {w : zWd} (h : zIsC w) {t : Nat} (ht : zT t) : zIA w (t + 6) 6 := by
  obtain ⟨-, hn, ⟨cI, cJ, cK, cS, hy, hc⟩, -⟩ := h
  rcases ht with rfl | rfl | rfl <;> exact ⟨by omega, cI, 0, by rw [hy]; rfl, fun M => by rw [hc]; rfl⟩
theorem cCt7 {w : zWd} (h : zIsC w) {t : Nat} (ht : zT t) : zIA w (t + 7) 6 := by
  obtain ⟨-, hn, ⟨cI, cJ, cK, cS, hy, hc⟩, -⟩ := h
  rcases ht with rfl | rfl | rfl <;> exact ⟨by omega, cI, 0, by rw [hy]; rfl, fun M => by rw [hc]; rfl⟩
theorem cCt8 {w : zWd} (h : zIsC w) {t : Nat} (ht : zT t) : zIA w (t + 8) 6 := by
  obtain ⟨-, hn, ⟨cI, cJ, cK, cS, hy, hc⟩, -⟩ := h
  rcases ht with rfl | rfl | rfl <;> exact ⟨by omega, cI, 0, by rw [hy]; rfl, fun M => by rw [hc]; rfl⟩
theorem cCt9 {w : zWd} (h : zIsC w) {t : Nat} (ht : zT t) : zIA w (t + 9) 6 := by
  obtain ⟨-, hn, ⟨cI, cJ, cK, cS, hy, hc⟩, -⟩ := h
  rcases ht with rfl | rfl | rfl <;> exact ⟨by omega, cI, 0, by rw [hy]; rfl, fun M => by rw [hc]; rfl⟩
theorem cE {w : zWd} (h : zIsC w) {U : State} {H : Heap} (he : ze w U H) : zEC (za w) (zA w) U H := h.2.2.2 U H he
theorem cP9_3 {w : zWd} {M : zM} {v : Int32} : fs9 w (zst M 0 3 v) = (fs9 w M).set 3 (.int v) := by simp [fs9, zst]
theorem cP7_1 {w : zWd} {t : Nat} {M : zM} {v : Int32} : fs7 w t (zst M t 1 v) = (fs7 w t M).set 1 (.int v) := by simp [fs7, zst]
theorem cP7_2 {w : zWd} {t : Nat} {M : zM} {v : Int32} : fs7 w t (zst M t 2 v) = (fs7 w t M).set 2 (.int v) := by simp [fs7, zst]
theorem cP7_3 {w : zWd} {t : Nat} {M : zM} {v : Int32} : fs7 w t (zst M t 3 v) = (fs7 w t M).set 3 (.int v) := by simp [fs7, zst]
theorem cP6_2 {w : zWd} {M : zM} {v : Int32} : fs6 w (zst M 31 2 v) = (fs6 w M).set 2 (.int v) := by simp [fs6, zst]
theorem cP6_4 {w : zWd} {M : zM} {v : Int32} : fs6 w (zst M 31 4 v) = (fs6 w M).set 4 (.int v) := by simp [fs6, zst]
theorem cP6_5 {w : zWd} {M : zM} {v : Int32} : fs6 w (zst M 31 5 v) = (fs6 w M).set 5 (.int v) := by simp [fs6, zst]
theorem cP6_6 {w : zWd} {M : zM} {v : Int32} : fs6 w (zst M 31 6 v) = (fs6 w M).set 6 (.int v) := by simp [fs6, zst]
theorem cP6_7 {w : zWd} {M : zM} {v : Int32} : fs6 w (zst M 31 7 v) = (fs6 w M).set 7 (.int v) := by simp [fs6, zst]
theorem cP5_1 {w : zWd} {q : Nat} {M : zM} {v : Int32} : fs5 w q (zst M q 1 v) = (fs5 w q M).set 1 (.int v) := by simp [fs5, zst]
theorem cP5_2 {w : zWd} {q : Nat} {M : zM} {v : Int32} : fs5 w q (zst M q 2 v) = (fs5 w q M).set 2 (.int v) := by simp [fs5, zst]
def fs10 (w : zWd) : zM → List Value := fun M => [.ref (za w 1), .ref (za w 2), .ref (za w 3), .ref (za w 4), .ref (za w 5), .int (M.1 0 5), .ref (za w 6), .int (M.1 0 7), .int (M.1 0 8), .int (M.1 0 9), .int (M.1 0 10), .int (M.1 0 11), .ref (za w 7), .ref (za w 8), .ref (za w 9), .ref (za w 10)]
def zMe (ad : Nat → Nat) (cI cJ : ClassId) (f : Nat → Int32) (g : Nat → Int64) (k : Nat) : va_E :=
  if k = 0 then .inr (10, [.ref (ad 1), .ref (ad 2), .ref (ad 3), .ref (ad 4), .ref (ad 5), .int (f 5), .ref (ad 6), .int (f 7), .int (f 8), .int (f 9), .int (f 10), .int (f 11), .ref (ad 7), .ref (ad 8), .ref (ad 9), .ref (ad 10)])
  else if k < 5 then .inl (cI, 59, .inl f)
  else if k = 5 then .inl (cI, 7, .inl f)
  else if k = 6 then .inl (cI, 120, .inl f)
  else if k < 9 then .inl (cI, 4, .inl f)
  else .inl (cJ, if k = 9 then 160 else 40, .inr (.inl g))
def mWd (D : va_G) (cI cJ : ClassId) (ad : Nat → Nat) : zWd := (D, [(cI, .int), (cJ, .long)], ad, 11, fun M k => zMe ad cI cJ (M.1 k) (M.2 k) k, fun _ _ => True)
def zIsM (w : zWd) : Prop := zOk w ∧ zn w = 11 ∧ ∃ cI cJ : ClassId, zt w = [(cI, .int), (cJ, .long)] ∧ ∀ M k, zc w M k = zMe (za w) cI cJ (M.1 k) (M.2 k) k
theorem mWd_is {D : va_G} {cI cJ : ClassId} {ad : Nat → Nat} (hi : ∀ i j, i < 11 → j < 11 → ad i = ad j → i = j) : zIsM (mWd D cI cJ ad) :=
  ⟨⟨hi, fun M M' i h1 h2 => by show zMe _ _ _ _ _ _ = zMe _ _ _ _ _ _; rw [h1, h2], fun _ _ _ _ _ _ _ => trivial, fun _ _ _ _ _ _ => trivial⟩, rfl, cI, cJ, rfl, fun _ _ => rfl⟩
theorem mM0 {w : zWd} (h : zIsM w) : zOB w 0 10 (fs10 w) := by
  obtain ⟨-, hn, cI, cJ, -, hc⟩ := h
  exact ⟨by omega, fun M => by rw [hc]; rfl⟩
theorem mM1 {w : zWd} (h : zIsM w) : zIA w 1 59 := by
  obtain ⟨-, hn, cI, cJ, ht, hc⟩ := h
  exact ⟨by omega, cI, 0, by rw [ht]; rfl, fun M => by rw [hc]; rfl⟩
theorem mM2 {w : zWd} (h : zIsM w) : zIA w 2 59 := by
  obtain ⟨-, hn, cI, cJ, ht, hc⟩ := h
  exact ⟨by omega, cI, 0, by rw [ht]; rfl, fun M => by rw [hc]; rfl⟩
theorem mM3 {w : zWd} (h : zIsM w) : zIA w 3 59 := by
  obtain ⟨-, hn, cI, cJ, ht, hc⟩ := h
  exact ⟨by omega, cI, 0, by rw [ht]; rfl, fun M => by rw [hc]; rfl⟩
theorem mM4 {w : zWd} (h : zIsM w) : zIA w 4 59 := by
  obtain ⟨-, hn, cI, cJ, ht, hc⟩ := h
  exact ⟨by omega, cI, 0, by rw [ht]; rfl, fun M => by rw [hc]; rfl⟩
theorem mM5 {w : zWd} (h : zIsM w) : zIA w 5 7 := by
  obtain ⟨-, hn, cI, cJ, ht, hc⟩ := h
  exact ⟨by omega, cI, 0, by rw [ht]; rfl, fun M => by rw [hc]; rfl⟩
theorem mM6 {w : zWd} (h : zIsM w) : zIA w 6 120 := by
  obtain ⟨-, hn, cI, cJ, ht, hc⟩ := h
  exact ⟨by omega, cI, 0, by rw [ht]; rfl, fun M => by rw [hc]; rfl⟩
theorem mM7 {w : zWd} (h : zIsM w) : zIA w 7 4 := by
  obtain ⟨-, hn, cI, cJ, ht, hc⟩ := h
  exact ⟨by omega, cI, 0, by rw [ht]; rfl, fun M => by rw [hc]; rfl⟩
theorem mM8 {w : zWd} (h : zIsM w) : zIA w 8 4 := by
  obtain ⟨-, hn, cI, cJ, ht, hc⟩ := h
  exact ⟨by omega, cI, 0, by rw [ht]; rfl, fun M => by rw [hc]; rfl⟩
theorem mM9 {w : zWd} (h : zIsM w) : zLA w 9 160 := by
  obtain ⟨-, hn, cI, cJ, ht, hc⟩ := h
  exact ⟨by omega, cJ, 1, by rw [ht]; rfl, fun M => by rw [hc]; rfl⟩
theorem mM10 {w : zWd} (h : zIsM w) : zLA w 10 40 := by
  obtain ⟨-, hn, cI, cJ, ht, hc⟩ := h
  exact ⟨by omega, cJ, 1, by rw [ht]; rfl, fun M => by rw [hc]; rfl⟩
theorem mP10_5 {w : zWd} {M : zM} {v : Int32} : fs10 w (zst M 0 5 v) = (fs10 w M).set 5 (.int v) := by simp [fs10, zst]
theorem mP10_7 {w : zWd} {M : zM} {v : Int32} : fs10 w (zst M 0 7 v) = (fs10 w M).set 7 (.int v) := by simp [fs10, zst]
theorem mP10_8 {w : zWd} {M : zM} {v : Int32} : fs10 w (zst M 0 8 v) = (fs10 w M).set 8 (.int v) := by simp [fs10, zst]
theorem mP10_9 {w : zWd} {M : zM} {v : Int32} : fs10 w (zst M 0 9 v) = (fs10 w M).set 9 (.int v) := by simp [fs10, zst]
theorem mP10_10 {w : zWd} {M : zM} {v : Int32} : fs10 w (zst M 0 10 v) = (fs10 w M).set 10 (.int v) := by simp [fs10, zst]
theorem mP10_11 {w : zWd} {M : zM} {v : Int32} : fs10 w (zst M 0 11 v) = (fs10 w M).set 11 (.int v) := by simp [fs10, zst]
theorem vc0 : vwCl[0]? = some (RX0, TX0, 0) := rfl
theorem vc1 : vwCl[1]? = some (RX1, TX1, 0) := rfl
theorem vc2 : vwCl[2]? = some (RX2, TX2, 0) := rfl
theorem vc3 : vwCl[3]? = some (RX3, TX3, 0) := rfl
theorem vc4 : vwCl[4]? = some (RX4, TX4, 0) := rfl
theorem vc5 : vwCl[5]? = some (RX5, TX5, 3) := rfl
theorem vc6 : vwCl[6]? = some (RX6, TX6, 8) := rfl
theorem vc7 : vwCl[7]? = some (RX7, TX7, 13) := rfl
theorem vc8 : vwCl[8]? = some (RX8, TX8, 0) := rfl
theorem vc9 : vwCl[9]? = some (RX9, TX9, 7) := rfl
theorem vc10 : vwCl[10]? = some (RX10, TX10, 16) := rfl
end
